/-! settles -/
def stS (q d : Nat) : Nat → Nat → GS → Int32
  | 0, _, _ => -6
  | m + 1, t, g => if (brS g q d).2.2 = false then nI t else stS q d m (t + 1) (brS g q d).1
section S25
variable {h hc hm : Hp} {s : St} {g : GS}
theorem C_st {q d : Nat} (hq : q < 4) (hd : d < 2) : ∀ (m t n : Nat) (h : Hp) (g : GS), t + m = 201 → m < n → IV g → CR h 3 g → ∃ h', f7_settles_L32 n (nI q) (nI d) (nI t) h = some (stS q d m t g, h') ∧ FB h h' 3 := by
  intro m
  induction m with
  | zero =>
    intro t n h g ht hn hI hC
    obtain ⟨n, rfl⟩ : ∃ m, n = m + 1 := ⟨n - 1, by omega⟩
    rw [f7_settles_L32_s]
    unfold f7_settles_B32
    rw [if_pos (by rw [k_200, nI_ltU (by omega) (by omega)]; omega)]
    exact ⟨h, rfl, FB.rf h 3⟩
  | succ m ih =>
    intro t n h g ht hn hI hC
    obtain ⟨n, rfl⟩ : ∃ m, n = m + 1 := ⟨n - 1, by omega⟩
    obtain ⟨h1, a1, a2, a3, a4⟩ := C_over (Or.inr rfl) hI hC hq hd
    have e : stS q d (m + 1) t g = if (brS g q d).2.2 = false then nI t else stS q d m (t + 1) (brS g q d).1 := rfl
    rw [f7_settles_L32_s]
    unfold f7_settles_B32 f0_changedSomething f0_changedSomething_e
    rw [if_neg (by rw [k_200, nI_ltU (by omega) (by omega)]; omega), a1, bsm]
    dsimp only
    rw [a3, rz_b, bsm, e]
    dsimp only
    cases z : (brS g q d).2.2
    · rw [bF, if_pos rfl]
      exact ⟨h1, rfl, a4⟩
    · rw [bT, if_neg (by decide), k_1, nI_add]
      obtain ⟨h2, b1, b2⟩ := ih (t + 1) n h1 _ (by omega) (by omega) (IV_br hI hq) a2
      exact ⟨h2, b1, a4.tr b2⟩
def stR (g : GS) (x1 x2 : Int32) : Int32 := if inR x1 4 = false then -1 else if inR x2 2 = false then -2 else stS (tN x1) (tN x2) 201 0 g
theorem C_settles (hR : RC hc s) (hS : SI s) (x1 x2 : Int32) : ∃ h', f7_settles x1 x2 hc = some (stR s.g x1 x2, h') ∧ RC h' s ∧ CF hc h' := by
  unfold f7_settles f7_settles_e stR
  rw [f7_isQuarter_b, bsm]
  dsimp only
  cases e1 : inR x1 4
  · rw [bF, sF]; exact ⟨_, rfl, hR, CF.rf _⟩
  · rw [bT, sT, f7_isDirection_b, bsm]
    dsimp only
    obtain ⟨q, hq, rfl⟩ := inR_of e1 (by omega)
    cases e2 : inR x2 2
    · rw [bF, sF]; exact ⟨_, rfl, hR, CF.rf _⟩
    · rw [bT, sT]
      obtain ⟨d, hd, rfl⟩ := inR_of e2 (by omega)
      obtain ⟨h1, a1, a2, a3⟩ := C_trial hR.1
      obtain ⟨h2, b1, b2⟩ := C_st hq hd 201 0 FU h1 s.g (by omega) (by unfold FU; omega) hS.1 a2
      rw [tN_nI (by omega), tN_nI (by omega), a1, bsm, k_0]
      dsimp only
      rw [b1]
      exact ⟨h2, rfl, RC_FB hR (a3.tr b2), fun b hb => (a3.tr b2) b (by omega) (by omega) (by omega) (by omega)⟩
/-! the model -/
theorem cmp_l {q : Nat} (hq : q < 4) : ∀ (d j n : Nat) (b : Bool), j + d = 143 + 80 * q → d < n → f8_changes_L22 n (nI q) (bI b) (nI j) h = some (bI (b || !(al (fun j => decide (h 13 j = h 14 j)) j d)), h) := by
  have ep : f8_p (nI q) 4 7 h = some (nI (ix q 4 7), h) := by
    have := f8_p_g (h := h) (q := q) (r := 4) (p := 7)
    rw [← k_4, ← k_7] at this
    exact this
  have ei : ix q 4 7 + 2 = 143 + 80 * q := by unfold ix; omega
  intro d
  induction d with
  | zero =>
    intro j n b hj hn
    obtain ⟨n, rfl⟩ : ∃ m, n = m + 1 := ⟨n - 1, by omega⟩
    rw [f8_changes_L22_s]
    unfold f8_changes_B22 al
    rw [ep, bsm]
    dsimp only
    rw [k_2, nI_add, ei, if_pos (by rw [nI_leU (by omega) (by omega)]; omega)]
    cases b
    · rfl
    · rfl
  | succ d ih =>
    intro j n b hj hn
    obtain ⟨n, rfl⟩ : ∃ m, n = m + 1 := ⟨n - 1, by omega⟩
    have e1 : nI j + 1 = nI (j + 1) := by rw [k_1, nI_add]
    have nt := ih (j + 1) n true (by omega) (by omega)
    have nf := ih (j + 1) n false (by omega) (by omega)
    rw [bI_t] at nt
    rw [bI_f] at nf
    rw [f8_changes_L22_s]
    unfold f8_changes_B22 f8_changes_j58 al
    rw [ep, bsm]
    dsimp only
    rw [k_2, nI_add, ei, if_neg (by rw [nI_leU (by omega) (by omega)]; omega), e1, gd _ (by omega) (by omega), gd _ (by omega) (by omega), tn_nI (by omega)]
    cases b
    · rw [bF]
      by_cases z : h 13 j = h 14 j
      · rw [if_pos z, decide_eq_true z, nf, Bool.true_and]
      · rw [if_neg z, decide_eq_false z, nt, Bool.false_and]
        rfl
    · rw [bT, nt]
      rfl
theorem cmp_is {g g' : GS} {q d : Nat} (hq : q < 4) (hd : d < 2) (hI : IV g) (hW : MR (h 14) g) (hM : MR (h 13) g') (he : ∀ r p, r < 5 → p < 8 → gr g' q r p = gr (brS g q d).1 q r p ∧ co g' q r p = co (brS g q d).1 q r p) : (!(al (fun j => decide (h 13 j = h 14 j)) (63 + 80 * q) 80)) = (brS g q d).2.2 := by
  have h19 : g 19 ≤ 5 := hI.2.2.2.2.2.2.1
  have iB := IV_br hI (d := d) hq
  cases z : (brS g q d).2.2
  · have sm := ov_same (d := d) hq (5 - g 19) (g 19) g (by omega) hI z
    have : al (fun j => decide (h 13 j = h 14 j)) (63 + 80 * q) 80 = true := by
      refine (al_iff _ 80 _).mpr (fun j j1 j2 => decide_eq_true ?_)
      obtain ⟨r, p, hr, hp, hj⟩ : ∃ r p, r < 5 ∧ p < 8 ∧ (j = ix q r p ∨ j = ix q r p + 1) := ⟨(j - (63 + 80 * q)) / 2 / 8, (j - (63 + 80 * q)) / 2 % 8, by omega, by omega, by unfold ix; omega⟩
      have a := hM.2.2 q r p hq hr hp
      have b := hW.2.2 q r p hq hr hp
      have c := he r p hr hp
      have e := sm r p hr hp
      rcases hj with w | w
      · rw [w, a.1, b.1, c.2]
        show nI (co (ovS q d (5 - g 19) (g 19) g).1 q r p) = _
        rw [e.2]
      · rw [w, a.2, b.2, c.1]
        show nI (gr (ovS q d (5 - g 19) (g 19) g).1 q r p) = _
        rw [e.1]
    rw [this]; rfl
  · obtain ⟨r, p, h1, hr, hp, hne⟩ := ov_diff (d := d) hq (5 - g 19) (g 19) g (by omega) z
    cases w : al (fun j => decide (h 13 j = h 14 j)) (63 + 80 * q) 80
    · rfl
    · have := of_decide_eq_true ((al_iff _ 80 _).mp w (ix q r p + 1) (by unfold ix; omega) (by unfold ix; omega))
      have a := hM.2.2 q r p hq hr hp
      have b := hW.2.2 q r p hq hr hp
      have c := he r p hr hp
      have x1 := iB.2.2.2.2.2.2.2.2 q r p hq hr hp
      have x2 := hI.2.2.2.2.2.2.2.2 q r p hq hr hp
      rw [a.2, b.2, c.1, nI_eqU (by omega) (by omega)] at this
      exact absurd this hne
theorem f8_changes_g (hM : MR (h 13) g) (hI : IV g) {q d : Nat} (hq : q < 4) (hd : d < 2) : ∃ h' v, f8_changes (nI q) (nI d) h = some (bI (brS g q d).2.2, h') ∧ MR (h' 13) (gu (brS g q d).1 23 v) ∧ (∀ c, c ≠ 13 → c ≠ 14 → c ≠ 19 → h' c = h c) := by
  obtain ⟨h1, a1, a2, a3⟩ := f8_hold_g h
  have m1 : MR (h1 13) g := by rw [a3 13 (by omega)]; exact hM
  have w1 : MR (h1 14) g := MR_eq hM a2
  obtain ⟨h2, b1, b2, b3⟩ := M_breathe m1 hI (nI q) (nI d)
  have eb : breS g (nI q) (nI d) = (nI (brS g q d).2.1, gu (brS g q d).1 23 (g 23 + (brS g q d).2.1)) := by
    unfold breS
    rw [inR_nI hq (by omega), inR_nI hd (by omega), sT, sT, tN_nI (by omega), tN_nI (by omega)]
  rw [eb] at b1 b2
  have w2 : MR (h2 14) g := by rw [b3 14 (by omega) (by omega)]; exact w1
  refine ⟨h2, _, ?_, b2, fun c x1 x2 x3 => by rw [b3 c x1 x3, a3 c x2]⟩
  unfold f8_changes f8_changes_e
  have ep : f8_p (nI q) 0 0 h2 = some (nI (ix q 0 0), h2) := by
    have := f8_p_g (h := h2) (q := q) (r := 0) (p := 0)
    rw [← k_0] at this
    exact this
  have ei : ix q 0 0 = 63 + 80 * q := by unfold ix; omega
  rw [a1, bsm]
  dsimp only
  rw [b1, bsm]
  dsimp only
  rw [ep, bsm, ei]
  dsimp only
  have cl := cmp_l (h := h2) hq 80 (63 + 80 * q) FU false (by omega) (by unfold FU; omega)
  rw [bI_f, Bool.false_or, cmp_is hq hd hI w2 b2 (fun r p _ _ => ⟨gr_gu (by omega), co_gu (by omega)⟩)] at cl
  exact cl
theorem stS_gu {q d : Nat} (hq : q < 4) : ∀ (m t : Nat) (g : GS) (v : Nat), IV g → stS q d m t (gu g 23 v) = stS q d m t g := by
  intro m
  induction m with
  | zero => exact fun _ _ _ _ => rfl
  | succ m ih =>
    intro t g v hI
    show (if (brS (gu g 23 v) q d).2.2 = false then nI t else stS q d m (t + 1) (brS (gu g 23 v) q d).1) = (if (brS g q d).2.2 = false then nI t else stS q d m (t + 1) (brS g q d).1)
    rw [brS_gu hI]
    dsimp only
    rw [ih (t + 1) _ v (IV_br hI hq)]
theorem M_st {h0 : Hp} (hR : RM h0 s) {q d : Nat} (hq : q < 4) (hd : d < 2) : ∀ (m t n : Nat) (h : Hp) (g : GS), t + m = 201 → m < n → IV g → MR (h 13) g → (∀ j, j < 383 → h 15 j = h0 13 j) → (∀ c, c ≠ 13 → c ≠ 14 → c ≠ 15 → c ≠ 19 → h c = h0 c) → ∃ h', f8_settles_L27 n (nI q) (nI d) (nI t) h = some (stS q d m t g, h') ∧ RM h' s ∧ MF h0 h' := by
  intro m
  induction m with
  | zero =>
    intro t n h g ht hn hI hM h15 hF
    obtain ⟨n, rfl⟩ : ∃ m, n = m + 1 := ⟨n - 1, by omega⟩
    obtain ⟨h3, a1, a2, a3⟩ := RM_back hR h15 hF
    rw [f8_settles_L27_s]
    unfold f8_settles_B27 f8_settles_j49
    rw [if_pos (by rw [k_200, nI_ltU (by omega) (by omega)]; omega), a1, bsm, if_neg (by rw [k_200, nI_leU (by omega) (by omega)]; omega)]
    exact ⟨h3, rfl, a2, a3⟩
  | succ m ih =>
    intro t n h g ht hn hI hM h15 hF
    obtain ⟨n, rfl⟩ : ∃ m, n = m + 1 := ⟨n - 1, by omega⟩
    obtain ⟨h1, v, a1, a2, a3⟩ := f8_changes_g hM hI hq hd
    have e : stS q d (m + 1) t g = if (brS g q d).2.2 = false then nI t else stS q d m (t + 1) (brS g q d).1 := rfl
    have h15' : ∀ j, j < 383 → h1 15 j = h0 13 j := fun j hj => by rw [a3 15 (by omega) (by omega) (by omega)]; exact h15 j hj
    have hF' : ∀ c, c ≠ 13 → c ≠ 14 → c ≠ 15 → c ≠ 19 → h1 c = h0 c := fun c x1 x2 x3 x4 => by rw [a3 c x1 x2 x4, hF c x1 x2 x3 x4]
    rw [f8_settles_L27_s]
    unfold f8_settles_B27 f8_settles_j49
    rw [if_neg (by rw [k_200, nI_ltU (by omega) (by omega)]; omega), a1, bsm, e]
    dsimp only
    cases z : (brS g q d).2.2
    · obtain ⟨h3, c1, c2, c3⟩ := RM_back hR h15' hF'
      rw [bF, c1, bsm, if_pos (by rw [k_200, nI_leU (by omega) (by omega)]; omega), if_pos rfl]
      exact ⟨h3, rfl, c2, c3⟩
    · have iB := IV_br hI (d := d) hq
      obtain ⟨h2, b1, b2⟩ := ih (t + 1) n h1 _ (by omega) (by omega) (IV_gu iB (c := 23) (v := v) (by omega) (by omega) (by omega) (by omega) (by omega) (by omega) (by omega) (by omega) (by omega)) a2 h15' hF'
      rw [stS_gu hq m (t + 1) _ v iB] at b1
      rw [bT, if_neg (by decide), k_1, nI_add, b1]
      exact ⟨h2, rfl, b2⟩
theorem M_settles (hR : RM hm s) (hS : SI s) (x1 x2 : Int32) : ∃ h', f8_settles x1 x2 hm = some (stR s.g x1 x2, h') ∧ RM h' s ∧ MF hm h' := by
  unfold f8_settles f8_settles_e stR
  rw [f8_isQuarter_b, bsm]
  dsimp only
  cases e1 : inR x1 4
  · rw [bF, sF]; exact ⟨_, rfl, hR, MF.rf _⟩
  · rw [bT, sT, f8_in_01, bsm]
    dsimp only
    obtain ⟨q, hq, rfl⟩ := inR_of e1 (by omega)
    cases e2 : inR x2 2
    · rw [bF, sF]; exact ⟨_, rfl, hR, MF.rf _⟩
    · rw [bT, sT]
      obtain ⟨d, hd, rfl⟩ := inR_of e2 (by omega)
      obtain ⟨h1, a1, a2, a3⟩ := f8_keepTrial_g hm
      obtain ⟨h2, b1, b2⟩ := M_st hR hq hd 201 0 FU h1 s.g (by omega) (by unfold FU; omega) hS.1 (by rw [a3 13 (by omega)]; exact hR.1) a2 (fun c _ _ x3 _ => a3 c x3)
      rw [tN_nI (by omega), tN_nI (by omega), a1, bsm, k_0]
      dsimp only
      rw [b1]
      exact ⟨h2, rfl, b2⟩
end S25
