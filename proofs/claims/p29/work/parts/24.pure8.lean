/-! a breath over a ring, over a quarter: the class -/
def aG (g : GS) (q r : Nat) : Nat → Nat := fun j => gr g q r j
def aC (g : GS) (q r : Nat) : Nat → Nat := fun j => co g q r j
def rbS (g : GS) (q r d : Nat) : Nat → GS
  | 0 => g
  | p + 1 => hpS (rbS g q r d p) q r p (nc (aC g q r) d p) (tg (g 1) (aG g q r) (aC g q r) d p)
def rlS (g : GS) (q r d : Nat) : Nat → Nat
  | 0 => 0
  | p + 1 => rlS g q r d p + ls (g 1) (aG g q r) (aC g q r) d p
def rcS (g : GS) (q r d : Nat) : Nat → Bool
  | 0 => false
  | p + 1 => rcS g q r d p || decide (tg (g 1) (aG g q r) (aC g q r) d p ≠ gr g q r p)
def ovS (q d : Nat) : Nat → Nat → GS → GS × Nat × Bool
  | 0, _, g => (g, 0, false)
  | m + 1, r, g => ((ovS q d m (r + 1) (rbS g q r d 8)).1, rlS g q r d 8 + (ovS q d m (r + 1) (rbS g q r d 8)).2.1, rcS g q r d 8 || (ovS q d m (r + 1) (rbS g q r d 8)).2.2)
def brS (g : GS) (q d : Nat) : GS × Nat × Bool := ovS q d (5 - g 19) (g 19) g
theorem rbS_lo (g : GS) (q r d : Nat) {j : Nat} (hj : j < 24) : ∀ p, rbS g q r d p j = g j := by
  intro p
  induction p with
  | zero => rfl
  | succ p ih => unfold rbS; rw [hpS_lo _ hj, ih]
theorem IV_rb {g : GS} (hI : IV g) {q r : Nat} (d : Nat) (hq : q < 4) (hr : r < 5) : ∀ p, p ≤ 8 → IV (rbS g q r d p) := by
  intro p
  induction p with
  | zero => exact fun _ => hI
  | succ p ih =>
    intro hp
    unfold rbS
    refine IV_hpS (ih (by omega)) hq hr (by omega) (Nat.min_le_left _ _) ?_
    have hs := src_lt d p
    have a1 := hI.2.2.2.2.2.2.2.2 q r p hq hr (by omega)
    have a2 := hI.2.2.2.2.2.2.2.2 q r (src d p) hq hr hs
    have b1 : nc (aC g q r) d p ≤ 6 := by unfold nc aC; split <;> omega
    by_cases z : nc (aC g q r) d p = 0
    · left
      have z1 : co g q r p = 0 ∧ co g q r (src d p) = 0 := by
        unfold nc aC at z
        split at z
        · rename_i y; exact ⟨y, z⟩
        · rename_i y; exact absurd z y
      have s1 : spl (g 1) 0 = 0 := by unfold spl; split <;> omega
      unfold tg wb aG
      rw [a1.2.2.mp z1.1, a2.2.2.mp z1.2, s1]
      split <;> rfl
    · right; omega
theorem IV_ov {q d : Nat} (hq : q < 4) : ∀ (m r : Nat) (g : GS), r + m = 5 → IV g → IV (ovS q d m r g).1 := by
  intro m
  induction m with
  | zero => exact fun r g _ h => h
  | succ m ih => exact fun r g hr h => ih (r + 1) _ (by omega) (IV_rb h d hq (by omega) 8 (by omega))
theorem ovS_lo {q d : Nat} {j : Nat} (hj : j < 24) : ∀ (m r : Nat) (g : GS), (ovS q d m r g).1 j = g j := by
  intro m
  induction m with
  | zero => exact fun r g => rfl
  | succ m ih => exact fun r g => (ih (r + 1) _).trans (rbS_lo g q r d hj 8)
theorem IV_br {g : GS} (hI : IV g) {q d : Nat} (hq : q < 4) : IV (brS g q d).1 := by
  have h19 : g 19 ≤ 5 := hI.2.2.2.2.2.2.1
  exact IV_ov hq _ _ g (by omega) hI
section B2
variable {h : Hp} {g : GS} {k : Nat}
theorem f0_over_in (hk : k = 1 ∨ k = 3) (hI : IV g) {q r d : Nat} (hq : q < 4) (hr : r < 5) (hd : d < 2) (k16 : Int32 → Int32 → Int32 → Int32 → Hp → Re) (L0 : Nat) (c0 : Bool) : ∀ (m p n : Nat) (h : Hp), p + m = 8 → m < n → CR h k (rbS g q r d p) → (∀ j, j < 8 → h 6 j = nI (gr g q r j) ∧ h 7 j = nI (co g q r j)) → h 5 2 = bI (c0 || rcS g q r d p) → ∃ h', f0_over_L33 k k16 n (nI q) (nI d) (nI (L0 + rlS g q r d p)) (nI r) (nI p) h = k16 (nI q) (nI d) (nI (L0 + rlS g q r d 8)) (nI (r + 1)) h' ∧ CR h' k (rbS g q r d 8) ∧ h' 5 2 = bI (c0 || rcS g q r d 8) ∧ FB h h' k := by
  intro m
  induction m with
  | zero =>
    intro p n h hp hn hC h67 hc
    obtain ⟨n, rfl⟩ : ∃ m, n = m + 1 := ⟨n - 1, by omega⟩
    rw [f0_over_L33_s]
    unfold f0_over_B33
    obtain rfl : p = 8 := by omega
    rw [if_pos (by rw [k_8]; exact Int32.le_refl _), k_1, nI_add]
    exact ⟨h, rfl, hC, hc, FB.rf _ _⟩
  | succ m ih =>
    intro p n h hp hn hC h67 hc
    obtain ⟨n, rfl⟩ : ∃ m, n = m + 1 := ⟨n - 1, by omega⟩
    rw [f0_over_L33_s]
    unfold f0_over_B33
    rw [if_neg (by rw [k_8, nI_leU (by omega) (by omega)]; omega)]
    have e1 : rbS g q r d p 1 = g 1 := rbS_lo g q r d (by omega) p
    have hb : ∀ j, j < 8 → gr g q r j ≤ 99 ∧ co g q r j ≤ 6 := fun j hj => ⟨(hI.2.2.2.2.2.2.2.2 q r j hq hr hj).1, (hI.2.2.2.2.2.2.2.2 q r j hq hr hj).2.1⟩
    obtain ⟨h1, a1, a2, a3, a4, a5, a6⟩ := f0_overPlace_g (G := aG g q r) (C := aC g q r) hk hC (fun j hj => (h67 j hj).1) (fun j hj => (h67 j hj).2) (fun j hj => (hb j hj).1) (fun j hj => (hb j hj).2) (by rw [e1]; exact hI.2.1.2) hq hr (p := p) (by omega) hd
    rw [a1, bsm]
    dsimp only
    rw [e1] at a2 a3
    rw [e1, nI_add, k_1, nI_add, Nat.add_assoc]
    obtain ⟨h2, b1, b2, b3, b4⟩ := ih (p + 1) n h1 (by omega) (by omega) a2 (fun j hj => by rw [a4, a5]; exact h67 j hj) (by
      rw [a3]
      unfold rcS aG
      by_cases z : tg (g 1) (fun j => gr g q r j) (aC g q r) d p = gr g q r p
      · rw [if_pos z, hc, decide_eq_false (fun y => y z), Bool.or_false]
      · rw [if_neg z, decide_eq_true z, Bool.or_true, Bool.or_true]; rfl)
    exact ⟨h2, b1, b2, b3, a6.tr b4⟩
theorem f0_over_out (hk : k = 1 ∨ k = 3) {q d : Nat} (hq : q < 4) (hd : d < 2) : ∀ (m r n : Nat) (h : Hp) (g : GS) (L0 : Nat) (c0 : Bool), r + m = 5 → m < n → IV g → CR h k g → h 5 2 = bI c0 → ∃ h', f0_over_L16 k n (nI q) (nI d) (nI L0) (nI r) h = some (nI (L0 + (ovS q d m r g).2.1), h') ∧ CR h' k (ovS q d m r g).1 ∧ h' 5 2 = bI (c0 || (ovS q d m r g).2.2) ∧ FB h h' k := by
  intro m
  induction m with
  | zero =>
    intro r n h g L0 c0 hr hn hI hC hc
    obtain ⟨n, rfl⟩ : ∃ m, n = m + 1 := ⟨n - 1, by omega⟩
    rw [f0_over_L16_s]
    unfold f0_over_B16
    rw [if_pos (by rw [k_5, nI_leU (by omega) (by omega)]; omega)]
    exact ⟨h, rfl, hC, by rw [hc]; unfold ovS; rw [Bool.or_false], FB.rf _ _⟩
  | succ m ih =>
    intro r n h g L0 c0 hr hn hI hC hc
    obtain ⟨n, rfl⟩ : ∃ m, n = m + 1 := ⟨n - 1, by omega⟩
    rw [f0_over_L16_s]
    unfold f0_over_B16
    rw [if_neg (by rw [k_5, nI_leU (by omega) (by omega)]; omega)]
    obtain ⟨h1, a1, a2, a3, a4⟩ := f0_rememberRing_g (q := q) (r := r) hk hC hq (by omega)
    rw [a1, bsm]
    dsimp only
    obtain ⟨h2, b1, b2, b3, b4⟩ := f0_over_in hk hI hq (by omega) hd (f0_over_L16 k n) L0 c0 8 0 FU h1 (by omega) (by unfold FU; omega) a3 a2 (by rw [a4 _ (by omega) (by omega), hc]; unfold rcS; rw [Bool.or_false])
    rw [k_0]
    have e0 : rlS g q r d 0 = 0 := rfl
    rw [e0, Nat.add_zero] at b1
    rw [b1]
    obtain ⟨h3, c1, c2, c3, c4⟩ := ih (r + 1) n h2 _ (L0 + rlS g q r d 8) _ (by omega) (by omega) (IV_rb hI d hq (by omega) 8 (by omega)) b2 b3
    refine ⟨h3, ?_, c2, ?_, (FB.tr (fun x x1 x2 x3 x4 => a4 x x3 x4) b4).tr c4⟩
    · rw [c1, Nat.add_assoc]; rfl
    · rw [c3, Bool.or_assoc]; rfl
theorem C_over (hk : k = 1 ∨ k = 3) (hI : IV g) (hC : CR h k g) {q d : Nat} (hq : q < 4) (hd : d < 2) : ∃ h', f0_over k (nI q) (nI d) h = some (nI (brS g q d).2.1, h') ∧ CR h' k (brS g q d).1 ∧ h' 5 2 = bI (brS g q d).2.2 ∧ FB h h' k := by
  have h19 : g 19 ≤ 5 := hI.2.2.2.2.2.2.1
  unfold f0_over f0_over_e
  have hC1 : CR (hu h 5 2 0) k g := CR_fr hC (FR_hu _ _) (by omega)
  rw [bsm, k_19, f5_number_g hC1 (by omega), bsm]
  dsimp only
  obtain ⟨h1, a1, a2, a3, a4⟩ := f0_over_out hk hq hd (5 - g 19) (g 19) FU (hu h 5 2 0) g 0 false (by omega) (by unfold FU; omega) hI hC1 (by rw [hu_s]; rfl)
  rw [Nat.zero_add] at a1
  refine ⟨h1, ?_, a2, ?_, fun x x1 x2 x3 x4 => ?_⟩
  · rw [show (0 : Int32) = nI 0 by decide +kernel]
    exact a1
  · rw [a3, Bool.false_or]; rfl
  · rw [a4 x x1 x2 x3 x4, hu_n _ _ _ _ x2]
def breS (g : GS) (x1 x2 : Int32) : Int32 × GS := if inR x1 4 = false then (-1, g) else if inR x2 2 = false then (-2, g) else (nI (brS g (tN x1) (tN x2)).2.1, gu (brS g (tN x1) (tN x2)).1 23 (g 23 + (brS g (tN x1) (tN x2)).2.1))
theorem C_breathe (hC : CR h 1 g) (hI : IV g) (x1 x2 : Int32) : ∃ h', f1_blow x1 x2 h = some ((breS g x1 x2).1, h') ∧ CR h' 1 (breS g x1 x2).2 ∧ FB h h' 1 := by
  unfold f1_blow f1_blow_e breS
  rw [f7_isQuarter_b, bsm]
  dsimp only
  cases e1 : inR x1 4
  · rw [bF, sF]
    exact ⟨h, rfl, hC, FB.rf _ _⟩
  · rw [bT, sT, f7_isDirection_b, bsm]
    dsimp only
    cases e2 : inR x2 2
    · rw [bF, sF]
      exact ⟨h, rfl, hC, FB.rf _ _⟩
    · rw [bT, sT]
      obtain ⟨q, hq, rfl⟩ := inR_of e1 (by omega)
      obtain ⟨d, hd, rfl⟩ := inR_of e2 (by omega)
      rw [tN_nI (by omega), tN_nI (by omega)]
      obtain ⟨h1, a1, a2, a3, a4⟩ := C_over (Or.inl rfl) hI hC hq hd
      rw [a1, bsm]
      dsimp only
      obtain ⟨h2, b1, b2, b3⟩ := f5_raise_g (c := 23) (v := (brS g q d).2.1) a2 (by omega)
      rw [k_23, b1, bsm]
      rw [show (brS g q d).1 23 = g 23 from ovS_lo (by omega) _ _ _] at b2
      exact ⟨h2, rfl, b2, a4.tr (fun x x1 _ _ _ => b3 x x1)⟩
theorem I_breathe (hI : IV g) (x1 x2 : Int32) : IV (breS g x1 x2).2 := by
  unfold breS
  cases e1 : inR x1 4
  · rw [sF]; exact hI
  · rw [sT]
    cases e2 : inR x2 2
    · rw [sF]; exact hI
    · rw [sT]
      obtain ⟨q, hq, rfl⟩ := inR_of e1 (by omega)
      rw [tN_nI (by omega)]
      exact IV_gu (IV_br hI hq) (by omega) (by omega) (by omega) (by omega) (by omega) (by omega) (by omega) (by omega) (by omega)
end B2
