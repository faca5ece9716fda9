/-! ifBreathed -/
def T2 (a b : Bool) : Nat := T1 b a
theorem T2_s (a : Bool) : T2 a a = 0 := by cases a <;> rfl
def mk8 (b0 b1 b2 b3 b4 b5 b6 b7 : Bool) : Int32 :=
  let s (i : Nat) (b : Bool) (a : Int32) : Int32 := if b = true then a ||| (1 <<< (nI i &&& 31)) else a
  s 7 b7 (s 6 b6 (s 5 b5 (s 4 b4 (s 3 b3 (s 2 b2 (s 1 b1 (s 0 b0 0)))))))
theorem mk8_bit : ∀ b0 b1 b2 b3 b4 b5 b6 b7 : Bool, ∀ p, p < 8 → ((mk8 b0 b1 b2 b3 b4 b5 b6 b7 >>> (nI p &&& 31)) &&& 1) = bI (if p = 0 then b0 else if p = 1 then b1 else if p = 2 then b2 else if p = 3 then b3 else if p = 4 then b4 else if p = 5 then b5 else if p = 6 then b6 else b7) := by decide +kernel
theorem bts_bit (f : Nat → Bool) {p : Nat} (hp : p < 8) : ((bts f 0 8 0 >>> (nI p &&& 31)) &&& 1) = bI (f p) := by
  have e : bts f 0 8 0 = mk8 (f 0) (f 1) (f 2) (f 3) (f 4) (f 5) (f 6) (f 7) := rfl
  rw [e, mk8_bit _ _ _ _ _ _ _ _ p hp]
  congr 1
  by_cases z0 : p = 0
  · rw [if_pos z0, z0]
  · rw [if_neg z0]
    by_cases z1 : p = 1
    · rw [if_pos z1, z1]
    · rw [if_neg z1]
      by_cases z2 : p = 2
      · rw [if_pos z2, z2]
      · rw [if_neg z2]
        by_cases z3 : p = 3
        · rw [if_pos z3, z3]
        · rw [if_neg z3]
          by_cases z4 : p = 4
          · rw [if_pos z4, z4]
          · rw [if_neg z4]
            by_cases z5 : p = 5
            · rw [if_pos z5, z5]
            · rw [if_neg z5]
              by_cases z6 : p = 6
              · rw [if_pos z6, z6]
              · rw [if_neg z6, show p = 7 by omega]
section S24
variable {h hc hm : Hp} {s : St} {g : GS}
theorem C_trial (hC : CR h 1 g) : ∃ h', f5_copyFrom 3 1 h = some (0, h') ∧ CR h' 3 g ∧ FB h h' 3 := by
  refine ⟨hf h 4 (va_cpy (h 2) (h 4) 0 0 344), ?_, ?_, fun b a1 a2 a3 a4 => hf_n _ _ _ a1⟩
  · unfold f5_copyFrom f5_copyFrom_e
    have e : cpB 0 0 344 344 344 = true := by
      rw [k_0, k_344]
      exact cpB_t (by omega) (by omega) (by omega) (by omega)
    have e344 : Int32.toNatClampNeg 344 = 344 := by decide +kernel
    rw [if_pos e, bsm, tn_0, e344]
  · intro c hc
    show hf h 4 (va_cpy (h 2) (h 4) 0 0 344) 4 c = _
    rw [hf_s, va_out0 hc, Nat.zero_add]
    exact hC c hc
theorem RC_FB {h' : Hp} (hR : RC h s) (hF : FB h h' 3) : RC h' s := by
  have e2 : h' 2 = h 2 := hF 2 (by omega) (by omega) (by omega) (by omega)
  have e8 : h' 8 = h 8 := hF 8 (by omega) (by omega) (by omega) (by omega)
  have e9 : h' 9 = h 9 := hF 9 (by omega) (by omega) (by omega) (by omega)
  have e10 : h' 10 = h 10 := hF 10 (by omega) (by omega) (by omega) (by omega)
  have e11 : h' 11 = h 11 := hF 11 (by omega) (by omega) (by omega) (by omega)
  unfold RC CR HC rwC PC
  rw [show 1 + 1 = 2 from rfl, e2, e8, e9, e10, e11]
  exact hR
theorem ro_in {k k2 : Nat} {g1 g2 : GS} (h1 : CR h k g1) (h2 : CR h k2 g2) (i1 : IV g1) (i2 : IV g2) {q r : Nat} (hq : q < 4) (hr : r < 5) (k5 : Int32 → Int32 → Int32 → Hp → Re) : ∀ (d p n a : Nat), p + d = 8 → d < n → f6_rightOnlyInFirst_L14 k k2 k5 n (nI q) (nI a) (nI r) (nI p) h = k5 (nI q) (nI (a + sm (fun p => T1 (rt g1 q r p) (rt g2 q r p)) p d)) (nI (r + 1)) h := by
  intro d
  induction d with
  | zero =>
    intro p n a hp hn
    obtain ⟨n, rfl⟩ : ∃ m, n = m + 1 := ⟨n - 1, by omega⟩
    rw [f6_rightOnlyInFirst_L14_s]
    unfold f6_rightOnlyInFirst_B14
    rw [if_pos (by rw [k_8, nI_leU (by omega) (by omega)]; omega), k_1, nI_add]
    rfl
  | succ d ih =>
    intro p n a hp hn
    obtain ⟨n, rfl⟩ : ∃ m, n = m + 1 := ⟨n - 1, by omega⟩
    have es : ∀ f : Nat → Nat, sm f p (d + 1) = f p + sm f (p + 1) d := fun _ => rfl
    have e1 : nI p + 1 = nI (p + 1) := by rw [k_1, nI_add]
    rw [f6_rightOnlyInFirst_L14_s]
    unfold f6_rightOnlyInFirst_B14
    rw [es, if_neg (by rw [k_8, nI_leU (by omega) (by omega)]; omega), f5_isRight_g h1 i1 hq hr (by omega), bsm, f5_isRight_g h2 i2 hq hr (by omega), bsm, e1, ← Nat.add_assoc]
    dsimp only
    have nx := ih (p + 1) n
    cases rt g1 q r p
    · rw [bF, nx _ (by omega) (by omega)]; rfl
    · rw [bT]
      cases rt g2 q r p
      · rw [bF, k_1, nI_add, nx _ (by omega) (by omega)]; rfl
      · rw [bT, nx _ (by omega) (by omega)]; rfl
theorem ro_g {k k2 : Nat} {g1 g2 : GS} (h1 : CR h k g1) (h2 : CR h k2 g2) (i1 : IV g1) (i2 : IV g2) {q : Nat} (hq : q < 4) : f6_rightOnlyInFirst k k2 (nI q) h = some (nI (sm (fun r => sm (fun p => T1 (rt g1 q r p) (rt g2 q r p)) 0 8) 0 5), h) := by
  have loop : ∀ (d r n a : Nat), r + d = 5 → d < n → f6_rightOnlyInFirst_L5 k k2 n (nI q) (nI a) (nI r) h = some (nI (a + sm (fun r => sm (fun p => T1 (rt g1 q r p) (rt g2 q r p)) 0 8) r d), h) := by
    intro d
    induction d with
    | zero =>
      intro p n a hp hn
      obtain ⟨n, rfl⟩ : ∃ m, n = m + 1 := ⟨n - 1, by omega⟩
      rw [f6_rightOnlyInFirst_L5_s]
      unfold f6_rightOnlyInFirst_B5
      rw [if_pos (by rw [k_5, nI_leU (by omega) (by omega)]; omega)]
      rfl
    | succ d ih =>
      intro p n a hp hn
      obtain ⟨n, rfl⟩ : ∃ m, n = m + 1 := ⟨n - 1, by omega⟩
      have es : ∀ f : Nat → Nat, sm f p (d + 1) = f p + sm f (p + 1) d := fun _ => rfl
      rw [f6_rightOnlyInFirst_L5_s]
      unfold f6_rightOnlyInFirst_B5
      rw [es, if_neg (by rw [k_5, nI_leU (by omega) (by omega)]; omega), k_0, ro_in h1 h2 i1 i2 hq (by omega) _ 8 0 FU a (by omega) (by unfold FU; omega), ih (p + 1) n _ (by omega) (by omega), Nat.add_assoc]
  unfold f6_rightOnlyInFirst f6_rightOnlyInFirst_e
  rw [k_0, loop 5 0 FU 0 (by omega) (by unfold FU; omega), Nat.zero_add]
def ifB (g : GS) (q d i : Nat) : Int32 := if i = 0 then nI (brS g q d).2.1 else if i = 1 then nI (sm (fun r => sm (fun p => T1 (rt g q r p) (rt (brS g q d).1 q r p)) 0 8) 0 5) else nI (sm (fun r => sm (fun p => T2 (rt g q r p) (rt (brS g q d).1 q r p)) 0 8) 0 5)
theorem ifBreathed_bad3 (x3 : Int32) (e : inR x3 3 = false) (A : Re) (h : Hp) : (if x3 < 0 then some ((-2 : Int32), h) else if x3 ≤ 2 then A else some (-2, h)) = some (-2, h) := by
  have e2 := of_decide_eq_false e
  by_cases y : x3 < 0
  · rw [if_pos y]
  · rw [if_neg y, if_neg]
    intro w
    rw [k_0, lt_n _ (by omega)] at y
    rw [k_2, le_n _ (by omega)] at w
    omega
theorem C_ifB (hR : RC hc s) (hS : SI s) (x1 x2 x3 : Int32) : ∃ h', f7_ifBreathed x1 x2 x3 hc = some (if inR x1 4 = false then -1 else if inR x2 2 = false then -2 else if inR x3 3 = false then -2 else ifB s.g (tN x1) (tN x2) (tN x3), h') ∧ RC h' s ∧ CF hc h' := by
  unfold f7_ifBreathed f7_ifBreathed_e
  rw [f7_isQuarter_b, bsm]
  dsimp only
  cases e1 : inR x1 4
  · rw [bF, sF]; exact ⟨_, rfl, hR, CF.rf _⟩
  · rw [bT, sT, f7_isDirection_b, bsm]
    dsimp only
    obtain ⟨q, hq, rfl⟩ := inR_of e1 (by omega)
    cases e2 : inR x2 2
    · rw [bF, sF]; exact ⟨_, rfl, hR, CF.rf _⟩
    · rw [bT, sT]
      obtain ⟨d, hd, rfl⟩ := inR_of e2 (by omega)
      cases e3 : inR x3 3
      · rw [sF, ifBreathed_bad3 _ e3]; exact ⟨_, rfl, hR, CF.rf _⟩
      · rw [sT]
        obtain ⟨i, hi, rfl⟩ := inR_of e3 (by omega)
        rw [if_neg (nI_pos (by omega)), if_pos (by rw [k_2, nI_leU (by omega) (by omega)]; omega), tN_nI (by omega), tN_nI (by omega), tN_nI (by omega)]
        obtain ⟨h1, a1, a2, a3⟩ := C_trial hR.1
        rw [a1, bsm]
        dsimp only
        obtain ⟨h2, b1, b2, b3, b4⟩ := C_over (Or.inr rfl) hS.1 a2 hq hd
        rw [b1, bsm]
        dsimp only
        have F := a3.tr b4
        have R2 := RC_FB hR F
        have iB := IV_br hS.1 (d := d) hq
        rw [ro_g R2.1 b2 hS.1 iB hq, ro_g b2 R2.1 iB hS.1 hq, bsm, bsm]
        unfold ifB
        by_cases z0 : i = 0
        · rw [if_pos (by rw [z0, k_0]), if_pos z0]; exact ⟨_, rfl, R2, fun b hb => F b (by omega) (by omega) (by omega) (by omega)⟩
        · rw [if_neg (by rw [k_0, nI_eqU (by omega) (by omega)]; exact z0), if_neg z0]
          by_cases z1 : i = 1
          · rw [if_pos (by rw [z1, k_1]), if_pos z1]; exact ⟨_, rfl, R2, fun b hb => F b (by omega) (by omega) (by omega) (by omega)⟩
          · rw [if_neg (by rw [k_1, nI_eqU (by omega) (by omega)]; exact z1), if_neg z1]; exact ⟨_, rfl, R2, fun b hb => F b (by omega) (by omega) (by omega) (by omega)⟩
/-! the model -/
theorem f8_keepTrial_g (h : Hp) : ∃ h', f8_keepTrial h = some (0, h') ∧ (∀ j, j < 383 → h' 15 j = h 13 j) ∧ (∀ c, c ≠ 15 → h' c = h c) := by
  obtain ⟨h', a1, a2, a3, a4⟩ := cp_keep 383 0 FU h (by omega) (by unfold FU; omega)
  unfold f8_keepTrial f8_keepTrial_e
  exact ⟨h', by rw [k_0, a1, k_0], fun j hj => a2 j (by omega) hj, a4⟩
theorem f8_putBack_g (h : Hp) : ∃ h', f8_putBack h = some (0, h') ∧ (∀ j, j < 383 → h' 13 j = h 15 j) ∧ (∀ c, c ≠ 13 → h' c = h c) := by
  obtain ⟨h', a1, a2, a3, a4⟩ := cp_back 383 0 FU h (by omega) (by unfold FU; omega)
  unfold f8_putBack f8_putBack_e
  exact ⟨h', by rw [k_0, a1, k_0], fun j hj => a2 j (by omega) hj, a4⟩
theorem RM_back {h2 : Hp} (hR : RM h s) (e : ∀ j, j < 383 → h2 15 j = h 13 j) (hF : ∀ c, c ≠ 13 → c ≠ 14 → c ≠ 15 → c ≠ 19 → h2 c = h c) : ∃ h3, f8_putBack h2 = some (0, h3) ∧ RM h3 s ∧ MF h h3 := by
  obtain ⟨h3, a1, a2, a3⟩ := f8_putBack_g h2
  refine ⟨h3, a1, ⟨MR_eq hR.1 (fun j hj => by rw [a2 j hj, e j hj]), HM_eq hR.2.1 ?_ ?_ ?_ ?_, PM_eq hR.2.2 ?_ ?_⟩, fun b hb => by rw [a3 b (by omega), hF b (by omega) (by omega) (by omega) (by omega)]⟩
  · rw [a3 12 (by omega), hF 12 (by omega) (by omega) (by omega) (by omega)]
  · rw [a3 16 (by omega), hF 16 (by omega) (by omega) (by omega) (by omega)]
  · rw [a3 17 (by omega), hF 17 (by omega) (by omega) (by omega) (by omega)]
  · rw [a3 18 (by omega), hF 18 (by omega) (by omega) (by omega) (by omega)]
  · rw [a3 12 (by omega), hF 12 (by omega) (by omega) (by omega) (by omega)]
  · rw [a3 21 (by omega), hF 21 (by omega) (by omega) (by omega) (by omega)]
theorem f8_turned_g (hM : MR (h 13) g) (hI : IV g) {q r p : Nat} (hq : q < 4) (hr : r < 5) (hp : p < 8) (a b : Bool) : f8_turned (nI q) (nI r) (nI p) (bI a) (bI b) h = some (nI (if b = true then T1 a (rt g q r p) else T2 a (rt g q r p)), h) := by
  unfold f8_turned f8_turned_e
  rw [f8_isRight_g hM hI hq hr hp, bsm]
  dsimp only
  cases a
  · cases b
    · cases rt g q r p
      · rfl
      · rfl
    · cases rt g q r p
      · rfl
      · rfl
  · cases b
    · cases rt g q r p
      · rfl
      · rfl
    · cases rt g q r p
      · rfl
      · rfl
theorem mask_l (hM : MR (h 13) g) (hI : IV g) {q r : Nat} (hq : q < 4) (hr : r < 5) (x2 x3 x4 x5 x6 : Int32) (k51 : Int32 → Int32 → Int32 → Int32 → Int32 → Int32 → Int32 → Hp → Re) : ∀ (d p n : Nat) (a : Int32), p + d = 8 → d < n → f8_ifBreathed_L63 k51 n (nI q) x2 x3 x4 x5 x6 (nI r) a (nI p) h = ((f8_ringBreath (nI q) (nI r) x2 h).bind fun c2 => f8_ifBreathed_L117 k51 FU (nI q) x2 x3 (x4 + c2.1) x5 x6 (nI r) (bts (fun p => rt g q r p) p d a) 0 c2.2) := by
  intro d
  induction d with
  | zero =>
    intro p n a hp hn
    obtain ⟨n, rfl⟩ : ∃ m, n = m + 1 := ⟨n - 1, by omega⟩
    rw [f8_ifBreathed_L63_s]
    unfold f8_ifBreathed_B63 bts
    rw [if_pos (by rw [k_8, nI_leU (by omega) (by omega)]; omega)]
  | succ d ih =>
    intro p n a hp hn
    obtain ⟨n, rfl⟩ : ∃ m, n = m + 1 := ⟨n - 1, by omega⟩
    have es : bts (fun p => rt g q r p) p (d + 1) a = bts (fun p => rt g q r p) (p + 1) d (if rt g q r p = true then a ||| (1 <<< (nI p &&& 31)) else a) := rfl
    have e1 : nI p + 1 = nI (p + 1) := by rw [k_1, nI_add]
    rw [f8_ifBreathed_L63_s]
    unfold f8_ifBreathed_B63
    rw [es, if_neg (by rw [k_8, nI_leU (by omega) (by omega)]; omega), f8_isRight_g hM hI hq hr (by omega), bsm, e1, or0]
    dsimp only
    have nx := ih (p + 1) n
    cases rt g q r p
    · rw [bF, if_neg (by decide), nx _ (by omega) (by omega)]
    · rw [bT, if_pos rfl, bsm, nx _ (by omega) (by omega)]
theorem cnt_l (hM : MR (h 13) g) (hI : IV g) {q r : Nat} (hq : q < 4) (hr : r < 5) (f : Nat → Bool) (x2 x3 x4 M : Int32) (hf : ∀ p, p < 8 → ((M >>> (nI p &&& 31)) &&& 1) = bI (f p)) (k51 : Int32 → Int32 → Int32 → Int32 → Int32 → Int32 → Int32 → Hp → Re) : ∀ (d p n B C : Nat), p + d = 8 → d < n → f8_ifBreathed_L117 k51 n (nI q) x2 x3 x4 (nI B) (nI C) (nI r) M (nI p) h = k51 (nI q) x2 x3 x4 (nI (B + sm (fun p => T1 (f p) (rt g q r p)) p d)) (nI (C + sm (fun p => T2 (f p) (rt g q r p)) p d)) (nI (r + 1)) h := by
  intro d
  induction d with
  | zero =>
    intro p n B C hp hn
    obtain ⟨n, rfl⟩ : ∃ m, n = m + 1 := ⟨n - 1, by omega⟩
    rw [f8_ifBreathed_L117_s]
    unfold f8_ifBreathed_B117
    rw [if_pos (by rw [k_8, nI_leU (by omega) (by omega)]; omega), k_1, nI_add]
    rfl
  | succ d ih =>
    intro p n B C hp hn
    obtain ⟨n, rfl⟩ : ∃ m, n = m + 1 := ⟨n - 1, by omega⟩
    have es : ∀ f : Nat → Nat, sm f p (d + 1) = f p + sm f (p + 1) d := fun _ => rfl
    have e1 : nI p + 1 = nI (p + 1) := by rw [k_1, nI_add]
    have t1 := f8_turned_g hM hI hq hr (show p < 8 by omega) (f p) true
    have t0 := f8_turned_g hM hI hq hr (show p < 8 by omega) (f p) false
    rw [if_pos rfl] at t1
    rw [if_neg (by decide)] at t0
    rw [f8_ifBreathed_L117_s]
    unfold f8_ifBreathed_B117 f8_ifBreathed_j148 f8_ifBreathed_j179
    rw [es, es, if_neg (by rw [k_8, nI_leU (by omega) (by omega)]; omega), hf p (by omega), e1, ← Nat.add_assoc, ← Nat.add_assoc]
    have nx := ih (p + 1) n
    cases e : f p
    · rw [e] at t1 t0
      rw [bI_t, bI_f] at t1
      rw [bI_f] at t0
      rw [if_neg (show ¬ bI false = 1 by decide), t1, bsm, if_neg (show ¬ bI false = 1 by decide)]
      dsimp only
      rw [t0, bsm]
      dsimp only
      rw [nI_add, nI_add, nx _ _ (by omega) (by omega)]
    · rw [e] at t1 t0
      rw [bI_t] at t1
      rw [bI_f, bI_t] at t0
      rw [if_pos (show bI true = 1 by decide), t1, bsm, if_pos (show bI true = 1 by decide)]
      dsimp only
      rw [t0, bsm]
      dsimp only
      rw [nI_add, nI_add, nx _ _ (by omega) (by omega)]
theorem ifB_rings {q d : Nat} (hq : q < 4) (hd : d < 2) (x3 : Int32) : ∀ (m r n : Nat) (h : Hp) (g : GS) (A B C : Nat), r + m = 5 → m < n → IV g → MR (h 13) g → ∃ h', f8_ifBreathed_L51 n (nI q) (nI d) x3 (nI A) (nI B) (nI C) (nI r) h = f8_ifBreathed_B51 (fun _ _ _ _ _ _ _ _ => none) (nI q) (nI d) x3 (nI (A + (ovS q d m r g).2.1)) (nI (B + cS T1 q d m r g)) (nI (C + cS T2 q d m r g)) (nI 5) h' ∧ FM h h' := by
  intro m
  induction m with
  | zero =>
    intro r n h g A B C hr hn hI hM
    obtain ⟨n, rfl⟩ : ∃ m, n = m + 1 := ⟨n - 1, by omega⟩
    obtain rfl : r = 5 := by omega
    refine ⟨h, ?_, FM.rf h⟩
    rw [f8_ifBreathed_L51_s]
    unfold f8_ifBreathed_B51
    rw [if_pos (show (5 : Int32) ≤ nI 5 by decide +kernel), if_pos (show (5 : Int32) ≤ nI 5 by decide +kernel)]
    rfl
  | succ m ih =>
    intro r n h g A B C hr hn hI hM
    obtain ⟨n, rfl⟩ : ∃ m, n = m + 1 := ⟨n - 1, by omega⟩
    obtain ⟨h1, a1, a2, a3⟩ := f8_ringBreath_g (q := q) (r := r) (d := d) hM hI hq (by omega) hd
    have i1 := IV_rb hI d hq (show r < 5 by omega) 8 (by omega)
    obtain ⟨h2, b1, b2⟩ := ih (r + 1) n h1 (rbS g q r d 8) (A + rlS g q r d 8) (B + sm (fun p => T1 (rt g q r p) (rt (rbS g q r d 8) q r p)) 0 8) (C + sm (fun p => T2 (rt g q r p) (rt (rbS g q r d 8) q r p)) 0 8) (by omega) (by omega) i1 a2
    refine ⟨h2, ?_, a3.tr b2⟩
    have m0 := mask_l hM hI hq (show r < 5 by omega) (nI d) x3 (nI A) (nI B) (nI C) (f8_ifBreathed_L51 n) 8 0 FU 0 (by omega) (by unfold FU; omega)
    rw [← k_0] at m0
    have c0 := cnt_l a2 i1 hq (show r < 5 by omega) (fun p => rt g q r p) (nI d) x3 (nI (A + rlS g q r d 8)) (bts (fun p => rt g q r p) 0 8 0) (fun p hp => bts_bit _ hp) (f8_ifBreathed_L51 n) 8 0 FU B C (by omega) (by unfold FU; omega)
    rw [← k_0] at c0
    rw [f8_ifBreathed_L51_s]
    have eL : f8_ifBreathed_B51 (f8_ifBreathed_L51 n) (nI q) (nI d) x3 (nI A) (nI B) (nI C) (nI r) h = f8_ifBreathed_L63 (f8_ifBreathed_L51 n) FU (nI q) (nI d) x3 (nI A) (nI B) (nI C) (nI r) 0 0 h := by
      unfold f8_ifBreathed_B51
      rw [if_neg (by rw [k_5, nI_leU (by omega) (by omega)]; omega)]
    rw [eL, m0, a1, bsm]
    dsimp only
    rw [nI_add, c0, b1, Nat.add_assoc, Nat.add_assoc, Nat.add_assoc]
    rfl
theorem M_ifB (hR : RM hm s) (hS : SI s) (x1 x2 x3 : Int32) : ∃ h', f8_ifBreathed x1 x2 x3 hm = some (if inR x1 4 = false then -1 else if inR x2 2 = false then -2 else if inR x3 3 = false then -2 else ifB s.g (tN x1) (tN x2) (tN x3), h') ∧ RM h' s ∧ MF hm h' := by
  have h19 : s.g 19 ≤ 5 := hS.1.2.2.2.2.2.2.1
  unfold f8_ifBreathed f8_ifBreathed_e
  rw [f8_isQuarter_b, bsm]
  dsimp only
  cases e1 : inR x1 4
  · rw [bF, sF]; exact ⟨_, rfl, hR, MF.rf _⟩
  · rw [bT, sT, f8_in_01, bsm]
    dsimp only
    obtain ⟨q, hq, rfl⟩ := inR_of e1 (by omega)
    cases e2 : inR x2 2
    · rw [bF, sF]; exact ⟨_, rfl, hR, MF.rf _⟩
    · rw [bT, sT, f8_in_02, bsm]
      dsimp only
      obtain ⟨d, hd, rfl⟩ := inR_of e2 (by omega)
      cases e3 : inR x3 3
      · rw [bF, sF]; exact ⟨_, rfl, hR, MF.rf _⟩
      · rw [bT, sT]
        obtain ⟨i, hi, rfl⟩ := inR_of e3 (by omega)
        obtain ⟨h1, a1, a2, a3⟩ := f8_keepTrial_g hm
        have m1 : MR (h1 13) s.g := by rw [a3 13 (by omega)]; exact hR.1
        rw [a1, bsm, bsm, tn_3, tN_nI (by omega), tN_nI (by omega), tN_nI (by omega)]
        dsimp only
        rw [m1.clo, k_0]
        obtain ⟨h2, b1, b2⟩ := ifB_rings hq hd (nI i) (5 - s.g 19) (s.g 19) FU h1 s.g 0 0 0 (by omega) (by unfold FU; omega) hS.1 m1
        rw [b1, Nat.zero_add, Nat.zero_add, Nat.zero_add, cS_br T1 T1_s hS.1 hq, cS_br T2 T2_s hS.1 hq]
        obtain ⟨h3, c1, c2, c3⟩ := RM_back (h2 := h2) hR (fun j hj => by rw [b2 15 (by omega) (by omega), a2 j hj]) (fun c y1 y2 y3 y4 => by rw [b2 c y1 y4, a3 c y3])
        unfold f8_ifBreathed_B51 ifB
        rw [if_pos (show (5 : Int32) ≤ nI 5 by decide +kernel), c1, bsm]
        dsimp only
        by_cases z0 : i = 0
        · rw [if_pos (by rw [z0, k_0]), if_pos z0]; exact ⟨_, rfl, c2, c3⟩
        · rw [if_neg (by rw [k_0, nI_eqU (by omega) (by omega)]; exact z0), if_neg z0]
          by_cases z1 : i = 1
          · rw [if_pos (by rw [z1, k_1]), if_pos z1]; exact ⟨_, rfl, c2, c3⟩
          · rw [if_neg (by rw [k_1, nI_eqU (by omega) (by omega)]; exact z1), if_neg z1]; exact ⟨_, rfl, c2, c3⟩
end S24
