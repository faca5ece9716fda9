/-! set and pattern -/
theorem shr3_toInt (x : Int32) : (x >>> (3 &&& 31)).toInt = x.toInt / 8 := by
  have e : (x >>> (3 &&& 31 : Int32)).toInt = (x.toBitVec.sshiftRight' ((3 &&& 31 : Int32).toBitVec.smod 32)).toInt := rfl
  rw [e, BitVec.toInt_sshiftRight', show ((3 &&& 31 : Int32).toBitVec.smod 32).toNat = 3 by decide +kernel, Int.shiftRight_eq_div_pow]
  rfl
theorem shr3_n {n : Nat} (h : n < 2147483648) : nI n >>> (3 &&& 31) = nI (n / 8) := by
  rw [pk_shrN (by omega) _ 3 (by decide +kernel)]
theorem and7_n {n : Nat} (h : n < 4294967296) : nI n &&& 7 = nI (n % 8) := by
  rw [pk_andN (by omega) 3 (by decide +kernel)]
def okP (x : Int32) : Bool := inC x 0 16777215 && al (fun p => decide (tN x / 8 ^ p % 8 ≤ 6)) 0 8
def patS (g : GS) (x1 x2 : Int32) : Int32 × GS :=
  if inR x1 5 = false then (-1, g) else if okP x2 = false then (-2, g) else if tN x1 < g 19 then (-5, g)
  else (bI (decide (g (3 + tN x1) ≠ 4294967295)), gu g (3 + tN x1) (tN x2))
abbrev okV (x1 x2 : Int32) : Prop := (x1 = 0 ∧ inC x2 1 50 = true) ∨ (x1 = 1 ∧ inC x2 1 99 = true) ∨ (x1 = 2 ∧ inR x2 2 = true)
section S11
variable {h : Hp} {g : GS}
theorem okV_of {x1 x2 : Int32} (z : okV x1 x2) : ∃ i v, i < 3 ∧ v ≤ 99 ∧ x1 = nI i ∧ x2 = nI v ∧ (i = 0 → 1 ≤ v ∧ v ≤ 50) ∧ (i = 1 → 1 ≤ v ∧ v ≤ 99) ∧ (i = 2 → v ≤ 1) := by
  rcases z with ⟨a, b⟩ | ⟨a, b⟩ | ⟨a, b⟩
  · obtain ⟨c, c1, c2, rfl⟩ := inC_of b (by omega)
    exact ⟨0, c, by omega, by omega, a.trans k_0, rfl, by omega, by omega, by omega⟩
  · obtain ⟨c, c1, c2, rfl⟩ := inC_of b (by omega)
    exact ⟨1, c, by omega, by omega, a.trans k_1, rfl, by omega, by omega, by omega⟩
  · obtain ⟨c, c1, rfl⟩ := inR_of b (by omega)
    exact ⟨2, c, by omega, by omega, a.trans k_2, rfl, by omega, by omega, by omega⟩
theorem setS_eq (g : GS) (x1 x2 : Int32) : setS g x1 x2 = if okV x1 x2 then (nI (g (tN x1)), gu g (tN x1) (tN x2)) else (-2, g) := by
  unfold setS
  by_cases z : okV x1 x2
  · rw [if_pos z]
  · rw [if_neg z]
theorem I_set (hI : IV g) (x1 x2 : Int32) : IV (setS g x1 x2).2 := by
  rw [setS_eq]
  by_cases z : okV x1 x2
  · rw [if_pos z]
    obtain ⟨i, v, hi, hv, rfl, rfl, h0, h1, h2⟩ := okV_of z
    rw [tN_nI (by omega), tN_nI (by omega)]
    exact IV_gu hI (by omega) h0 h1 h2 (by omega) (by omega) (by omega) (by omega) (by omega)
  · rw [if_neg z]; exact hI
theorem colourRow_bad (x0 : Int32) : ∀ (m k n : Nat) (x : Int32), k + m = 8 → m < n → (x.toInt < 0 ∨ 8 ^ m ≤ x.toInt) → f1_isColourRow_L4 n x (nI k) h = rz 0 h := by
  intro m
  induction m with
  | zero =>
    intro k n x hk hn hx
    obtain ⟨n, rfl⟩ : ∃ m, n = m + 1 := ⟨n - 1, by omega⟩
    rw [f1_isColourRow_L4_s]
    unfold f1_isColourRow_B4
    rw [if_pos (by rw [k_8, nI_leU (by omega) (by omega)]; omega), if_neg (by rw [k_0, eq_n _ (by omega)]; omega)]
  | succ m ih =>
    intro k n x hk hn hx
    obtain ⟨n, rfl⟩ : ∃ m, n = m + 1 := ⟨n - 1, by omega⟩
    rw [f1_isColourRow_L4_s]
    unfold f1_isColourRow_B4
    rw [if_neg (by rw [k_8, nI_leU (by omega) (by omega)]; omega), k_1, nI_add]
    by_cases z : (x &&& 7) ≤ 6
    · rw [if_pos z]
      refine ih (k + 1) n _ (by omega) (by omega) ?_
      rw [shr3_toInt]
      rw [Int.pow_succ] at hx
      generalize (8 : Int) ^ m = P at hx ⊢
      omega
    · rw [if_neg z]
theorem colourRow_good {v : Nat} (hv : v < 16777216) : ∀ (m k n : Nat), k + m = 8 → m < n → f1_isColourRow_L4 n (nI (v / 8 ^ k)) (nI k) h = some (bI (al (fun p => decide (v / 8 ^ p % 8 ≤ 6)) k m), h) := by
  intro m
  induction m with
  | zero =>
    intro k n hk hn
    obtain ⟨n, rfl⟩ : ∃ m, n = m + 1 := ⟨n - 1, by omega⟩
    obtain rfl : k = 8 := by omega
    rw [f1_isColourRow_L4_s]
    unfold f1_isColourRow_B4 al
    rw [if_pos (by rw [k_8]; exact Int32.le_refl _), if_pos (by rw [Nat.div_eq_of_lt (by omega), k_0])]
    rfl
  | succ m ih =>
    intro k n hk hn
    obtain ⟨n, rfl⟩ : ∃ m, n = m + 1 := ⟨n - 1, by omega⟩
    have hb : v / 8 ^ k < 16777216 := Nat.lt_of_le_of_lt (Nat.div_le_self _ _) hv
    rw [f1_isColourRow_L4_s]
    unfold f1_isColourRow_B4 al
    rw [if_neg (by rw [k_8, nI_leU (by omega) (by omega)]; omega), and7_n (by omega), shr3_n (by omega), k_1, nI_add, Nat.div_div_eq_div_mul, ← Nat.pow_succ, ih (k + 1) n (by omega) (by omega)]
    by_cases z : v / 8 ^ k % 8 ≤ 6
    · rw [if_pos (by rw [k_6, nI_leU (by omega) (by omega)]; exact z), decide_eq_true z, Bool.true_and]
    · rw [if_neg (by rw [k_6, nI_leU (by omega) (by omega)]; exact z), decide_eq_false z, Bool.false_and]
      rfl
theorem f1_isColourRow_g (x : Int32) : f1_isColourRow x h = some (bI (okP x), h) := by
  unfold f1_isColourRow f1_isColourRow_e okP
  cases e : inC x 0 16777215
  · rw [k_0, colourRow_bad x 8 0 FU x (by omega) (by unfold FU; omega)]
    · rfl
    · have := of_decide_eq_false e
      omega
  · obtain ⟨v, _, hv, rfl⟩ := inC_of e (by omega)
    have := colourRow_good (h := h) (v := v) (by omega) 8 0 FU (by omega) (by unfold FU; omega)
    rw [Nat.pow_zero, Nat.div_one] at this
    rw [k_0, this, tN_nI (by omega), Bool.true_and]
theorem okP_of {x : Int32} (e : okP x = true) : ∃ v, v < 16777216 ∧ x = nI v ∧ ∀ p, p < 8 → v / 8 ^ p % 8 ≤ 6 := by
  unfold okP at e
  rw [Bool.and_eq_true] at e
  obtain ⟨v, _, hv, rfl⟩ := inC_of e.1 (by omega)
  refine ⟨v, by omega, rfl, fun p hp => ?_⟩
  have := (al_iff _ 8 0).mp e.2 p (by omega) (by omega)
  rw [tN_nI (by omega)] at this
  exact of_decide_eq_true this
theorem C_pattern (hC : CR h 1 g) (hI : IV g) (x1 x2 : Int32) : ∃ h', f1_layPattern x1 x2 h = some ((patS g x1 x2).1, h') ∧ CR h' 1 (patS g x1 x2).2 ∧ FR h h' 2 := by
  unfold f1_layPattern f1_layPattern_e patS
  rw [f7_isRing_b, bsm]
  dsimp only
  cases e1 : inR x1 5
  · rw [bF, sF]
    exact ⟨h, rfl, hC, FR.rf _ _⟩
  · rw [bT, sT, f1_isColourRow_g, bsm]
    dsimp only
    obtain ⟨r, hr, rfl⟩ := inR_of e1 (by omega)
    rw [tN_nI (by omega)]
    cases e2 : okP x2
    · rw [bF, sF]
      exact ⟨h, rfl, hC, FR.rf _ _⟩
    · rw [bT, sT]
      obtain ⟨v, hv, rfl, _⟩ := okP_of e2
      rw [tN_nI (by omega), f5_isClosed_g hC hI hr, bsm]
      dsimp only
      by_cases z : r < g 19
      · rw [decide_eq_true z, bT, if_pos z]
        exact ⟨h, rfl, hC, FR.rf _ _⟩
      · rw [decide_eq_false z, bF, if_neg z, f5_hasPattern_g hC hI hr, bsm]
        dsimp only
        rw [f7_bit_b, bsm]
        dsimp only
        obtain ⟨h1, a, b, d⟩ := f5_lay_g (c := 3 + r) (v := v) hC (by omega)
        rw [k_3, nI_add, a, bsm]
        exact ⟨h1, rfl, b, d⟩
theorem I_pattern (hI : IV g) (x1 x2 : Int32) : IV (patS g x1 x2).2 := by
  unfold patS
  cases e1 : inR x1 5
  · rw [sF]; exact hI
  · obtain ⟨r, hr, rfl⟩ := inR_of e1 (by omega)
    rw [sT, tN_nI (by omega)]
    cases e2 : okP x2
    · rw [sF]; exact hI
    · obtain ⟨v, hv, rfl, hd⟩ := okP_of e2
      rw [sT, tN_nI (by omega)]
      split
      · exact hI
      · exact IV_gu hI (by omega) (by omega) (by omega) (by omega) (fun _ _ => Or.inr ⟨hv, hd⟩) (by omega) (by omega) (by omega) (by omega)
theorem MR_pat {s s' : Nat → Int32} (hM : MR s g) {r v : Nat} (hr : r < 5) (hv : v < 16777216) (h1 : s' (18 + r) = nI 1) (h2 : ∀ p, p < 8 → s' (23 + 8 * r + p) = nI (v / 8 ^ p % 8)) (h3 : ∀ j, j ≠ 18 + r → ¬ (23 + 8 * r ≤ j ∧ j < 31 + 8 * r) → s' j = s j) : MR s' (gu g (3 + r) v) := by
  refine ⟨fun c hc => ?_, fun r' hr' => ?_, fun q r' p hq hr' hp => ?_⟩
  · have hl := mx_lt hc
    rw [h3 _ (by omega) (by omega), gu_ne (by unfold vc at hc; omega)]
    exact hM.1 c hc
  · by_cases z : r' = r
    · subst z
      rw [gu_s, if_neg (by omega)]
      exact ⟨h1, fun _ => h2⟩
    · rw [gu_ne (by omega), h3 _ (by omega) (by omega)]
      refine ⟨(hM.2.1 r' hr').1, fun y p hp => ?_⟩
      rw [h3 _ (by omega) (by omega)]
      exact (hM.2.1 r' hr').2 y p hp
  · rw [gr_gu (by omega), co_gu (by omega), h3 _ (by unfold ix; omega) (by unfold ix; omega), h3 _ (by unfold ix; omega) (by unfold ix; omega)]
    exact hM.2.2 q r' p hq hr' hp
end S11
