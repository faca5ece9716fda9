/-! set, the class alone -/
section S27b
variable {h : Hp} {g : GS}
theorem inC_b (x : Int32) {a b : Nat} (ha : a < 2147483648) (hb : b < 2147483648) : (if x < nI a then rz 0 h else (if nI b < x then rz 0 h else rz 1 h)) = some (bI (inC x a b), h) := by
  unfold inC
  by_cases q1 : x < nI a
  · rw [if_pos q1, decide_eq_false (by rw [lt_n _ (by omega)] at q1; omega)]; rfl
  · rw [if_neg q1]
    by_cases q2 : nI b < x
    · rw [if_pos q2, decide_eq_false (by rw [n_lt _ (by omega)] at q2; omega)]; rfl
    · rw [if_neg q2, decide_eq_true (by rw [lt_n _ (by omega)] at q1; rw [n_lt _ (by omega)] at q2; omega)]; rfl
theorem f1_isSettingValue_g (x1 x2 : Int32) : f1_isSettingValue x1 x2 h = some (bI (decide (okV x1 x2)), h) := by
  unfold f1_isSettingValue f1_isSettingValue_e
  have n01 : ¬ (0 : Int32) = 1 := by decide
  have n02 : ¬ (0 : Int32) = 2 := by decide
  have n12 : ¬ (1 : Int32) = 2 := by decide
  by_cases z0 : x1 = 0
  · subst z0
    have e : decide (okV 0 x2) = inC x2 1 50 := by
      unfold okV
      cases e : inC x2 1 50 <;> simp [n01, n02]
    rw [if_pos rfl, e]
    have := inC_b (h := h) x2 (a := 1) (b := 50) (by omega) (by omega)
    rw [← k_1, ← k_50] at this
    exact this
  · rw [if_neg z0]
    by_cases z1 : x1 = 1
    · subst z1
      have e : decide (okV 1 x2) = inC x2 1 99 := by
        unfold okV
        cases e : inC x2 1 99 <;> simp [n12]
      rw [if_pos rfl, e]
      have := inC_b (h := h) x2 (a := 1) (b := 99) (by omega) (by omega)
      rw [← k_1, ← k_99] at this
      exact this
    · rw [if_neg z1]
      by_cases z2 : x1 = 2
      · subst z2
        have e : decide (okV 2 x2) = inR x2 2 := by
          unfold okV
          cases e : inR x2 2 <;> simp
        rw [if_pos rfl, e, ← f7_isDirection_b]
        rfl
      · rw [if_neg z2, decide_eq_false (fun w => w.elim (fun w => z0 w.1) (fun w => w.elim (fun w => z1 w.1) (fun w => z2 w.1)))]
        rfl
theorem C_set (hC : CR h 1 g) (x1 x2 : Int32) : ∃ h', f1_changeSetting x1 x2 h = some ((setS g x1 x2).1, h') ∧ CR h' 1 (setS g x1 x2).2 ∧ FR h h' 2 := by
  rw [setS_eq]
  unfold f1_changeSetting f1_changeSetting_e
  rw [f1_isSettingValue_g, bsm]
  dsimp only
  by_cases z : okV x1 x2
  · rw [decide_eq_true z, bT, if_pos z]
    obtain ⟨i, v, hi, hv, rfl, rfl, _⟩ := okV_of z
    rw [f5_setting_g hC hi, bsm, tN_nI (by omega), tN_nI (by omega)]
    dsimp only
    rw [k_0, nI_add, Nat.zero_add]
    obtain ⟨h1, a, b, d⟩ := f5_lay_g (c := i) (v := v) hC (by omega)
    rw [a, bsm]
    exact ⟨h1, rfl, b, d⟩
  · rw [decide_eq_false z, bF, if_neg z]
    exact ⟨h, rfl, hC, FR.rf _ _⟩
end S27b
