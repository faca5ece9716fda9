/-! single changes: the class's method, the model's, and what stays true -/
theorem sT {α : Type} (a b : α) : (if true = false then a else b) = b := rfl
theorem sF {α : Type} (a b : α) : (if false = false then a else b) = a := rfl
section S4
variable {h : Hp} {g : GS}
theorem gb (hI : IV g) {q : Nat} (hq : q < 4) : g (15 + q) ≤ 6 := hI.2.2.2.2.2.1 q hq
theorem hd_le (g : GS) (c : Nat) : hd g c ≤ 4 := by unfold hd; repeat' split
                                                    all_goals omega
theorem f5_holderOf_g (hC : CR h 1 g) (hI : IV g) {c : Nat} (hc : c ≤ 6) : f5_holderOf 1 (nI c) h = some (if hd g c = 4 then -6 else nI (hd g c), h) := by
  have step : ∀ (n i : Nat), i < 4 → f5_holderOf_L2 1 (n + 1) (nI c) (nI i) h = if g (15 + i) = c then some (nI i, h) else f5_holderOf_L2 1 n (nI c) (nI (i + 1)) h := by
    intro n i hi
    have hb := gb hI hi
    rw [f5_holderOf_L2_s]
    unfold f5_holderOf_B2
    rw [if_neg (by rw [k_4, nI_leU (by omega) (by omega)]; omega), f5_heldBy_g hC hi, bsm]
    dsimp only
    by_cases z : g (15 + i) = c
    · rw [if_pos (by rw [z]), if_pos z]
    · rw [if_neg (by rw [nI_eqU (by omega) (by omega)]; exact z), if_neg z, k_1, nI_add]
  have last : ∀ n : Nat, f5_holderOf_L2 1 (n + 1) (nI c) (nI 4) h = some (-6, h) := by
    intro n
    rw [f5_holderOf_L2_s]
    unfold f5_holderOf_B2
    rw [if_pos (by rw [k_4]; exact Int32.le_refl _)]
  obtain ⟨n, hn⟩ := FU_is 4 (by omega)
  unfold f5_holderOf f5_holderOf_e hd
  rw [hn, k_0, step _ 0 (by omega), step _ 1 (by omega), step _ 2 (by omega), step _ 3 (by omega), last]
  by_cases z0 : g 15 = c
  · rw [if_pos z0, if_pos z0]; rfl
  · rw [if_neg z0, if_neg z0]
    by_cases z1 : g 16 = c
    · rw [if_pos z1, if_pos z1]; rfl
    · rw [if_neg z1, if_neg z1]
      by_cases z2 : g 17 = c
      · rw [if_pos z2, if_pos z2]; rfl
      · rw [if_neg z2, if_neg z2]
        by_cases z3 : g 18 = c
        · rw [if_pos z3, if_pos z3]; rfl
        · rw [if_neg z3, if_neg z3, if_pos rfl]
theorem C_take_j (hC : CR h 1 g) {q c : Nat} (hq : q < 4) : ∃ h', f1_takeFunnel_j52 (nI q) (nI c) h = some (nI (g (15 + q)), h') ∧ CR h' 1 (gu g (15 + q) c) ∧ FR h h' 2 := by
  unfold f1_takeFunnel_j52
  rw [f5_heldBy_g hC hq, bsm]
  dsimp only
  rw [k_15, nI_add]
  obtain ⟨h1, a, b, d⟩ := f5_lay_g (c := 15 + q) (v := c) hC (by omega)
  rw [a, bsm]
  exact ⟨h1, rfl, b, d⟩
theorem C_take (hC : CR h 1 g) (hI : IV g) (x1 x2 : Int32) : ∃ h', f1_takeFunnel x1 x2 h = some ((takS g x1 x2).1, h') ∧ CR h' 1 (takS g x1 x2).2 ∧ FR h h' 2 := by
  unfold f1_takeFunnel f1_takeFunnel_e takS
  rw [f7_isQuarter_b, bsm]
  dsimp only
  cases e1 : inR x1 4
  · rw [bF, sF]
    exact ⟨h, rfl, hC, FR.rf _ _⟩
  · rw [bT, sT]
    obtain ⟨q, hq, rfl⟩ := inR_of e1 (by omega)
    rw [tN_nI (by omega)]
    by_cases z0 : x2 = 0
    · subst z0
      rw [if_pos rfl, show inR 0 7 = true by decide +kernel, sT, if_neg (fun z => z.1 (by decide +kernel))]
      unfold f1_takeFunnel_j23 f1_takeFunnel_j37
      rw [if_pos rfl, if_pos rfl, k_0, tN_nI (by omega)]
      exact C_take_j hC hq
    · rw [if_neg z0, f7_isColour_c, bsm]
      dsimp only
      have ee : inC x2 1 6 = inR x2 7 := by
        unfold inC inR
        have z1 : ¬ x2.toInt = 0 := fun z => z0 (by rw [k_0, eq_n _ (by omega)]; exact z)
        congr 1
        simp only [eq_iff_iff]
        omega
      rw [ee]
      cases e2 : inR x2 7
      · rw [bF, sF]
        exact ⟨h, rfl, hC, FR.rf _ _⟩
      · rw [bT, sT]
        obtain ⟨c, hc, rfl⟩ := inR_of e2 (by omega)
        have hc0 : c ≠ 0 := fun z => z0 (by rw [z, k_0])
        rw [tN_nI (by omega)]
        unfold f1_takeFunnel_j23
        rw [if_neg z0, f5_holderOf_g hC hI (by omega), bsm]
        dsimp only
        unfold f1_takeFunnel_j37
        have hh := hd_le g c
        by_cases z1 : hd g c = 4
        · rw [if_pos z1, if_pos rfl, if_neg (fun z => z.2.1 z1)]
          exact C_take_j hC hq
        · rw [if_neg z1, if_neg (by rw [k_m6, nI_eqU (by omega) (by omega)]; omega)]
          by_cases z2 : hd g c = q
          · rw [if_pos (by rw [z2]), if_neg (fun z => z.2.2 z2)]
            exact C_take_j hC hq
          · rw [if_neg (by rw [nI_eqU (by omega) (by omega)]; exact z2), if_pos ⟨hc0, z1, z2⟩]
            exact ⟨h, rfl, hC, FR.rf _ _⟩
/-- a single number is changed: what has to be shown anew -/
theorem IV_gu (hI : IV g) {c v : Nat} (hc : c < 24) (h0 : c = 0 → 1 ≤ v ∧ v ≤ 50) (h1 : c = 1 → 1 ≤ v ∧ v ≤ 99) (h2 : c = 2 → v ≤ 1) (h3 : 3 ≤ c → c < 8 → v = 4294967295 ∨ (v < 16777216 ∧ ∀ p, p < 8 → v / 8 ^ p % 8 ≤ 6)) (h8 : 9 ≤ c → c < 15 → v ≤ 9999) (h15 : 15 ≤ c → c < 19 → v ≤ 6) (h19 : c = 19 → v ≤ 5) (h20 : c = 20 → v ≤ 3) : IV (gu g c v) := by
  obtain ⟨a1, a2, a3, a4, a5, a6, a7, a8, a9⟩ := hI
  have key : ∀ j, gu g c v j = if j = c then v else g j := fun _ => rfl
  refine ⟨?_, ?_, ?_, fun r hr => ?_, fun d d1 d2 => ?_, fun q hq => ?_, ?_, ?_, fun q r p hq hr hp => ?_⟩
  · rw [key]; split
    · exact h0 (by omega)
    · exact a1
  · rw [key]; split
    · exact h1 (by omega)
    · exact a2
  · rw [key]; split
    · exact h2 (by omega)
    · exact a3
  · rw [key]; split
    · exact h3 (by omega) (by omega)
    · exact a4 r hr
  · rw [key]; split
    · exact h8 (by omega) (by omega)
    · exact a5 d d1 d2
  · rw [key]; split
    · exact h15 (by omega) (by omega)
    · exact a6 q hq
  · rw [key]; split
    · exact h19 (by omega)
    · exact a7
  · rw [key]; split
    · exact h20 (by omega)
    · exact a8
  · rw [gr_gu hc, co_gu hc]; exact a9 q r p hq hr hp
theorem I_take (hI : IV g) (x1 x2 : Int32) : IV (takS g x1 x2).2 := by
  unfold takS
  cases e1 : inR x1 4
  · rw [sF]; exact hI
  · rw [sT]
    cases e2 : inR x2 7
    · rw [sF]; exact hI
    · rw [sT]
      obtain ⟨q, hq, rfl⟩ := inR_of e1 (by omega)
      obtain ⟨c, hc, rfl⟩ := inR_of e2 (by omega)
      rw [tN_nI (by omega), tN_nI (by omega)]
      split
      · exact hI
      · exact IV_gu hI (by omega) (by omega) (by omega) (by omega) (by omega) (by omega) (by omega) (by omega) (by omega)
end S4
