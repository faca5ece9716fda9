/-! fill, pour, scrape, set -/
section S5
variable {h : Hp} {g : GS}
theorem fb (hI : IV g) {c : Nat} (h1 : 1 ≤ c) (h2 : c ≤ 6) : g (8 + c) ≤ 9999 := hI.2.2.2.2.1 c h1 h2
theorem C_fill (hC : CR h 1 g) (hI : IV g) (x1 x2 : Int32) : ∃ h', f1_fillFunnel x1 x2 h = some ((filS g x1 x2).1, h') ∧ CR h' 1 (filS g x1 x2).2 ∧ FR h h' 2 := by
  unfold f1_fillFunnel f1_fillFunnel_e filS
  rw [f7_isColour_c, bsm]
  dsimp only
  cases e1 : inC x1 1 6
  · rw [bF, sF]
    exact ⟨h, rfl, hC, FR.rf _ _⟩
  · rw [bT, sT]
    obtain ⟨c, hc1, hc2, rfl⟩ := inC_of e1 (by omega)
    rw [tN_nI (by omega)]
    cases e2 : inC x2 1 9999
    · rw [sF]
      refine ⟨h, ?_, hC, FR.rf _ _⟩
      have e3 := of_decide_eq_false e2
      by_cases z : x2 < 1
      · rw [if_pos z]
      · rw [if_neg z, if_neg]
        intro z2
        rw [k_1, lt_n _ (by omega)] at z
        have z3 := (le_n x2 (n := 9999) (by omega)).mp (by rw [← k_9999]; exact z2)
        omega
    · rw [sT]
      obtain ⟨n, hn1, hn2, rfl⟩ := inC_of e2 (by omega)
      rw [if_neg (by rw [k_1, nI_ltU (by omega) (by omega)]; omega), if_pos (by rw [k_9999, nI_leU (by omega) (by omega)]; omega), tN_nI (by omega), f5_funnel_g hC (by omega), bsm]
      dsimp only
      have hb := fb hI hc1 hc2
      have em : (if nI (g (8 + c)) + nI n < 9999 then nI (g (8 + c)) + nI n else 9999) = nI (min 9999 (g (8 + c) + n)) := by
        rw [nI_add]
        by_cases z : g (8 + c) + n < 9999
        · rw [if_pos (by rw [k_9999, nI_ltU (by omega) (by omega)]; exact z), Nat.min_eq_right (by omega)]
        · rw [if_neg (by rw [k_9999, nI_ltU (by omega) (by omega)]; exact z), Nat.min_eq_left (by omega), k_9999]
      rw [em, bsm, k_8, nI_add]
      obtain ⟨h1, a, b, d⟩ := f5_lay_g (c := 8 + c) (v := min 9999 (g (8 + c) + n)) hC (by omega)
      rw [a, bsm]
      exact ⟨h1, rfl, b, d⟩
theorem I_fill (hI : IV g) (x1 x2 : Int32) : IV (filS g x1 x2).2 := by
  unfold filS
  cases e1 : inC x1 1 6
  · rw [sF]; exact hI
  · rw [sT]
    cases e2 : inC x2 1 9999
    · rw [sF]; exact hI
    · rw [sT]
      obtain ⟨c, hc1, hc2, rfl⟩ := inC_of e1 (by omega)
      obtain ⟨n, hn1, hn2, rfl⟩ := inC_of e2 (by omega)
      rw [tN_nI (by omega), tN_nI (by omega)]
      exact IV_gu hI (by omega) (by omega) (by omega) (by omega) (by omega) (by omega) (by omega) (by omega) (by omega)
theorem i3 {a b c : Bool} (h : (a && b && c) = true) : a = true ∧ b = true ∧ c = true := by
  cases a <;> cases b <;> cases c <;> simp_all
theorem C_scrape (hC : CR h 1 g) (hI : IV g) (x1 x2 x3 : Int32) : ∃ h', f1_scrapeBare x1 x2 x3 h = some ((scrS g x1 x2 x3).1, h') ∧ CR h' 1 (scrS g x1 x2 x3).2 ∧ FR h h' 2 := by
  unfold f1_scrapeBare f1_scrapeBare_e scrS
  rw [f7_isPlace_b, bsm]
  dsimp only
  cases e1 : (inR x1 4 && inR x2 5 && inR x3 8)
  · rw [bF, sF]
    exact ⟨h, rfl, hC, FR.rf _ _⟩
  · rw [bT, sT]
    obtain ⟨a1, a2, a3⟩ := i3 e1
    obtain ⟨q, hq, rfl⟩ := inR_of a1 (by omega)
    obtain ⟨r, hr, rfl⟩ := inR_of a2 (by omega)
    obtain ⟨p, hp, rfl⟩ := inR_of a3 (by omega)
    have hc := hI.2.2.2.2.2.2.2.2 q r p hq hr hp
    rw [f5_grains_g hC hq hr hp, bsm]
    dsimp only
    rw [f5_isClosed_g hC hI hr, bsm, tN_nI (by omega), tN_nI (by omega), tN_nI (by omega)]
    dsimp only
    by_cases z1 : r < g 19
    · rw [decide_eq_true z1, bT, if_pos (Or.inl z1)]
      exact ⟨h, rfl, hC, FR.rf _ _⟩
    · rw [decide_eq_false z1, bF]
      by_cases z2 : gr g q r p = 0
      · rw [if_pos (by rw [z2, k_0]), if_pos (Or.inr z2)]
        exact ⟨h, rfl, hC, FR.rf _ _⟩
      · rw [if_neg (by rw [k_0, nI_eqU (by omega) (by omega)]; exact z2), if_neg (by omega)]
        obtain ⟨h1, b1, b2, b3⟩ := f5_heap_g (c := 0) (n := 0) hC hq hr hp (by omega)
        have e0 : f5_heap 1 (nI q) (nI r) (nI p) 0 0 h = some (0, h1) := by rw [← b1, k_0]
        rw [e0, bsm]
        dsimp only
        obtain ⟨h2, c1, c2, c3⟩ := f5_raise_g (c := 23) (v := gr g q r p) b2 (by omega)
        rw [k_23, c1, bsm]
        rw [hpS_lo _ (by omega)] at c2
        exact ⟨h2, rfl, c2, b3.tr c3⟩
theorem I_scrape (hI : IV g) (x1 x2 x3 : Int32) : IV (scrS g x1 x2 x3).2 := by
  unfold scrS
  cases e1 : (inR x1 4 && inR x2 5 && inR x3 8)
  · rw [sF]; exact hI
  · rw [sT]
    obtain ⟨a1, a2, a3⟩ := i3 e1
    obtain ⟨q, hq, rfl⟩ := inR_of a1 (by omega)
    obtain ⟨r, hr, rfl⟩ := inR_of a2 (by omega)
    obtain ⟨p, hp, rfl⟩ := inR_of a3 (by omega)
    rw [tN_nI (by omega), tN_nI (by omega), tN_nI (by omega)]
    split
    · exact hI
    · exact IV_gu (IV_hpS hI hq hr hp (by omega) (Or.inl rfl)) (by omega) (by omega) (by omega) (by omega) (by omega) (by omega) (by omega) (by omega) (by omega)
end S5
