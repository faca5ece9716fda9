/-! count, best, lacking, needed -/
section S21
variable {hc hm : Hp} {s : St} {g : GS}
theorem f8_grains_g (hM : MR (hm 13) g) (hI : IV g) : f8_grains hm = some (nI (tal g 0 4294967295 4294967295 4294967295), hm) := by
  have loop : ∀ (d k n a : Nat), k + d = 4 → d < n → f8_grains_L4 n (nI a) (nI k) hm = some (nI (a + sm (fun q => sm (fun r => sm (fun p => oiF g 0 q r p) 0 8) 0 5) k d), hm) := by
    intro d
    induction d with
    | zero =>
      intro k n a hk hn
      obtain ⟨n, rfl⟩ : ∃ m, n = m + 1 := ⟨n - 1, by omega⟩
      rw [f8_grains_L4_s]
      unfold f8_grains_B4
      rw [if_pos (by rw [k_4, nI_leU (by omega) (by omega)]; omega)]
      rfl
    | succ d ih =>
      intro k n a hk hn
      obtain ⟨n, rfl⟩ : ∃ m, n = m + 1 := ⟨n - 1, by omega⟩
      have es : ∀ f : Nat → Nat, sm f k (d + 1) = f k + sm f (k + 1) d := fun _ => rfl
      have e0 : f8_ofPlacesIn (nI k) 0 hm = some (nI (sm (fun r => sm (fun p => oiF g 0 k r p) 0 8) 0 5), hm) := by
        rw [k_0, f8_ofPlacesIn_g hM hI (by omega) (by omega) (by omega)]
      rw [f8_grains_L4_s]
      unfold f8_grains_B4
      rw [es, if_neg (by rw [k_4, nI_leU (by omega) (by omega)]; omega), e0, bsm]
      dsimp only
      rw [nI_add, k_1, nI_add, ih (k + 1) n _ (by omega) (by omega), Nat.add_assoc]
  unfold f8_grains f8_grains_e
  rw [k_0, loop 4 0 FU 0 (by omega) (by unfold FU; omega), Nat.zero_add, sm_swap (fun q r => sm (fun p => oiF g 0 q r p) 0 8) 5 4 0, tal_a]
  have e : sm (fun y => sm (fun x => sm (fun p => oiF g 0 x y p) 0 8) 0 4) 0 5 = sm (fun r => sm (fun q => sm (fun p => mea g 0 4294967295 q r p) 0 8) 0 4) 0 5 := by
    refine sm_cg 5 0 (fun r _ _ => sm_cg 4 0 (fun q _ _ => sm_cg 8 0 (fun p _ _ => ?_)))
    rw [mea0]; unfold oiF; rw [if_pos rfl]
  rw [e]
theorem rd_count (hC : RC hc s) (hM : RM hm s) (hS : SI s) (x1 : Int32) : RP (f7_count x1) (f8_count x1) hc hm := by
  obtain ⟨hC1, ⟨o, b1, b2, b3, b4, b5, b6⟩, hP⟩ := hC
  obtain ⟨hM1, ⟨c1, c2, c3⟩, hPM⟩ := hM
  have hI := hS.1
  have j7 : ∀ i : Nat, i < 3 → x1 = nI (i + 7) → f8_count_j111 x1 hm = some (nI (s.g i), hm) := by
    intro i hi e
    unfold f8_count_j111
    rw [e, k_7, nI_subU (by omega), Nat.add_sub_cancel, gd _ (by omega) (by omega), tn_nI (by omega), hM1.set hi]
  unfold RP f7_count f7_count_e f8_count f8_count_e f4_length f4_length_e f2_undoable f2_undoable_e
  by_cases z0 : x1 = 0
  · rw [if_pos z0, if_pos z0, k_19, f5_number_g hC1 (by omega), bsm, tn_3, hM1.clo]
    exact ⟨_, rfl, rfl⟩
  · rw [if_neg z0, if_neg z0]
    by_cases z1 : x1 = 1
    · rw [if_pos z1, if_pos z1, k_21, f5_number_g hC1 (by omega), bsm, tn_4, hM1.don]
      exact ⟨_, rfl, rfl⟩
    · rw [if_neg z1, if_neg z1]
      by_cases z2 : x1 = 2
      · rw [if_pos z2, if_pos z2, k_22, f5_number_g hC1 (by omega), bsm, tn_5, hM1.pou]
        exact ⟨_, rfl, rfl⟩
      · rw [if_neg z2, if_neg z2]
        by_cases z3 : x1 = 3
        · rw [if_pos z3, if_pos z3, k_23, f5_number_g hC1 (by omega), bsm, tn_6, hM1.los]
          exact ⟨_, rfl, rfl⟩
        · rw [if_neg z3, if_neg z3]
          by_cases z4 : x1 = 4
          · rw [if_pos z4, if_pos z4, C_tal hC1 hI k_0 k_m1 k_m1 k_m1 (by omega) (by omega) (by omega) (by omega), bsm, f8_grains_g hM1 hI, bsm]
            exact ⟨_, rfl, rfl⟩
          · rw [if_neg z4, if_neg z4]
            by_cases z5 : x1 = 5
            · rw [if_pos z5, if_pos z5, f6_wholeRings_g hC1 hI, bsm, f8_whole_g hM1 hI, bsm]
              exact ⟨_, rfl, rfl⟩
            · rw [if_neg z5, if_neg z5]
              by_cases z6 : x1 = 6
              · rw [if_pos z6, if_pos z6, k_20, f5_number_g hC1 (by omega), bsm, tn_7, hM1.swp]
                exact ⟨_, rfl, rfl⟩
              · rw [if_neg z6, if_neg z6]
                by_cases z7 : x1 = 7
                · rw [if_pos z7, if_pos z7, k_0, f5_setting_g hC1 (by omega), bsm, j7 0 (by omega) z7]
                  exact ⟨_, rfl, rfl⟩
                · rw [if_neg z7, if_neg z7]
                  by_cases z8 : x1 = 8
                  · rw [if_pos z8, if_pos z8, k_1, f5_setting_g hC1 (by omega), bsm, j7 1 (by omega) z8]
                    exact ⟨_, rfl, rfl⟩
                  · rw [if_neg z8, if_neg z8]
                    by_cases z9 : x1 = 9
                    · rw [if_pos z9, if_pos z9, k_2, f5_setting_g hC1 (by omega), bsm, j7 2 (by omega) z9]
                      exact ⟨_, rfl, rfl⟩
                    · rw [if_neg z9, if_neg z9]
                      by_cases z10 : x1 = 10
                      · rw [if_pos z10, if_pos z10, bsm, hP.1, hPM.1]
                        exact ⟨_, rfl, rfl⟩
                      · rw [if_neg z10, if_neg z10]
                        by_cases z11 : x1 = 11
                        · rw [if_pos z11, if_pos z11, bsm, b3, c1]
                          exact ⟨_, rfl, rfl⟩
                        · rw [if_neg z11, if_neg z11]
                          exact ⟨_, rfl, rfl⟩
def bst (f : Nat → Nat) : Nat → Nat → Nat → Nat
  | _, 0, l => l
  | q, d + 1, l => bst f (q + 1) d (if f q ≤ f l then l else q)
theorem mea1_le (g : GS) (c q r p : Nat) : mea g 1 c q r p ≤ 1 := by
  unfold mea
  rw [if_neg (by omega), if_pos rfl]
  split <;> omega
theorem right_le (g : GS) {q : Nat} (hq : q < 4) : tal g 1 4294967295 q 4294967295 ≤ 40 := by
  rw [tal_q g 1 _ hq]
  have := sm_le (f := fun r => sm (fun p => mea g 1 4294967295 q r p) 0 8) (B := 8) 5 0 (fun r _ _ => by
    have := sm_le (f := fun p => mea g 1 4294967295 q r p) (B := 1) 8 0 (fun p _ _ => mea1_le g _ q r p)
    exact this)
  exact this
theorem rd_best (hC : CR hc 1 g) (hM : MR (hm 13) g) (hI : IV g) : RP f7_best f8_best hc hm := by
  have fb : ∀ q, q < 4 → (fun q => tal g 1 4294967295 q 4294967295) q ≤ 40 := fun q hq => right_le g hq
  have fc : ∀ q, q < 4 → f6_tally 1 (-1) (nI q) (-1) hc = some (nI ((fun q => tal g 1 4294967295 q 4294967295) q), hc) := fun q hq => C_tal hC hI k_1 k_m1 rfl k_m1 (by omega) (by omega) (by omega) (by omega)
  have fm : ∀ q, q < 4 → f8_ofPlacesIn (nI q) 11 hm = some (nI ((fun q => tal g 1 4294967295 q 4294967295) q), hm) := fun q hq => by rw [k_11, f8_ofPlacesIn_g hM hI (by omega) (by omega) hq, oi_11 g q hq]
  generalize (fun q => tal g 1 4294967295 q 4294967295) = f at fb fc fm
  have lc : ∀ (d q n l : Nat), q + d = 4 → d < n → l < 4 → f7_best_L6 n (nI l) (nI (f l)) (nI q) hc = some (nI (bst f q d l), hc) := by
    intro d
    induction d with
    | zero =>
      intro q n l hk hn hl
      obtain ⟨n, rfl⟩ : ∃ m, n = m + 1 := ⟨n - 1, by omega⟩
      rw [f7_best_L6_s]
      unfold f7_best_B6 bst
      rw [if_pos (by rw [k_4, nI_leU (by omega) (by omega)]; omega)]
    | succ d ih =>
      intro q n l hk hn hl
      obtain ⟨n, rfl⟩ : ∃ m, n = m + 1 := ⟨n - 1, by omega⟩
      have a1 := fb l hl
      have a2 := fb q (by omega)
      have e1 : nI q + 1 = nI (q + 1) := by rw [k_1, nI_add]
      have es : bst f q (d + 1) l = bst f (q + 1) d (if f q ≤ f l then l else q) := rfl
      rw [f7_best_L6_s]
      unfold f7_best_B6
      rw [es, if_neg (by rw [k_4, nI_leU (by omega) (by omega)]; omega), fc q (by omega), bsm, e1]
      dsimp only
      by_cases z : f q ≤ f l
      · rw [if_pos (by rw [nI_leU (by omega) (by omega)]; exact z), if_pos z, ih (q + 1) n l (by omega) (by omega) hl]
      · rw [if_neg (by rw [nI_leU (by omega) (by omega)]; exact z), if_neg z, ih (q + 1) n q (by omega) (by omega) (by omega)]
  have lm : ∀ (d q n l : Nat), q + d = 4 → d < n → l < 4 → f8_best_L4 n (nI l) (nI q) hm = some (nI (bst f q d l), hm) := by
    intro d
    induction d with
    | zero =>
      intro q n l hk hn hl
      obtain ⟨n, rfl⟩ : ∃ m, n = m + 1 := ⟨n - 1, by omega⟩
      rw [f8_best_L4_s]
      unfold f8_best_B4 bst
      rw [if_pos (by rw [k_4, nI_leU (by omega) (by omega)]; omega)]
    | succ d ih =>
      intro q n l hk hn hl
      obtain ⟨n, rfl⟩ : ∃ m, n = m + 1 := ⟨n - 1, by omega⟩
      have a1 := fb l hl
      have a2 := fb q (by omega)
      have e1 : nI q + 1 = nI (q + 1) := by rw [k_1, nI_add]
      have es : bst f q (d + 1) l = bst f (q + 1) d (if f q ≤ f l then l else q) := rfl
      rw [f8_best_L4_s]
      unfold f8_best_B4
      rw [es, if_neg (by rw [k_4, nI_leU (by omega) (by omega)]; omega), fm q (by omega), bsm, e1]
      dsimp only
      rw [fm l hl, bsm]
      dsimp only
      by_cases z : f q ≤ f l
      · rw [if_pos (by rw [nI_leU (by omega) (by omega)]; exact z), if_pos z, ih (q + 1) n l (by omega) (by omega) hl]
      · rw [if_neg (by rw [nI_leU (by omega) (by omega)]; exact z), if_neg z, ih (q + 1) n q (by omega) (by omega) (by omega)]
  refine ⟨nI (bst f 1 3 0), ?_, ?_⟩
  · have a0 := fb 0 (by omega)
    obtain ⟨n, hn⟩ := FU_is 4 (by omega)
    unfold f7_best f7_best_e
    rw [hn, ← Nat.add_assoc, f7_best_L6_s]
    unfold f7_best_B6
    have e1 : f6_tally 1 (-1) 0 (-1) hc = some (nI (f 0), hc) := by
      have := fc 0 (by omega)
      rw [← k_0] at this
      exact this
    rw [if_neg (by decide), e1, bsm]
    dsimp only
    have e2 : (0 : Int32) + 1 = nI 1 := by decide +kernel
    rw [e2]
    by_cases z : f 0 ≤ 0
    · rw [if_pos (by rw [k_0, nI_leU (by omega) (by omega)]; exact z)]
      have := lc 3 1 (n + 4) 0 (by omega) (by omega) (by omega)
      rw [show f 0 = 0 by omega, ← k_0] at this
      exact this
    · rw [if_neg (by rw [k_0, nI_leU (by omega) (by omega)]; exact z)]
      have := lc 3 1 (n + 4) 0 (by omega) (by omega) (by omega)
      rw [← k_0] at this
      exact this
  · unfold f8_best f8_best_e
    rw [k_0, k_1]
    exact lm 3 1 FU 0 (by omega) (by unfold FU; omega) (by omega)
theorem ms_le {g : GS} (hI : IV g) (q r p : Nat) : ms g q r p ≤ 50 := by
  have := hI.1
  unfold ms
  split <;> omega
theorem miss_le {g : GS} (hI : IV g) (c : Nat) : tal g 5 c 4294967295 4294967295 ≤ 8000 := by
  rw [tal_a]
  have := sm_le (f := fun r => sm (fun q => sm (fun p => mea g 5 c q r p) 0 8) 0 4) (B := 1600) 5 0 (fun r _ _ => by
    have := sm_le (f := fun q => sm (fun p => mea g 5 c q r p) 0 8) (B := 400) 4 0 (fun q _ _ => by
      have := sm_le (f := fun p => mea g 5 c q r p) (B := 50) 8 0 (fun p _ _ => by
        have := ms_le hI q r p
        show mea g 5 c q r p ≤ 50
        unfold mea
        rw [if_neg (show ¬ (5 : Nat) = 0 by omega), if_neg (show ¬ (5 : Nat) = 1 by omega), if_neg (show ¬ (5 : Nat) = 2 by omega), if_neg (show ¬ (5 : Nat) = 3 by omega), if_neg (show ¬ (5 : Nat) = 4 by omega)]
        split <;> omega)
      exact this)
    exact this)
  exact this
def lkF (g : GS) (c : Nat) : Bool := decide (g (8 + c) < tal g 5 c 4294967295 4294967295)
theorem rd_lacking (hC : CR hc 1 g) (hM : MR (hm 13) g) (hI : IV g) : RP f7_lacking f8_lacking hc hm := by
  have lc : ∀ (d c n : Nat) (a : Int32), c + d = 7 → 1 ≤ c → d < n → f7_lacking_L4 n a (nI c) hc = some (bts (lkF g) c d a, hc) := by
    intro d
    induction d with
    | zero =>
      intro c n a hk h1 hn
      obtain ⟨n, rfl⟩ : ∃ m, n = m + 1 := ⟨n - 1, by omega⟩
      rw [f7_lacking_L4_s]
      unfold f7_lacking_B4 bts
      rw [if_pos (by rw [k_6, nI_ltU (by omega) (by omega)]; omega)]
    | succ d ih =>
      intro c n a hk h1 hn
      obtain ⟨n, rfl⟩ : ∃ m, n = m + 1 := ⟨n - 1, by omega⟩
      have a1 := miss_le hI c
      have a2 := fb hI h1 (show c ≤ 6 by omega)
      have e1 : nI c + 1 = nI (c + 1) := by rw [k_1, nI_add]
      have es : bts (lkF g) c (d + 1) a = bts (lkF g) (c + 1) d (if lkF g c = true then a ||| (1 <<< (nI c &&& 31)) else a) := rfl
      rw [f7_lacking_L4_s]
      unfold f7_lacking_B4
      rw [es, if_neg (by rw [k_6, nI_ltU (by omega) (by omega)]; omega), C_tal hC hI k_5 rfl k_m1 k_m1 (by omega) (by omega) (by omega) (by omega), bsm, e1]
      dsimp only
      rw [f5_funnel_g hC (by omega), bsm]
      dsimp only
      unfold lkF
      by_cases z : tal g 5 c 4294967295 4294967295 ≤ g (8 + c)
      · rw [if_pos (by rw [nI_leU (by omega) (by omega)]; exact z), decide_eq_false (by omega), if_neg (by decide)]
        exact ih (c + 1) n _ (by omega) (by omega) (by omega)
      · rw [if_neg (by rw [nI_leU (by omega) (by omega)]; exact z), decide_eq_true (by omega), if_pos rfl, bsm]
        exact ih (c + 1) n _ (by omega) (by omega) (by omega)
  have lm : ∀ (d c n : Nat) (a : Int32), c + d = 7 → 1 ≤ c → d < n → f8_lacking_L4 n a (nI c) hm = some (bts (lkF g) c d a, hm) := by
    intro d
    induction d with
    | zero =>
      intro c n a hk h1 hn
      obtain ⟨n, rfl⟩ : ∃ m, n = m + 1 := ⟨n - 1, by omega⟩
      rw [f8_lacking_L4_s]
      unfold f8_lacking_B4 bts
      rw [if_pos (by rw [k_6, nI_ltU (by omega) (by omega)]; omega)]
    | succ d ih =>
      intro c n a hk h1 hn
      obtain ⟨n, rfl⟩ : ∃ m, n = m + 1 := ⟨n - 1, by omega⟩
      have a1 := miss_le hI c
      have a2 := fb hI h1 (show c ≤ 6 by omega)
      have e1 : nI c + 1 = nI (c + 1) := by rw [k_1, nI_add]
      have ea : f8_ofAll (nI c) 4 hm = some (nI (tal g 5 c 4294967295 4294967295), hm) := by
        rw [k_4, f8_ofAll_g hM hI (by omega) (by omega), oa_4 g c (by omega)]
      have es : bts (lkF g) c (d + 1) a = bts (lkF g) (c + 1) d (if lkF g c = true then a ||| (1 <<< (nI c &&& 31)) else a) := rfl
      rw [f8_lacking_L4_s]
      unfold f8_lacking_B4
      rw [es, if_neg (by rw [k_6, nI_ltU (by omega) (by omega)]; omega), k_11, nI_add, gd _ (by omega) (by omega), ea, bsm, e1, tn_nI (by omega), or0]
      dsimp only
      unfold lkF
      by_cases z : tal g 5 c 4294967295 4294967295 ≤ g (8 + c)
      · rw [if_pos (by rw [hM.fun h1 (by omega), nI_leU (by omega) (by omega)]; exact z), decide_eq_false (by omega), if_neg (by decide)]
        exact ih (c + 1) n _ (by omega) (by omega) (by omega)
      · rw [if_neg (by rw [hM.fun h1 (by omega), nI_leU (by omega) (by omega)]; exact z), decide_eq_true (by omega), if_pos rfl, bsm]
        exact ih (c + 1) n _ (by omega) (by omega) (by omega)
  refine ⟨bts (lkF g) 1 6 0, ?_, ?_⟩
  · unfold f7_lacking f7_lacking_e
    have := lc 6 1 FU 0 (by omega) (by omega) (by unfold FU; omega)
    rw [← k_1] at this
    exact this
  · unfold f8_lacking f8_lacking_e
    have := lm 6 1 FU 0 (by omega) (by omega) (by unfold FU; omega)
    rw [← k_1] at this
    exact this
end S21
