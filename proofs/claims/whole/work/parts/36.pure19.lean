/-! the reads, side by side -/
def RP (f7 f8 : Hp → Re) (hc hm : Hp) : Prop := ∃ v, f7 hc = some (v, hc) ∧ f8 hm = some (v, hm)
section S20
variable {hc hm : Hp} {s : St} {g : GS}
theorem C_tal (hC : CR hc 1 g) (hI : IV g) {m c Q R : Nat} {xm xc xQ xR : Int32} (e1 : xm = nI m) (e2 : xc = nI c) (e3 : xQ = nI Q) (e4 : xR = nI R) (b1 : m < 6) (b2 : c < 4294967296) (b3 : Q < 4294967296) (b4 : R < 4294967296) : f6_tally xm xc xQ xR hc = some (nI (tal g m c Q R), hc) := by
  rw [e1, e2, e3, e4, f6_tally_g hC hI b1 b2 b3 b4]
theorem oi_0 (g : GS) (q : Nat) (hq : q < 4) : sm (fun r => sm (fun p => oiF g 0 q r p) 0 8) 0 5 = tal g 0 4294967295 q 4294967295 := by
  rw [tal_q g 0 _ hq]
  refine sm_cg 5 0 (fun r _ _ => sm_cg 8 0 (fun p _ _ => ?_))
  rw [mea0]; unfold oiF; rw [if_pos rfl]
theorem oi_1 (g : GS) (q : Nat) (hq : q < 4) : sm (fun r => sm (fun p => oiF g 1 q r p) 0 8) 0 5 = tal g 3 4294967295 q 4294967295 := by
  rw [tal_q g 3 _ hq]
  exact sm_cg 5 0 (fun r _ _ => sm_cg 8 0 (fun p _ _ => rfl))
theorem oi_11 (g : GS) (q : Nat) (hq : q < 4) : sm (fun r => sm (fun p => oiF g 11 q r p) 0 8) 0 5 = tal g 1 4294967295 q 4294967295 := by
  rw [tal_q g 1 _ hq]
  exact sm_cg 5 0 (fun r _ _ => sm_cg 8 0 (fun p _ _ => rfl))
theorem oi_c (g : GS) (q w : Nat) (hq : q < 4) (hw : 5 ≤ w ∧ w ≤ 10) : sm (fun r => sm (fun p => oiF g w q r p) 0 8) 0 5 = tal g 0 (w - 4) q 4294967295 := by
  rw [tal_q g 0 _ hq]
  refine sm_cg 5 0 (fun r _ _ => sm_cg 8 0 (fun p _ _ => ?_))
  unfold oiF mea
  rw [if_neg (by omega), if_neg (by omega), if_neg (by omega), if_pos rfl, mt_is (by omega)]
  by_cases z : co g q r p = w - 4
  · rw [if_pos z, decide_eq_true z.symm, if_pos rfl]
  · rw [if_neg z, decide_eq_false (fun y => z y.symm), if_neg (by decide)]
theorem oa_2 (g : GS) (c : Nat) (hc : c < 4294967295) : sm (fun r => sm (fun q => sm (fun p => oaF g 2 c q r p) 0 8) 0 4) 0 5 = tal g 0 c 4294967295 4294967295 := by
  rw [tal_a]
  refine sm_cg 5 0 (fun r _ _ => sm_cg 4 0 (fun q _ _ => sm_cg 8 0 (fun p _ _ => ?_)))
  unfold oaF mea
  rw [if_pos rfl, if_pos rfl, mt_is hc]
  by_cases z : co g q r p = c
  · rw [if_pos z, decide_eq_true z.symm, if_pos rfl]
  · rw [if_neg z, decide_eq_false (fun y => z y.symm), if_neg (by decide)]
theorem oa_3 (g : GS) (c : Nat) : sm (fun r => sm (fun q => sm (fun p => oaF g 3 c q r p) 0 8) 0 4) 0 5 = tal g 4 c 4294967295 4294967295 := by
  rw [tal_a]
  exact sm_cg 5 0 (fun r _ _ => sm_cg 4 0 (fun q _ _ => sm_cg 8 0 (fun p _ _ => rfl)))
theorem oa_4 (g : GS) (c : Nat) (hc : c < 4294967295) : sm (fun r => sm (fun q => sm (fun p => oaF g 4 c q r p) 0 8) 0 4) 0 5 = tal g 5 c 4294967295 4294967295 := by
  rw [tal_a]
  refine sm_cg 5 0 (fun r _ _ => sm_cg 4 0 (fun q _ _ => sm_cg 8 0 (fun p _ _ => ?_)))
  unfold oaF mea
  rw [if_neg (show ¬ (4 : Nat) = 2 by omega), if_neg (show ¬ (4 : Nat) = 3 by omega), if_neg (show ¬ (5 : Nat) = 0 by omega), if_neg (show ¬ (5 : Nat) = 1 by omega), if_neg (show ¬ (5 : Nat) = 2 by omega), if_neg (show ¬ (5 : Nat) = 3 by omega), if_neg (show ¬ (5 : Nat) = 4 by omega), mt_is hc]
  by_cases z : wn g q r p = c
  · rw [if_pos z, decide_eq_true z.symm, if_pos rfl]
  · rw [if_neg z, decide_eq_false (fun y => z y.symm), if_neg (by decide)]
theorem op_4 (g : GS) (r : Nat) (hr : r < 5) : sm (fun q => sm (fun p => opF g 4 q r p) 0 8) 0 4 = tal g 2 4294967295 4294967295 r := by
  rw [tal_r g 2 _ hr]
  exact sm_cg 4 0 (fun r _ _ => sm_cg 8 0 (fun p _ _ => rfl))
theorem op_5 (g : GS) (r : Nat) (hr : r < 5) : sm (fun q => sm (fun p => opF g 5 q r p) 0 8) 0 4 = tal g 0 4294967295 4294967295 r := by
  rw [tal_r g 0 _ hr]
  exact sm_cg 4 0 (fun r _ _ => sm_cg 8 0 (fun p _ _ => rfl))
theorem op_6 (g : GS) (r : Nat) (hr : r < 5) : sm (fun q => sm (fun p => opF g 6 q r p) 0 8) 0 4 = tal g 5 4294967295 4294967295 r := by
  rw [tal_r g 5 _ hr]
  exact sm_cg 4 0 (fun r _ _ => sm_cg 8 0 (fun p _ _ => rfl))
theorem bI_if (b : Bool) (h : Hp) : (if bI b = 0 then (some ((0 : Int32), h)) else some (1, h)) = some (bI b, h) := by
  cases b
  · rfl
  · rfl
theorem bI_fi (b : Bool) (h : Hp) : (if bI b = 0 then (some ((1 : Int32), h)) else some (0, h)) = some (bI (!b), h) := by
  cases b
  · rfl
  · rfl
theorem rd_at (hC : CR hc 1 g) (hM : MR (hm 13) g) (hI : IV g) (x1 x2 x3 x4 : Int32) : RP (f7_at x1 x2 x3 x4) (f8_at x1 x2 x3 x4) hc hm := by
  unfold RP f7_at f7_at_e f8_at f8_at_e
  rw [f7_isPlace_b, f8_isPlace_b, bsm, bsm]
  dsimp only
  cases e1 : (inR x1 4 && inR x2 5 && inR x3 8)
  · rw [bF, bF]
    exact ⟨_, rfl, rfl⟩
  · rw [bT, bT]
    obtain ⟨a1, a2, a3⟩ := i3 e1
    obtain ⟨q, hq, rfl⟩ := inR_of a1 (by omega)
    obtain ⟨r, hr, rfl⟩ := inR_of a2 (by omega)
    obtain ⟨p, hp, rfl⟩ := inR_of a3 (by omega)
    have hx := ix_lt hq hr hp
    by_cases z0 : x4 = 0
    · rw [if_pos z0, if_pos z0, f5_colour_g hC hq hr hp, bsm]
      unfold f8_at_j48
      rw [f8_p_g, bsm, z0, k_0]
      dsimp only
      rw [nI_add, Nat.add_zero, gd _ (by omega) (by omega), tn_nI (by omega), hM.co hq hr hp]
      exact ⟨_, rfl, rfl⟩
    · rw [if_neg z0, if_neg z0]
      by_cases z1 : x4 = 1
      · rw [if_pos z1, if_pos z1, f5_grains_g hC hq hr hp, bsm]
        unfold f8_at_j48
        rw [f8_p_g, bsm, z1, k_1]
        dsimp only
        rw [nI_add, gd _ (by omega) (by omega), tn_nI (by omega), hM.gr hq hr hp]
        exact ⟨_, rfl, rfl⟩
      · rw [if_neg z1, if_neg z1]
        by_cases z2 : x4 = 2
        · rw [if_pos z2, if_pos z2, f5_wanted_g hC hI hq hr hp, f8_wanted_g hM hI hq hr hp, bsm, bsm]
          exact ⟨_, rfl, rfl⟩
        · rw [if_neg z2, if_neg z2]
          by_cases z3 : x4 = 3
          · rw [if_pos z3, if_pos z3, f5_isRight_g hC hI hq hr hp, f8_isRight_g hM hI hq hr hp, bsm, bsm]
            dsimp only
            rw [f7_bit_b, bsm, bI_if]
            exact ⟨_, rfl, rfl⟩
          · rw [if_neg z3, if_neg z3]
            by_cases z4 : x4 = 4
            · rw [if_pos z4, if_pos z4, f5_patternPlace_g hC hI hq hp, f8_mirrored_g hM hI hq hp, bsm, bsm]
              exact ⟨_, rfl, rfl⟩
            · rw [if_neg z4, if_neg z4]
              exact ⟨_, rfl, rfl⟩
theorem rd_ofRing (hC : CR hc 1 g) (hM : MR (hm 13) g) (hI : IV g) (x1 x2 : Int32) : RP (f7_ofRing x1 x2) (f8_ofRing x1 x2) hc hm := by
  unfold RP f7_ofRing f7_ofRing_e f8_ofRing f8_ofRing_e f8_ofRing_j96
  rw [f7_isRing_b, f8_isRing_b, bsm, bsm]
  dsimp only
  cases e1 : inR x1 5
  · rw [bF, bF]
    exact ⟨_, rfl, rfl⟩
  · rw [bT, bT]
    obtain ⟨r, hr, rfl⟩ := inR_of e1 (by omega)
    by_cases z0 : x2 = 0
    · rw [if_pos z0, if_pos z0, f5_isClosed_g hC hI hr, f8_isOpen_g hM hI hr, bsm, bsm]
      dsimp only
      rw [f7_bit_b, bsm, bI_fi]
      have e : (!(decide (g 19 ≤ r))) = decide (r < g 19) := by
        by_cases z : g 19 ≤ r
        · rw [decide_eq_true z, decide_eq_false (by omega)]; rfl
        · rw [decide_eq_false z, decide_eq_true (by omega)]; rfl
      rw [e]
      exact ⟨_, rfl, rfl⟩
    · rw [if_neg z0, if_neg z0]
      by_cases z1 : x2 = 1
      · rw [if_pos z1, if_pos z1, f5_hasPattern_g hC hI hr, bsm]
        dsimp only
        rw [f7_bit_b, bsm, k_18, nI_add, gd _ (by omega) (by omega), tn_nI (by omega), hM.has hr]
        have e : nI (if g (3 + r) = 4294967295 then 0 else 1) = bI (decide (g (3 + r) ≠ 4294967295)) := by
          by_cases y : g (3 + r) = 4294967295
          · rw [if_pos y, decide_eq_false (by omega)]; rfl
          · rw [if_neg y, decide_eq_true y]; rfl
        rw [e]
        exact ⟨_, rfl, rfl⟩
      · rw [if_neg z1, if_neg z1]
        by_cases z2 : x2 = 2
        · rw [if_pos z2, if_pos z2, f6_isWhole_g hC hI hr, f8_isWhole_g hM hI hr, bsm, bsm]
          dsimp only
          rw [f7_bit_b, bsm, bI_if]
          exact ⟨_, rfl, rfl⟩
        · rw [if_neg z2, if_neg z2]
          by_cases z3 : x2 = 3
          · rw [if_pos z3, if_pos z3, f6_unlikePlaces_g hC hI hr, f8_unlike_g hM hI hr, bsm, bsm]
            exact ⟨_, rfl, rfl⟩
          · rw [if_neg z3, if_neg z3]
            by_cases z4 : x2 = 4
            · rw [if_pos z4, if_pos z4, C_tal hC hI k_2 k_m1 k_m1 rfl (by omega) (by omega) (by omega) (by omega), z4, k_4, f8_ofPlaces_g hM hI (by omega) hr, bsm, bsm, op_4 g r hr]
              exact ⟨_, rfl, rfl⟩
            · rw [if_neg z4, if_neg z4]
              by_cases z5 : x2 = 5
              · rw [if_pos z5, if_pos z5, C_tal hC hI k_0 k_m1 k_m1 rfl (by omega) (by omega) (by omega) (by omega), z5, k_5, f8_ofPlaces_g hM hI (by omega) hr, bsm, bsm, op_5 g r hr]
                exact ⟨_, rfl, rfl⟩
              · rw [if_neg z5, if_neg z5]
                by_cases z6 : x2 = 6
                · rw [if_pos z6, if_pos z6, C_tal hC hI k_5 k_m1 k_m1 rfl (by omega) (by omega) (by omega) (by omega), z6, k_6, f8_ofPlaces_g hM hI (by omega) hr, bsm, bsm, op_6 g r hr]
                  exact ⟨_, rfl, rfl⟩
                · rw [if_neg z6, if_neg z6]
                  exact ⟨_, rfl, rfl⟩
theorem sub4 {x : Int32} {c : Nat} (e : x - 4 = nI c) : x = nI (c + 4) := by
  have : x = x - 4 + 4 := (Int32.sub_add_cancel x 4).symm
  rw [this, e, k_4, nI_add]
theorem rd_ofQuarter (hC : CR hc 1 g) (hM : MR (hm 13) g) (hI : IV g) (x1 x2 : Int32) : RP (f7_ofQuarter x1 x2) (f8_ofQuarter x1 x2) hc hm := by
  unfold RP f7_ofQuarter f7_ofQuarter_e f8_ofQuarter f8_ofQuarter_e f8_ofQuarter_j68
  rw [f7_isQuarter_b, f8_isQuarter_b, bsm, bsm]
  dsimp only
  cases e1 : inR x1 4
  · rw [bF, bF]
    exact ⟨_, rfl, rfl⟩
  · rw [bT, bT]
    obtain ⟨q, hq, rfl⟩ := inR_of e1 (by omega)
    by_cases z0 : x2 = 0
    · rw [if_pos z0, if_pos z0, C_tal hC hI k_0 k_m1 rfl k_m1 (by omega) (by omega) (by omega) (by omega), z0, k_0, f8_ofPlacesIn_g hM hI (by omega) (by omega) hq, bsm, bsm, oi_0 g q hq]
      exact ⟨_, rfl, rfl⟩
    · rw [if_neg z0, if_neg z0]
      by_cases z1 : x2 = 1
      · rw [if_pos z1, if_pos z1, C_tal hC hI k_3 k_m1 rfl k_m1 (by omega) (by omega) (by omega) (by omega), z1, k_1, f8_ofPlacesIn_g hM hI (by omega) (by omega) hq, bsm, bsm, oi_1 g q hq]
        exact ⟨_, rfl, rfl⟩
      · rw [if_neg z1, if_neg z1]
        by_cases z2 : x2 = 2
        · rw [if_pos z2, if_pos z2, f5_heldBy_g hC hq, bsm, k_8, nI_add, gd _ (by omega) (by omega), tn_nI (by omega), hM.hnd hq]
          exact ⟨_, rfl, rfl⟩
        · rw [if_neg z2, if_neg z2]
          by_cases z3 : x2 = 3
          · rw [if_pos z3, if_pos z3, f5_isMirrored_g hC hI hq, f8_isMirrored_g hM hI hq, bsm, bsm]
            dsimp only
            rw [f7_bit_b, bsm, bI_if]
            exact ⟨_, rfl, rfl⟩
          · rw [if_neg z3, if_neg z3]
            by_cases z4 : x2 = 4
            · rw [if_pos z4, if_pos z4, f5_isSwept_g hC hI hq, f8_isSwept_g hM hI hq, bsm, bsm]
              dsimp only
              rw [f7_bit_b, bsm, bI_if]
              exact ⟨_, rfl, rfl⟩
            · rw [if_neg z4, if_neg z4, f7_isColour_c, bsm]
              dsimp only
              cases e2 : inC (x2 - 4) 1 6
              · have no : ∀ w : Nat, 5 ≤ w → w ≤ 10 → x2 ≠ nI w := by
                  intro w w1 w2 e
                  rw [e, k_4, nI_subU (by omega), inC_nI (by omega) (by omega) (by omega)] at e2
                  exact absurd e2 (by decide)
                rw [bF, if_neg (by rw [k_5]; exact no 5 (by omega) (by omega)), if_neg (by rw [k_6]; exact no 6 (by omega) (by omega)), if_neg (by rw [k_7]; exact no 7 (by omega) (by omega)), if_neg (by rw [k_8]; exact no 8 (by omega) (by omega)), if_neg (show ¬ x2 = 9 from no 9 (by omega) (by omega)), if_neg (show ¬ x2 = 10 from no 10 (by omega) (by omega))]
                exact ⟨_, rfl, rfl⟩
              · obtain ⟨c, c1, c2, e3⟩ := inC_of e2 (by omega)
                have e4 := sub4 e3
                have m1 : f8_ofPlacesIn (nI q) x2 hm = some (nI (tal g 0 c q 4294967295), hm) := by
                  rw [e4, f8_ofPlacesIn_g hM hI (by omega) (by omega) hq, oi_c g q _ hq (by omega), Nat.add_sub_cancel]
                rw [bT, C_tal hC hI k_0 e3 rfl k_m1 (by omega) (by omega) (by omega) (by omega), bsm, m1, bsm]
                refine ⟨_, rfl, ?_⟩
                have hx : x2 = 5 ∨ x2 = 6 ∨ x2 = 7 ∨ x2 = 8 ∨ x2 = 9 ∨ x2 = 10 := by
                  rcases (show c = 1 ∨ c = 2 ∨ c = 3 ∨ c = 4 ∨ c = 5 ∨ c = 6 by omega) with y | y | y | y | y | y
                  · rw [e4, y]; exact Or.inl rfl
                  · rw [e4, y]; exact Or.inr (Or.inl rfl)
                  · rw [e4, y]; exact Or.inr (Or.inr (Or.inl rfl))
                  · rw [e4, y]; exact Or.inr (Or.inr (Or.inr (Or.inl rfl)))
                  · rw [e4, y]; exact Or.inr (Or.inr (Or.inr (Or.inr (Or.inl rfl))))
                  · rw [e4, y]; exact Or.inr (Or.inr (Or.inr (Or.inr (Or.inr rfl))))
                by_cases y5 : x2 = 5
                · rw [if_pos y5]
                · rw [if_neg y5]
                  by_cases y6 : x2 = 6
                  · rw [if_pos y6]
                  · rw [if_neg y6]
                    by_cases y7 : x2 = 7
                    · rw [if_pos y7]
                    · rw [if_neg y7]
                      by_cases y8 : x2 = 8
                      · rw [if_pos y8]
                      · rw [if_neg y8]
                        by_cases y9 : x2 = 9
                        · rw [if_pos y9]
                        · rw [if_neg y9, if_pos (by
                            rcases hx with y | y | y | y | y | y
                            · exact absurd y y5
                            · exact absurd y y6
                            · exact absurd y y7
                            · exact absurd y y8
                            · exact absurd y y9
                            · exact y)]
theorem rd_ofColour (hC : CR hc 1 g) (hM : MR (hm 13) g) (hI : IV g) (x1 x2 : Int32) : RP (f7_ofColour x1 x2) (f8_ofColour x1 x2) hc hm := by
  unfold RP f7_ofColour f7_ofColour_e f8_ofColour f8_ofColour_e f8_ofColour_j60
  rw [f7_isColour_c, f8_isColour_b, bsm, bsm]
  dsimp only
  cases e1 : inC x1 1 6
  · rw [bF, bF]
    exact ⟨_, rfl, rfl⟩
  · rw [bT, bT]
    obtain ⟨c, c1, c2, rfl⟩ := inC_of e1 (by omega)
    by_cases z0 : x2 = 0
    · rw [if_pos z0, if_pos z0, f5_funnel_g hC (by omega), bsm, k_11, nI_add, gd _ (by omega) (by omega), tn_nI (by omega), hM.fun c1 c2]
      exact ⟨_, rfl, rfl⟩
    · rw [if_neg z0, if_neg z0]
      by_cases z1 : x2 = 1
      · rw [if_pos z1, if_pos z1, f5_holderOf_g hC hI c2, f8_holder_g hM hI c2, bsm, bsm]
        exact ⟨_, rfl, rfl⟩
      · rw [if_neg z1, if_neg z1]
        by_cases z2 : x2 = 2
        · rw [if_pos z2, if_pos z2, C_tal hC hI k_0 rfl k_m1 k_m1 (by omega) (by omega) (by omega) (by omega), z2, k_2, f8_ofAll_g hM hI (by omega) (by omega), bsm, bsm, oa_2 g c (by omega)]
          exact ⟨_, rfl, rfl⟩
        · rw [if_neg z2, if_neg z2]
          by_cases z3 : x2 = 3
          · rw [if_pos z3, if_pos z3, C_tal hC hI k_4 rfl k_m1 k_m1 (by omega) (by omega) (by omega) (by omega), z3, k_3, f8_ofAll_g hM hI (by omega) (by omega), bsm, bsm, oa_3 g c]
            exact ⟨_, rfl, rfl⟩
          · rw [if_neg z3, if_neg z3]
            by_cases z4 : x2 = 4
            · rw [if_pos z4, if_pos z4, C_tal hC hI k_5 rfl k_m1 k_m1 (by omega) (by omega) (by omega) (by omega), z4, k_4, f8_ofAll_g hM hI (by omega) (by omega), bsm, bsm, oa_4 g c (by omega)]
              exact ⟨_, rfl, rfl⟩
            · rw [if_neg z4, if_neg z4]
              exact ⟨_, rfl, rfl⟩
end S20
