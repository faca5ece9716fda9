/-! the class's looks, one by one -/
section S41
variable {h hc : Hp} {s : St} {g : GS}
theorem t3 : (true && true && true) = true := rfl
theorem at_0 (hC : CR h 1 g) {q r p : Nat} (hq : q < 4) (hr : r < 5) (hp : p < 8) : f7_at (nI q) (nI r) (nI p) 0 h = some (nI (co g q r p), h) := by
  unfold f7_at f7_at_e
  rw [f7_isPlace_b, bsm, inR_nI hq (by omega), inR_nI hr (by omega), inR_nI hp (by omega), t3]
  dsimp only
  rw [bT, if_pos rfl, f5_colour_g hC hq hr hp, bsm]
theorem at_1 (hC : CR h 1 g) {q r p : Nat} (hq : q < 4) (hr : r < 5) (hp : p < 8) : f7_at (nI q) (nI r) (nI p) 1 h = some (nI (gr g q r p), h) := by
  unfold f7_at f7_at_e
  rw [f7_isPlace_b, bsm, inR_nI hq (by omega), inR_nI hr (by omega), inR_nI hp (by omega), t3]
  dsimp only
  rw [bT, if_neg (by decide), if_pos rfl, f5_grains_g hC hq hr hp, bsm]
theorem at_2 (hC : CR h 1 g) (hI : IV g) {q r p : Nat} (hq : q < 4) (hr : r < 5) (hp : p < 8) : f7_at (nI q) (nI r) (nI p) 2 h = some (nI (wn g q r p), h) := by
  unfold f7_at f7_at_e
  rw [f7_isPlace_b, bsm, inR_nI hq (by omega), inR_nI hr (by omega), inR_nI hp (by omega), t3]
  dsimp only
  rw [bT, if_neg (by decide), if_neg (by decide), if_pos rfl, f5_wanted_g hC hI hq hr hp, bsm]
theorem at_3 (hC : CR h 1 g) (hI : IV g) {q r p : Nat} (hq : q < 4) (hr : r < 5) (hp : p < 8) : f7_at (nI q) (nI r) (nI p) 3 h = some (bI (rt g q r p), h) := by
  unfold f7_at f7_at_e
  rw [f7_isPlace_b, bsm, inR_nI hq (by omega), inR_nI hr (by omega), inR_nI hp (by omega), t3]
  dsimp only
  rw [bT, if_neg (by decide), if_neg (by decide), if_neg (by decide), if_pos rfl, f5_isRight_g hC hI hq hr hp, bsm]
  dsimp only
  rw [f7_bit_b, bsm]
theorem at_4 (hC : CR h 1 g) (hI : IV g) {q r p : Nat} (hq : q < 4) (hr : r < 5) (hp : p < 8) : f7_at (nI q) (nI r) (nI p) 4 h = some (nI (pp g q p), h) := by
  unfold f7_at f7_at_e
  rw [f7_isPlace_b, bsm, inR_nI hq (by omega), inR_nI hr (by omega), inR_nI hp (by omega), t3]
  dsimp only
  rw [bT, if_neg (by decide), if_neg (by decide), if_neg (by decide), if_neg (by decide), if_pos rfl, f5_patternPlace_g hC hI hq hp, bsm]
theorem rg_0 (hC : CR h 1 g) (hI : IV g) {r : Nat} (hr : r < 5) : f7_ofRing (nI r) 0 h = some (bI (decide (r < g 19)), h) := by
  unfold f7_ofRing f7_ofRing_e
  rw [f7_isRing_b, bsm, inR_nI hr (by omega)]
  dsimp only
  rw [bT, if_pos rfl, f5_isClosed_g hC hI hr, bsm]
  dsimp only
  rw [f7_bit_b, bsm]
theorem rg_1 (hC : CR h 1 g) (hI : IV g) {r : Nat} (hr : r < 5) : f7_ofRing (nI r) 1 h = some (bI (decide (g (3 + r) ≠ 4294967295)), h) := by
  unfold f7_ofRing f7_ofRing_e
  rw [f7_isRing_b, bsm, inR_nI hr (by omega)]
  dsimp only
  rw [bT, if_neg (by decide), if_pos rfl, f5_hasPattern_g hC hI hr, bsm]
  dsimp only
  rw [f7_bit_b, bsm]
theorem rg_2 (hC : CR h 1 g) (hI : IV g) {r : Nat} (hr : r < 5) : f7_ofRing (nI r) 2 h = some (bI (wh g r), h) := by
  unfold f7_ofRing f7_ofRing_e
  rw [f7_isRing_b, bsm, inR_nI hr (by omega)]
  dsimp only
  rw [bT, if_neg (by decide), if_neg (by decide), if_pos rfl, f6_isWhole_g hC hI hr, bsm]
  dsimp only
  rw [f7_bit_b, bsm]
theorem rg_3 (hC : CR h 1 g) (hI : IV g) {r : Nat} (hr : r < 5) : f7_ofRing (nI r) 3 h = some (bts (ul g r) 0 8 0, h) := by
  unfold f7_ofRing f7_ofRing_e
  rw [f7_isRing_b, bsm, inR_nI hr (by omega)]
  dsimp only
  rw [bT, if_neg (by decide), if_neg (by decide), if_neg (by decide), if_pos rfl, f6_unlikePlaces_g hC hI hr, bsm]
theorem rg_4 (hC : CR h 1 g) (hI : IV g) {r : Nat} (hr : r < 5) : f7_ofRing (nI r) 4 h = some (nI (tal g 2 4294967295 4294967295 r), h) := by
  unfold f7_ofRing f7_ofRing_e
  rw [f7_isRing_b, bsm, inR_nI hr (by omega)]
  dsimp only
  rw [bT, if_neg (by decide), if_neg (by decide), if_neg (by decide), if_neg (by decide), if_pos rfl, C_tal hC hI k_2 k_m1 k_m1 rfl (by omega) (by omega) (by omega) (by omega), bsm]
theorem rg_5 (hC : CR h 1 g) (hI : IV g) {r : Nat} (hr : r < 5) : f7_ofRing (nI r) 5 h = some (nI (tal g 0 4294967295 4294967295 r), h) := by
  unfold f7_ofRing f7_ofRing_e
  rw [f7_isRing_b, bsm, inR_nI hr (by omega)]
  dsimp only
  rw [bT, if_neg (by decide), if_neg (by decide), if_neg (by decide), if_neg (by decide), if_neg (by decide), if_pos rfl, C_tal hC hI k_0 k_m1 k_m1 rfl (by omega) (by omega) (by omega) (by omega), bsm]
theorem rg_6 (hC : CR h 1 g) (hI : IV g) {r : Nat} (hr : r < 5) : f7_ofRing (nI r) 6 h = some (nI (tal g 5 4294967295 4294967295 r), h) := by
  unfold f7_ofRing f7_ofRing_e
  rw [f7_isRing_b, bsm, inR_nI hr (by omega)]
  dsimp only
  rw [bT, if_neg (by decide), if_neg (by decide), if_neg (by decide), if_neg (by decide), if_neg (by decide), if_neg (by decide), if_pos rfl, C_tal hC hI k_5 k_m1 k_m1 rfl (by omega) (by omega) (by omega) (by omega), bsm]
theorem oq_0 (hC : CR h 1 g) (hI : IV g) {q : Nat} (hq : q < 4) : f7_ofQuarter (nI q) 0 h = some (nI (tal g 0 4294967295 q 4294967295), h) := by
  unfold f7_ofQuarter f7_ofQuarter_e
  rw [f7_isQuarter_b, bsm, inR_nI hq (by omega)]
  dsimp only
  rw [bT, if_pos rfl, C_tal hC hI k_0 k_m1 rfl k_m1 (by omega) (by omega) (by omega) (by omega), bsm]
theorem oq_1 (hC : CR h 1 g) (hI : IV g) {q : Nat} (hq : q < 4) : f7_ofQuarter (nI q) 1 h = some (nI (tal g 3 4294967295 q 4294967295), h) := by
  unfold f7_ofQuarter f7_ofQuarter_e
  rw [f7_isQuarter_b, bsm, inR_nI hq (by omega)]
  dsimp only
  rw [bT, if_neg (by decide), if_pos rfl, C_tal hC hI k_3 k_m1 rfl k_m1 (by omega) (by omega) (by omega) (by omega), bsm]
theorem oq_2 (hC : CR h 1 g) {q : Nat} (hq : q < 4) : f7_ofQuarter (nI q) 2 h = some (nI (g (15 + q)), h) := by
  unfold f7_ofQuarter f7_ofQuarter_e
  rw [f7_isQuarter_b, bsm, inR_nI hq (by omega)]
  dsimp only
  rw [bT, if_neg (by decide), if_neg (by decide), if_pos rfl, f5_heldBy_g hC hq, bsm]
theorem oq_3 (hC : CR h 1 g) (hI : IV g) {q : Nat} (hq : q < 4) : f7_ofQuarter (nI q) 3 h = some (bI (decide (g 2 = 1 ∧ q % 2 = 1)), h) := by
  unfold f7_ofQuarter f7_ofQuarter_e
  rw [f7_isQuarter_b, bsm, inR_nI hq (by omega)]
  dsimp only
  rw [bT, if_neg (by decide), if_neg (by decide), if_neg (by decide), if_pos rfl, f5_isMirrored_g hC hI hq, bsm]
  dsimp only
  rw [f7_bit_b, bsm]
theorem oq_c (hC : CR h 1 g) (hI : IV g) {q c : Nat} (hq : q < 4) (c1 : 1 ≤ c) (c2 : c ≤ 6) : f7_ofQuarter (nI q) (4 + nI c) h = some (nI (tal g 0 c q 4294967295), h) := by
  have ex : 4 + nI c = nI (4 + c) := by rw [k_4, nI_add]
  have es : nI (4 + c) - 4 = nI c := by rw [k_4, nI_subU (by omega), Nat.add_sub_cancel_left]
  have no : ∀ w : Nat, w ≤ 4 → ¬ nI (4 + c) = nI w := by
    intro w hw
    rw [nI_eqU (by omega) (by omega)]
    omega
  unfold f7_ofQuarter f7_ofQuarter_e
  rw [f7_isQuarter_b, bsm, inR_nI hq (by omega), ex]
  dsimp only
  rw [bT, if_neg (by rw [k_0]; exact no 0 (by omega)), if_neg (by rw [k_1]; exact no 1 (by omega)), if_neg (by rw [k_2]; exact no 2 (by omega)), if_neg (by rw [k_3]; exact no 3 (by omega)), if_neg (by rw [k_4]; exact no 4 (by omega)), es, f7_isColour_c, bsm, inC_nI c1 c2 (by omega)]
  dsimp only
  rw [bT, C_tal hC hI k_0 rfl rfl k_m1 (by omega) (by omega) (by omega) (by omega), bsm]
theorem oc_0 (hC : CR h 1 g) {c : Nat} (c1 : 1 ≤ c) (c2 : c ≤ 6) : f7_ofColour (nI c) 0 h = some (nI (g (8 + c)), h) := by
  unfold f7_ofColour f7_ofColour_e
  rw [f7_isColour_c, bsm, inC_nI c1 c2 (by omega)]
  dsimp only
  rw [bT, if_pos rfl, f5_funnel_g hC (by omega), bsm]
theorem oc_1 (hC : CR h 1 g) (hI : IV g) {c : Nat} (c1 : 1 ≤ c) (c2 : c ≤ 6) : f7_ofColour (nI c) 1 h = some (if hd g c = 4 then -6 else nI (hd g c), h) := by
  unfold f7_ofColour f7_ofColour_e
  rw [f7_isColour_c, bsm, inC_nI c1 c2 (by omega)]
  dsimp only
  rw [bT, if_neg (by decide), if_pos rfl, f5_holderOf_g hC hI c2, bsm]
theorem oc_2 (hC : CR h 1 g) (hI : IV g) {c : Nat} (c1 : 1 ≤ c) (c2 : c ≤ 6) : f7_ofColour (nI c) 2 h = some (nI (tal g 0 c 4294967295 4294967295), h) := by
  unfold f7_ofColour f7_ofColour_e
  rw [f7_isColour_c, bsm, inC_nI c1 c2 (by omega)]
  dsimp only
  rw [bT, if_neg (by decide), if_neg (by decide), if_pos rfl, C_tal hC hI k_0 rfl k_m1 k_m1 (by omega) (by omega) (by omega) (by omega), bsm]
theorem oc_4 (hC : CR h 1 g) (hI : IV g) {c : Nat} (c1 : 1 ≤ c) (c2 : c ≤ 6) : f7_ofColour (nI c) 4 h = some (nI (tal g 5 c 4294967295 4294967295), h) := by
  unfold f7_ofColour f7_ofColour_e
  rw [f7_isColour_c, bsm, inC_nI c1 c2 (by omega)]
  dsimp only
  rw [bT, if_neg (by decide), if_neg (by decide), if_neg (by decide), if_neg (by decide), if_pos rfl, C_tal hC hI k_5 rfl k_m1 k_m1 (by omega) (by omega) (by omega) (by omega), bsm]
theorem ct_0 (hC : CR h 1 g) : f7_count 0 h = some (nI (g 19), h) := by
  unfold f7_count f7_count_e
  rw [if_pos rfl, k_19, f5_number_g hC (by omega), bsm]
theorem ct_2 (hC : CR h 1 g) : f7_count 2 h = some (nI (g 22), h) := by
  unfold f7_count f7_count_e
  rw [if_neg (by decide), if_neg (by decide), if_pos rfl, k_22, f5_number_g hC (by omega), bsm]
theorem ct_3 (hC : CR h 1 g) : f7_count 3 h = some (nI (g 23), h) := by
  unfold f7_count f7_count_e
  rw [if_neg (by decide), if_neg (by decide), if_neg (by decide), if_pos rfl, k_23, f5_number_g hC (by omega), bsm]
theorem ct_4 (hC : CR h 1 g) (hI : IV g) : f7_count 4 h = some (nI (tal g 0 4294967295 4294967295 4294967295), h) := by
  unfold f7_count f7_count_e
  rw [if_neg (by decide), if_neg (by decide), if_neg (by decide), if_neg (by decide), if_pos rfl, C_tal hC hI k_0 k_m1 k_m1 k_m1 (by omega) (by omega) (by omega) (by omega), bsm]
theorem ct_5 (hC : CR h 1 g) (hI : IV g) : f7_count 5 h = some (bts (wh g) 0 5 0, h) := by
  unfold f7_count f7_count_e
  rw [if_neg (by decide), if_neg (by decide), if_neg (by decide), if_neg (by decide), if_neg (by decide), if_pos rfl, f6_wholeRings_g hC hI, bsm]
theorem ct_7 (hC : CR h 1 g) : f7_count 7 h = some (nI (g 0), h) := by
  unfold f7_count f7_count_e
  rw [if_neg (by decide), if_neg (by decide), if_neg (by decide), if_neg (by decide), if_neg (by decide), if_neg (by decide), if_neg (by decide), if_pos rfl, k_0, f5_setting_g hC (by omega), bsm]
theorem ct_8 (hC : CR h 1 g) : f7_count 8 h = some (nI (g 1), h) := by
  unfold f7_count f7_count_e
  rw [if_neg (by decide), if_neg (by decide), if_neg (by decide), if_neg (by decide), if_neg (by decide), if_neg (by decide), if_neg (by decide), if_neg (by decide), if_pos rfl, k_1, f5_setting_g hC (by omega), bsm]
theorem ct_9 (hC : CR h 1 g) : f7_count 9 h = some (nI (g 2), h) := by
  unfold f7_count f7_count_e
  rw [if_neg (by decide), if_neg (by decide), if_neg (by decide), if_neg (by decide), if_neg (by decide), if_neg (by decide), if_neg (by decide), if_neg (by decide), if_neg (by decide), if_pos rfl, k_2, f5_setting_g hC (by omega), bsm]
theorem ct_s (hC : CR h 1 g) {i : Nat} (hi : i < 3) : f7_count (7 + nI i) h = some (nI (g i), h) := by
  rcases (show i = 0 ∨ i = 1 ∨ i = 2 by omega) with rfl | rfl | rfl
  · exact ct_7 hC
  · exact ct_8 hC
  · exact ct_9 hC
theorem bst_lt (f : Nat → Nat) : ∀ (d q l : Nat), q + d = 4 → l < 4 → bst f q d l < 4 := by
  intro d
  induction d with
  | zero => intro q l _ hl; exact hl
  | succ d ih =>
    intro q l hk hl
    have es : bst f q (d + 1) l = bst f (q + 1) d (if f q ≤ f l then l else q) := rfl
    rw [es]
    refine ih (q + 1) _ (by omega) ?_
    split <;> omega
theorem bs_g (hC : CR hc 1 g) (hI : IV g) : ∃ b, b < 4 ∧ f7_best hc = some (nI b, hc) := by
  have fb : ∀ q, q < 4 → (fun q => tal g 1 4294967295 q 4294967295) q ≤ 40 := fun q hq => right_le g hq
  have fc : ∀ q, q < 4 → f6_tally 1 (-1) (nI q) (-1) hc = some (nI ((fun q => tal g 1 4294967295 q 4294967295) q), hc) := fun q hq => C_tal hC hI k_1 k_m1 rfl k_m1 (by omega) (by omega) (by omega) (by omega)
  generalize (fun q => tal g 1 4294967295 q 4294967295) = f at fb fc
  have lc : ∀ (d q n l : Nat), q + d = 4 → d < n → l < 4 → f7_best_L6 n (nI l) (nI (f l)) (nI q) hc = some (nI (bst f q d l), hc) := by
    intro d
    induction d with
    | zero =>
      intro q n l hk hn hl
      obtain ⟨n, rfl⟩ : ∃ m, n = m + 1 := ⟨n - 1, by omega⟩
      rw [f7_best_L6_s]
      unfold f7_best_B6 bst
      rw [if_pos (by rw [k_4, nI_leU (by omega) (by omega)]; omega)]
    | succ d ih =>
      intro q n l hk hn hl
      obtain ⟨n, rfl⟩ : ∃ m, n = m + 1 := ⟨n - 1, by omega⟩
      have a1 := fb l hl
      have a2 := fb q (by omega)
      have e1 : nI q + 1 = nI (q + 1) := by rw [k_1, nI_add]
      have es : bst f q (d + 1) l = bst f (q + 1) d (if f q ≤ f l then l else q) := rfl
      rw [f7_best_L6_s]
      unfold f7_best_B6
      rw [es, if_neg (by rw [k_4, nI_leU (by omega) (by omega)]; omega), fc q (by omega), bsm, e1]
      dsimp only
      by_cases z : f q ≤ f l
      · rw [if_pos (by rw [nI_leU (by omega) (by omega)]; exact z), if_pos z, ih (q + 1) n l (by omega) (by omega) hl]
      · rw [if_neg (by rw [nI_leU (by omega) (by omega)]; exact z), if_neg z, ih (q + 1) n q (by omega) (by omega) (by omega)]
  refine ⟨bst f 1 3 0, bst_lt f 3 1 0 (by omega) (by omega), ?_⟩
  have a0 := fb 0 (by omega)
  obtain ⟨n, hn⟩ := FU_is 4 (by omega)
  unfold f7_best f7_best_e
  rw [hn, ← Nat.add_assoc, f7_best_L6_s]
  unfold f7_best_B6
  have e1 : f6_tally 1 (-1) 0 (-1) hc = some (nI (f 0), hc) := by
    have := fc 0 (by omega)
    rw [← k_0] at this
    exact this
  rw [if_neg (by decide), e1, bsm]
  dsimp only
  have e2 : (0 : Int32) + 1 = nI 1 := by decide +kernel
  rw [e2]
  by_cases z : f 0 ≤ 0
  · rw [if_pos (by rw [k_0, nI_leU (by omega) (by omega)]; exact z)]
    have := lc 3 1 (n + 4) 0 (by omega) (by omega) (by omega)
    rw [show f 0 = 0 by omega, ← k_0] at this
    exact this
  · rw [if_neg (by rw [k_0, nI_leU (by omega) (by omega)]; exact z)]
    have := lc 3 1 (n + 4) 0 (by omega) (by omega) (by omega)
    rw [← k_0] at this
    exact this
theorem lk_g (hC : CR hc 1 g) (hI : IV g) : f7_lacking hc = some (bts (lkF g) 1 6 0, hc) := by
  have lc : ∀ (d c n : Nat) (a : Int32), c + d = 7 → 1 ≤ c → d < n → f7_lacking_L4 n a (nI c) hc = some (bts (lkF g) c d a, hc) := by
    intro d
    induction d with
    | zero =>
      intro c n a hk h1 hn
      obtain ⟨n, rfl⟩ : ∃ m, n = m + 1 := ⟨n - 1, by omega⟩
      rw [f7_lacking_L4_s]
      unfold f7_lacking_B4 bts
      rw [if_pos (by rw [k_6, nI_ltU (by omega) (by omega)]; omega)]
    | succ d ih =>
      intro c n a hk h1 hn
      obtain ⟨n, rfl⟩ : ∃ m, n = m + 1 := ⟨n - 1, by omega⟩
      have a1 := miss_le hI c
      have a2 := fb hI h1 (show c ≤ 6 by omega)
      have e1 : nI c + 1 = nI (c + 1) := by rw [k_1, nI_add]
      have es : bts (lkF g) c (d + 1) a = bts (lkF g) (c + 1) d (if lkF g c = true then a ||| (1 <<< (nI c &&& 31)) else a) := rfl
      rw [f7_lacking_L4_s]
      unfold f7_lacking_B4
      rw [es, if_neg (by rw [k_6, nI_ltU (by omega) (by omega)]; omega), C_tal hC hI k_5 rfl k_m1 k_m1 (by omega) (by omega) (by omega) (by omega), bsm, e1]
      dsimp only
      rw [f5_funnel_g hC (by omega), bsm]
      dsimp only
      unfold lkF
      by_cases z : tal g 5 c 4294967295 4294967295 ≤ g (8 + c)
      · rw [if_pos (by rw [nI_leU (by omega) (by omega)]; exact z), decide_eq_false (by omega), if_neg (by decide)]
        exact ih (c + 1) n _ (by omega) (by omega) (by omega)
      · rw [if_neg (by rw [nI_leU (by omega) (by omega)]; exact z), decide_eq_true (by omega), if_pos rfl, bsm]
        exact ih (c + 1) n _ (by omega) (by omega) (by omega)
  unfold f7_lacking f7_lacking_e
  have := lc 6 1 FU 0 (by omega) (by omega) (by unfold FU; omega)
  rw [← k_1] at this
  exact this
def nB (g : GS) : Nat := (ndF g (32 * g 19) (160 - 32 * g 19) 4294967290 (g 0)).1
theorem ndV (hC : CR hc 1 g) (hI : IV g) {i : Nat} (hi : i < 5) : f7_needed (nI i) hc = some (if nB g = 4294967290 then -6 else if i = 0 then nI (nB g / 8 % 4) else if i = 1 then nI (nB g / 32) else if i = 2 then nI (nB g % 8) else if i = 3 then nI (wn g (nB g / 8 % 4) (nB g / 32) (nB g % 8)) else nI (ms g (nB g / 8 % 4) (nB g / 32) (nB g % 8)), hc) := by
  have h19 : g 19 ≤ 5 := hI.2.2.2.2.2.2.1
  unfold f7_needed f7_needed_e
  rw [if_neg (nI_pos (by omega)), if_pos (by rw [k_4, nI_leU (by omega) (by omega)]; omega), f6_neediest_g hC hI, bsm]
  dsimp only
  have hP := ndF_P g (160 - 32 * g 19) (32 * g 19) 4294967290 (g 0) (by omega) (Or.inl rfl)
  unfold nB
  generalize ndF g (32 * g 19) (160 - 32 * g 19) 4294967290 (g 0) = R at hP ⊢
  obtain ⟨b, w⟩ := R
  dsimp only at hP ⊢
  rcases hP with rfl | ⟨p1, p2, p3⟩
  · rw [if_pos (by rw [k_m6]), if_pos rfl]
  · have hq : b / 8 % 4 < 4 := by omega
    have hr : b / 32 < 5 := by omega
    have hp : b % 8 < 8 := by omega
    rw [if_neg (show ¬ (nI b = -6) by rw [k_m6, nI_eqU (by omega) (by omega)]; omega), if_neg (show ¬ b = 4294967290 by omega), md8 (by omega), dv8 (by omega), k_4, mdN (by omega) (by omega) (by omega), nI_divU (by omega) (by omega) (by omega), show b / 8 / 4 = b / 32 by omega, bsm]
    rw [f5_wanted_g hC hI hq hr hp, f5_missing_g hC hI hq hr hp, bsm, bsm]
    dsimp only
    rcases (show i = 0 ∨ i = 1 ∨ i = 2 ∨ i = 3 ∨ i = 4 by omega) with rfl | rfl | rfl | rfl | rfl
    · rw [if_pos (by decide), if_pos rfl]
    · rw [if_neg (by decide), if_pos (by decide), if_neg (by omega), if_pos rfl]
    · rw [if_neg (by decide), if_neg (by decide), if_pos (by decide), if_neg (by omega), if_neg (by omega), if_pos rfl]
    · rw [if_neg (by decide), if_neg (by decide), if_neg (by decide), if_pos (by decide), if_neg (by omega), if_neg (by omega), if_neg (by omega), if_pos rfl]
    · rw [if_neg (by decide), if_neg (by decide), if_neg (by decide), if_neg (by decide), if_neg (by omega), if_neg (by omega), if_neg (by omega), if_neg (by omega)]
end S41
