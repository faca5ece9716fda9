/-! what there is: sets, looks -/
def bts (f : Nat → Bool) : Nat → Nat → Int32 → Int32
  | _, 0, a => a
  | i, d + 1, a => bts f (i + 1) d (if f i = true then a ||| (1 <<< (nI i &&& 31)) else a)
theorem or0 (x : Int32) : x ||| 0 = x := by
  apply Int32.toBitVec_inj.mp
  show x.toBitVec ||| (0 : Int32).toBitVec = x.toBitVec
  exact BitVec.or_zero
theorem orr (x y : Int32) : (x ||| y) ||| y = x ||| y := by
  apply Int32.toBitVec_inj.mp
  show (x.toBitVec ||| y.toBitVec) ||| y.toBitVec = x.toBitVec ||| y.toBitVec
  rw [BitVec.or_assoc, BitVec.or_self]
def ul (g : GS) (r p : Nat) : Bool := !(al (fun q => decide (co g q r (pp g q p) = co g 0 r p)) 1 3)
def exS (g : GS) (q : Nat) : Bool := !(al (fun t => !(decide (swq t = q))) 0 (g 20))
section S19
variable {h : Hp} {g : GS}
theorem f6_wholeRings_g (hC : CR h 1 g) (hI : IV g) : f6_wholeRings h = some (bts (wh g) 0 5 0, h) := by
  have loop : ∀ (d k n : Nat) (a : Int32), k + d = 5 → d < n → f6_wholeRings_L4 n a (nI k) h = some (bts (wh g) k d a, h) := by
    intro d
    induction d with
    | zero =>
      intro k n a hk hn
      obtain ⟨n, rfl⟩ : ∃ m, n = m + 1 := ⟨n - 1, by omega⟩
      rw [f6_wholeRings_L4_s]
      unfold f6_wholeRings_B4 bts
      rw [if_pos (by rw [k_5, nI_leU (by omega) (by omega)]; omega)]
    | succ d ih =>
      intro k n a hk hn
      obtain ⟨n, rfl⟩ : ∃ m, n = m + 1 := ⟨n - 1, by omega⟩
      have es : bts (wh g) k (d + 1) a = bts (wh g) (k + 1) d (if wh g k = true then a ||| (1 <<< (nI k &&& 31)) else a) := rfl
      rw [f6_wholeRings_L4_s]
      unfold f6_wholeRings_B4
      rw [es, if_neg (by rw [k_5, nI_leU (by omega) (by omega)]; omega), f6_isWhole_g hC hI (by omega), bsm]
      dsimp only
      have e1 : nI k + 1 = nI (k + 1) := by rw [k_1, nI_add]
      rw [e1]
      cases wh g k
      · rw [bF, if_neg (by decide), ih (k + 1) n _ (by omega) (by omega)]
      · rw [bT, if_pos rfl, bsm, ih (k + 1) n _ (by omega) (by omega)]
  unfold f6_wholeRings f6_wholeRings_e
  have := loop 5 0 FU 0 (by omega) (by unfold FU; omega)
  rw [← k_0] at this
  exact this
theorem f6_isUnlike_g (hC : CR h 1 g) (hI : IV g) {r p : Nat} (hr : r < 5) (hp : p < 8) : f6_isUnlike (nI r) (nI p) h = some (bI (ul g r p), h) := by
  have loop : ∀ (d q n : Nat), q + d = 4 → d < n → f6_isUnlike_L11 n (nI r) (nI p) (nI (co g 0 r p)) (nI q) h = some (bI (!(al (fun q => decide (co g q r (pp g q p) = co g 0 r p)) q d)), h) := by
    intro d
    induction d with
    | zero =>
      intro k n hk hn
      obtain ⟨n, rfl⟩ : ∃ m, n = m + 1 := ⟨n - 1, by omega⟩
      rw [f6_isUnlike_L11_s]
      unfold f6_isUnlike_B11 al
      rw [if_pos (by rw [k_4, nI_leU (by omega) (by omega)]; omega)]
      rfl
    | succ d ih =>
      intro k n hk hn
      obtain ⟨n, rfl⟩ : ∃ m, n = m + 1 := ⟨n - 1, by omega⟩
      have hpp := pp_lt (g := g) (q := k) hp
      have b1 := hI.2.2.2.2.2.2.2.2 k r (pp g k p) (by omega) hr hpp
      have b2 := hI.2.2.2.2.2.2.2.2 0 r p (by omega) hr hp
      rw [f6_isUnlike_L11_s]
      unfold f6_isUnlike_B11 al
      rw [if_neg (by rw [k_4, nI_leU (by omega) (by omega)]; omega), f5_patternPlace_g hC hI (by omega) hp, bsm]
      dsimp only
      rw [f5_colour_g hC (by omega) hr hpp, bsm]
      dsimp only
      by_cases z : co g k r (pp g k p) = co g 0 r p
      · rw [if_pos (by rw [z]), decide_eq_true z, Bool.true_and, k_1, nI_add, ih (k + 1) n (by omega) (by omega)]
      · rw [if_neg (by rw [nI_eqU (by omega) (by omega)]; exact z), decide_eq_false z, Bool.false_and]
        rfl
  unfold f6_isUnlike f6_isUnlike_e ul
  rw [k_0, f5_colour_g hC (by omega) hr hp, bsm]
  dsimp only
  rw [k_1, loop 3 1 FU (by omega) (by unfold FU; omega)]
theorem f6_unlikePlaces_g (hC : CR h 1 g) (hI : IV g) {r : Nat} (hr : r < 5) : f6_unlikePlaces (nI r) h = some (bts (ul g r) 0 8 0, h) := by
  have loop : ∀ (d k n : Nat) (a : Int32), k + d = 8 → d < n → f6_unlikePlaces_L4 n (nI r) a (nI k) h = some (bts (ul g r) k d a, h) := by
    intro d
    induction d with
    | zero =>
      intro k n a hk hn
      obtain ⟨n, rfl⟩ : ∃ m, n = m + 1 := ⟨n - 1, by omega⟩
      rw [f6_unlikePlaces_L4_s]
      unfold f6_unlikePlaces_B4 bts
      rw [if_pos (by rw [k_8, nI_leU (by omega) (by omega)]; omega)]
    | succ d ih =>
      intro k n a hk hn
      obtain ⟨n, rfl⟩ : ∃ m, n = m + 1 := ⟨n - 1, by omega⟩
      have es : bts (ul g r) k (d + 1) a = bts (ul g r) (k + 1) d (if ul g r k = true then a ||| (1 <<< (nI k &&& 31)) else a) := rfl
      rw [f6_unlikePlaces_L4_s]
      unfold f6_unlikePlaces_B4
      rw [es, if_neg (by rw [k_8, nI_leU (by omega) (by omega)]; omega), f6_isUnlike_g hC hI hr (by omega), bsm]
      dsimp only
      have e1 : nI k + 1 = nI (k + 1) := by rw [k_1, nI_add]
      rw [e1]
      cases ul g r k
      · rw [bF, if_neg (by decide), ih (k + 1) n _ (by omega) (by omega)]
      · rw [bT, if_pos rfl, bsm, ih (k + 1) n _ (by omega) (by omega)]
  unfold f6_unlikePlaces f6_unlikePlaces_e
  have := loop 8 0 FU 0 (by omega) (by unfold FU; omega)
  rw [← k_0] at this
  exact this
theorem pp0 (g : GS) (p : Nat) : pp g 0 p = p := by unfold pp; rw [if_neg (by omega)]
theorem f5_isSwept_g (hC : CR h 1 g) (hI : IV g) {q : Nat} (hq : q < 4) : f5_isSwept 1 (nI q) h = some (bI (exS g q), h) := by
  have h20 : g 20 ≤ 3 := hI.2.2.2.2.2.2.2.1
  have loop : ∀ (d t n : Nat), t + d = g 20 → d < n → f5_isSwept_L2 1 n (nI q) (nI t) h = some (bI (!(al (fun t => !(decide (swq t = q))) t d)), h) := by
    intro d
    induction d with
    | zero =>
      intro k n hk hn
      obtain ⟨n, rfl⟩ : ∃ m, n = m + 1 := ⟨n - 1, by omega⟩
      rw [f5_isSwept_L2_s]
      unfold f5_isSwept_B2 al
      rw [if_neg (by rw [k_4, nI_leU (by omega) (by omega)]; omega), k_20, f5_number_g hC (by omega), bsm]
      dsimp only
      rw [if_pos (by rw [nI_leU (by omega) (by omega)]; omega)]
      rfl
    | succ d ih =>
      intro k n hk hn
      obtain ⟨n, rfl⟩ : ∃ m, n = m + 1 := ⟨n - 1, by omega⟩
      have hs := swq_lt (t := k) (by omega)
      rw [f5_isSwept_L2_s]
      unfold f5_isSwept_B2 al
      rw [if_neg (by rw [k_4, nI_leU (by omega) (by omega)]; omega), k_20, f5_number_g hC (by omega), bsm]
      dsimp only
      rw [if_neg (by rw [nI_leU (by omega) (by omega)]; omega), f1_quarterOfTurn_g (by omega), bsm]
      dsimp only
      by_cases z : swq k = q
      · rw [if_pos (by rw [z]), decide_eq_true z]
        rfl
      · rw [if_neg (by rw [nI_eqU (by omega) (by omega)]; exact z), decide_eq_false z, Bool.not_false, Bool.true_and, k_1, nI_add, ih (k + 1) n (by omega) (by omega)]
  unfold f5_isSwept f5_isSwept_e exS
  rw [k_0, loop (g 20) 0 FU (by omega) (by unfold FU; omega)]
theorem f5_isMirrored_g (hC : CR h 1 g) (hI : IV g) {q : Nat} (hq : q < 4) : f5_isMirrored 1 (nI q) h = some (bI (decide (g 2 = 1 ∧ q % 2 = 1)), h) := by
  unfold f5_isMirrored f5_isMirrored_e
  rw [k_0, f5_patternPlace_g hC hI hq (by omega), bsm]
  dsimp only
  unfold pp
  by_cases z : g 2 = 1 ∧ q % 2 = 1
  · rw [if_pos z, if_neg (by rw [nI_eqU (by omega) (by omega)]; omega), decide_eq_true z]; rfl
  · rw [if_neg z, if_pos rfl, decide_eq_false z]; rfl
end S19
