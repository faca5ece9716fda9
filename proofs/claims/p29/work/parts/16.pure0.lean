theorem k_0 : (0 : Int32) = nI 0 := by decide +kernel
theorem k_1 : (1 : Int32) = nI 1 := by decide +kernel
theorem k_2 : (2 : Int32) = nI 2 := by decide +kernel
theorem k_3 : (3 : Int32) = nI 3 := by decide +kernel
theorem k_4 : (4 : Int32) = nI 4 := by decide +kernel
theorem k_5 : (5 : Int32) = nI 5 := by decide +kernel
theorem k_6 : (6 : Int32) = nI 6 := by decide +kernel
theorem k_7 : (7 : Int32) = nI 7 := by decide +kernel
theorem k_8 : (8 : Int32) = nI 8 := by decide +kernel
theorem k_11 : (11 : Int32) = nI 11 := by decide +kernel
theorem k_12 : (12 : Int32) = nI 12 := by decide +kernel
theorem k_13 : (13 : Int32) = nI 13 := by decide +kernel
theorem k_15 : (15 : Int32) = nI 15 := by decide +kernel
theorem k_16 : (16 : Int32) = nI 16 := by decide +kernel
theorem k_18 : (18 : Int32) = nI 18 := by decide +kernel
theorem k_19 : (19 : Int32) = nI 19 := by decide +kernel
theorem k_20 : (20 : Int32) = nI 20 := by decide +kernel
theorem k_21 : (21 : Int32) = nI 21 := by decide +kernel
theorem k_22 : (22 : Int32) = nI 22 := by decide +kernel
theorem k_23 : (23 : Int32) = nI 23 := by decide +kernel
theorem k_24 : (24 : Int32) = nI 24 := by decide +kernel
theorem k_32 : (32 : Int32) = nI 32 := by decide +kernel
theorem k_39 : (39 : Int32) = nI 39 := by decide +kernel
theorem k_40 : (40 : Int32) = nI 40 := by decide +kernel
theorem k_41 : (41 : Int32) = nI 41 := by decide +kernel
theorem k_45 : (45 : Int32) = nI 45 := by decide +kernel
theorem k_48 : (48 : Int32) = nI 48 := by decide +kernel
theorem k_49 : (49 : Int32) = nI 49 := by decide +kernel
theorem k_50 : (50 : Int32) = nI 50 := by decide +kernel
theorem k_54 : (54 : Int32) = nI 54 := by decide +kernel
theorem k_57 : (57 : Int32) = nI 57 := by decide +kernel
theorem k_58 : (58 : Int32) = nI 58 := by decide +kernel
theorem k_59 : (59 : Int32) = nI 59 := by decide +kernel
theorem k_61 : (61 : Int32) = nI 61 := by decide +kernel
theorem k_63 : (63 : Int32) = nI 63 := by decide +kernel
theorem k_67 : (67 : Int32) = nI 67 := by decide +kernel
theorem k_68 : (68 : Int32) = nI 68 := by decide +kernel
theorem k_78 : (78 : Int32) = nI 78 := by decide +kernel
theorem k_79 : (79 : Int32) = nI 79 := by decide +kernel
theorem k_80 : (80 : Int32) = nI 80 := by decide +kernel
theorem k_83 : (83 : Int32) = nI 83 := by decide +kernel
theorem k_98 : (98 : Int32) = nI 98 := by decide +kernel
theorem k_99 : (99 : Int32) = nI 99 := by decide +kernel
theorem k_104 : (104 : Int32) = nI 104 := by decide +kernel
theorem k_112 : (112 : Int32) = nI 112 := by decide +kernel
theorem k_115 : (115 : Int32) = nI 115 := by decide +kernel
theorem k_116 : (116 : Int32) = nI 116 := by decide +kernel
theorem k_125 : (125 : Int32) = nI 125 := by decide +kernel
theorem k_184 : (184 : Int32) = nI 184 := by decide +kernel
theorem k_200 : (200 : Int32) = nI 200 := by decide +kernel
theorem k_210 : (210 : Int32) = nI 210 := by decide +kernel
theorem k_255 : (255 : Int32) = nI 255 := by decide +kernel
theorem k_300 : (300 : Int32) = nI 300 := by decide +kernel
theorem k_344 : (344 : Int32) = nI 344 := by decide +kernel
theorem k_383 : (383 : Int32) = nI 383 := by decide +kernel
theorem k_766 : (766 : Int32) = nI 766 := by decide +kernel
theorem k_1915 : (1915 : Int32) = nI 1915 := by decide +kernel
theorem k_2298 : (2298 : Int32) = nI 2298 := by decide +kernel
theorem k_3096 : (3096 : Int32) = nI 3096 := by decide +kernel
theorem k_9999 : (9999 : Int32) = nI 9999 := by decide +kernel
theorem k_16777215 : (16777215 : Int32) = nI 16777215 := by decide +kernel
theorem k_m1 : (-1 : Int32) = nI 4294967295 := by decide +kernel
theorem k_m6 : (-6 : Int32) = nI 4294967290 := by decide +kernel
theorem nI_eqU {a b : Nat} (ha : a < 4294967296) (hb : b < 4294967296) : nI a = nI b ↔ a = b := by
  refine ⟨fun h => ?_, fun h => by rw [h]⟩
  have h1 := congrArg (fun x : Int32 => x.toBitVec.toNat) h
  rw [pk_tn (by omega), pk_tn (by omega)] at h1
  exact h1
theorem nI_leU {a b : Nat} (ha : a < 2147483648) (hb : b < 2147483648) : nI a ≤ nI b ↔ a ≤ b := nI_leI (by omega) (by omega)
theorem nI_ltU {a b : Nat} (ha : a < 2147483648) (hb : b < 2147483648) : nI a < nI b ↔ a < b := nI_ltI (by omega) (by omega)
theorem nI_subU {a b : Nat} (h : b ≤ a) : nI a - nI b = nI (a - b) := pk_sub h
theorem nI_divU {a d : Nat} (ha : a < 2147483648) (h0 : 0 < d) (hd : d < 2147483648) : nI a / nI d = nI (a / d) := pk_div (by omega) h0 (by omega)
theorem bsm {α β : Type} (a : α) (k : α → Option β) : (some a).bind k = k a := rfl
theorem inB_nI {a n : Nat} (h : a < n) (hn : n < 2147483648) : (inB (nI a) n = true) = True := by
  simp only [eq_iff_iff, iff_true]
  exact decide_eq_true (nI_in h (by omega))
theorem tn_nI {a : Nat} (h : a < 2147483648) : Int32.toNatClampNeg (nI a) = a := nI_clamp (by omega)
def bI (b : Bool) : Int32 := if b then 1 else 0
theorem bI_t : bI true = 1 := rfl
theorem bI_f : bI false = 0 := rfl
theorem rz_0 (h : Hp) : rz 0 h = some (0, h) := rfl
theorem rz_1 (h : Hp) : rz 1 h = some (1, h) := rfl
theorem rz_b (b : Bool) (h : Hp) : rz (bI b) h = some (bI b, h) := by cases b <;> rfl
theorem bI_0 (b : Bool) : (bI b = 0) = (b = false) := by cases b <;> simp [bI]
theorem bI_1 (b : Bool) : (bI b = 1) = (b = true) := by cases b <;> simp [bI]
theorem rz_n0 (h : Hp) : rz (nI 0) h = some (bI false, h) := rfl
theorem rz_n1 (h : Hp) : rz (nI 1) h = some (bI true, h) := rfl
theorem hf_s (h : Hp) (k : Nat) (f : Nat → Int32) : hf h k f k = f := by simp [hf]
theorem hf_n (h : Hp) (k : Nat) (f : Nat → Int32) {a : Nat} (q : a ≠ k) : hf h k f a = h a := by simp [hf, q]
theorem hu_s (h : Hp) (k i : Nat) (v : Int32) : hu h k i v k = upd (h k) i v := by simp [hu, hf]
theorem hu_n (h : Hp) (k i : Nat) (v : Int32) {a : Nat} (q : a ≠ k) : hu h k i v a = h a := by simp [hu, hf, q]
theorem FU_is (n : Nat) (h : n < 4000) : ∃ m, FU = m + (n + 1) := ⟨4000 - (n + 1), by unfold FU; omega⟩
/-! the state in numbers: by the class's places -/
abbrev GS : Type := Nat → Nat
def gr (g : GS) (q r p : Nat) : Nat := g (24 + (q * 5 + r) * 8 + p)
def co (g : GS) (q r p : Nat) : Nat := g (184 + (q * 5 + r) * 8 + p)
def pp (g : GS) (q p : Nat) : Nat := if g 2 = 1 ∧ q % 2 = 1 then 7 - p else p
def wn (g : GS) (q r p : Nat) : Nat := if g (3 + r) = 4294967295 then 4294967290 else g (3 + r) / 8 ^ (pp g q p) % 8
def rt (g : GS) (q r p : Nat) : Bool := if wn g q r p = 4294967290 then false else if wn g q r p = 0 then decide (gr g q r p = 0) else decide (co g q r p = wn g q r p ∧ g 0 ≤ gr g q r p)
def ms (g : GS) (q r p : Nat) : Nat := if 1 ≤ wn g q r p ∧ wn g q r p ≤ 6 then g 0 - (if co g q r p = wn g q r p then gr g q r p else 0) else 0
def IV (g : GS) : Prop := (1 ≤ g 0 ∧ g 0 ≤ 50) ∧ (1 ≤ g 1 ∧ g 1 ≤ 99) ∧ g 2 ≤ 1 ∧ (∀ r, r < 5 → g (3 + r) = 4294967295 ∨ (g (3 + r) < 16777216 ∧ ∀ p, p < 8 → g (3 + r) / 8 ^ p % 8 ≤ 6)) ∧ (∀ c, 1 ≤ c → c ≤ 6 → g (8 + c) ≤ 9999) ∧ (∀ q, q < 4 → g (15 + q) ≤ 6) ∧ g 19 ≤ 5 ∧ g 20 ≤ 3 ∧ (∀ q r p, q < 4 → r < 5 → p < 8 → gr g q r p ≤ 99 ∧ co g q r p ≤ 6 ∧ (co g q r p = 0 ↔ gr g q r p = 0))
theorem pp_lt {g : GS} {q p : Nat} (hp : p < 8) : pp g q p < 8 := by unfold pp; split <;> omega
theorem wn_le {g : GS} (hI : IV g) {q r p : Nat} (hr : r < 5) (hp : p < 8) : wn g q r p = 4294967290 ∨ wn g q r p ≤ 6 := by
  unfold wn
  rcases hI.2.2.2.1 r hr with h | ⟨h1, h2⟩
  · rw [if_pos h]; exact Or.inl rfl
  · rw [if_neg (by omega)]; exact Or.inr (h2 _ (pp_lt hp))
/-- the class's state object k holds g -/
def CR (h : Hp) (k : Nat) (g : GS) : Prop := ∀ c, c < 344 → h (k + 1) c = nI (g c)
theorem sh_l : ∀ n, n < 32 → ((nI n &&& 31).toBitVec.smod 32).toNat = n := by decide +kernel
theorem dig_eq {a s : Nat} (ha : a < 16777216) (hs : s < 8) : (nI a >>> (nI (3 * s) &&& 31)) &&& 7 = nI (a / 8 ^ s % 8) := by
  rw [pk_shrN (by omega) _ (3 * s) (sh_l _ (by omega)), Nat.pow_mul, show 2 ^ 3 = 8 by rfl, pk_andN (Nat.lt_of_le_of_lt (Nat.div_le_self _ _) (by omega)) 3 (by decide)]
section C5
variable {h : Hp} {k : Nat} {g : GS}
theorem f5_number_g (hC : CR h k g) {c : Nat} (hc : c < 344) : f5_number k (nI c) h = some (nI (g c), h) := by
  unfold f5_number f5_number_e
  rw [if_neg (nI_pos (by omega)), if_neg (by rw [k_344, nI_leU (by omega) (by omega)]; omega), if_pos (by rw [inB_nI hc (by omega)]; trivial), tn_nI (by omega), hC c hc]
theorem f5_lay_eq {c : Nat} (v : Int32) (hc : c < 344) : f5_lay k (nI c) v h = some (0, hu h (k + 1) c v) := by
  unfold f5_lay f5_lay_e
  rw [if_neg (nI_pos (by omega)), if_neg (by rw [k_344, nI_leU (by omega) (by omega)]; omega), if_pos (by rw [inB_nI hc (by omega)]; trivial), tn_nI (by omega)]
  rfl
theorem f5_grains_g (hC : CR h k g) {q r p : Nat} (hq : q < 4) (hr : r < 5) (hp : p < 8) : f5_grains k (nI q) (nI r) (nI p) h = some (nI (gr g q r p), h) := by
  unfold f5_grains f5_grains_e gr
  simp (disch := omega) only [k_24, k_5, k_8, pk_mul, nI_add, f5_number_g hC, bsm]
theorem f5_colour_g (hC : CR h k g) {q r p : Nat} (hq : q < 4) (hr : r < 5) (hp : p < 8) : f5_colour k (nI q) (nI r) (nI p) h = some (nI (co g q r p), h) := by
  unfold f5_colour f5_colour_e co
  simp (disch := omega) only [k_184, k_5, k_8, pk_mul, nI_add, f5_number_g hC, bsm]
theorem f5_setting_g (hC : CR h k g) {i : Nat} (hi : i < 3) : f5_setting k (nI i) h = some (nI (g i), h) := by
  unfold f5_setting f5_setting_e
  simp (disch := omega) only [k_0, nI_add, Nat.zero_add, f5_number_g hC, bsm]
theorem f5_funnel_g (hC : CR h k g) {i : Nat} (hi : i < 7) : f5_funnel k (nI i) h = some (nI (g (8 + i)), h) := by
  unfold f5_funnel f5_funnel_e
  simp (disch := omega) only [k_8, nI_add, f5_number_g hC, bsm]
theorem f5_heldBy_g (hC : CR h k g) {i : Nat} (hi : i < 4) : f5_heldBy k (nI i) h = some (nI (g (15 + i)), h) := by
  unfold f5_heldBy f5_heldBy_e
  simp (disch := omega) only [k_15, nI_add, f5_number_g hC, bsm]
theorem f5_isClosed_g (hC : CR h k g) (hI : IV g) {r : Nat} (hr : r < 5) : f5_isClosed k (nI r) h = some (bI (decide (r < g 19)), h) := by
  have h19 : g 19 ≤ 5 := hI.2.2.2.2.2.2.1
  unfold f5_isClosed f5_isClosed_e
  simp (disch := omega) only [k_19, f5_number_g hC, bsm, nI_leU]
  by_cases q : g 19 ≤ r
  · rw [if_pos q, decide_eq_false (by omega)]; rfl
  · rw [if_neg q, decide_eq_true (by omega)]; rfl
theorem f5_hasPattern_g (hC : CR h k g) (hI : IV g) {r : Nat} (hr : r < 5) : f5_hasPattern k (nI r) h = some (bI (decide (g (3 + r) ≠ 4294967295)), h) := by
  have hb : g (3 + r) < 4294967296 := by rcases hI.2.2.2.1 r hr with h | ⟨h1, h2⟩ <;> omega
  unfold f5_hasPattern f5_hasPattern_e
  simp (disch := omega) only [k_3, k_m1, nI_add, f5_number_g hC, bsm, nI_eqU]
  by_cases q : g (3 + r) = 4294967295
  · rw [if_pos q, decide_eq_false (by omega)]; rfl
  · rw [if_neg q, decide_eq_true (by omega)]; rfl
theorem f5_patternPlace_g (hC : CR h k g) (hI : IV g) {q p : Nat} (hq : q < 4) (hp : p < 8) : f5_patternPlace k (nI q) (nI p) h = some (nI (pp g q p), h) := by
  have h2 : g 2 ≤ 1 := hI.2.2.1
  have z1 : f5_patternPlace_j21 k (nI p) (nI 1) h = some (nI (7 - p), h) := by
    unfold f5_patternPlace_j21
    rw [if_neg (by decide), k_7, nI_subU (by omega)]
  have z0 : f5_patternPlace_j20 k (nI p) h = some (nI p, h) := rfl
  unfold f5_patternPlace f5_patternPlace_e pp
  simp (disch := omega) only [z1, z0, k_2, k_1, f5_number_g hC, bsm, nI_eqU, nI_divU, pk_mul, nI_subU]
  by_cases q1 : g 2 = 1
  · by_cases q2 : q - q / 2 * 2 = 1
    · rw [if_pos q1, if_pos q2, if_pos ⟨q1, by omega⟩]
    · rw [if_pos q1, if_neg q2, if_neg (by omega)]
  · rw [if_neg q1, if_neg (fun z => q1 z.1)]
theorem f5_wanted_g (hC : CR h k g) (hI : IV g) {q r p : Nat} (hq : q < 4) (hr : r < 5) (hp : p < 8) : f5_wanted k (nI q) (nI r) (nI p) h = some (nI (wn g q r p), h) := by
  have hb := hI.2.2.2.1 r hr
  unfold f5_wanted f5_wanted_e wn
  simp (disch := omega) only [k_3, k_m1, nI_add, f5_number_g hC, bsm, nI_eqU, f5_patternPlace_g hC hI, pk_mul]
  by_cases q1 : g (3 + r) = 4294967295
  · rw [if_pos q1, if_pos q1, k_m6]
  · rw [if_neg q1, if_neg q1, dig_eq (by omega) (pp_lt hp)]
theorem f5_isRight_g (hC : CR h k g) (hI : IV g) {q r p : Nat} (hq : q < 4) (hr : r < 5) (hp : p < 8) : f5_isRight k (nI q) (nI r) (nI p) h = some (bI (rt g q r p), h) := by
  have hb := wn_le hI (q := q) hr hp
  have hc := hI.2.2.2.2.2.2.2.2 q r p hq hr hp
  have h0 := hI.1
  unfold f5_isRight f5_isRight_e rt
  rw [f5_wanted_g hC hI hq hr hp, bsm]
  dsimp only
  by_cases q1 : wn g q r p = 4294967290
  · rw [if_pos (by rw [q1, k_m6]), if_pos q1]; rfl
  · rw [if_neg (by rw [k_m6, nI_eqU (by omega) (by omega)]; exact q1), if_neg q1]
    by_cases q2 : wn g q r p = 0
    · rw [if_pos (by rw [q2, k_0]), if_pos q2, f5_grains_g hC hq hr hp, bsm]
      dsimp only
      by_cases q3 : gr g q r p = 0
      · rw [if_pos (by rw [q3, k_0]), decide_eq_true q3]; rfl
      · rw [if_neg (by rw [k_0, nI_eqU (by omega) (by omega)]; exact q3), decide_eq_false q3]; rfl
    · rw [if_neg (by rw [k_0, nI_eqU (by omega) (by omega)]; exact q2), if_neg q2, f5_colour_g hC hq hr hp, bsm]
      dsimp only
      by_cases q3 : co g q r p = wn g q r p
      · rw [if_pos (by rw [q3]), f5_grains_g hC hq hr hp, bsm]
        dsimp only
        rw [k_0, f5_setting_g hC (by omega), bsm]
        dsimp only
        by_cases q4 : gr g q r p < g 0
        · rw [if_pos (by rw [nI_ltU (by omega) (by omega)]; exact q4), decide_eq_false (by omega)]; rfl
        · rw [if_neg (by rw [nI_ltU (by omega) (by omega)]; exact q4), decide_eq_true (by omega)]; rfl
      · rw [if_neg (by rw [nI_eqU (by omega) (by omega)]; exact q3), decide_eq_false (fun z => q3 z.1)]; rfl
theorem f7_isColour_b (w : Nat) (hw : w < 2147483648 ∨ w = 4294967290) : f7_isColour (nI w) h = some (bI (decide (1 ≤ w ∧ w ≤ 6)), h) := by
  unfold f7_isColour f7_isColour_e
  rcases hw with hw | rfl
  · simp (disch := omega) only [k_1, k_6, nI_ltU]
    by_cases q1 : w < 1
    · rw [if_pos q1, decide_eq_false (by omega)]; rfl
    · rw [if_neg q1]
      by_cases q2 : 6 < w
      · rw [if_pos q2, decide_eq_false (by omega)]; rfl
      · rw [if_neg q2, decide_eq_true (by omega)]; rfl
  · rw [if_pos (by decide +kernel)]; rfl
theorem f5_missing_g (hC : CR h k g) (hI : IV g) {q r p : Nat} (hq : q < 4) (hr : r < 5) (hp : p < 8) : f5_missing k (nI q) (nI r) (nI p) h = some (nI (ms g q r p), h) := by
  have hb := wn_le hI (q := q) hr hp
  have hc := hI.2.2.2.2.2.2.2.2 q r p hq hr hp
  have h0 := hI.1
  unfold f5_missing f5_missing_e f5_missing_j42 ms
  rw [f5_wanted_g hC hI hq hr hp, bsm]
  dsimp only
  rw [f7_isColour_b _ (by omega), bsm]
  dsimp only
  by_cases q1 : 1 ≤ wn g q r p ∧ wn g q r p ≤ 6
  · rw [if_neg (by rw [bI_0]; simp [q1]), if_pos q1]
    have key : ∀ x : Nat, x ≤ 99 → (if nI 0 < nI (g 0) - nI x then nI (g 0) - nI x else nI 0) = nI (g 0 - x) := by
      intro x hx
      by_cases q2 : x < g 0
      · rw [nI_subU (by omega), if_pos (by rw [nI_ltU (by omega) (by omega)]; omega)]
      · rw [if_neg, show g 0 - x = 0 by omega]
        intro z
        have z1 := Int32.lt_iff_toInt_lt.mp z
        rw [pk_sub_toInt (by omega) (by omega), nI_toInt (by omega)] at z1
        omega
    rw [f5_colour_g hC hq hr hp, bsm]
    dsimp only
    by_cases q3 : co g q r p = wn g q r p
    · rw [if_pos (by rw [q3]), if_pos q3, f5_grains_g hC hq hr hp, bsm]
      dsimp only
      rw [k_0, f5_setting_g hC (by omega), bsm]
      dsimp only
      rw [key _ (by omega)]
    · rw [if_neg (by rw [nI_eqU (by omega) (by omega)]; exact q3), if_neg q3, k_0, f5_setting_g hC (by omega), bsm]
      dsimp only
      rw [key _ (by omega)]
  · rw [if_pos (by rw [bI_0]; simp [q1]), if_neg q1]; rfl
end C5
