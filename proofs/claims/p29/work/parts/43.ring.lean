/-! a ring's check -/
section S43
variable {h : Hp} {g : GS}
theorem wn_has (hI : IV g) {q r p : Nat} (hr : r < 5) (hp : p < 8) (z : g (3 + r) ≠ 4294967295) : wn g q r p ≤ 6 := by
  unfold wn
  rw [if_neg z]
  rcases hI.2.2.2.1 r hr with w | w
  · exact absurd w z
  · exact w.2 _ (pp_lt hp)
theorem wn_no {q r p : Nat} (z : g (3 + r) = 4294967295) : wn g q r p = 4294967290 := by
  unfold wn
  rw [if_pos z]
theorem wn_lt (hI : IV g) {q r p : Nat} (hr : r < 5) (hp : p < 8) : wn g q r p < 4294967296 := by
  rcases wn_le (q := q) hI hr hp with w | w <;> omega
theorem co_lt (hI : IV g) {q r p : Nat} (hq : q < 4) (hr : r < 5) (hp : p < 8) : co g q r p ≤ 6 := (hI.2.2.2.2.2.2.2.2 q r p hq hr hp).2.1
theorem gr_lt (hI : IV g) {q r p : Nat} (hq : q < 4) (hr : r < 5) (hp : p < 8) : gr g q r p ≤ 99 := (hI.2.2.2.2.2.2.2.2 q r p hq hr hp).1
theorem co_0 (hI : IV g) {q r p : Nat} (hq : q < 4) (hr : r < 5) (hp : p < 8) : co g q r p = 0 ↔ gr g q r p = 0 := (hI.2.2.2.2.2.2.2.2 q r p hq hr hp).2.2
theorem nz_0 {a : Nat} (ha : a < 4294967296) : nI a = 0 ↔ a = 0 := by rw [k_0, nI_eqU ha (by omega)]
theorem nz_1 {a : Nat} (ha : a < 4294967296) : nI a = 1 ↔ a = 1 := by rw [k_1, nI_eqU ha (by omega)]
theorem bI_n (b : Bool) : bI b = nI (if b = true then 1 else 0) := by cases b <;> rfl
theorem add0 (x : Int32) : x + nI 0 = x := Int32.add_zero x
def wr (g : GS) (q r p : Nat) : Nat := if rt g q r p = false then 1 else 0
def usT (g : GS) (q r p : Nat) (a : Int32) : Int32 := if co g q r p = co g 0 r (pp g q p) then a else a ||| (1 <<< (nI (pp g q p) &&& 31))
theorem ri_362 (k33 : Int32 → Int32 → Int32 → Int32 → Int32 → Int32 → Int32 → Int32 → Hp → Re) (x1 x2 x3 x4 x5 x6 x8 y : Int32) : fL_isRing_j362 k33 x1 x2 x3 x4 x5 x6 x8 y y h = k33 x1 x2 x3 x4 x5 x6 1 (x8 + 1) h := by
  unfold fL_isRing_j362
  rw [if_pos rfl]
theorem ri_342 (hC : CR h 1 g) (hI : IV g) {q r p : Nat} (hq : q < 4) (hr : r < 5) (hp : p < 8) (k33 : Int32 → Int32 → Int32 → Int32 → Int32 → Int32 → Int32 → Int32 → Hp → Re) (x2 x3 x4 x5 x6 x8 : Int32) : fL_isRing_j342 k33 (nI r) x2 x3 x4 x5 x6 x8 (nI q) (nI p) (bI (rt g q r p)) h = k33 (nI r) x2 x3 x4 x5 x6 1 (x8 + 1) h := by
  unfold fL_isRing_j342
  rw [at_3 hC hI hq hr hp, bsm]
  dsimp only
  cases rt g q r p
  · rw [bF]; exact ri_362 k33 _ _ _ _ _ _ _ _
  · rw [bT]; exact ri_362 k33 _ _ _ _ _ _ _ _
theorem ri_313 (hC : CR h 1 g) (hI : IV g) {q r p : Nat} (hq : q < 4) (hr : r < 5) (hp : p < 8) (k33 : Int32 → Int32 → Int32 → Int32 → Int32 → Int32 → Int32 → Int32 → Hp → Re) (x3 x4 x5 x6 x8 y : Int32) : fL_isRing_j313 k33 (nI r) (bI (decide (g (3 + r) ≠ 4294967295))) x3 x4 x5 x6 x8 (nI q) (nI p) (nI (wn g q r p)) (bI (rt g q r p)) y y h = k33 (nI r) (bI (decide (g (3 + r) ≠ 4294967295))) x3 x4 x5 x6 1 (x8 + 1) h := by
  unfold fL_isRing_j313
  rw [if_pos rfl]
  by_cases z : g (3 + r) = 4294967295
  · rw [decide_eq_false (fun w => w z), bF, wn_no z, if_pos (by rw [k_m6]), ri_342 hC hI hq hr hp]
  · have w := wn_has (q := q) hI hr hp z
    rw [decide_eq_true z, bT, if_neg (nI_pos (by omega)), if_neg (by rw [k_6, nI_ltU (by omega) (by omega)]; omega), ri_342 hC hI hq hr hp]
theorem ri_273 (hC : CR h 1 g) (hI : IV g) {q r p : Nat} (hq : q < 4) (hr : r < 5) (hp : p < 8) (k33 : Int32 → Int32 → Int32 → Int32 → Int32 → Int32 → Int32 → Int32 → Hp → Re) (x3 x4 x5 x6 x8 y : Int32) : fL_isRing_j273 k33 (nI r) (bI (decide (g (3 + r) ≠ 4294967295))) x3 x4 x5 x6 x8 (nI q) (nI p) (nI (co g q r p)) (nI (gr g q r p)) (nI (wn g q r p)) (nI (pp g q p)) (bI (rt g q r p)) y y h = k33 (nI r) (bI (decide (g (3 + r) ≠ 4294967295))) x3 x4 x5 x6 1 (x8 + 1) h := by
  have a1 := gr_lt hI hq hr hp
  have a2 := co_lt hI hq hr hp
  unfold fL_isRing_j273
  rw [if_pos rfl, if_neg (by rw [k_99, nI_ltU (by omega) (by omega)]; omega), if_neg (by rw [k_6, nI_ltU (by omega) (by omega)]; omega), oq_3 hC hI hq, bsm]
  dsimp only
  unfold pp
  by_cases z : g 2 = 1 ∧ q % 2 = 1
  · rw [decide_eq_true z, if_pos bI_t, if_pos z, k_7, nI_subU (by omega), ri_313 hC hI hq hr hp]
  · rw [decide_eq_false z, if_neg (by decide), if_neg z, ri_313 hC hI hq hr hp]
theorem ri_263 (hC : CR h 1 g) (hI : IV g) {q r p : Nat} (hq : q < 4) (hr : r < 5) (hp : p < 8) (k33 : Int32 → Int32 → Int32 → Int32 → Int32 → Int32 → Int32 → Int32 → Hp → Re) (x3 x4 x5 x6 x8 : Int32) : fL_isRing_j263 k33 (nI r) (bI (decide (g (3 + r) ≠ 4294967295))) x3 x4 x5 x6 x8 (nI q) (nI p) (nI (co g q r p)) (nI (gr g q r p)) (nI (wn g q r p)) (nI (pp g q p)) (bI (rt g q r p)) (if gr g q r p = 0 then 1 else 0) h = k33 (nI r) (bI (decide (g (3 + r) ≠ 4294967295))) x3 x4 x5 x6 1 (x8 + 1) h := by
  have a1 := gr_lt hI hq hr hp
  have a2 := co_lt hI hq hr hp
  have a3 := co_0 hI hq hr hp
  unfold fL_isRing_j263
  by_cases z : gr g q r p = 0
  · rw [if_pos ((nz_0 (by omega)).mpr (a3.mpr z)), if_pos z, ri_273 hC hI hq hr hp]
  · rw [if_neg (fun w => z (a3.mp ((nz_0 (by omega)).mp w))), if_neg z, ri_273 hC hI hq hr hp]
theorem ri_250 (hC : CR h 1 g) (hI : IV g) {q r p : Nat} (hq : q < 4) (hr : r < 5) (hp : p < 8) (k33 : Int32 → Int32 → Int32 → Int32 → Int32 → Int32 → Int32 → Int32 → Hp → Re) (x3 x4 x5 x8 y0 y1 : Int32) : fL_isRing_j250 k33 (nI r) (bI (decide (g (3 + r) ≠ 4294967295))) x3 x4 x5 x8 (nI q) (nI p) (nI (co g q r p)) (nI (gr g q r p)) (nI (wn g q r p)) (nI (pp g q p)) (bI (rt g q r p)) y0 y1 h = k33 (nI r) (bI (decide (g (3 + r) ≠ 4294967295))) x3 x4 x5 (y1 ||| y0) 1 (x8 + 1) h := by
  have a1 := gr_lt hI hq hr hp
  have e := ri_263 hC hI hq hr hp k33 x3 x4 x5 (y1 ||| y0) x8
  unfold fL_isRing_j250
  by_cases z : gr g q r p = 0
  · rw [if_pos z] at e
    rw [if_pos ((nz_0 (by omega)).mpr z), e]
  · rw [if_neg z] at e
    rw [if_neg (fun w => z ((nz_0 (by omega)).mp w)), e]
theorem ri_219 (hC : CR h 1 g) (hI : IV g) {q r p : Nat} (hq : q < 4) (hr : r < 5) (hp : p < 8) (k33 : Int32 → Int32 → Int32 → Int32 → Int32 → Int32 → Int32 → Int32 → Hp → Re) (x3 x4 x6 x8 y0 y1 : Int32) : fL_isRing_j219 k33 (nI r) (bI (decide (g (3 + r) ≠ 4294967295))) x3 x4 x6 x8 (nI q) (nI p) (nI (co g q r p)) (nI (gr g q r p)) (nI (wn g q r p)) (nI (pp g q p)) (bI (rt g q r p)) y0 y1 h = k33 (nI r) (bI (decide (g (3 + r) ≠ 4294967295))) x3 x4 (y1 + y0) (usT g q r p x6) 1 (x8 + 1) h := by
  have a2 := co_lt hI hq hr hp
  have a4 := co_lt hI (show 0 < 4 by omega) hr (pp_lt (g := g) (q := q) hp)
  have e0 : f7_at 0 (nI r) (nI (pp g q p)) 0 h = some (nI (co g 0 r (pp g q p)), h) := by
    have := at_0 (q := 0) hC (show 0 < 4 by omega) hr (pp_lt (g := g) (q := q) hp)
    rw [← k_0] at this
    exact this
  unfold fL_isRing_j219
  rw [e0, bsm]
  dsimp only
  unfold usT
  by_cases z : co g q r p = co g 0 r (pp g q p)
  · rw [if_pos (by rw [z]), if_pos z, ri_250 hC hI hq hr hp, or0]
  · rw [if_neg (by rw [nI_eqU (by omega) (by omega)]; exact z), if_neg z, ri_250 hC hI hq hr hp]
theorem ri_175 (hC : CR h 1 g) (hI : IV g) {q r p : Nat} (hq : q < 4) (hr : r < 5) (hp : p < 8) (k33 : Int32 → Int32 → Int32 → Int32 → Int32 → Int32 → Int32 → Int32 → Hp → Re) (x4 x5 x6 x8 y0 y1 : Int32) : fL_isRing_j175 k33 (nI r) (bI (decide (g (3 + r) ≠ 4294967295))) x4 x5 x6 x8 (nI q) (nI p) (nI (co g q r p)) (nI (gr g q r p)) (nI (wn g q r p)) (nI (pp g q p)) (bI (rt g q r p)) (nI (if co g q r p = wn g q r p then gr g q r p else 0)) y0 y1 h = k33 (nI r) (bI (decide (g (3 + r) ≠ 4294967295))) (y1 + y0) (x4 + nI (gr g q r p)) (x5 + nI (ms g q r p)) (usT g q r p x6) 1 (x8 + 1) h := by
  have a1 := gr_lt hI hq hr hp
  have h0 := hI.1
  have e18 : ∀ x3 x4 : Int32, ms g q r p = 0 → fL_isRing_j218 k33 (nI r) (bI (decide (g (3 + r) ≠ 4294967295))) x3 x4 x6 x8 (nI q) (nI p) (nI (co g q r p)) (nI (gr g q r p)) (nI (wn g q r p)) (nI (pp g q p)) (bI (rt g q r p)) x5 h = k33 (nI r) (bI (decide (g (3 + r) ≠ 4294967295))) x3 x4 (x5 + nI (ms g q r p)) (usT g q r p x6) 1 (x8 + 1) h := by
    intro x3 x4 e
    unfold fL_isRing_j218
    rw [ri_219 hC hI hq hr hp, e]
    rfl
  unfold fL_isRing_j175
  by_cases z : g (3 + r) = 4294967295
  · have e : ms g q r p = 0 := by unfold ms; rw [wn_no z, if_neg (by omega)]
    rw [if_pos (by rw [decide_eq_false (fun w => w z)]; rfl), e18 _ _ e]
  · have w := wn_has (q := q) hI hr hp z
    rw [if_neg (by rw [decide_eq_true z]; decide)]
    by_cases z1 : wn g q r p = 0
    · have e : ms g q r p = 0 := by unfold ms; rw [z1, if_neg (by omega)]
      rw [if_pos (by rw [k_0, nI_leU (by omega) (by omega)]; omega), e18 _ _ e]
    · have hle : (if co g q r p = wn g q r p then gr g q r p else 0) ≤ 99 := by split <;> omega
      have em : ms g q r p = g 0 - (if co g q r p = wn g q r p then gr g q r p else 0) := by unfold ms; rw [if_pos (by omega)]
      generalize (if co g q r p = wn g q r p then gr g q r p else 0) = own at hle em ⊢
      rw [if_neg (by rw [k_0, nI_leU (by omega) (by omega)]; omega), ct_7 hC, bsm]
      dsimp only
      by_cases z2 : g 0 ≤ own
      · have e : ms g q r p = 0 := by omega
        rw [if_pos (by rw [nI_leU (by omega) (by omega)]; exact z2), e18 _ _ e]
      · rw [if_neg (by rw [nI_leU (by omega) (by omega)]; exact z2), ct_7 hC, bsm]
        dsimp only
        rw [ri_219 hC hI hq hr hp, em, nI_subU (by omega)]
theorem ri_147 (hC : CR h 1 g) (hI : IV g) {q r p : Nat} (hq : q < 4) (hr : r < 5) (hp : p < 8) (k33 : Int32 → Int32 → Int32 → Int32 → Int32 → Int32 → Int32 → Int32 → Hp → Re) (x3 x4 x5 x6 x8 : Int32) : fL_isRing_j147 k33 (nI r) (bI (decide (g (3 + r) ≠ 4294967295))) x3 x4 x5 x6 x8 (nI q) (nI p) (nI (co g q r p)) (nI (gr g q r p)) (nI (wn g q r p)) (nI (pp g q p)) (bI (rt g q r p)) h = k33 (nI r) (bI (decide (g (3 + r) ≠ 4294967295))) (x3 + nI (wr g q r p)) (x4 + nI (gr g q r p)) (x5 + nI (ms g q r p)) (usT g q r p x6) 1 (x8 + 1) h := by
  have a2 := co_lt hI hq hr hp
  have a3 := wn_lt (q := q) hI hr hp
  have e62 : fL_isRing_j162 k33 (nI r) (bI (decide (g (3 + r) ≠ 4294967295))) x3 x4 x5 x6 x8 (nI q) (nI p) (nI (co g q r p)) (nI (gr g q r p)) (nI (wn g q r p)) (nI (pp g q p)) (bI (rt g q r p)) (nI (if co g q r p = wn g q r p then gr g q r p else 0)) h = k33 (nI r) (bI (decide (g (3 + r) ≠ 4294967295))) (x3 + nI (wr g q r p)) (x4 + nI (gr g q r p)) (x5 + nI (ms g q r p)) (usT g q r p x6) 1 (x8 + 1) h := by
    unfold fL_isRing_j162 wr
    rw [ri_175 hC hI hq hr hp, ri_175 hC hI hq hr hp]
    cases rt g q r p
    · rw [bF, if_pos rfl]; rfl
    · rw [bT, if_neg (by decide)]; rfl
  unfold fL_isRing_j147
  by_cases z : co g q r p = wn g q r p
  · rw [if_pos z] at e62
    rw [if_pos (by rw [z]), e62]
  · rw [if_neg z, ← k_0] at e62
    rw [if_neg (by rw [nI_eqU (by omega) a3]; exact z), e62]
theorem ri_B33 (hC : CR h 1 g) (hI : IV g) {r k : Nat} (hr : r < 5) (hk : k < 32) (k33 : Int32 → Int32 → Int32 → Int32 → Int32 → Int32 → Int32 → Int32 → Hp → Re) (x3 x4 x5 x6 : Int32) : fL_isRing_B33 k33 (nI r) (bI (decide (g (3 + r) ≠ 4294967295))) x3 x4 x5 x6 1 (nI k) h = k33 (nI r) (bI (decide (g (3 + r) ≠ 4294967295))) (x3 + nI (wr g (k / 8) r (k % 8))) (x4 + nI (gr g (k / 8) r (k % 8))) (x5 + nI (ms g (k / 8) r (k % 8))) (usT g (k / 8) r (k % 8) x6) 1 (nI k + 1) h := by
  have hq : k / 8 < 4 := by omega
  have hp : k % 8 < 8 := by omega
  unfold fL_isRing_B33
  rw [if_neg (by rw [k_32, nI_leU (by omega) (by omega)]; omega), if_neg (by decide), md8 (by omega), dv8 (by omega)]
  generalize k / 8 = q at hq ⊢
  generalize k % 8 = p at hp ⊢
  have a1 := gr_lt hI hq hr hp
  have a2 := co_lt hI hq hr hp
  have a3 := wn_lt (q := q) hI hr hp
  have h0 := hI.1
  have e := ri_147 hC hI hq hr hp k33 x3 x4 x5 x6 (nI k)
  rw [at_0 hC hq hr hp, bsm]
  dsimp only
  rw [at_1 hC hq hr hp, bsm]
  dsimp only
  rw [at_2 hC hI hq hr hp, bsm]
  dsimp only
  rw [at_4 hC hI hq hr hp, bsm]
  dsimp only
  unfold fL_isRing_j142 fL_isRing_j146
  by_cases z : g (3 + r) = 4294967295
  · have er : rt g q r p = false := by unfold rt; rw [if_pos (wn_no z)]
    rw [er] at e
    rw [if_pos (by rw [decide_eq_false (fun w => w z)]; rfl)]
    exact e
  · have w := wn_has (q := q) hI hr hp z
    rw [if_neg (by rw [decide_eq_true z]; decide)]
    by_cases z1 : wn g q r p = 0
    · rw [if_pos ((nz_0 a3).mpr z1)]
      by_cases z2 : gr g q r p = 0
      · have er : rt g q r p = true := by unfold rt; rw [if_neg (by omega), if_pos z1, decide_eq_true z2]
        rw [er] at e
        rw [if_pos ((nz_0 (by omega)).mpr z2)]
        exact e
      · have er : rt g q r p = false := by unfold rt; rw [if_neg (by omega), if_pos z1, decide_eq_false z2]
        rw [er] at e
        rw [if_neg (fun w => z2 ((nz_0 (by omega)).mp w))]
        exact e
    · rw [if_neg (fun w => z1 ((nz_0 a3).mp w))]
      by_cases z2 : co g q r p = wn g q r p
      · rw [if_pos (by rw [z2]), ct_7 hC, bsm]
        dsimp only
        by_cases z3 : gr g q r p < g 0
        · have er : rt g q r p = false := by unfold rt; rw [if_neg (by omega), if_neg z1, decide_eq_false (by omega)]
          rw [er] at e
          rw [if_pos (by rw [nI_ltU (by omega) (by omega)]; exact z3)]
          exact e
        · have er : rt g q r p = true := by unfold rt; rw [if_neg (by omega), if_neg z1, decide_eq_true ⟨z2, by omega⟩]
          rw [er] at e
          rw [if_neg (by rw [nI_ltU (by omega) (by omega)]; exact z3)]
          exact e
      · have er : rt g q r p = false := by unfold rt; rw [if_neg (by omega), if_neg z1, decide_eq_false (fun w => z2 w.1)]
        rw [er] at e
        rw [if_neg (by rw [nI_eqU (by omega) a3]; exact z2)]
        exact e
def usF (g : GS) (r : Nat) : Nat → Nat → Int32 → Int32
  | _, 0, a => a
  | k, d + 1, a => usF g r (k + 1) d (usT g (k / 8) r (k % 8) a)
theorem ri_loop (hC : CR h 1 g) (hI : IV g) {r : Nat} (hr : r < 5) : ∀ (d k n a b c : Nat) (S : Int32), k + d = 32 → d < n → fL_isRing_L33 n (nI r) (bI (decide (g (3 + r) ≠ 4294967295))) (nI a) (nI b) (nI c) S 1 (nI k) h = fL_isRing_j378 (nI r) (nI (a + sm (fun k => wr g (k / 8) r (k % 8)) k d)) (nI (b + sm (fun k => gr g (k / 8) r (k % 8)) k d)) (nI (c + sm (fun k => ms g (k / 8) r (k % 8)) k d)) (usF g r k d S) 1 h := by
  intro d
  induction d with
  | zero =>
    intro k n a b c S hk hn
    obtain ⟨n, rfl⟩ : ∃ m, n = m + 1 := ⟨n - 1, by omega⟩
    rw [fL_isRing_L33_s]
    unfold fL_isRing_B33
    rw [if_pos (by rw [k_32, nI_leU (by omega) (by omega)]; omega)]
    rfl
  | succ d ih =>
    intro k n a b c S hk hn
    obtain ⟨n, rfl⟩ : ∃ m, n = m + 1 := ⟨n - 1, by omega⟩
    have es : ∀ f : Nat → Nat, sm f k (d + 1) = f k + sm f (k + 1) d := fun _ => rfl
    have eu : usF g r k (d + 1) S = usF g r (k + 1) d (usT g (k / 8) r (k % 8) S) := rfl
    rw [fL_isRing_L33_s, ri_B33 hC hI hr (by omega), nI_add, nI_add, nI_add, k_1, nI_add, ← k_1, ih (k + 1) n _ _ _ _ (by omega) (by omega), es, es, es, eu, Nat.add_assoc, Nat.add_assoc, Nat.add_assoc]
end S43
