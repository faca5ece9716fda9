/-! the places where quarters are unlike; a ring's check holds -/
section S44
variable {h : Hp} {g : GS}
theorem bts_cg {f f' : Nat → Bool} : ∀ (d i : Nat) (a : Int32), (∀ j, i ≤ j → j < i + d → f j = f' j) → bts f i d a = bts f' i d a := by
  intro d
  induction d with
  | zero => exact fun _ _ _ => rfl
  | succ d ih =>
    intro i a hh
    unfold bts
    rw [hh i (by omega) (by omega)]
    exact ih (i + 1) _ (fun j x y => hh j (by omega) (by omega))
theorem mk8_or : ∀ b0 b1 b2 b3 b4 b5 b6 b7 : Bool, ∀ p, p < 8 → mk8 b0 b1 b2 b3 b4 b5 b6 b7 ||| (1 <<< (nI p &&& 31)) = mk8 (b0 || decide (0 = p)) (b1 || decide (1 = p)) (b2 || decide (2 = p)) (b3 || decide (3 = p)) (b4 || decide (4 = p)) (b5 || decide (5 = p)) (b6 || decide (6 = p)) (b7 || decide (7 = p)) := by decide +kernel
theorem bts_or (f : Nat → Bool) {p : Nat} (hp : p < 8) : bts f 0 8 0 ||| (1 <<< (nI p &&& 31)) = bts (fun j => f j || decide (j = p)) 0 8 0 := mk8_or (f 0) (f 1) (f 2) (f 3) (f 4) (f 5) (f 6) (f 7) p hp
def usE (g : GS) (r : Nat) : Nat → Nat → Nat → Bool
  | _, 0, _ => false
  | k, d + 1, j => (decide (co g (k / 8) r (k % 8) ≠ co g 0 r (pp g (k / 8) (k % 8)) ∧ j = pp g (k / 8) (k % 8))) || usE g r (k + 1) d j
theorem usE_iff (g : GS) (r : Nat) : ∀ (d k j : Nat), usE g r k d j = true ↔ ∃ i, k ≤ i ∧ i < k + d ∧ co g (i / 8) r (i % 8) ≠ co g 0 r (pp g (i / 8) (i % 8)) ∧ j = pp g (i / 8) (i % 8) := by
  intro d
  induction d with
  | zero =>
    intro k j
    refine ⟨fun w => absurd (show false = true from w) (by decide), fun ⟨i, h1, h2, _⟩ => by omega⟩
  | succ d ih =>
    intro k j
    unfold usE
    rw [Bool.or_eq_true, ih (k + 1) j, decide_eq_true_iff]
    constructor
    · rintro (w | ⟨i, h1, h2, h3⟩)
      · exact ⟨k, by omega, by omega, w⟩
      · exact ⟨i, by omega, by omega, h3⟩
    · rintro ⟨i, h1, h2, h3⟩
      by_cases z : i = k
      · left; rw [← z]; exact h3
      · right; exact ⟨i, by omega, by omega, h3⟩
theorem usF_is (g : GS) (r : Nat) : ∀ (d k : Nat) (f : Nat → Bool), usF g r k d (bts f 0 8 0) = bts (fun j => f j || usE g r k d j) 0 8 0 := by
  intro d
  induction d with
  | zero =>
    intro k f
    unfold usF usE
    exact bts_cg 8 0 0 (fun j _ _ => (Bool.or_false _).symm)
  | succ d ih =>
    intro k f
    have eu : usF g r k (d + 1) (bts f 0 8 0) = usF g r (k + 1) d (usT g (k / 8) r (k % 8) (bts f 0 8 0)) := rfl
    rw [eu]
    unfold usT
    by_cases z : co g (k / 8) r (k % 8) = co g 0 r (pp g (k / 8) (k % 8))
    · rw [if_pos z, ih (k + 1) f]
      refine bts_cg 8 0 0 (fun j _ _ => ?_)
      unfold usE
      rw [decide_eq_false (fun w => w.1 z), Bool.false_or]
      cases d <;> rfl
    · rw [if_neg z, bts_or f (pp_lt (by omega)), ih (k + 1) _]
      refine bts_cg 8 0 0 (fun j _ _ => ?_)
      have e : usE g r k (d + 1) j = (decide (co g (k / 8) r (k % 8) ≠ co g 0 r (pp g (k / 8) (k % 8)) ∧ j = pp g (k / 8) (k % 8)) || usE g r (k + 1) d j) := rfl
      rw [e, Bool.or_assoc]
      congr 1
      congr 1
      by_cases y : j = pp g (k / 8) (k % 8)
      · rw [decide_eq_true y, decide_eq_true ⟨z, y⟩]
      · rw [decide_eq_false y, decide_eq_false (fun w => y w.2)]
theorem pp_pp {q p : Nat} (hp : p < 8) : pp g q (pp g q p) = p := by
  unfold pp
  by_cases z : g 2 = 1 ∧ q % 2 = 1
  · rw [if_pos z, if_pos z]; omega
  · rw [if_neg z, if_neg z]
theorem us_all (g : GS) (r : Nat) : usF g r 0 32 0 = bts (ul g r) 0 8 0 := by
  have e0 : (0 : Int32) = bts (fun _ => false) 0 8 0 := by decide +kernel
  rw [e0, usF_is g r 32 0 (fun _ => false), ← e0]
  refine bts_cg 8 0 0 (fun j _ hj => ?_)
  show (false || usE g r 0 32 j) = ul g r j
  rw [Bool.false_or]
  have e1 : ul g r j = true ↔ ∃ q, 1 ≤ q ∧ q < 4 ∧ co g q r (pp g q j) ≠ co g 0 r j := by
    unfold ul
    rw [Bool.not_eq_true', ← Bool.not_eq_true, al_iff]
    constructor
    · intro w
      refine Classical.byContradiction (fun y => w (fun q h1 h2 => decide_eq_true (Classical.byContradiction (fun x => y ⟨q, h1, by omega, x⟩))))
    · rintro ⟨q, h1, h2, h3⟩ w
      exact h3 (of_decide_eq_true (w q h1 (by omega)))
  have e2 : usE g r 0 32 j = true ↔ ul g r j = true := by
    rw [e1, usE_iff]
    constructor
    · rintro ⟨i, h1, h2, h3, h4⟩
      have e5 : pp g (i / 8) j = i % 8 := by rw [h4, pp_pp (by omega)]
      by_cases z : i / 8 = 0
      · rw [z, pp0] at h3 h4
        exact absurd rfl h3
      · refine ⟨i / 8, by omega, by omega, ?_⟩
        rw [e5, h4]
        exact h3
    · rintro ⟨q, h1, h2, h3⟩
      have h5 := pp_lt (g := g) (q := q) (show j < 8 by omega)
      refine ⟨8 * q + pp g q j, by omega, by omega, ?_, ?_⟩
      · rw [show (8 * q + pp g q j) / 8 = q by omega, show (8 * q + pp g q j) % 8 = pp g q j by omega, pp_pp (by omega)]
        exact h3
      · rw [show (8 * q + pp g q j) / 8 = q by omega, show (8 * q + pp g q j) % 8 = pp g q j by omega, pp_pp (by omega)]
  cases a : usE g r 0 32 j
  · cases b : ul g r j
    · rfl
    · rw [e2.mpr b] at a; exact absurd a (by decide)
  · rw [e2.mp a]
theorem sum32 (F : Nat → Nat → Nat) : sm (fun k => F (k / 8) (k % 8)) 0 32 = sm (fun q => sm (fun p => F q p) 0 8) 0 4 := sm_flat F 4
theorem wh_sum (g : GS) (r : Nat) : (sm (fun q => sm (fun p => wr g q r p) 0 8) 0 4 = 0) ↔ wh g r = true := by
  rw [wh_iff, sm_z]
  constructor
  · intro w q p hq hp
    have := (sm_z _ 8 0).mp (w q (by omega) (by omega)) p (by omega) (by omega)
    unfold wr at this
    cases e : rt g q r p
    · rw [e, if_pos rfl] at this; omega
    · rfl
  · intro w q _ hq
    refine (sm_z _ 8 0).mpr (fun p _ hp => ?_)
    unfold wr
    rw [w q p (by omega) (by omega)]
    rfl
theorem wr_tal (g : GS) {r : Nat} (hr : r < 5) : tal g 2 4294967295 4294967295 r = sm (fun q => sm (fun p => wr g q r p) 0 8) 0 4 := by
  rw [tal_r g 2 _ hr]
  refine sm_cg 4 0 (fun q _ _ => sm_cg 8 0 (fun p _ _ => ?_))
  unfold mea wr
  rw [if_neg (by omega), if_neg (by omega), if_pos rfl]
theorem gr_tal (g : GS) {r : Nat} (hr : r < 5) : tal g 0 4294967295 4294967295 r = sm (fun q => sm (fun p => gr g q r p) 0 8) 0 4 := by
  rw [tal_r g 0 _ hr]
  refine sm_cg 4 0 (fun q _ _ => sm_cg 8 0 (fun p _ _ => ?_))
  exact mea0 g q r p
theorem ms_tal (g : GS) {r : Nat} (hr : r < 5) : tal g 5 4294967295 4294967295 r = sm (fun q => sm (fun p => ms g q r p) 0 8) 0 4 := by
  rw [tal_r g 5 _ hr]
  refine sm_cg 4 0 (fun q _ _ => sm_cg 8 0 (fun p _ _ => ?_))
  exact mea5 g q r p
theorem isRing_g (hC : CR h 1 g) (hI : IV g) {r : Nat} (hr : r < 5) : fL_isRing (nI r) h = some (1, h) := by
  have h19 : g 19 ≤ 5 := hI.2.2.2.2.2.2.1
  have e15 : fL_isRing_j15 (nI r) (bI (decide (g (3 + r) ≠ 4294967295))) h = some (1, h) := by
    have e := ri_loop hC hI hr 32 0 FU 0 0 0 0 (by omega) (by unfold FU; omega)
    rw [← k_0] at e
    unfold fL_isRing_j15
    rw [e, us_all, Nat.zero_add, Nat.zero_add, Nat.zero_add, sum32 (fun q p => wr g q r p), sum32 (fun q p => gr g q r p), sum32 (fun q p => ms g q r p)]
    have hw := wh_sum g r
    have hle : sm (fun q => sm (fun p => wr g q r p) 0 8) 0 4 ≤ 4 * 8 := sm_le 4 0 (fun q _ _ => by
      have := sm_le (f := fun p => wr g q r p) (B := 1) 8 0 (fun p _ _ => by show wr g q r p ≤ 1; unfold wr; split <;> omega)
      exact this)
    unfold fL_isRing_j378
    rw [if_neg (by decide), rg_4 hC hI hr, bsm, wr_tal g hr]
    dsimp only
    rw [if_pos rfl, rg_2 hC hI hr, bsm]
    dsimp only
    generalize sm (fun q => sm (fun p => wr g q r p) 0 8) 0 4 = W at hw hle
    have e408 : fL_isRing_j408 (nI r) (nI (sm (fun q => sm (fun p => gr g q r p) 0 8) 0 4)) (nI (sm (fun q => sm (fun p => ms g q r p) 0 8) 0 4)) (bts (ul g r) 0 8 0) (bI (wh g r)) (bI (wh g r)) h = some (1, h) := by
      unfold fL_isRing_j408
      rw [if_pos rfl, rg_5 hC hI hr, bsm, gr_tal g hr]
      dsimp only
      rw [if_pos rfl, rg_6 hC hI hr, bsm, ms_tal g hr]
      dsimp only
      rw [if_pos rfl, rg_3 hC hI hr, bsm]
      dsimp only
      rw [if_pos rfl, rg_0 hC hI hr, bsm]
      dsimp only
      unfold fL_isRing_j460 fL_isRing_j474
      rw [ct_0 hC, bsm]
      dsimp only
      by_cases z : r < g 19
      · rw [decide_eq_true z, if_pos bI_t, if_neg (by rw [nI_leU (by omega) (by omega)]; omega), if_pos rfl, rz_1]
      · rw [decide_eq_false z, if_neg (by decide), bsm]
        dsimp only
        rw [if_pos (by rw [nI_leU (by omega) (by omega)]; omega), if_pos rfl, rz_1]
    by_cases z : W = 0
    · rw [hw.mp z] at e408
      rw [hw.mp z, if_pos ((nz_0 (by omega)).mpr z)]
      exact e408
    · have e1 : wh g r = false := by
        cases a : wh g r
        · rfl
        · exact absurd (hw.mpr a) z
      rw [e1] at e408
      rw [e1, if_neg (fun w => z ((nz_0 (by omega)).mp w))]
      exact e408
  unfold fL_isRing fL_isRing_e
  rw [rg_1 hC hI hr, bsm]
  dsimp only
  by_cases z : g (3 + r) = 4294967295
  · rw [decide_eq_false (fun w => w z)] at e15
    rw [decide_eq_false (fun w => w z), if_neg (by decide)]
    exact e15
  · rw [decide_eq_true z] at e15
    rw [decide_eq_true z, if_pos bI_t]
    exact e15
end S44
