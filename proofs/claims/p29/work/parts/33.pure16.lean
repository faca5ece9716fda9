/-! sums over the places -/
def sm (f : Nat → Nat) : Nat → Nat → Nat
  | _, 0 => 0
  | i, d + 1 => f i + sm f (i + 1) d
theorem sm_cg {f f' : Nat → Nat} : ∀ (d i : Nat), (∀ j, i ≤ j → j < i + d → f j = f' j) → sm f i d = sm f' i d := by
  intro d
  induction d with
  | zero => exact fun _ _ => rfl
  | succ d ih =>
    intro i hh
    unfold sm
    rw [hh i (by omega) (by omega), ih (i + 1) (fun j a b => hh j (by omega) (by omega))]
theorem sm_app (f : Nat → Nat) : ∀ (a i b : Nat), sm f i (a + b) = sm f i a + sm f (i + a) b := by
  intro a
  induction a with
  | zero => intro i b; show sm f i (0 + b) = 0 + sm f (i + 0) b; rw [Nat.zero_add, Nat.zero_add, Nat.add_zero]
  | succ a ih =>
    intro i b
    rw [show a + 1 + b = (a + b) + 1 by omega]
    show f i + sm f (i + 1) (a + b) = f i + sm f (i + 1) a + sm f (i + (a + 1)) b
    rw [ih, show i + 1 + a = i + (a + 1) by omega, Nat.add_assoc]
theorem sm_add (f f' : Nat → Nat) : ∀ (d i : Nat), sm (fun j => f j + f' j) i d = sm f i d + sm f' i d := by
  intro d
  induction d with
  | zero => exact fun _ => rfl
  | succ d ih => intro i; unfold sm; rw [ih]; omega
theorem sm_0 : ∀ (d i : Nat), sm (fun _ => 0) i d = 0 := by
  intro d
  induction d with
  | zero => exact fun _ => rfl
  | succ d ih => intro i; unfold sm; rw [ih]
theorem sm_swap (F : Nat → Nat → Nat) (b : Nat) : ∀ (a i : Nat), sm (fun x => sm (fun y => F x y) 0 b) i a = sm (fun y => sm (fun x => F x y) i a) 0 b := by
  intro a
  induction a with
  | zero => intro i; exact (sm_0 b 0).symm
  | succ a ih =>
    intro i
    show sm (fun y => F i y) 0 b + sm (fun x => sm (fun y => F x y) 0 b) (i + 1) a = sm (fun y => F i y + sm (fun x => F x y) (i + 1) a) 0 b
    rw [ih, sm_add]
theorem sm_le {f : Nat → Nat} {B : Nat} : ∀ (d i : Nat), (∀ j, i ≤ j → j < i + d → f j ≤ B) → sm f i d ≤ d * B := by
  intro d
  induction d with
  | zero => exact fun _ _ => Nat.zero_le _
  | succ d ih =>
    intro i hh
    have a := hh i (by omega) (by omega)
    have b := ih (i + 1) (fun j x y => hh j (by omega) (by omega))
    unfold sm
    rw [Nat.succ_mul]
    omega
theorem sm_8 (F : Nat → Nat → Nat) (a : Nat) : sm (fun k => F (k / 8) (k % 8)) (8 * a) 8 = sm (F a) 0 8 := by
  have key : ∀ j, j < 8 → F ((8 * a + j) / 8) ((8 * a + j) % 8) = F a j := fun j hj => by
    rw [show (8 * a + j) / 8 = a by omega, show (8 * a + j) % 8 = j by omega]
  have e : ∀ (d i : Nat), i + d ≤ 8 → sm (fun k => F (k / 8) (k % 8)) (8 * a + i) d = sm (F a) i d := by
    intro d
    induction d with
    | zero => exact fun _ _ => rfl
    | succ d ih =>
      intro i hi
      unfold sm
      rw [key i (by omega), Nat.add_assoc, ih (i + 1) (by omega)]
  exact e 8 0 (by omega)
theorem sm_flat (F : Nat → Nat → Nat) : ∀ a, sm (fun k => F (k / 8) (k % 8)) 0 (8 * a) = sm (fun i => sm (F i) 0 8) 0 a := by
  intro a
  induction a with
  | zero => rfl
  | succ a ih =>
    rw [show 8 * (a + 1) = 8 * a + 8 by omega, sm_app, ih, Nat.zero_add, sm_8, sm_app, Nat.zero_add]
    rfl
def mt (a b : Nat) : Bool := decide (a = 4294967295 ∨ a = b)
theorem mt_any (b : Nat) : mt 4294967295 b = true := decide_eq_true (Or.inl rfl)
theorem mt_is {a b : Nat} (h : a < 4294967295) : mt a b = decide (a = b) := by
  unfold mt
  by_cases z : a = b
  · rw [decide_eq_true (Or.inr z), decide_eq_true z]
  · rw [decide_eq_false (by omega), decide_eq_false z]
theorem sm_any (f : Nat → Nat) (i d : Nat) : sm (fun j => if mt 4294967295 j = true then f j else 0) i d = sm f i d := sm_cg d i (fun j _ _ => by rw [mt_any]; rfl)
theorem sm_one (f : Nat → Nat) {a : Nat} (ha : a < 4294967295) : ∀ (d i : Nat), sm (fun j => if mt a j = true then f j else 0) i d = if i ≤ a ∧ a < i + d then f a else 0 := by
  intro d
  induction d with
  | zero => intro i; rw [if_neg (by omega)]; rfl
  | succ d ih =>
    intro i
    unfold sm
    rw [ih, mt_is ha]
    by_cases z : a = i
    · rw [decide_eq_true z, if_pos rfl, if_neg (by omega), if_pos (by omega), z, Nat.add_zero]
    · rw [decide_eq_false z, if_neg (by decide), Nat.zero_add]
      by_cases y : i + 1 ≤ a ∧ a < i + 1 + d
      · rw [if_pos y, if_pos (by omega)]
      · rw [if_neg y, if_neg (by omega)]
def mea (g : GS) (m c q r p : Nat) : Nat :=
  if m = 0 then (if mt c (co g q r p) = true then gr g q r p else 0) else if m = 1 then (if rt g q r p = false then 0 else 1) else if m = 2 then (if rt g q r p = false then 1 else 0)
  else if m = 3 then (if wn g q r p = 4294967290 then 0 else if rt g q r p = false then 1 else 0) else if m = 4 then (if wn g q r p = c then 1 else 0) else (if mt c (wn g q r p) = true then ms g q r p else 0)
def tal (g : GS) (m c Q R : Nat) : Nat := sm (fun r => if mt R r = true then sm (fun q => if mt Q q = true then sm (fun p => mea g m c q r p) 0 8 else 0) 0 4 else 0) 0 5
theorem tal_r (g : GS) (m c : Nat) {R : Nat} (hR : R < 5) : tal g m c 4294967295 R = sm (fun q => sm (fun p => mea g m c q R p) 0 8) 0 4 := by
  unfold tal
  rw [sm_one _ (by omega), if_pos (by omega), sm_any]
theorem tal_q (g : GS) (m c : Nat) {Q : Nat} (hQ : Q < 4) : tal g m c Q 4294967295 = sm (fun r => sm (fun p => mea g m c Q r p) 0 8) 0 5 := by
  unfold tal
  rw [sm_any]
  refine sm_cg 5 0 (fun r _ _ => ?_)
  rw [sm_one _ (by omega), if_pos (by omega)]
theorem tal_a (g : GS) (m c : Nat) : tal g m c 4294967295 4294967295 = sm (fun r => sm (fun q => sm (fun p => mea g m c q r p) 0 8) 0 4) 0 5 := by
  unfold tal
  rw [sm_any]
  exact sm_cg 5 0 (fun r _ _ => sm_any _ _ _)
section S17
variable {h : Hp} {g : GS}
theorem f6_matches_g {a b : Nat} (ha : a < 4294967296) (hb : b < 4294967296) : f6_matches (nI a) (nI b) h = some (bI (mt a b), h) := by
  unfold f6_matches f6_matches_e mt
  by_cases z : a = 4294967295
  · rw [if_pos (by rw [z, k_m1]), decide_eq_true (Or.inl z)]; rfl
  · rw [if_neg (by rw [k_m1, nI_eqU ha (by omega)]; exact z)]
    by_cases y : a = b
    · rw [if_pos (by rw [y]), decide_eq_true (Or.inr y)]; rfl
    · rw [if_neg (by rw [nI_eqU ha hb]; exact y), decide_eq_false (by omega)]; rfl
theorem f6_measured_g (hC : CR h 1 g) (hI : IV g) {m c q r p : Nat} (hm : m < 6) (hc : c < 4294967296) (hq : q < 4) (hr : r < 5) (hp : p < 8) : f6_measured (nI m) (nI c) (nI q) (nI r) (nI p) h = some (nI (mea g m c q r p), h) := by
  have hb := wn_le hI (q := q) hr hp
  have hx := hI.2.2.2.2.2.2.2.2 q r p hq hr hp
  unfold f6_measured f6_measured_e f6_measured_j111 f6_measured_j131 f6_measured_j132 f6_measured_j147 mea
  rw [f5_colour_g hC hq hr hp, bsm]
  dsimp only
  rw [f5_wanted_g hC hI hq hr hp, bsm]
  dsimp only
  rw [f5_isRight_g hC hI hq hr hp, bsm]
  dsimp only
  by_cases z0 : m = 0
  · rw [if_pos (by rw [z0, k_0]), if_pos z0, f6_matches_g hc (by omega), bsm]
    dsimp only
    cases mt c (co g q r p)
    · rw [bF, if_neg (by decide), k_0]
    · rw [bT, if_pos rfl, f5_grains_g hC hq hr hp, bsm]
  · rw [if_neg (by rw [k_0, nI_eqU (by omega) (by omega)]; exact z0), if_neg z0]
    by_cases z1 : m = 1
    · rw [if_pos (by rw [z1, k_1]), if_pos z1, f7_bit_b, bsm]
      cases rt g q r p
      · rfl
      · rfl
    · rw [if_neg (by rw [k_1, nI_eqU (by omega) (by omega)]; exact z1), if_neg z1]
      by_cases z2 : m = 2
      · rw [if_pos (by rw [z2, k_2]), if_pos z2]
        cases rt g q r p
        · rfl
        · rfl
      · rw [if_neg (by rw [k_2, nI_eqU (by omega) (by omega)]; exact z2), if_neg z2]
        by_cases z3 : m = 3
        · rw [if_pos (by rw [z3, k_3]), if_pos z3]
          by_cases y : wn g q r p = 4294967290
          · rw [if_pos (by rw [y, k_m6]), if_pos y]; rfl
          · rw [if_neg (by rw [k_m6, nI_eqU (by omega) (by omega)]; exact y), if_neg y]
            cases rt g q r p
            · rfl
            · rfl
        · rw [if_neg (by rw [k_3, nI_eqU (by omega) (by omega)]; exact z3), if_neg z3]
          by_cases z4 : m = 4
          · rw [if_pos (by rw [z4, k_4]), if_pos z4]
            by_cases y : wn g q r p = c
            · rw [if_pos (by rw [y]), if_pos y]; rfl
            · rw [if_neg (by rw [nI_eqU (by omega) hc]; exact y), if_neg y]; rfl
          · rw [if_neg (by rw [k_4, nI_eqU (by omega) (by omega)]; exact z4), if_neg z4, if_pos (by rw [show m = 5 by omega, k_5]), f6_matches_g hc (by omega), bsm]
            dsimp only
            cases mt c (wn g q r p)
            · rw [bF, if_neg (by decide), k_0]
            · rw [bT, if_pos rfl, f5_missing_g hC hI hq hr hp, bsm]
theorem tally_in (hC : CR h 1 g) (hI : IV g) {m c q r : Nat} (hm : m < 6) (hc : c < 4294967296) (hq : q < 4) (hr : r < 5) (x3 x4 : Int32) (k6 : Int32 → Int32 → Int32 → Int32 → Int32 → Int32 → Hp → Re) (k28 : Int32 → Int32 → Int32 → Int32 → Int32 → Int32 → Int32 → Hp → Re) : ∀ (d p n a : Nat), p + d = 8 → d < n → f6_tally_L49 k6 k28 n (nI m) (nI c) x3 x4 (nI a) (nI r) (nI q) (nI p) h = k28 (nI m) (nI c) x3 x4 (nI (a + sm (fun p => mea g m c q r p) p d)) (nI r) (nI (q + 1)) h := by
  intro d
  induction d with
  | zero =>
    intro p n a hp hn
    obtain ⟨n, rfl⟩ : ∃ m, n = m + 1 := ⟨n - 1, by omega⟩
    rw [f6_tally_L49_s]
    unfold f6_tally_B49 sm
    rw [if_pos (by rw [k_8, nI_leU (by omega) (by omega)]; omega), k_1, nI_add]
    rfl
  | succ d ih =>
    intro p n a hp hn
    obtain ⟨n, rfl⟩ : ∃ m, n = m + 1 := ⟨n - 1, by omega⟩
    rw [f6_tally_L49_s]
    unfold f6_tally_B49 sm
    rw [if_neg (by rw [k_8, nI_leU (by omega) (by omega)]; omega), f6_measured_g hC hI hm hc hq hr (by omega), bsm]
    dsimp only
    rw [nI_add, k_1, nI_add, ih (p + 1) n _ (by omega) (by omega), Nat.add_assoc]
theorem tally_mid (hC : CR h 1 g) (hI : IV g) {m c r Q : Nat} (hm : m < 6) (hc : c < 4294967296) (hQ : Q < 4294967296) (hr : r < 5) (x4 : Int32) (k6 : Int32 → Int32 → Int32 → Int32 → Int32 → Int32 → Hp → Re) : ∀ (d q n a : Nat), q + d = 4 → d < n → f6_tally_L28 k6 n (nI m) (nI c) (nI Q) x4 (nI a) (nI r) (nI q) h = k6 (nI m) (nI c) (nI Q) x4 (nI (a + sm (fun q => if mt Q q = true then sm (fun p => mea g m c q r p) 0 8 else 0) q d)) (nI (r + 1)) h := by
  intro d
  induction d with
  | zero =>
    intro q n a hp hn
    obtain ⟨n, rfl⟩ : ∃ m, n = m + 1 := ⟨n - 1, by omega⟩
    rw [f6_tally_L28_s]
    unfold f6_tally_B28 sm
    rw [if_pos (by rw [k_4, nI_leU (by omega) (by omega)]; omega), k_1, nI_add]
    rfl
  | succ d ih =>
    intro q n a hp hn
    obtain ⟨n, rfl⟩ : ∃ m, n = m + 1 := ⟨n - 1, by omega⟩
    rw [f6_tally_L28_s]
    unfold f6_tally_B28
    rw [if_neg (by rw [k_4, nI_leU (by omega) (by omega)]; omega), f6_matches_g hQ (by omega), bsm]
    dsimp only
    unfold sm
    cases e : mt Q q
    · rw [bF, if_neg (by decide), k_1, nI_add, ih (q + 1) n _ (by omega) (by omega), Nat.zero_add]
    · rw [bT, if_pos rfl, k_0, tally_in hC hI hm hc (by omega) hr _ _ _ _ 8 0 FU a (by omega) (by unfold FU; omega), ih (q + 1) n _ (by omega) (by omega), Nat.add_assoc]
theorem tally_out (hC : CR h 1 g) (hI : IV g) {m c Q R : Nat} (hm : m < 6) (hc : c < 4294967296) (hQ : Q < 4294967296) (hR : R < 4294967296) : ∀ (d r n a : Nat), r + d = 5 → d < n → f6_tally_L6 n (nI m) (nI c) (nI Q) (nI R) (nI a) (nI r) h = some (nI (a + sm (fun r => if mt R r = true then sm (fun q => if mt Q q = true then sm (fun p => mea g m c q r p) 0 8 else 0) 0 4 else 0) r d), h) := by
  intro d
  induction d with
  | zero =>
    intro r n a hp hn
    obtain ⟨n, rfl⟩ : ∃ m, n = m + 1 := ⟨n - 1, by omega⟩
    rw [f6_tally_L6_s]
    unfold f6_tally_B6 sm
    rw [if_pos (by rw [k_5, nI_leU (by omega) (by omega)]; omega), Nat.add_zero]
  | succ d ih =>
    intro r n a hp hn
    obtain ⟨n, rfl⟩ : ∃ m, n = m + 1 := ⟨n - 1, by omega⟩
    rw [f6_tally_L6_s]
    unfold f6_tally_B6
    rw [if_neg (by rw [k_5, nI_leU (by omega) (by omega)]; omega), f6_matches_g hR (by omega), bsm]
    dsimp only
    have es : ∀ f : Nat → Nat, sm f r (d + 1) = f r + sm f (r + 1) d := fun _ => rfl
    rw [es]
    cases e : mt R r
    · rw [bF, if_neg (by decide), k_1, nI_add, ih (r + 1) n _ (by omega) (by omega), Nat.zero_add]
    · rw [bT, if_pos rfl, k_0, tally_mid hC hI hm hc hQ (by omega) _ _ 4 0 FU a (by omega) (by unfold FU; omega), ih (r + 1) n _ (by omega) (by omega), Nat.add_assoc]
theorem f6_tally_g (hC : CR h 1 g) (hI : IV g) {m c Q R : Nat} (hm : m < 6) (hc : c < 4294967296) (hQ : Q < 4294967296) (hR : R < 4294967296) : f6_tally (nI m) (nI c) (nI Q) (nI R) h = some (nI (tal g m c Q R), h) := by
  unfold f6_tally f6_tally_e
  rw [k_0, tally_out hC hI hm hc hQ hR 5 0 FU 0 (by omega) (by unfold FU; omega), Nat.zero_add]
  rfl
end S17
