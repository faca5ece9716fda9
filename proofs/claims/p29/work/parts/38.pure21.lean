/-! needed -/
def cbp (g : GS) (q r p : Nat) : Bool := decide ((1 ≤ wn g q r p ∧ wn g q r p ≤ 6) ∧ (co g q r p = 0 ∨ co g q r p = wn g q r p))
def ndF (g : GS) : Nat → Nat → Nat → Nat → Nat × Nat
  | _, 0, b, w => (b, w)
  | k, d + 1, b, w => if gr g (k / 8 % 4) (k / 32) (k % 8) < w ∧ cbp g (k / 8 % 4) (k / 32) (k % 8) = true then ndF g (k + 1) d k (gr g (k / 8 % 4) (k / 32) (k % 8)) else ndF g (k + 1) d b w
theorem ndF_s (g : GS) (k d b w : Nat) : ndF g k (d + 1) b w = if gr g (k / 8 % 4) (k / 32) (k % 8) < w ∧ cbp g (k / 8 % 4) (k / 32) (k % 8) = true then ndF g (k + 1) d k (gr g (k / 8 % 4) (k / 32) (k % 8)) else ndF g (k + 1) d b w := rfl
theorem ndF_app (g : GS) : ∀ (d k e b w : Nat), ndF g k (d + e) b w = ndF g (k + d) e (ndF g k d b w).1 (ndF g k d b w).2 := by
  intro d
  induction d with
  | zero => intro k e b w; rw [Nat.zero_add]; rfl
  | succ d ih =>
    intro k e b w
    rw [show d + 1 + e = (d + e) + 1 by omega, ndF_s, ndF_s, show k + (d + 1) = k + 1 + d by omega]
    by_cases z : gr g (k / 8 % 4) (k / 32) (k % 8) < w ∧ cbp g (k / 8 % 4) (k / 32) (k % 8) = true
    · rw [if_pos z, if_pos z]; exact ih _ _ _ _
    · rw [if_neg z, if_neg z]; exact ih _ _ _ _
theorem ndF_w (g : GS) : ∀ (d k b w : Nat), (ndF g k d b w).2 ≤ w := by
  intro d
  induction d with
  | zero => intro k b w; exact Nat.le_refl _
  | succ d ih =>
    intro k b w
    rw [ndF_s]
    by_cases z : gr g (k / 8 % 4) (k / 32) (k % 8) < w ∧ cbp g (k / 8 % 4) (k / 32) (k % 8) = true
    · rw [if_pos z]
      exact Nat.le_trans (ih _ _ _) (Nat.le_of_lt z.1)
    · rw [if_neg z]; exact ih _ _ _
def ndP (g : GS) (b w : Nat) : Prop := b = 4294967290 ∨ (b < 160 ∧ w = gr g (b / 8 % 4) (b / 32) (b % 8) ∧ cbp g (b / 8 % 4) (b / 32) (b % 8) = true)
theorem ndF_P (g : GS) : ∀ (d k b w : Nat), k + d = 160 → ndP g b w → ndP g (ndF g k d b w).1 (ndF g k d b w).2 := by
  intro d
  induction d with
  | zero => intro k b w _ h; exact h
  | succ d ih =>
    intro k b w hk h
    rw [ndF_s]
    by_cases z : gr g (k / 8 % 4) (k / 32) (k % 8) < w ∧ cbp g (k / 8 % 4) (k / 32) (k % 8) = true
    · rw [if_pos z]
      exact ih _ _ _ (by omega) (Or.inr ⟨by omega, rfl, z.2⟩)
    · rw [if_neg z]; exact ih _ _ _ (by omega) h
section S22
variable {hc hm : Hp} {g : GS}
theorem f6_canBePoured_g (hC : CR hc 1 g) (hI : IV g) {q r p : Nat} (hq : q < 4) (hr : r < 5) (hp : p < 8) : f6_canBePoured (nI q) (nI r) (nI p) hc = some (bI (cbp g q r p), hc) := by
  have hb := wn_le hI (q := q) hr hp
  have hx := hI.2.2.2.2.2.2.2.2 q r p hq hr hp
  unfold f6_canBePoured f6_canBePoured_e cbp
  rw [f5_wanted_g hC hI hq hr hp, bsm]
  dsimp only
  rw [f5_colour_g hC hq hr hp, bsm]
  dsimp only
  rw [f7_isColour_b _ (by omega), bsm]
  dsimp only
  by_cases z : 1 ≤ wn g q r p ∧ wn g q r p ≤ 6
  · rw [decide_eq_true z, bT]
    by_cases y : co g q r p = 0
    · rw [if_pos (by rw [y, k_0]), decide_eq_true ⟨z, Or.inl y⟩]; rfl
    · rw [if_neg (by rw [k_0, nI_eqU (by omega) (by omega)]; exact y)]
      by_cases x : co g q r p = wn g q r p
      · rw [if_pos (by rw [x]), decide_eq_true ⟨z, Or.inr x⟩]; rfl
      · rw [if_neg (by rw [nI_eqU (by omega) (by omega)]; exact x), decide_eq_false (fun w => w.2.elim y x)]; rfl
  · rw [decide_eq_false z, bF, decide_eq_false (fun w => z w.1)]; rfl
theorem nd_in (hC : CR hc 1 g) (hI : IV g) {q r : Nat} (hq : q < 4) (hr : r < 5) (k16 : Int32 → Int32 → Int32 → Hp → Re) (k24 : Int32 → Int32 → Int32 → Int32 → Hp → Re) : ∀ (d p n b w : Nat), p + d = 8 → d < n → w ≤ 50 → f6_neediest_L33 k16 k24 n (nI b) (nI w) (nI r) (nI q) (nI p) hc = k24 (nI (ndF g ((r * 4 + q) * 8 + p) d b w).1) (nI (ndF g ((r * 4 + q) * 8 + p) d b w).2) (nI r) (nI (q + 1)) hc := by
  intro d
  induction d with
  | zero =>
    intro p n b w hp hn hw
    obtain ⟨n, rfl⟩ : ∃ m, n = m + 1 := ⟨n - 1, by omega⟩
    rw [f6_neediest_L33_s]
    unfold f6_neediest_B33
    rw [if_pos (by rw [k_8, nI_leU (by omega) (by omega)]; omega), k_1, nI_add]
    rfl
  | succ d ih =>
    intro p n b w hp hn hw
    obtain ⟨n, rfl⟩ : ∃ m, n = m + 1 := ⟨n - 1, by omega⟩
    have hx := hI.2.2.2.2.2.2.2.2 q r p hq hr (by omega)
    have e1 : nI p + 1 = nI (p + 1) := by rw [k_1, nI_add]
    rw [f6_neediest_L33_s]
    unfold f6_neediest_B33
    rw [if_neg (by rw [k_8, nI_leU (by omega) (by omega)]; omega), f5_grains_g hC hq hr (by omega), bsm, e1, ndF_s, show ((r * 4 + q) * 8 + p) / 8 % 4 = q by omega, show ((r * 4 + q) * 8 + p) / 32 = r by omega, show ((r * 4 + q) * 8 + p) % 8 = p by omega]
    dsimp only
    by_cases z : w ≤ gr g q r p
    · rw [if_pos (by rw [nI_leU (by omega) (by omega)]; exact z), if_neg (by omega), ih (p + 1) n b w (by omega) (by omega) hw, Nat.add_assoc]
    · rw [if_neg (by rw [nI_leU (by omega) (by omega)]; exact z), f6_canBePoured_g hC hI hq hr (by omega), bsm]
      dsimp only
      cases e : cbp g q r p
      · rw [bF, if_neg (fun y => absurd y.2 (by decide)), ih (p + 1) n b w (by omega) (by omega) hw, Nat.add_assoc]
      · rw [bT, if_pos ⟨by omega, rfl⟩, k_4, k_8, pk_mul, nI_add, pk_mul, nI_add, ih (p + 1) n _ _ (by omega) (by omega) (by omega), Nat.add_assoc]
theorem nd_mid (hC : CR hc 1 g) (hI : IV g) {r : Nat} (hr : r < 5) (k16 : Int32 → Int32 → Int32 → Hp → Re) : ∀ (d q n b w : Nat), q + d = 4 → d < n → w ≤ 50 → f6_neediest_L24 k16 n (nI b) (nI w) (nI r) (nI q) hc = k16 (nI (ndF g ((r * 4 + q) * 8) (8 * d) b w).1) (nI (ndF g ((r * 4 + q) * 8) (8 * d) b w).2) (nI (r + 1)) hc := by
  intro d
  induction d with
  | zero =>
    intro q n b w hp hn hw
    obtain ⟨n, rfl⟩ : ∃ m, n = m + 1 := ⟨n - 1, by omega⟩
    rw [f6_neediest_L24_s]
    unfold f6_neediest_B24
    rw [if_pos (by rw [k_4, nI_leU (by omega) (by omega)]; omega), k_1, nI_add]
    rfl
  | succ d ih =>
    intro q n b w hp hn hw
    obtain ⟨n, rfl⟩ : ∃ m, n = m + 1 := ⟨n - 1, by omega⟩
    have hw2 := ndF_w g 8 ((r * 4 + q) * 8) b w
    rw [f6_neediest_L24_s]
    unfold f6_neediest_B24
    rw [if_neg (by rw [k_4, nI_leU (by omega) (by omega)]; omega), k_0, nd_in hC hI (by omega) hr _ _ 8 0 FU b w (by omega) (by unfold FU; omega) hw, Nat.add_zero, ih (q + 1) n _ _ (by omega) (by omega) (by omega), show 8 * (d + 1) = 8 + 8 * d by omega, ndF_app, show (r * 4 + (q + 1)) * 8 = (r * 4 + q) * 8 + 8 by omega]
theorem nd_out (hC : CR hc 1 g) (hI : IV g) : ∀ (d r n b w : Nat), r + d = 5 → d < n → w ≤ 50 → f6_neediest_L16 n (nI b) (nI w) (nI r) hc = some (nI (ndF g (32 * r) (32 * d) b w).1, hc) := by
  intro d
  induction d with
  | zero =>
    intro r n b w hp hn hw
    obtain ⟨n, rfl⟩ : ∃ m, n = m + 1 := ⟨n - 1, by omega⟩
    rw [f6_neediest_L16_s]
    unfold f6_neediest_B16
    rw [if_pos (by rw [k_5, nI_leU (by omega) (by omega)]; omega)]
    rfl
  | succ d ih =>
    intro r n b w hp hn hw
    obtain ⟨n, rfl⟩ : ∃ m, n = m + 1 := ⟨n - 1, by omega⟩
    have hw2 := ndF_w g 32 (32 * r) b w
    rw [f6_neediest_L16_s]
    unfold f6_neediest_B16
    rw [if_neg (by rw [k_5, nI_leU (by omega) (by omega)]; omega), k_0, nd_mid hC hI (by omega) _ 4 0 FU b w (by omega) (by unfold FU; omega) hw, show (r * 4 + 0) * 8 = 32 * r by omega, show 8 * 4 = 32 from rfl, ih (r + 1) n _ _ (by omega) (by omega) (by omega), show 32 * (d + 1) = 32 + 32 * d by omega, ndF_app, show 32 * (r + 1) = 32 * r + 32 by omega]
theorem f6_neediest_g (hC : CR hc 1 g) (hI : IV g) : f6_neediest hc = some (nI (ndF g (32 * g 19) (160 - 32 * g 19) 4294967290 (g 0)).1, hc) := by
  have h19 : g 19 ≤ 5 := hI.2.2.2.2.2.2.1
  have h0 := hI.1
  unfold f6_neediest f6_neediest_e
  rw [k_0, f5_setting_g hC (by omega), bsm]
  dsimp only
  rw [k_19, f5_number_g hC (by omega), bsm]
  dsimp only
  rw [k_m6, nd_out hC hI (5 - g 19) (g 19) FU _ _ (by omega) (by unfold FU; omega) (by omega), show 32 * (5 - g 19) = 160 - 32 * g 19 by omega]
theorem k_160 : (160 : Int32) = nI 160 := by decide +kernel
end S22
