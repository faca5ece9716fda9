/-! the model's numbers, by the class's -/
def ix (q r p : Nat) : Nat := 63 + 2 * (40 * q + 8 * r + p)
/-- where the model keeps a single number of the class's -/
def mx (c : Nat) : Nat := if c < 3 then c else if c ≤ 14 then c + 3 else if c ≤ 18 then c - 7 else if c = 19 then 3 else if c = 20 then 7 else if c = 21 then 4 else if c = 22 then 5 else 6
def vc (c : Nat) : Prop := c < 3 ∨ (9 ≤ c ∧ c ≤ 23)
theorem mx_lt {c : Nat} (h : vc c) : mx c < 18 := by
  unfold vc at h
  unfold mx
  repeat' split
  all_goals omega
theorem mx_inj0 : ∀ c, c < 24 → ∀ d, d < 24 → ((c < 3 ∨ (9 ≤ c ∧ c ≤ 23)) ∧ (d < 3 ∨ (9 ≤ d ∧ d ≤ 23)) ∧ mx c = mx d) → c = d := by decide +kernel
theorem mx_inj {c d : Nat} (h : vc c) (h2 : vc d) (e : mx c = mx d) : c = d := by
  unfold vc at h h2
  exact mx_inj0 c (by omega) d (by omega) ⟨h, h2, e⟩
def MR (s : Nat → Int32) (g : GS) : Prop := (∀ c, vc c → s (mx c) = nI (g c)) ∧ (∀ r, r < 5 → s (18 + r) = nI (if g (3 + r) = 4294967295 then 0 else 1) ∧ (g (3 + r) ≠ 4294967295 → ∀ p, p < 8 → s (23 + 8 * r + p) = nI (g (3 + r) / 8 ^ p % 8))) ∧ (∀ q r p, q < 4 → r < 5 → p < 8 → s (ix q r p) = nI (co g q r p) ∧ s (ix q r p + 1) = nI (gr g q r p))
theorem mx_h {q : Nat} (hq : q < 4) : mx (15 + q) = 8 + q := by
  unfold mx
  rw [if_neg (by omega), if_neg (by omega), if_pos (by omega)]
  omega
theorem mx_f {c : Nat} (h1 : 1 ≤ c) (h2 : c ≤ 6) : mx (8 + c) = 11 + c := by
  unfold mx
  rw [if_neg (by omega), if_pos (by omega)]
  omega
theorem mx_s {c : Nat} (h1 : c < 3) : mx c = c := by unfold mx; rw [if_pos h1]
section M1
variable {h : Hp} {g : GS}
theorem MR.set (hM : MR (h 13) g) {i : Nat} (hi : i < 3) : h 13 i = nI (g i) := by have := hM.1 i (Or.inl hi); rwa [mx_s hi] at this
theorem MR.clo (hM : MR (h 13) g) : h 13 3 = nI (g 19) := hM.1 19 (Or.inr (by omega))
theorem MR.don (hM : MR (h 13) g) : h 13 4 = nI (g 21) := hM.1 21 (Or.inr (by omega))
theorem MR.pou (hM : MR (h 13) g) : h 13 5 = nI (g 22) := hM.1 22 (Or.inr (by omega))
theorem MR.los (hM : MR (h 13) g) : h 13 6 = nI (g 23) := hM.1 23 (Or.inr (by omega))
theorem MR.swp (hM : MR (h 13) g) : h 13 7 = nI (g 20) := hM.1 20 (Or.inr (by omega))
theorem MR.hnd (hM : MR (h 13) g) {q : Nat} (hq : q < 4) : h 13 (8 + q) = nI (g (15 + q)) := by have := hM.1 (15 + q) (Or.inr (by omega)); rwa [mx_h hq] at this
theorem MR.fun (hM : MR (h 13) g) {c : Nat} (h1 : 1 ≤ c) (h2 : c ≤ 6) : h 13 (11 + c) = nI (g (8 + c)) := by have := hM.1 (8 + c) (Or.inr (by omega)); rwa [mx_f h1 h2] at this
theorem MR.has (hM : MR (h 13) g) {r : Nat} (hr : r < 5) : h 13 (18 + r) = nI (if g (3 + r) = 4294967295 then 0 else 1) := (hM.2.1 r hr).1
theorem MR.pat (hM : MR (h 13) g) {r p : Nat} (hr : r < 5) (hp : p < 8) (hg : g (3 + r) ≠ 4294967295) : h 13 (23 + 8 * r + p) = nI (g (3 + r) / 8 ^ p % 8) := (hM.2.1 r hr).2 hg p hp
theorem MR.co (hM : MR (h 13) g) {q r p : Nat} (hq : q < 4) (hr : r < 5) (hp : p < 8) : h 13 (ix q r p) = nI (co g q r p) := (hM.2.2 q r p hq hr hp).1
theorem MR.gr (hM : MR (h 13) g) {q r p : Nat} (hq : q < 4) (hr : r < 5) (hp : p < 8) : h 13 (ix q r p + 1) = nI (gr g q r p) := (hM.2.2 q r p hq hr hp).2
theorem tn_k (n : Nat) (h : n < 2147483648) : Int32.toNatClampNeg (nI n) = n := tn_nI h
theorem tn_0 : Int32.toNatClampNeg 0 = 0 := by decide +kernel
theorem tn_1 : Int32.toNatClampNeg 1 = 1 := by decide +kernel
theorem tn_2 : Int32.toNatClampNeg 2 = 2 := by decide +kernel
theorem tn_3 : Int32.toNatClampNeg 3 = 3 := by decide +kernel
theorem tn_4 : Int32.toNatClampNeg 4 = 4 := by decide +kernel
theorem tn_5 : Int32.toNatClampNeg 5 = 5 := by decide +kernel
theorem tn_6 : Int32.toNatClampNeg 6 = 6 := by decide +kernel
theorem tn_7 : Int32.toNatClampNeg 7 = 7 := by decide +kernel
/-- a guarded read at a number -/
theorem gd {α : Type} {a n : Nat} (x : Option α) (h : a < n) (hn : n < 2147483648) : (if inB (nI a) n = true then x else none) = x := if_pos (by rw [inB_nI h hn]; trivial)
theorem f8_p_g {q r p : Nat} : f8_p (nI q) (nI r) (nI p) h = some (nI (ix q r p), h) := by
  unfold f8_p f8_p_e ix
  simp only [k_63, k_2, k_40, k_8, pk_mul, nI_add]
theorem f8_isMirrored_g (hM : MR (h 13) g) (hI : IV g) {q : Nat} (hq : q < 4) : f8_isMirrored (nI q) h = some (bI (decide (g 2 = 1 ∧ q % 2 = 1)), h) := by
  have h2 : g 2 ≤ 1 := hI.2.2.1
  unfold f8_isMirrored f8_isMirrored_e
  rw [tn_2, hM.set (by omega)]
  by_cases q1 : g 2 = 1
  · rw [if_pos (by rw [q1, k_1])]
    have e : nI q - nI q / 2 * 2 = nI (q % 2) := by
      rw [k_2, nI_divU (by omega) (by omega) (by omega), pk_mul, nI_subU (by omega)]
      congr 1; omega
    rw [e]
    by_cases q2 : q % 2 = 1
    · rw [if_pos (by rw [q2, k_1]), decide_eq_true ⟨q1, q2⟩]; rfl
    · rw [if_neg (by rw [k_1, nI_eqU (by omega) (by omega)]; exact q2), decide_eq_false (fun z => q2 z.2)]; rfl
  · rw [if_neg (by rw [k_1, nI_eqU (by omega) (by omega)]; exact q1), decide_eq_false (fun z => q1 z.1)]; rfl
theorem f8_mirrored_g (hM : MR (h 13) g) (hI : IV g) {q p : Nat} (hq : q < 4) (hp : p < 8) : f8_mirrored (nI q) (nI p) h = some (nI (pp g q p), h) := by
  unfold f8_mirrored f8_mirrored_e pp
  rw [f8_isMirrored_g hM hI hq, bsm]
  dsimp only
  by_cases z : g 2 = 1 ∧ q % 2 = 1
  · rw [decide_eq_true z, bT, if_pos z, k_7, nI_subU (by omega)]
  · rw [decide_eq_false z, bF, if_neg z]
theorem f8_wanted_g (hM : MR (h 13) g) (hI : IV g) {q r p : Nat} (hq : q < 4) (hr : r < 5) (hp : p < 8) : f8_wanted (nI q) (nI r) (nI p) h = some (nI (wn g q r p), h) := by
  have hpp := pp_lt (g := g) (q := q) hp
  unfold f8_wanted f8_wanted_e wn
  rw [k_18, nI_add, gd _ (by omega) (by omega), tn_nI (by omega), hM.has hr]
  by_cases z : g (3 + r) = 4294967295
  · rw [if_pos z, if_pos z, if_pos k_0.symm, k_m6]
  · rw [if_neg z, if_neg z, if_neg (by rw [k_0, nI_eqU (by omega) (by omega)]; omega), f8_mirrored_g hM hI hq hp, bsm]
    dsimp only
    rw [k_23, k_8, pk_mul, nI_add, nI_add, gd _ (by omega) (by omega), tn_nI (by omega), hM.pat hr hpp z]
theorem ix_lt {q r p : Nat} (hq : q < 4) (hr : r < 5) (hp : p < 8) : ix q r p + 1 < 383 := by unfold ix; omega
theorem f8_isRight_g (hM : MR (h 13) g) (hI : IV g) {q r p : Nat} (hq : q < 4) (hr : r < 5) (hp : p < 8) : f8_isRight (nI q) (nI r) (nI p) h = some (bI (rt g q r p), h) := by
  have hb := wn_le hI (q := q) hr hp
  have hc := hI.2.2.2.2.2.2.2.2 q r p hq hr hp
  have h0 := hI.1
  have hx := ix_lt hq hr hp
  unfold f8_isRight f8_isRight_e rt
  rw [f8_p_g, bsm]
  dsimp only
  rw [f8_wanted_g hM hI hq hr hp, bsm]
  dsimp only
  rw [k_1, nI_add, gd _ hx (by omega), gd _ hx (by omega), tn_nI (by omega)]
  have eg := hM.gr hq hr hp
  have ec := hM.co hq hr hp
  by_cases q2 : wn g q r p = 0
  · rw [if_pos (by rw [q2, k_0]), if_neg (show ¬ wn g q r p = 4294967290 by omega), if_pos q2]
    by_cases q3 : gr g q r p = 0
    · rw [if_pos (by rw [eg, q3, k_0]), decide_eq_true q3]; rfl
    · rw [if_neg (by rw [eg, k_0, nI_eqU (by omega) (by omega)]; exact q3), decide_eq_false q3]; rfl
  · rw [if_neg (by rw [k_0, nI_eqU (by omega) (by omega)]; exact q2)]
    by_cases q1 : wn g q r p = 4294967290
    · rw [if_pos q1, q1, if_pos (by decide +kernel)]; rfl
    · rw [if_neg q1, if_neg q2, if_neg (by rw [k_0, nI_leU (by omega) (by omega)]; omega), k_0, nI_add, gd _ (by omega) (by omega), Nat.add_zero, tn_nI (by omega)]
      by_cases q3 : co g q r p = wn g q r p
      · rw [if_pos (by rw [ec, q3])]
        by_cases q4 : gr g q r p < g 0
        · rw [if_pos (by rw [eg, tn_nI (by omega), hM.set (by omega), nI_ltU (by omega) (by omega)]; exact q4), decide_eq_false (by omega)]; rfl
        · rw [if_neg (by rw [eg, tn_nI (by omega), hM.set (by omega), nI_ltU (by omega) (by omega)]; exact q4), decide_eq_true (by omega)]; rfl
      · rw [if_neg (by rw [ec, nI_eqU (by omega) (by omega)]; exact q3), decide_eq_false (fun z => q3 z.1)]; rfl
theorem f8_missing_g (hM : MR (h 13) g) (hI : IV g) {q r p : Nat} (hq : q < 4) (hr : r < 5) (hp : p < 8) : f8_missing (nI q) (nI r) (nI p) h = some (nI (ms g q r p), h) := by
  have hb := wn_le hI (q := q) hr hp
  have hc := hI.2.2.2.2.2.2.2.2 q r p hq hr hp
  have h0 := hI.1
  have hx := ix_lt hq hr hp
  have key : ∀ x : Nat, x ≤ 99 → f8_missing_j44 (nI (wn g q r p)) (nI x) h = some (nI (if 1 ≤ wn g q r p ∧ wn g q r p ≤ 6 then g 0 - x else 0), h) := by
    intro x hx
    unfold f8_missing_j44
    rw [tn_0, hM.set (by omega)]
    by_cases q1 : 1 ≤ wn g q r p ∧ wn g q r p ≤ 6
    · rw [if_pos q1, if_neg (by rw [k_0, nI_leU (by omega) (by omega)]; omega)]
      by_cases q2 : x < g 0
      · rw [if_pos (by rw [nI_ltU (by omega) (by omega)]; exact q2), nI_subU (by omega)]
      · rw [if_neg (by rw [nI_ltU (by omega) (by omega)]; exact q2), show g 0 - x = 0 by omega, k_0]
    · rw [if_neg q1]
      rcases hb with hb | hb
      · rw [hb, if_pos (by decide +kernel), k_0]
      · rw [if_pos (by rw [k_0, nI_leU (by omega) (by omega)]; omega), k_0]
  unfold f8_missing f8_missing_e ms
  rw [f8_p_g, bsm]
  dsimp only
  rw [f8_wanted_g hM hI hq hr hp, bsm]
  dsimp only
  rw [k_1, nI_add, gd _ hx (by omega), k_0, nI_add, gd _ (by omega) (by omega), Nat.add_zero, tn_nI (by omega), tn_nI (by omega)]
  by_cases q3 : co g q r p = wn g q r p
  · rw [if_pos (by rw [hM.co hq hr hp, q3]), hM.gr hq hr hp, key _ (by omega), if_pos q3]
  · rw [if_neg (by rw [hM.co hq hr hp, nI_eqU (by omega) (by omega)]; exact q3), key _ (by omega), if_neg q3]
theorem f8_isOpen_g (hM : MR (h 13) g) (hI : IV g) {r : Nat} (hr : r < 5) : f8_isOpen (nI r) h = some (bI (decide (g 19 ≤ r)), h) := by
  have h19 : g 19 ≤ 5 := hI.2.2.2.2.2.2.1
  unfold f8_isOpen f8_isOpen_e
  rw [tn_3, hM.clo]
  by_cases z : r < g 19
  · rw [if_pos (by rw [nI_ltU (by omega) (by omega)]; exact z), decide_eq_false (by omega)]; rfl
  · rw [if_neg (by rw [nI_ltU (by omega) (by omega)]; exact z), decide_eq_true (by omega)]; rfl
end M1
