/-! ranges of arguments -/
theorem bF {α : Type} (a b : α) : (if bI false = 0 then a else b) = a := rfl
theorem bT {α : Type} (a b : α) : (if bI true = 0 then a else b) = b := rfl
def inR (x : Int32) (n : Nat) : Bool := decide (0 ≤ x.toInt ∧ x.toInt < n)
def inC (x : Int32) (a b : Nat) : Bool := decide ((a : Int) ≤ x.toInt ∧ x.toInt ≤ b)
theorem inR_of {x : Int32} {n : Nat} (h : inR x n = true) (hn : n < 2147483648) : ∃ a, a < n ∧ x = nI a := vp_in_of (vp_in_iff.mpr (of_decide_eq_true h)) (by omega)
theorem inR_nI {a n : Nat} (h : a < n) (hn : n < 2147483648) : inR (nI a) n = true := by
  unfold inR
  rw [nI_toInt (by omega)]
  exact decide_eq_true (by omega)
theorem inC_of {x : Int32} {a b : Nat} (h : inC x a b = true) (hn : b < 2147483647) : ∃ c, a ≤ c ∧ c ≤ b ∧ x = nI c := by
  have h1 := of_decide_eq_true h
  have h2 : vp_in x (b + 1) := vp_in_iff.mpr ⟨by omega, by omega⟩
  obtain ⟨c, hc, rfl⟩ := vp_in_of h2 (by omega)
  rw [nI_toInt (by omega)] at h1
  exact ⟨c, by omega, by omega, rfl⟩
theorem inC_nI {a b c : Nat} (h1 : a ≤ c) (h2 : c ≤ b) (hn : b < 2147483647) : inC (nI c) a b = true := by
  unfold inC
  rw [nI_toInt (by omega)]
  exact decide_eq_true (by omega)
theorem lt_n (x : Int32) {n : Nat} (hn : n < 2147483648) : x < nI n ↔ x.toInt < n := by rw [Int32.lt_iff_toInt_lt, nI_toInt (by omega)]
theorem le_n (x : Int32) {n : Nat} (hn : n < 2147483648) : x ≤ nI n ↔ x.toInt ≤ n := by rw [Int32.le_iff_toInt_le, nI_toInt (by omega)]
theorem n_lt (x : Int32) {n : Nat} (hn : n < 2147483648) : nI n < x ↔ (n : Int) < x.toInt := by rw [Int32.lt_iff_toInt_lt, nI_toInt (by omega)]
theorem n_le (x : Int32) {n : Nat} (hn : n < 2147483648) : nI n ≤ x ↔ (n : Int) ≤ x.toInt := by rw [Int32.le_iff_toInt_le, nI_toInt (by omega)]
theorem eq_n (x : Int32) {n : Nat} (hn : n < 2147483648) : x = nI n ↔ x.toInt = n := by rw [← Int32.toInt_inj, nI_toInt (by omega)]
section RG
variable {h : Hp}
theorem f7_isQuarter_b (x : Int32) : f7_isQuarter x h = some (bI (inR x 4), h) := by
  unfold f7_isQuarter f7_isQuarter_e inR
  rw [k_0, k_4]
  by_cases q1 : x < nI 0
  · rw [if_pos q1, decide_eq_false (by rw [lt_n _ (by omega)] at q1; omega)]; rfl
  · rw [if_neg q1]
    by_cases q2 : nI 4 ≤ x
    · rw [if_pos q2, decide_eq_false (by rw [n_le _ (by omega)] at q2; omega)]; rfl
    · rw [if_neg q2, decide_eq_true (by rw [lt_n _ (by omega)] at q1; rw [n_le _ (by omega)] at q2; omega)]; rfl
theorem f7_isRing_b (x : Int32) : f7_isRing x h = some (bI (inR x 5), h) := by
  unfold f7_isRing f7_isRing_e inR
  rw [k_0, k_5]
  by_cases q1 : x < nI 0
  · rw [if_pos q1, decide_eq_false (by rw [lt_n _ (by omega)] at q1; omega)]; rfl
  · rw [if_neg q1]
    by_cases q2 : nI 5 ≤ x
    · rw [if_pos q2, decide_eq_false (by rw [n_le _ (by omega)] at q2; omega)]; rfl
    · rw [if_neg q2, decide_eq_true (by rw [lt_n _ (by omega)] at q1; rw [n_le _ (by omega)] at q2; omega)]; rfl
theorem f7_isColour_c (x : Int32) : f7_isColour x h = some (bI (inC x 1 6), h) := by
  unfold f7_isColour f7_isColour_e inC
  rw [k_1, k_6]
  by_cases q1 : x < nI 1
  · rw [if_pos q1, decide_eq_false (by rw [lt_n _ (by omega)] at q1; omega)]; rfl
  · rw [if_neg q1]
    by_cases q2 : nI 6 < x
    · rw [if_pos q2, decide_eq_false (by rw [n_lt _ (by omega)] at q2; omega)]; rfl
    · rw [if_neg q2, decide_eq_true (by rw [lt_n _ (by omega)] at q1; rw [n_lt _ (by omega)] at q2; omega)]; rfl
theorem f7_isDirection_b (x : Int32) : f7_isDirection x h = some (bI (inR x 2), h) := by
  unfold f7_isDirection f7_isDirection_e inR
  rw [k_0, k_1]
  by_cases q1 : x = nI 0
  · rw [if_pos q1, decide_eq_true (by rw [eq_n _ (by omega)] at q1; omega)]; rfl
  · rw [if_neg q1]
    by_cases q2 : x = nI 1
    · rw [if_pos q2, decide_eq_true (by rw [eq_n _ (by omega)] at q2; omega)]; rfl
    · rw [if_neg q2, decide_eq_false (by rw [eq_n _ (by omega)] at q1 q2; omega)]; rfl
theorem f7_isPlace_b (x0 x1 x2 : Int32) : f7_isPlace x0 x1 x2 h = some (bI (inR x0 4 && inR x1 5 && inR x2 8), h) := by
  unfold f7_isPlace f7_isPlace_e
  rw [f7_isQuarter_b, bsm]
  dsimp only
  cases hq : inR x0 4
  · rw [bF]; rfl
  · rw [bT, f7_isRing_b, bsm]
    dsimp only
    cases hr : inR x1 5
    · rw [bF]; rfl
    · rw [bT]
      unfold inR
      rw [k_0, k_8]
      by_cases q1 : x2 < nI 0
      · rw [if_pos q1, decide_eq_false (by rw [lt_n _ (by omega)] at q1; omega)]; rfl
      · rw [if_neg q1]
        by_cases q2 : nI 8 ≤ x2
        · rw [if_pos q2, decide_eq_false (by rw [n_le _ (by omega)] at q2; omega)]; rfl
        · rw [if_neg q2, decide_eq_true (by rw [lt_n _ (by omega)] at q1; rw [n_le _ (by omega)] at q2; omega)]; rfl
theorem inC_inR (x : Int32) (n : Nat) (hn : 0 < n) : inC x 0 (n - 1) = inR x n := by
  unfold inC inR
  congr 1
  simp only [eq_iff_iff]
  omega
theorem f7_bit_b (b : Bool) : f7_bit (bI b) h = some (bI b, h) := by cases b <;> rfl
end RG
/-! changes of the class's state object -/
def gu (g : GS) (c v : Nat) : GS := fun j => if j = c then v else g j
theorem gu_s (g : GS) (c v : Nat) : gu g c v c = v := by simp [gu]
theorem gu_n (g : GS) (c v : Nat) {j : Nat} (h : j ≠ c) : gu g c v j = g j := by simp [gu, h]
def FR (h h' : Hp) (a : Nat) : Prop := ∀ b, b ≠ a → h' b = h b
theorem FR.rf (h : Hp) (a : Nat) : FR h h a := fun _ _ => rfl
theorem FR.tr {h h1 h2 : Hp} {a : Nat} (x : FR h h1 a) (y : FR h1 h2 a) : FR h h2 a := fun b q => (y b q).trans (x b q)
section C5b
variable {h : Hp} {k : Nat} {g : GS}
theorem CR_hu (hC : CR h k g) {c : Nat} (v : Nat) : CR (hu h (k + 1) c (nI v)) k (gu g c v) := by
  intro j hj
  rw [hu_s]
  unfold upd gu
  by_cases q : j = c
  · rw [if_pos q, if_pos q]
  · rw [if_neg q, if_neg q, hC j hj]
theorem FR_hu (c : Nat) (v : Int32) : FR h (hu h k c v) k := fun b q => hu_n _ _ _ _ q
theorem CR_fr {h' : Hp} {a : Nat} (hC : CR h k g) (hF : FR h h' a) (ha : k + 1 ≠ a) : CR h' k g := fun c hc => by rw [hF _ ha]; exact hC c hc
theorem f5_lay_g (hC : CR h k g) {c v : Nat} (hc : c < 344) : ∃ h', f5_lay k (nI c) (nI v) h = some (0, h') ∧ CR h' k (gu g c v) ∧ FR h h' (k + 1) :=
  ⟨_, f5_lay_eq _ hc, CR_hu hC v, FR_hu _ _⟩
theorem f5_raise_g (hC : CR h k g) {c v : Nat} (hc : c < 344) : ∃ h', f5_raise k (nI c) (nI v) h = some (0, h') ∧ CR h' k (gu g c (g c + v)) ∧ FR h h' (k + 1) := by
  unfold f5_raise f5_raise_e
  rw [f5_number_g hC hc, bsm]
  dsimp only
  rw [nI_add]
  obtain ⟨h', e, a, b⟩ := f5_lay_g (v := g c + v) hC hc
  rw [e, bsm]
  exact ⟨h', rfl, a, b⟩
theorem f5_lower_g (hC : CR h k g) {c v : Nat} (hc : c < 344) (hv : v ≤ g c) : ∃ h', f5_raise k (nI c) (-(nI v)) h = some (0, h') ∧ CR h' k (gu g c (g c - v)) ∧ FR h h' (k + 1) := by
  unfold f5_raise f5_raise_e
  rw [f5_number_g hC hc, bsm]
  dsimp only
  rw [← Int32.sub_eq_add_neg, nI_subU hv]
  obtain ⟨h', e, a, b⟩ := f5_lay_g (v := g c - v) hC hc
  rw [e, bsm]
  exact ⟨h', rfl, a, b⟩
/-- a place is heaped up -/
def hpS (g : GS) (q r p c n : Nat) : GS := gu (gu g (24 + (q * 5 + r) * 8 + p) n) (184 + (q * 5 + r) * 8 + p) (if n = 0 then 0 else c)
theorem f5_heap_g (hC : CR h k g) {q r p c n : Nat} (hq : q < 4) (hr : r < 5) (hp : p < 8) (hn : n < 2147483648) : ∃ h', f5_heap k (nI q) (nI r) (nI p) (nI c) (nI n) h = some (0, h') ∧ CR h' k (hpS g q r p c n) ∧ FR h h' (k + 1) := by
  have e1 : (24 + (((nI q * 5 + nI r) * 8) + nI p) : Int32) = nI (24 + (q * 5 + r) * 8 + p) := by
    simp only [k_24, k_5, k_8, pk_mul, nI_add, Nat.add_assoc]
  have e2 : (184 + (((nI q * 5 + nI r) * 8) + nI p) : Int32) = nI (184 + (q * 5 + r) * 8 + p) := by
    simp only [k_184, k_5, k_8, pk_mul, nI_add, Nat.add_assoc]
  unfold f5_heap f5_heap_e f5_heap_j41
  rw [e1, e2]
  obtain ⟨h1, a1, b1, c1⟩ := f5_lay_g (c := 24 + (q * 5 + r) * 8 + p) (v := n) hC (by omega)
  rw [a1, bsm]
  dsimp only
  unfold hpS
  by_cases q0 : n = 0
  · rw [if_pos (by rw [q0, k_0]), if_pos q0, k_0]
    obtain ⟨h2, a2, b2, c2⟩ := f5_lay_g (c := 184 + (q * 5 + r) * 8 + p) (v := 0) b1 (by omega)
    rw [a2, bsm]
    exact ⟨h2, rfl, b2, c1.tr c2⟩
  · rw [if_neg (by rw [k_0, nI_eqU (by omega) (by omega)]; exact q0), if_neg q0]
    obtain ⟨h2, a2, b2, c2⟩ := f5_lay_g (c := 184 + (q * 5 + r) * 8 + p) (v := c) b1 (by omega)
    rw [a2, bsm, k_0]
    exact ⟨h2, rfl, b2, c1.tr c2⟩
end C5b
theorem hpS_gr (g : GS) {q r p c n q' r' p' : Nat} (hq : q < 4) (hr : r < 5) (hp : p < 8) (hq' : q' < 4) (hr' : r' < 5) (hp' : p' < 8) : gr (hpS g q r p c n) q' r' p' = if q' = q ∧ r' = r ∧ p' = p then n else gr g q' r' p' := by
  unfold gr hpS gu
  rw [if_neg (by omega)]
  by_cases z : q' = q ∧ r' = r ∧ p' = p
  · obtain ⟨rfl, rfl, rfl⟩ := z
    simp
  · rw [if_neg (by omega), if_neg z]
theorem hpS_co (g : GS) {q r p c n q' r' p' : Nat} (hq : q < 4) (hr : r < 5) (hp : p < 8) (hq' : q' < 4) (hr' : r' < 5) (hp' : p' < 8) : co (hpS g q r p c n) q' r' p' = if q' = q ∧ r' = r ∧ p' = p then (if n = 0 then 0 else c) else co g q' r' p' := by
  unfold co hpS gu
  by_cases z : q' = q ∧ r' = r ∧ p' = p
  · obtain ⟨rfl, rfl, rfl⟩ := z
    simp
  · rw [if_neg (by omega), if_neg (by omega), if_neg z]
theorem hpS_lo (g : GS) {q r p c n j : Nat} (hj : j < 24) : hpS g q r p c n j = g j := by
  unfold hpS gu
  rw [if_neg (by omega), if_neg (by omega)]
theorem IV_hpS {g : GS} (hI : IV g) {q r p c n : Nat} (hq : q < 4) (hr : r < 5) (hp : p < 8) (hn : n ≤ 99) (hc : n = 0 ∨ (1 ≤ c ∧ c ≤ 6)) : IV (hpS g q r p c n) := by
  obtain ⟨a1, a2, a3, a4, a5, a6, a7, a8, a9⟩ := hI
  refine ⟨by rw [hpS_lo _ (by omega)]; exact a1, by rw [hpS_lo _ (by omega)]; exact a2, by rw [hpS_lo _ (by omega)]; exact a3, fun r' hr' => by rw [hpS_lo _ (by omega)]; exact a4 r' hr', fun c' h1 h2 => by rw [hpS_lo _ (by omega)]; exact a5 c' h1 h2, fun q' h1 => by rw [hpS_lo _ (by omega)]; exact a6 q' h1, by rw [hpS_lo _ (by omega)]; exact a7, by rw [hpS_lo _ (by omega)]; exact a8, fun q' r' p' h1 h2 h3 => ?_⟩
  rw [hpS_gr g hq hr hp h1 h2 h3, hpS_co g hq hr hp h1 h2 h3]
  by_cases z : q' = q ∧ r' = r ∧ p' = p
  · rw [if_pos z, if_pos z]
    by_cases z0 : n = 0
    · rw [if_pos z0]; omega
    · rw [if_neg z0]; omega
  · rw [if_neg z, if_neg z]
    exact a9 q' r' p' h1 h2 h3
