/-! the model's numbers, by the class's -/
def ix (q r p : Nat) : Nat := 63 + 2 * (40 * q + 8 * r + p)
/-- where the model keeps a single number of the class's -/
def mx (c : Nat) : Nat := if c < 3 then c else if c ≤ 14 then c + 3 else if c ≤ 18 then c - 7 else if c = 19 then 3 else if c = 20 then 7 else if c = 21 then 4 else if c = 22 then 5 else 6
def vc (c : Nat) : Prop := c < 3 ∨ (9 ≤ c ∧ c ≤ 23)
theorem mx_lt {c : Nat} (h : vc c) : mx c < 18 := by
  unfold vc at h
  unfold mx
  repeat' split
  all_goals omega
theorem mx_inj0 : ∀ c, c < 24 → ∀ d, d < 24 → ((c < 3 ∨ (9 ≤ c ∧ c ≤ 23)) ∧ (d < 3 ∨ (9 ≤ d ∧ d ≤ 23)) ∧ mx c = mx d) → c = d := by decide +kernel
theorem mx_inj {c d : Nat} (h : vc c) (h2 : vc d) (e : mx c = mx d) : c = d := by
  unfold vc at h h2
  exact mx_inj0 c (by omega) d (by omega) ⟨h, h2, e⟩
def MR (s : Nat → Int32) (g : GS) : Prop := (∀ c, vc c → s (mx c) = nI (g c)) ∧ (∀ r, r < 5 → s (18 + r) = nI (if g (3 + r) = 4294967295 then 0 else 1) ∧ (g (3 + r) ≠ 4294967295 → ∀ p, p < 8 → s (23 + 8 * r + p) = nI (g (3 + r) / 8 ^ p % 8))) ∧ (∀ q r p, q < 4 → r < 5 → p < 8 → s (ix q r p) = nI (co g q r p) ∧ s (ix q r p + 1) = nI (gr g q r p))
theorem mx_h {q : Nat} (hq : q < 4) : mx (15 + q) = 8 + q := by
  unfold mx
  rw [if_neg (by omega), if_neg (by omega), if_pos (by omega)]
  omega
theorem mx_f {c : Nat} (h1 : 1 ≤ c) (h2 : c ≤ 6) : mx (8 + c) = 11 + c := by
  unfold mx
  rw [if_neg (by omega), if_pos (by omega)]
  omega
theorem mx_s {c : Nat} (h1 : c < 3) : mx c = c := by unfold mx; rw [if_pos h1]
section M1
variable {h : Hp} {g : GS}
theorem MR.set (hM : MR (h 13) g) {i : Nat} (hi : i < 3) : h 13 i = nI (g i) := by have := hM.1 i (Or.inl hi); rwa [mx_s hi] at this
theorem MR.clo (hM : MR (h 13) g) : h 13 3 = nI (g 19) := hM.1 19 (Or.inr (by omega))
theorem MR.don (hM : MR (h 13) g) : h 13 4 = nI (g 21) := hM.1 21 (Or.inr (by omega))
theorem MR.pou (hM : MR (h 13) g) : h 13 5 = nI (g 22) := hM.1 22 (Or.inr (by omega))
theorem MR.los (hM : MR (h 13) g) : h 13 6 = nI (g 23) := hM.1 23 (Or.inr (by omega))
theorem MR.swp (hM : MR (h 13) g) : h 13 7 = nI (g 20) := hM.1 20 (Or.inr (by omega))
theorem MR.hnd (hM : MR (h 13) g) {q : Nat} (hq : q < 4) : h 13 (8 + q) = nI (g (15 + q)) := by have := hM.1 (15 + q) (Or.inr (by omega)); rwa [mx_h hq] at this
theorem MR.fun (hM : MR (h 13) g) {c : Nat} (h1 : 1 ≤ c) (h2 : c ≤ 6) : h 13 (11 + c) = nI (g (8 + c)) := by have := hM.1 (8 + c) (Or.inr (by omega)); rwa [mx_f h1 h2] at this
theorem MR.has (hM : MR (h 13) g) {r : Nat} (hr : r < 5) : h 13 (18 + r) = nI (if g (3 + r) = 4294967295 then 0 else 1) := (hM.2.1 r hr).1
theorem MR.pat (hM : MR (h 13) g) {r p : Nat} (hr : r < 5) (hp : p < 8) (hg : g (3 + r) ≠ 4294967295) : h 13 (23 + 8 * r + p) = nI (g (3 + r) / 8 ^ p % 8) := (hM.2.1 r hr).2 hg p hp
theorem MR.co (hM : MR (h 13) g) {q r p : Nat} (hq : q < 4) (hr : r < 5) (hp : p < 8) : h 13 (ix q r p) = nI (co g q r p) := (hM.2.2 q r p hq hr hp).1
theorem MR.gr (hM : MR (h 13) g) {q r p : Nat} (hq : q < 4) (hr : r < 5) (hp : p < 8) : h 13 (ix q r p + 1) = nI (gr g q r p) := (hM.2.2 q r p hq hr hp).2
theorem tn_k (n : Nat) (h : n < 2147483648) : Int32.toNatClampNeg (nI n) = n := tn_nI h
theorem tn_0 : Int32.toNatClampNeg 0 = 0 := by decide +kernel
theorem tn_1 : Int32.toNatClampNeg 1 = 1 := by decide +kernel
theorem tn_2 : Int32.toNatClampNeg 2 = 2 := by decide +kernel
theorem tn_3 : Int32.toNatClampNeg 3 = 3 := by decide +kernel
theorem tn_4 : Int32.toNatClampNeg 4 = 4 := by decide +kernel
theorem tn_5 : Int32.toNatClampNeg 5 = 5 := by decide +kernel
theorem tn_6 : Int32.toNatClampNeg 6 = 6 := by decide +kernel
theorem tn_7 : Int32.toNatClampNeg 7 = 7 := by decide +kernel
/-- a guarded read at a number -/
theorem gd {α : Type} {a n : Nat} (x : Option α) (h : a < n) (hn : n < 2147483648) : (if inB (nI a) n = true then x else none) = x := if_pos (by rw [inB_nI h hn]; trivial)
theorem ix_lt {q r p : Nat} (hq : q < 4) (hr : r < 5) (hp : p < 8) : ix q r p + 1 < 383 := by unfold ix; omega
end M1
