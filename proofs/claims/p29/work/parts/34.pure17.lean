/-! sums of the model -/
theorem sm_blk (F : Nat → Nat → Nat) {b : Nat} (hb : 0 < b) (a : Nat) : sm (fun k => F (k / b) (k % b)) (b * a) b = sm (F a) 0 b := by
  have key : ∀ j, j < b → F ((b * a + j) / b) ((b * a + j) % b) = F a j := fun j hj => by
    rw [Nat.mul_add_div hb, Nat.div_eq_of_lt hj, Nat.add_zero, Nat.mul_add_mod, Nat.mod_eq_of_lt hj]
  have e : ∀ (d i : Nat), i + d ≤ b → sm (fun k => F (k / b) (k % b)) (b * a + i) d = sm (F a) i d := by
    intro d
    induction d with
    | zero => exact fun _ _ => rfl
    | succ d ih =>
      intro i hi
      show F ((b * a + i) / b) ((b * a + i) % b) + sm (fun k => F (k / b) (k % b)) (b * a + i + 1) d = F a i + sm (F a) (i + 1) d
      rw [key i (by omega), Nat.add_assoc, ih (i + 1) (by omega)]
  exact e b 0 (by omega)
theorem sm_flatB (F : Nat → Nat → Nat) {b : Nat} (hb : 0 < b) : ∀ a, sm (fun k => F (k / b) (k % b)) 0 (b * a) = sm (fun i => sm (F i) 0 b) 0 a := by
  intro a
  induction a with
  | zero => rfl
  | succ a ih =>
    rw [Nat.mul_succ, sm_app, ih, Nat.zero_add, sm_blk F hb, sm_app, Nat.zero_add]
    rfl
theorem mdN {a d : Nat} (ha : a < 2147483648) (h0 : 0 < d) (hd : d < 2147483648) : nI a - nI a / nI d * nI d = nI (a % d) := by
  have e := Nat.div_add_mod a d
  rw [Nat.mul_comm] at e
  rw [nI_divU ha h0 hd, pk_mul, nI_subU (by generalize a / d * d = X at e ⊢; omega)]
  congr 1
  generalize a / d * d = X at e ⊢
  omega
section S18
variable {h : Hp} {g : GS}
def opF (g : GS) (w q r p : Nat) : Nat := if w = 4 then mea g 2 4294967295 q r p else if w = 5 then mea g 0 4294967295 q r p else mea g 5 4294967295 q r p
theorem mea0 (g : GS) (q r p : Nat) : mea g 0 4294967295 q r p = gr g q r p := by unfold mea; rw [if_pos rfl, mt_any, if_pos rfl]
theorem mea5 (g : GS) (q r p : Nat) : mea g 5 4294967295 q r p = ms g q r p := by unfold mea; rw [if_neg (by omega), if_neg (by omega), if_neg (by omega), if_neg (by omega), if_neg (by omega), mt_any, if_pos rfl]
def oiF (g : GS) (w q r p : Nat) : Nat := if w = 0 then gr g q r p else if w = 1 then (if wn g q r p = 4294967290 then 0 else if rt g q r p = false then 1 else 0) else if w = 11 then (if rt g q r p = false then 0 else 1) else if co g q r p = w - 4 then gr g q r p else 0
def oaF (g : GS) (w c q r p : Nat) : Nat := if w = 2 then (if co g q r p = c then gr g q r p else 0) else if wn g q r p = c then (if w = 3 then 1 else ms g q r p) else 0
end S18
