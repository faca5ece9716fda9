/-! count, best, lacking, needed -/
section S21
variable {hc hm : Hp} {s : St} {g : GS}
def bst (f : Nat → Nat) : Nat → Nat → Nat → Nat
  | _, 0, l => l
  | q, d + 1, l => bst f (q + 1) d (if f q ≤ f l then l else q)
theorem mea1_le (g : GS) (c q r p : Nat) : mea g 1 c q r p ≤ 1 := by
  unfold mea
  rw [if_neg (by omega), if_pos rfl]
  split <;> omega
theorem right_le (g : GS) {q : Nat} (hq : q < 4) : tal g 1 4294967295 q 4294967295 ≤ 40 := by
  rw [tal_q g 1 _ hq]
  have := sm_le (f := fun r => sm (fun p => mea g 1 4294967295 q r p) 0 8) (B := 8) 5 0 (fun r _ _ => by
    have := sm_le (f := fun p => mea g 1 4294967295 q r p) (B := 1) 8 0 (fun p _ _ => mea1_le g _ q r p)
    exact this)
  exact this
theorem ms_le {g : GS} (hI : IV g) (q r p : Nat) : ms g q r p ≤ 50 := by
  have := hI.1
  unfold ms
  split <;> omega
theorem miss_le {g : GS} (hI : IV g) (c : Nat) : tal g 5 c 4294967295 4294967295 ≤ 8000 := by
  rw [tal_a]
  have := sm_le (f := fun r => sm (fun q => sm (fun p => mea g 5 c q r p) 0 8) 0 4) (B := 1600) 5 0 (fun r _ _ => by
    have := sm_le (f := fun q => sm (fun p => mea g 5 c q r p) 0 8) (B := 400) 4 0 (fun q _ _ => by
      have := sm_le (f := fun p => mea g 5 c q r p) (B := 50) 8 0 (fun p _ _ => by
        have := ms_le hI q r p
        show mea g 5 c q r p ≤ 50
        unfold mea
        rw [if_neg (show ¬ (5 : Nat) = 0 by omega), if_neg (show ¬ (5 : Nat) = 1 by omega), if_neg (show ¬ (5 : Nat) = 2 by omega), if_neg (show ¬ (5 : Nat) = 3 by omega), if_neg (show ¬ (5 : Nat) = 4 by omega)]
        split <;> omega)
      exact this)
    exact this)
  exact this
def lkF (g : GS) (c : Nat) : Bool := decide (g (8 + c) < tal g 5 c 4294967295 4294967295)
end S21
