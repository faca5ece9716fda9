/-! the first picture stands in the relations -/
theorem s0_hi {j : Nat} (hj : 15 ≤ j) : s0.g j = 0 := by
  show (if j = 0 then 5 else if j = 1 then 12 else if j = 2 then 1 else if 3 ≤ j ∧ j < 8 then 4294967295 else if 9 ≤ j ∧ j < 15 then 300 else 0) = 0
  rw [if_neg (by omega), if_neg (by omega), if_neg (by omega), if_neg (by omega), if_neg (by omega)]
theorem mo_s0 : ∀ c, c < 24 → (c < 3 ∨ (9 ≤ c ∧ c ≤ 23)) → moF 6 (mx c) = s0.g c := by decide +kernel
theorem RM_0 {h : Hp} (hm : moR (fun _ _ => 0) h 6) : RM h s0 := by
  obtain ⟨h1, h2⟩ := hm
  have z : ∀ c, c ≠ 13 → ∀ j, h c j = 0 := fun c hc j => by rw [h2 c hc]
  refine ⟨⟨fun c hc => ?_, fun r hr => ⟨?_, fun y => ?_⟩, fun q r p hq hr hp => ?_⟩, ⟨(z 12 (by omega) 10).trans k_0, fun i hi => absurd hi (Nat.not_lt_zero _), fun i hi => ⟨(z 18 (by omega) i).trans rfl, fun w => absurd (show false = true from w) (by decide)⟩⟩, ⟨(z 12 (by omega) 9).trans k_0, fun i hi => absurd hi (Nat.not_lt_zero _)⟩⟩
  · have := mx_lt hc
    rw [h1 _ (by omega), mo_s0 c (by unfold vc at hc; omega) hc]
  · have e : s0.g (3 + r) = 4294967295 := SI_0.1.2.2.2.1 r hr |>.elim id (fun w => by
      show (if 3 + r = 0 then 5 else if 3 + r = 1 then 12 else if 3 + r = 2 then 1 else if 3 ≤ 3 + r ∧ 3 + r < 8 then 4294967295 else if 9 ≤ 3 + r ∧ 3 + r < 15 then 300 else 0) = 4294967295
      rw [if_neg (by omega), if_neg (by omega), if_neg (by omega), if_pos (by omega)])
    rw [e, if_pos rfl, h1 _ (by omega)]
    unfold moF
    rw [if_neg (by omega), if_neg (by omega), if_neg (by omega), if_neg (by omega)]
  · refine absurd ?_ y
    show (if 3 + r = 0 then 5 else if 3 + r = 1 then 12 else if 3 + r = 2 then 1 else if 3 ≤ 3 + r ∧ 3 + r < 8 then 4294967295 else if 9 ≤ 3 + r ∧ 3 + r < 15 then 300 else 0) = 4294967295
    rw [if_neg (by omega), if_neg (by omega), if_neg (by omega), if_pos (by omega)]
  · have e1 : gr s0.g q r p = 0 := s0_hi (by omega)
    have e2 : co s0.g q r p = 0 := s0_hi (by omega)
    have hx := ix_lt hq hr hp
    have e3 : moF 6 (ix q r p) = 0 := by unfold moF ix; rw [if_neg (by omega), if_neg (by omega), if_neg (by omega), if_neg (by omega)]
    have e4 : moF 6 (ix q r p + 1) = 0 := by unfold moF ix; rw [if_neg (by omega), if_neg (by omega), if_neg (by omega), if_neg (by omega)]
    rw [e1, e2, h1 _ (by omega), h1 _ (by omega), e3, e4]
    exact ⟨rfl, rfl⟩
theorem RC_0 {h : Hp} (hC : CR h 1 s0.g) (h8 : ∀ j, h 8 j = 0) (h10 : ∀ j, h 10 j = 0) : RC h s0 :=
  ⟨hC, ⟨0, by omega, (h8 1).trans k_0, (h8 2).trans k_0, (h8 3).trans k_0, fun i hi => absurd hi (Nat.not_lt_zero _), fun i hi w => absurd (show false = true from w) (by decide)⟩, (h10 1).trans k_0, fun i hi => absurd hi (Nat.not_lt_zero _)⟩
