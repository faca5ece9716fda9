/-! each call, on both sides of one picture -/
theorem RC_mf {h h' : Hp} {s : St} (hR : RC h s) (f : MF h h') : RC h' s := by
  have e2 : h' 2 = h 2 := f 2 (by omega)
  have e8 : h' 8 = h 8 := f 8 (by omega)
  have e9 : h' 9 = h 9 := f 9 (by omega)
  have e10 : h' 10 = h 10 := f 10 (by omega)
  have e11 : h' 11 = h 11 := f 11 (by omega)
  unfold RC CR HC rwC PC
  rw [show 1 + 1 = 2 from rfl, e2, e8, e9, e10, e11]
  exact hR
theorem RM_cf {h h' : Hp} {s : St} (hR : RM h s) (f : CF h h') : RM h' s := by
  unfold RM HM PM rwM
  rw [f 12 (by omega), f 13 (by omega), f 16 (by omega), f 17 (by omega), f 18 (by omega), f 21 (by omega)]
  exact hR
def OP (f7 f8 : Hp → Re) : Prop := ∀ (h : Hp) (s : St), RC h s → RM h s → SI s → ∃ v h1 h2 s', f7 h = some (v, h1) ∧ f8 h1 = some (v, h2) ∧ RC h2 s' ∧ RM h2 s' ∧ SI s'
theorem OP_of {f7 f8 : Hp → Re} (r : St → Int32 × St) (h7 : ∀ h s, RC h s → SI s → ∃ h', f7 h = some ((r s).1, h') ∧ RC h' (r s).2 ∧ CF h h') (h8 : ∀ h s, RM h s → SI s → ∃ h', f8 h = some ((r s).1, h') ∧ RM h' (r s).2 ∧ MF h h') (hS : ∀ s, SI s → SI (r s).2) : OP f7 f8 := by
  intro h s hC hM hI
  obtain ⟨h1, a1, a2, a3⟩ := h7 h s hC hI
  obtain ⟨h2, b1, b2, b3⟩ := h8 h1 s (RM_cf hM a3) hI
  exact ⟨_, h1, h2, (r s).2, a1, b1, RC_mf a2 b3, b2, hS s hI⟩
theorem OP_ch {f7 f8 : Hp → Re} (r : GS → Int32 × GS) (h7 : ∀ h s, RC h s → SI s → CT h s f7 (r s.g)) (h8 : ∀ h s, RM h s → SI s → MT h s f8 (r s.g)) (hI : ∀ g, IV g → IV (r g).2) : OP f7 f8 :=
  OP_of (fun s => ((r s.g).1, chg s (r s.g).1 (r s.g).2)) (fun h s a b => h7 h s a b) (fun h s a b => h8 h s a b) (fun s hS => SI_chg hS (hI _ hS.1))
theorem OP_rd {f7 f8 : Hp → Re} (hr : ∀ h s, RC h s → RM h s → SI s → RP f7 f8 h h) : OP f7 f8 := by
  intro h s hC hM hI
  obtain ⟨v, a, b⟩ := hr h s hC hM hI
  exact ⟨v, h, h, s, a, b, hC, hM, hI⟩
/-! the beginning -/
def s0 : St := ((fun j => if j = 0 then 5 else if j = 1 then 12 else if j = 2 then 1 else if 3 ≤ j ∧ j < 8 then 4294967295 else if 9 ≤ j ∧ j < 15 then 300 else 0), 0, (fun _ _ => 0), (fun _ => false), (fun _ _ => 0), 0, (fun _ => 0))
theorem SI_0 : SI s0 := by
  refine ⟨⟨by decide, by decide, by decide, fun r hr => Or.inl ?_, fun c h1 h2 => ?_, fun q hq => ?_, by decide, by decide, fun q r p hq hr hp => ?_⟩, Nat.zero_le _, fun i hi => absurd hi (Nat.not_lt_zero _), fun i hi w => absurd (show false = true from w) (by decide), Nat.zero_le _, fun i hi => absurd hi (Nat.not_lt_zero _)⟩
  · show (if 3 + r = 0 then 5 else if 3 + r = 1 then 12 else if 3 + r = 2 then 1 else if 3 ≤ 3 + r ∧ 3 + r < 8 then 4294967295 else if 9 ≤ 3 + r ∧ 3 + r < 15 then 300 else 0) = 4294967295
    rw [if_neg (by omega), if_neg (by omega), if_neg (by omega), if_pos (by omega)]
  · show (if 8 + c = 0 then 5 else if 8 + c = 1 then 12 else if 8 + c = 2 then 1 else if 3 ≤ 8 + c ∧ 8 + c < 8 then 4294967295 else if 9 ≤ 8 + c ∧ 8 + c < 15 then 300 else 0) ≤ 9999
    rw [if_neg (by omega), if_neg (by omega), if_neg (by omega), if_neg (by omega), if_pos (by omega)]
    omega
  · show (if 15 + q = 0 then 5 else if 15 + q = 1 then 12 else if 15 + q = 2 then 1 else if 3 ≤ 15 + q ∧ 15 + q < 8 then 4294967295 else if 9 ≤ 15 + q ∧ 15 + q < 15 then 300 else 0) ≤ 6
    rw [if_neg (by omega), if_neg (by omega), if_neg (by omega), if_neg (by omega), if_neg (by omega)]
    omega
  · have e : ∀ j, 24 ≤ j → s0.g j = 0 := by
      intro j hj
      show (if j = 0 then 5 else if j = 1 then 12 else if j = 2 then 1 else if 3 ≤ j ∧ j < 8 then 4294967295 else if 9 ≤ j ∧ j < 15 then 300 else 0) = 0
      rw [if_neg (by omega), if_neg (by omega), if_neg (by omega), if_neg (by omega), if_neg (by omega)]
    have e1 : gr s0.g q r p = 0 := e _ (by omega)
    have e2 : co s0.g q r p = 0 := e _ (by omega)
    rw [e1, e2]
    exact ⟨by omega, by omega, Iff.rfl⟩
