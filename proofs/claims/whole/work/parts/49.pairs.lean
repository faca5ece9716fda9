/-! each call, on both sides of one picture -/
theorem RC_mf {h h' : Hp} {s : St} (hR : RC h s) (f : MF h h') : RC h' s := by
  have e2 : h' 2 = h 2 := f 2 (by omega)
  have e8 : h' 8 = h 8 := f 8 (by omega)
  have e9 : h' 9 = h 9 := f 9 (by omega)
  have e10 : h' 10 = h 10 := f 10 (by omega)
  have e11 : h' 11 = h 11 := f 11 (by omega)
  unfold RC CR HC rwC PC
  rw [show 1 + 1 = 2 from rfl, e2, e8, e9, e10, e11]
  exact hR
theorem RM_cf {h h' : Hp} {s : St} (hR : RM h s) (f : CF h h') : RM h' s := by
  unfold RM HM PM rwM
  rw [f 12 (by omega), f 13 (by omega), f 16 (by omega), f 17 (by omega), f 18 (by omega), f 21 (by omega)]
  exact hR
def OP (f7 f8 : Hp → Re) : Prop := ∀ (h : Hp) (s : St), RC h s → RM h s → SI s → ∃ v h1 h2 s', f7 h = some (v, h1) ∧ f8 h1 = some (v, h2) ∧ RC h2 s' ∧ RM h2 s' ∧ SI s'
theorem OP_of {f7 f8 : Hp → Re} (r : St → Int32 × St) (h7 : ∀ h s, RC h s → SI s → ∃ h', f7 h = some ((r s).1, h') ∧ RC h' (r s).2 ∧ CF h h') (h8 : ∀ h s, RM h s → SI s → ∃ h', f8 h = some ((r s).1, h') ∧ RM h' (r s).2 ∧ MF h h') (hS : ∀ s, SI s → SI (r s).2) : OP f7 f8 := by
  intro h s hC hM hI
  obtain ⟨h1, a1, a2, a3⟩ := h7 h s hC hI
  obtain ⟨h2, b1, b2, b3⟩ := h8 h1 s (RM_cf hM a3) hI
  exact ⟨_, h1, h2, (r s).2, a1, b1, RC_mf a2 b3, b2, hS s hI⟩
theorem OP_ch {f7 f8 : Hp → Re} (r : GS → Int32 × GS) (h7 : ∀ h s, RC h s → SI s → CT h s f7 (r s.g)) (h8 : ∀ h s, RM h s → SI s → MT h s f8 (r s.g)) (hI : ∀ g, IV g → IV (r g).2) : OP f7 f8 :=
  OP_of (fun s => ((r s.g).1, chg s (r s.g).1 (r s.g).2)) (fun h s a b => h7 h s a b) (fun h s a b => h8 h s a b) (fun s hS => SI_chg hS (hI _ hS.1))
theorem OP_rd {f7 f8 : Hp → Re} (hr : ∀ h s, RC h s → RM h s → SI s → RP f7 f8 h h) : OP f7 f8 := by
  intro h s hC hM hI
  obtain ⟨v, a, b⟩ := hr h s hC hM hI
  exact ⟨v, h, h, s, a, b, hC, hM, hI⟩
theorem op_set (x1 x2 : Int32) : OP (f7_set x1 x2) (f8_set x1 x2) := OP_ch (fun g => setS g x1 x2) (fun h s a b => t7_set a b x1 x2) (fun h s a b => t8_set a b x1 x2) (fun g hI => I_set hI x1 x2)
theorem op_pattern (x1 x2 : Int32) : OP (f7_pattern x1 x2) (f8_pattern x1 x2) := OP_ch (fun g => patS g x1 x2) (fun h s a b => t7_pattern a b x1 x2) (fun h s a b => t8_pattern a b x1 x2) (fun g hI => I_pattern hI x1 x2)
theorem op_take (x1 x2 : Int32) : OP (f7_take x1 x2) (f8_take x1 x2) := OP_ch (fun g => takS g x1 x2) (fun h s a b => t7_take a b x1 x2) (fun h s a b => t8_take a b x1 x2) (fun g hI => I_take hI x1 x2)
theorem op_fill (x1 x2 : Int32) : OP (f7_fill x1 x2) (f8_fill x1 x2) := OP_ch (fun g => filS g x1 x2) (fun h s a b => t7_fill a b x1 x2) (fun h s a b => t8_fill a b x1 x2) (fun g hI => I_fill hI x1 x2)
theorem op_pour (x1 x2 x3 x4 : Int32) : OP (f7_pour x1 x2 x3 x4) (f8_pour x1 x2 x3 x4) := OP_ch (fun g => pouS g x1 x2 x3 x4) (fun h s a b => t7_pour a b x1 x2 x3 x4) (fun h s a b => t8_pour a b x1 x2 x3 x4) (fun g hI => I_pour hI x1 x2 x3 x4)
theorem op_scrape (x1 x2 x3 : Int32) : OP (f7_scrape x1 x2 x3) (f8_scrape x1 x2 x3) := OP_ch (fun g => scrS g x1 x2 x3) (fun h s a b => t7_scrape a b x1 x2 x3) (fun h s a b => t8_scrape a b x1 x2 x3) (fun g hI => I_scrape hI x1 x2 x3)
theorem op_breathe (x1 x2 : Int32) : OP (f7_breathe x1 x2) (f8_breathe x1 x2) := OP_ch (fun g => breS g x1 x2) (fun h s a b => t7_breathe a b x1 x2) (fun h s a b => t8_breathe a b x1 x2) (fun g hI => I_breathe hI x1 x2)
theorem op_close : OP f7_close f8_close := OP_ch (fun g => cloS g) (fun h s a b => t7_close a b) (fun h s a b => t8_close a b) (fun g hI => I_close hI)
theorem op_sweep : OP f7_sweep f8_sweep := OP_ch (fun g => sweS g) (fun h s a b => t7_sweep a b) (fun h s a b => t8_sweep a b) (fun g hI => I_sweep hI)
theorem op_at (x1 x2 x3 x4 : Int32) : OP (f7_at x1 x2 x3 x4) (f8_at x1 x2 x3 x4) := OP_rd (fun h s a b c => rd_at a.1 b.1 c.1 x1 x2 x3 x4)
theorem op_ofRing (x1 x2 : Int32) : OP (f7_ofRing x1 x2) (f8_ofRing x1 x2) := OP_rd (fun h s a b c => rd_ofRing a.1 b.1 c.1 x1 x2)
theorem op_ofQuarter (x1 x2 : Int32) : OP (f7_ofQuarter x1 x2) (f8_ofQuarter x1 x2) := OP_rd (fun h s a b c => rd_ofQuarter a.1 b.1 c.1 x1 x2)
theorem op_ofColour (x1 x2 : Int32) : OP (f7_ofColour x1 x2) (f8_ofColour x1 x2) := OP_rd (fun h s a b c => rd_ofColour a.1 b.1 c.1 x1 x2)
theorem op_count (x1 : Int32) : OP (f7_count x1) (f8_count x1) := OP_rd (fun h s a b c => rd_count a b c x1)
theorem op_needed (x1 : Int32) : OP (f7_needed x1) (f8_needed x1) := OP_rd (fun h s a b c => rd_needed a.1 b.1 c.1 x1)
theorem op_lacking : OP f7_lacking f8_lacking := OP_rd (fun h s a b c => rd_lacking a.1 b.1 c.1)
theorem op_ifBreathed (x1 x2 x3 : Int32) : OP (f7_ifBreathed x1 x2 x3) (f8_ifBreathed x1 x2 x3) := OP_of (fun s => (if inR x1 4 = false then -1 else if inR x2 2 = false then -2 else if inR x3 3 = false then -2 else ifB s.g (tN x1) (tN x2) (tN x3), s)) (fun h s a b => C_ifB a b x1 x2 x3) (fun h s a b => M_ifB a b x1 x2 x3) (fun s h => h)
theorem op_settles (x1 x2 : Int32) : OP (f7_settles x1 x2) (f8_settles x1 x2) := OP_of (fun s => (stR s.g x1 x2, s)) (fun h s a b => C_settles a b x1 x2) (fun h s a b => M_settles a b x1 x2) (fun s h => h)
theorem op_best : OP f7_best f8_best := OP_rd (fun h s a b c => rd_best a.1 b.1 c.1)
theorem op_put (x : Int64) : OP (f7_put x) (f8_put x) := OP_of (fun s => putS s x) (fun h s a b => C_put a b x) (fun h s a b => M_put a b x) (fun s h => SI_put h x)
theorem op_wipe : OP f7_wipe f8_wipe := OP_of (fun s => wipS s) (fun h s a _ => C_wipe a) (fun h s a _ => M_wipe a) (fun s h => SI_wipe h)
theorem op_fault : OP f7_fault f8_fault := OP_of (fun s => (fltV s, s)) (fun h s a b => ⟨h, C_fault a b, a, CF.rf h⟩) (fun h s a b => M_fault a b) (fun s h => h)
theorem op_carryOut : OP f7_carryOut f8_carryOut := OP_of (fun s => caoS s) (fun h s a b => C_carry a b) (fun h s a b => M_carry a b) (fun s h => SI_carry h)
theorem op_undo : OP f7_undo f8_undo := OP_of (fun s => undS s) (fun h s a b => C_undo a b) (fun h s a b => M_undo a b) (fun s h => SI_undo h)
theorem op_save (x1 : Int32) : OP (f7_save x1) (f8_save x1) := OP_of (fun s => savS s x1) (fun h s a b => C_save a b x1) (fun h s a _ => M_save a x1) (fun s h => SI_save h x1)
theorem op_restore (x1 : Int32) : OP (f7_restore x1) (f8_restore x1) := OP_of (fun s => resS s x1) (fun h s a b => C_rest a b x1) (fun h s a b => M_rest a b x1) (fun s h => SI_rest h x1)
/-! the beginning -/
def s0 : St := ((fun j => if j = 0 then 5 else if j = 1 then 12 else if j = 2 then 1 else if 3 ≤ j ∧ j < 8 then 4294967295 else if 9 ≤ j ∧ j < 15 then 300 else 0), 0, (fun _ _ => 0), (fun _ => false), (fun _ _ => 0), 0, (fun _ => 0))
theorem SI_0 : SI s0 := by
  refine ⟨⟨by decide, by decide, by decide, fun r hr => Or.inl ?_, fun c h1 h2 => ?_, fun q hq => ?_, by decide, by decide, fun q r p hq hr hp => ?_⟩, Nat.zero_le _, fun i hi => absurd hi (Nat.not_lt_zero _), fun i hi w => absurd (show false = true from w) (by decide), Nat.zero_le _, fun i hi => absurd hi (Nat.not_lt_zero _)⟩
  · show (if 3 + r = 0 then 5 else if 3 + r = 1 then 12 else if 3 + r = 2 then 1 else if 3 ≤ 3 + r ∧ 3 + r < 8 then 4294967295 else if 9 ≤ 3 + r ∧ 3 + r < 15 then 300 else 0) = 4294967295
    rw [if_neg (by omega), if_neg (by omega), if_neg (by omega), if_pos (by omega)]
  · show (if 8 + c = 0 then 5 else if 8 + c = 1 then 12 else if 8 + c = 2 then 1 else if 3 ≤ 8 + c ∧ 8 + c < 8 then 4294967295 else if 9 ≤ 8 + c ∧ 8 + c < 15 then 300 else 0) ≤ 9999
    rw [if_neg (by omega), if_neg (by omega), if_neg (by omega), if_neg (by omega), if_pos (by omega)]
    omega
  · show (if 15 + q = 0 then 5 else if 15 + q = 1 then 12 else if 15 + q = 2 then 1 else if 3 ≤ 15 + q ∧ 15 + q < 8 then 4294967295 else if 9 ≤ 15 + q ∧ 15 + q < 15 then 300 else 0) ≤ 6
    rw [if_neg (by omega), if_neg (by omega), if_neg (by omega), if_neg (by omega), if_neg (by omega)]
    omega
  · have e : ∀ j, 24 ≤ j → s0.g j = 0 := by
      intro j hj
      show (if j = 0 then 5 else if j = 1 then 12 else if j = 2 then 1 else if 3 ≤ j ∧ j < 8 then 4294967295 else if 9 ≤ j ∧ j < 15 then 300 else 0) = 0
      rw [if_neg (by omega), if_neg (by omega), if_neg (by omega), if_neg (by omega), if_neg (by omega)]
    have e1 : gr s0.g q r p = 0 := e _ (by omega)
    have e2 : co s0.g q r p = 0 := e _ (by omega)
    rw [e1, e2]
    exact ⟨by omega, by omega, Iff.rfl⟩
