/-! the constructors of Breath, Memory, Pad -/
abbrev RBreath : Room := { frames := 2, cells := 2, slots := 16, locals := 60 }
def wBreath (cI : ClassId) (h1 : Nat) (u : Nat × Nat) : va_W := [(h1, .inr (0, [.ref u.1, .ref u.2, .int 0])), (u.1, .inl (cI, 8, .inl (fun _ => 0))), (u.2, .inl (cI, 8, .inl (fun _ => 0)))]
theorem oi_Breath : Cond.methodLink RX0 3 objectInit ∈ LW ∧ Cond.instanceMethod objectInit ∈ LW ∧ Cond.code objectInit object_method_1_code 1 none ∈ LW ∧ Cond.arrayClass .int ∈ LW := by decide +kernel
theorem fk_Breath_9 : Cond.fieldLink RX0 9 RX0 (TX0 0).2.1 (TX0 0).2.2.1 ∈ LW := by decide +kernel
theorem fk_Breath_15 : Cond.fieldLink RX0 15 RX0 (TX0 1).2.1 (TX0 1).2.2.1 ∈ LW := by decide +kernel
set_option maxHeartbeats 4000000 in
theorem c_Breath (l : Launch) (D : va_G) (cI cZ cC : ClassId) (t : Nat) (K KV : Nat → Nat) (h1 sz : Nat) : Met l yX0_init (.code yX0_init cX0_init 1 none :: LW) RBreath (va_Pc [.ref h1] (fun U => U.heap.size = sz ∧ va_P D vwCl [(h1, .inr (0, [.null, .null, .int 0]))] U.heap ∧ CP (EZ D cI cZ cC t K KV (fun _ => 0) (fun _ => [])) (va_A [(h1, .inr (0, [.null, .null, .int 0]))] sz) U ∧ va_D (fun _ => True) [(h1, .inr (0, [.null, .null, .int 0]))])) (va_Qv (fun _ : Nat × Nat => True) (fun u U => va_P D vwCl (wBreath cI h1 u) U.heap ∧ va_D (va_A [(h1, .inr (0, [.null, .null, .int 0]))] sz) (wBreath cI h1 u)) (va_A [(h1, .inr (0, [.null, .null, .int 0]))] sz)) 2 16 (va_A [(h1, .inr (0, [.null, .null, .int 0]))] sz) := by
  refine Met.ofW (cc := cX0_init) (maxL := 1) (ret := none) (by decide +kernel) rfl ?_
  intro p e s m args below meth c s₁ B hml hv
  obtain ⟨rfl, hsz, hP, hK, hD0⟩ := hv
  have hx := B.exec
  have hb := B.bytes
  have hr := B.returns
  have hts0 := atoms_spec (ws := .code yX0_init cX0_init 1 none :: LW) B.pre
  have hts : ∀ w ∈ LW, w.before #[.ref h1] s = true := fun w hw => hts0 w (List.mem_cons_of_mem _ hw)
  have hown : s.vm.findClass RX0 = some m.cls := findClass_of_methodNamed B.named
  have hin : meth.name = "<init>" := (name_of_methodNamed B.named B.method).1
  have hlk := B.notSynchronized
  subst hsz
  have hD := hD0.self (sz := s.heap.size)
  generalize hAe : va_A [(h1, .inr (0, [.null, .null, .int 0]))] s.heap.size = A at hD hK ⊢
  have hA : ∀ q : Nat, s.heap.size ≤ q → A q := fun q h => by rw [← hAe]; exact Or.inr h
  have hS : va_S A s.heap s.heap [] := va_S.rf
  have hP : va_P D vwCl [(h1, .inr (0, [.null, .null, .int 0]))] s.heap := hP
  have hl := lv_entry ([.ref h1]) (n := 1) (Nat.le_of_ble_eq_true rfl)
  rw [lg_entry_eq]
  generalize (lg_sl ([.ref h1]) ++ List.replicate (1 - (lg_sl ([.ref h1])).length) Slot.unset).toArray = ls at hl ⊢
  have hl : lv_has ls 1 [(0, .ref h1)] := hl
  refine lv_aload_n hx hb dX0_init_0 rfl (lv_at hl 0 rfl) ?_
  refine W.objInit hx hb hown (hts _ oi_Breath.1) (hts _ oi_Breath.2.1) (hts _ oi_Breath.2.2.1) rfl (by rw [hml]; exact hl.1) rfl dX0_init_1 (Nat.le_of_ble_eq_true rfl) (Nat.le_of_ble_eq_true rfl) ?_
  refine W.eq (g2 := F0 m 4 ls []) rfl ?_
  refine lv_aload_n hx hb dX0_init_4 rfl (lv_at hl 0 rfl) ?_
  refine lv_bipush hx hb dX0_init_5 (v := 8) (by decide) ?_
  refine va_newa (atype := .int) (ty := .int) (a0 := (8, .inl (fun _ => 0))) (N' := 8) hx hb (hts _ oi_Breath.2.2.2) rfl hK.1 hP hD hS hA (fun cA => rfl) (by decide) (by decide) (by decide) (Nat.le_of_ble_eq_true rfl) (Nat.le_of_ble_eq_true rfl) dX0_init_7 (fun q1 cA H0 hK1 hP hD hS => ?_)
  have ecA : cA = cI := by
    have z1 := (hK1.2 1 (cA, .int) rfl).2
    have z2 := (hK1.2 0 (cI, .int) rfl).2
    exact Option.some.inj (z1.symm.trans z2)
  rw [ecA] at hP hD
  clear ecA hK1
  refine va_putF (ci := 0) (k := 0) (C := RX0) (T := TX0) (N := 3) hx hb hts inW_X0 tyX0 tyX0_ok nmX0 hown hK.1 hP hD hS 0 rfl rfl (by decide) (hts _ fk_Breath_9) (fun _ h => h) rfl hin rfl (ty := .array .int) rfl rfl rfl (Nat.le_of_ble_eq_true rfl) dX0_init_9 (fun H0' locs0 hP hD hS => ?_)
  have hP : va_P D vwCl [(h1, .inr (0, [.ref q1, .null, .int 0])), (q1, .inl (cI, 8, .inl (fun _ => 0)))] H0' := hP
  have hD : va_D A [(h1, .inr (0, [.ref q1, .null, .int 0])), (q1, .inl (cI, 8, .inl (fun _ => 0)))] := hD
  refine lv_aload_n hx hb dX0_init_12 rfl (lv_at hl 0 rfl) ?_
  refine lv_bipush hx hb dX0_init_13 (v := 8) (by decide) ?_
  refine va_newa (atype := .int) (ty := .int) (a0 := (8, .inl (fun _ => 0))) (N' := 8) hx hb (hts _ oi_Breath.2.2.2) rfl hK.1 hP hD hS hA (fun cA => rfl) (by decide) (by decide) (by decide) (Nat.le_of_ble_eq_true rfl) (Nat.le_of_ble_eq_true rfl) dX0_init_15 (fun q2 cA H1 hK1 hP hD hS => ?_)
  have ecA : cA = cI := by
    have z1 := (hK1.2 1 (cA, .int) rfl).2
    have z2 := (hK1.2 0 (cI, .int) rfl).2
    exact Option.some.inj (z1.symm.trans z2)
  rw [ecA] at hP hD
  clear ecA hK1
  refine va_putF (ci := 0) (k := 1) (C := RX0) (T := TX0) (N := 3) hx hb hts inW_X0 tyX0 tyX0_ok nmX0 hown hK.1 hP hD hS 0 rfl rfl (by decide) (hts _ fk_Breath_15) (fun _ h => h) rfl hin rfl (ty := .array .int) rfl rfl rfl (Nat.le_of_ble_eq_true rfl) dX0_init_17 (fun H1' locs1 hP hD hS => ?_)
  have hP : va_P D vwCl [(h1, .inr (0, [.ref q1, .ref q2, .int 0])), (q1, .inl (cI, 8, .inl (fun _ => 0))), (q2, .inl (cI, 8, .inl (fun _ => 0)))] H1' := hP
  have hD : va_D A [(h1, .inr (0, [.ref q1, .ref q2, .int 0])), (q1, .inl (cI, 8, .inl (fun _ => 0))), (q2, .inl (cI, 8, .inl (fun _ => 0)))] := hD
  exact W.vret hx hb hr (fun U hU hW => ⟨⟨(q1, q2), rfl, trivial, by rw [hU]; exact hP, hD⟩, hS.F hU⟩) hS.2.2 dX0_init_20 hlk
abbrev RMemory : Room := { frames := 2, cells := 1, slots := 3096, locals := 60 }
def wMemory (cI : ClassId) (h1 : Nat) (u : Nat) : va_W := [(h1, .inr (1, [.ref u, .int 0, .int 0, .int 0])), (u, .inl (cI, 3096, .inl (fun _ => 0)))]
theorem oi_Memory : Cond.methodLink RX2 5 objectInit ∈ LW ∧ Cond.instanceMethod objectInit ∈ LW ∧ Cond.code objectInit object_method_1_code 1 none ∈ LW ∧ Cond.arrayClass .int ∈ LW := by decide +kernel
theorem fk_Memory_13 : Cond.fieldLink RX2 13 RX2 (TX2 0).2.1 (TX2 0).2.2.1 ∈ LW := by decide +kernel
set_option maxHeartbeats 4000000 in
theorem c_Memory (l : Launch) (D : va_G) (cI cZ cC : ClassId) (t : Nat) (K KV : Nat → Nat) (h1 sz : Nat) : Met l yX2_init (.code yX2_init cX2_init 1 none :: LW) RMemory (va_Pc [.ref h1] (fun U => U.heap.size = sz ∧ va_P D vwCl [(h1, .inr (1, [.null, .int 0, .int 0, .int 0]))] U.heap ∧ CP (EZ D cI cZ cC t K KV (fun _ => 0) (fun _ => [])) (va_A [(h1, .inr (1, [.null, .int 0, .int 0, .int 0]))] sz) U ∧ va_D (fun _ => True) [(h1, .inr (1, [.null, .int 0, .int 0, .int 0]))])) (va_Qv (fun _ : Nat => True) (fun u U => va_P D vwCl (wMemory cI h1 u) U.heap ∧ va_D (va_A [(h1, .inr (1, [.null, .int 0, .int 0, .int 0]))] sz) (wMemory cI h1 u)) (va_A [(h1, .inr (1, [.null, .int 0, .int 0, .int 0]))] sz)) 1 3096 (va_A [(h1, .inr (1, [.null, .int 0, .int 0, .int 0]))] sz) := by
  refine Met.ofW (cc := cX2_init) (maxL := 1) (ret := none) (by decide +kernel) rfl ?_
  intro p e s m args below meth c s₁ B hml hv
  obtain ⟨rfl, hsz, hP, hK, hD0⟩ := hv
  have hx := B.exec
  have hb := B.bytes
  have hr := B.returns
  have hts0 := atoms_spec (ws := .code yX2_init cX2_init 1 none :: LW) B.pre
  have hts : ∀ w ∈ LW, w.before #[.ref h1] s = true := fun w hw => hts0 w (List.mem_cons_of_mem _ hw)
  have hown : s.vm.findClass RX2 = some m.cls := findClass_of_methodNamed B.named
  have hin : meth.name = "<init>" := (name_of_methodNamed B.named B.method).1
  have hlk := B.notSynchronized
  subst hsz
  have hD := hD0.self (sz := s.heap.size)
  generalize hAe : va_A [(h1, .inr (1, [.null, .int 0, .int 0, .int 0]))] s.heap.size = A at hD hK ⊢
  have hA : ∀ q : Nat, s.heap.size ≤ q → A q := fun q h => by rw [← hAe]; exact Or.inr h
  have hS : va_S A s.heap s.heap [] := va_S.rf
  have hP : va_P D vwCl [(h1, .inr (1, [.null, .int 0, .int 0, .int 0]))] s.heap := hP
  have hl := lv_entry ([.ref h1]) (n := 1) (Nat.le_of_ble_eq_true rfl)
  rw [lg_entry_eq]
  generalize (lg_sl ([.ref h1]) ++ List.replicate (1 - (lg_sl ([.ref h1])).length) Slot.unset).toArray = ls at hl ⊢
  have hl : lv_has ls 1 [(0, .ref h1)] := hl
  refine lv_aload_n hx hb dX2_init_0 rfl (lv_at hl 0 rfl) ?_
  refine W.objInit hx hb hown (hts _ oi_Memory.1) (hts _ oi_Memory.2.1) (hts _ oi_Memory.2.2.1) rfl (by rw [hml]; exact hl.1) rfl dX2_init_1 (Nat.le_of_ble_eq_true rfl) (Nat.le_of_ble_eq_true rfl) ?_
  refine W.eq (g2 := F0 m 4 ls []) rfl ?_
  refine lv_aload_n hx hb dX2_init_4 rfl (lv_at hl 0 rfl) ?_
  refine lv_sipush hx hb dX2_init_5 (v := 3096) (by decide) ?_
  refine va_newa (atype := .int) (ty := .int) (a0 := (3096, .inl (fun _ => 0))) (N' := 3096) hx hb (hts _ oi_Memory.2.2.2) rfl hK.1 hP hD hS hA (fun cA => rfl) (by decide) (by decide) (by decide) (Nat.le_of_ble_eq_true rfl) (Nat.le_of_ble_eq_true rfl) dX2_init_8 (fun q1 cA H0 hK1 hP hD hS => ?_)
  have ecA : cA = cI := by
    have z1 := (hK1.2 1 (cA, .int) rfl).2
    have z2 := (hK1.2 0 (cI, .int) rfl).2
    exact Option.some.inj (z1.symm.trans z2)
  rw [ecA] at hP hD
  clear ecA hK1
  refine va_putF (ci := 1) (k := 0) (C := RX2) (T := TX2) (N := 4) hx hb hts inW_X2 tyX2 tyX2_ok nmX2 hown hK.1 hP hD hS 0 rfl rfl (by decide) (hts _ fk_Memory_13) (fun _ h => h) rfl hin rfl (ty := .array .int) rfl rfl rfl (Nat.le_of_ble_eq_true rfl) dX2_init_10 (fun H0' locs0 hP hD hS => ?_)
  have hP : va_P D vwCl [(h1, .inr (1, [.ref q1, .int 0, .int 0, .int 0])), (q1, .inl (cI, 3096, .inl (fun _ => 0)))] H0' := hP
  have hD : va_D A [(h1, .inr (1, [.ref q1, .int 0, .int 0, .int 0])), (q1, .inl (cI, 3096, .inl (fun _ => 0)))] := hD
  exact W.vret hx hb hr (fun U hU hW => ⟨⟨q1, rfl, trivial, by rw [hU]; exact hP, hD⟩, hS.F hU⟩) hS.2.2 dX2_init_13 hlk
abbrev RPad : Room := { frames := 2, cells := 1, slots := 80, locals := 60 }
def wPad (cI : ClassId) (h1 : Nat) (u : Nat) : va_W := [(h1, .inr (2, [.ref u, .int 0])), (u, .inl (cI, 80, .inl (fun _ => 0)))]
theorem oi_Pad : Cond.methodLink RX4 3 objectInit ∈ LW ∧ Cond.instanceMethod objectInit ∈ LW ∧ Cond.code objectInit object_method_1_code 1 none ∈ LW ∧ Cond.arrayClass .int ∈ LW := by decide +kernel
theorem fk_Pad_11 : Cond.fieldLink RX4 11 RX4 (TX4 0).2.1 (TX4 0).2.2.1 ∈ LW := by decide +kernel
set_option maxHeartbeats 4000000 in
theorem c_Pad (l : Launch) (D : va_G) (cI cZ cC : ClassId) (t : Nat) (K KV : Nat → Nat) (h1 sz : Nat) : Met l yX4_init (.code yX4_init cX4_init 1 none :: LW) RPad (va_Pc [.ref h1] (fun U => U.heap.size = sz ∧ va_P D vwCl [(h1, .inr (2, [.null, .int 0]))] U.heap ∧ CP (EZ D cI cZ cC t K KV (fun _ => 0) (fun _ => [])) (va_A [(h1, .inr (2, [.null, .int 0]))] sz) U ∧ va_D (fun _ => True) [(h1, .inr (2, [.null, .int 0]))])) (va_Qv (fun _ : Nat => True) (fun u U => va_P D vwCl (wPad cI h1 u) U.heap ∧ va_D (va_A [(h1, .inr (2, [.null, .int 0]))] sz) (wPad cI h1 u)) (va_A [(h1, .inr (2, [.null, .int 0]))] sz)) 1 80 (va_A [(h1, .inr (2, [.null, .int 0]))] sz) := by
  refine Met.ofW (cc := cX4_init) (maxL := 1) (ret := none) (by decide +kernel) rfl ?_
  intro p e s m args below meth c s₁ B hml hv
  obtain ⟨rfl, hsz, hP, hK, hD0⟩ := hv
  have hx := B.exec
  have hb := B.bytes
  have hr := B.returns
  have hts0 := atoms_spec (ws := .code yX4_init cX4_init 1 none :: LW) B.pre
  have hts : ∀ w ∈ LW, w.before #[.ref h1] s = true := fun w hw => hts0 w (List.mem_cons_of_mem _ hw)
  have hown : s.vm.findClass RX4 = some m.cls := findClass_of_methodNamed B.named
  have hin : meth.name = "<init>" := (name_of_methodNamed B.named B.method).1
  have hlk := B.notSynchronized
  subst hsz
  have hD := hD0.self (sz := s.heap.size)
  generalize hAe : va_A [(h1, .inr (2, [.null, .int 0]))] s.heap.size = A at hD hK ⊢
  have hA : ∀ q : Nat, s.heap.size ≤ q → A q := fun q h => by rw [← hAe]; exact Or.inr h
  have hS : va_S A s.heap s.heap [] := va_S.rf
  have hP : va_P D vwCl [(h1, .inr (2, [.null, .int 0]))] s.heap := hP
  have hl := lv_entry ([.ref h1]) (n := 1) (Nat.le_of_ble_eq_true rfl)
  rw [lg_entry_eq]
  generalize (lg_sl ([.ref h1]) ++ List.replicate (1 - (lg_sl ([.ref h1])).length) Slot.unset).toArray = ls at hl ⊢
  have hl : lv_has ls 1 [(0, .ref h1)] := hl
  refine lv_aload_n hx hb dX4_init_0 rfl (lv_at hl 0 rfl) ?_
  refine W.objInit hx hb hown (hts _ oi_Pad.1) (hts _ oi_Pad.2.1) (hts _ oi_Pad.2.2.1) rfl (by rw [hml]; exact hl.1) rfl dX4_init_1 (Nat.le_of_ble_eq_true rfl) (Nat.le_of_ble_eq_true rfl) ?_
  refine W.eq (g2 := F0 m 4 ls []) rfl ?_
  refine lv_aload_n hx hb dX4_init_4 rfl (lv_at hl 0 rfl) ?_
  refine lv_bipush hx hb dX4_init_5 (v := 80) (by decide) ?_
  refine va_newa (atype := .int) (ty := .int) (a0 := (80, .inl (fun _ => 0))) (N' := 80) hx hb (hts _ oi_Pad.2.2.2) rfl hK.1 hP hD hS hA (fun cA => rfl) (by decide) (by decide) (by decide) (Nat.le_of_ble_eq_true rfl) (Nat.le_of_ble_eq_true rfl) dX4_init_7 (fun q1 cA H0 hK1 hP hD hS => ?_)
  have ecA : cA = cI := by
    have z1 := (hK1.2 1 (cA, .int) rfl).2
    have z2 := (hK1.2 0 (cI, .int) rfl).2
    exact Option.some.inj (z1.symm.trans z2)
  rw [ecA] at hP hD
  clear ecA hK1
  refine va_putF (ci := 2) (k := 0) (C := RX4) (T := TX4) (N := 2) hx hb hts inW_X4 tyX4 tyX4_ok nmX4 hown hK.1 hP hD hS 0 rfl rfl (by decide) (hts _ fk_Pad_11) (fun _ h => h) rfl hin rfl (ty := .array .int) rfl rfl rfl (Nat.le_of_ble_eq_true rfl) dX4_init_9 (fun H0' locs0 hP hD hS => ?_)
  have hP : va_P D vwCl [(h1, .inr (2, [.ref q1, .int 0])), (q1, .inl (cI, 80, .inl (fun _ => 0)))] H0' := hP
  have hD : va_D A [(h1, .inr (2, [.ref q1, .int 0])), (q1, .inl (cI, 80, .inl (fun _ => 0)))] := hD
  exact W.vret hx hb hr (fun U hU hW => ⟨⟨q1, rfl, trivial, by rw [hU]; exact hP, hD⟩, hS.F hU⟩) hS.2.2 dX4_init_12 hlk
