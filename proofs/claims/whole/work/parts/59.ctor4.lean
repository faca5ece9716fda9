/-! the constructor of the model: its contract -/
def wMo (cI cZ cC : ClassId) (h1 : Nat) (q : Nat → Nat) (h : Hp) : va_W := [(h1, .inr (5, [.ref (q 13), .ref (q 14), .ref (q 15), .ref (q 16), .ref (q 17), .ref (q 18), .ref (q 19), .ref (q 20), .ref (q 21), .int (h 12 9), .int (h 12 10), .int (h 12 11), .int (h 12 12)])), (q 13, .inl (cI, 383, .inl (h 13))), (q 14, .inl (cI, 383, .inl (h 14))), (q 15, .inl (cI, 383, .inl (h 15))), (q 16, .inl (cI, 2298, .inl (h 16))), (q 17, .inl (cI, 766, .inl (h 17))), (q 18, .inl (cZ, 2, .inl (h 18))), (q 19, .inl (cI, 16, .inl (h 19))), (q 20, .inl (cI, 210, .inl (h 20))), (q 21, .inl (cC, 80, .inl (h 21)))]
theorem oi_Mo : Cond.methodLink RX8 1 objectInit ∈ LW ∧ Cond.instanceMethod objectInit ∈ LW ∧ Cond.code objectInit object_method_1_code 1 none ∈ LW ∧ Cond.arrayClass .int ∈ LW ∧ Cond.arrayClass .boolean ∈ LW ∧ Cond.arrayClass .char ∈ LW := by decide +kernel
theorem fk_Mo_7 : Cond.fieldLink RX8 7 RX8 (TX8 0).2.1 (TX8 0).2.2.1 ∈ LW := by decide +kernel
theorem fk_Mo_13 : Cond.fieldLink RX8 13 RX8 (TX8 1).2.1 (TX8 1).2.2.1 ∈ LW := by decide +kernel
theorem fk_Mo_16 : Cond.fieldLink RX8 16 RX8 (TX8 2).2.1 (TX8 2).2.2.1 ∈ LW := by decide +kernel
theorem fk_Mo_19 : Cond.fieldLink RX8 19 RX8 (TX8 3).2.1 (TX8 3).2.2.1 ∈ LW := by decide +kernel
theorem fk_Mo_22 : Cond.fieldLink RX8 22 RX8 (TX8 4).2.1 (TX8 4).2.2.1 ∈ LW := by decide +kernel
theorem fk_Mo_25 : Cond.fieldLink RX8 25 RX8 (TX8 5).2.1 (TX8 5).2.2.1 ∈ LW := by decide +kernel
theorem fk_Mo_29 : Cond.fieldLink RX8 29 RX8 (TX8 6).2.1 (TX8 6).2.2.1 ∈ LW := by decide +kernel
theorem fk_Mo_32 : Cond.fieldLink RX8 32 RX8 (TX8 7).2.1 (TX8 7).2.2.1 ∈ LW := by decide +kernel
theorem fk_Mo_35 : Cond.fieldLink RX8 35 RX8 (TX8 8).2.1 (TX8 8).2.2.1 ∈ LW := by decide +kernel
set_option maxHeartbeats 8000000 in
theorem c_Model (l : Launch) (D : va_G) (cI cZ cC : ClassId) (t : Nat) (K KV : Nat → Nat) (h1 sz : Nat) : Met l yX8_init (.code yX8_init cX8_init 2 none :: LW) Rmo (va_Pc [.ref h1] (fun U => U.heap.size = sz ∧ va_P D vwCl [(h1, .inr (5, [.null, .null, .null, .null, .null, .null, .null, .null, .null, .int 0, .int 0, .int 0, .int 0]))] U.heap ∧ CP (EZ D cI cZ cC t K KV (fun _ => 0) (fun _ => [])) (va_A [(h1, .inr (5, [.null, .null, .null, .null, .null, .null, .null, .null, .null, .int 0, .int 0, .int 0, .int 0]))] sz) U ∧ va_D (fun _ => True) [(h1, .inr (5, [.null, .null, .null, .null, .null, .null, .null, .null, .null, .int 0, .int 0, .int 0, .int 0]))])) (va_Qv (fun u : (Nat → Nat) × Hp => moR (fun _ _ => 0) u.2 6) (fun u U => va_P D vwCl (wMo cI cZ cC h1 u.1 u.2) U.heap ∧ va_D (va_A [(h1, .inr (5, [.null, .null, .null, .null, .null, .null, .null, .null, .null, .int 0, .int 0, .int 0, .int 0]))] sz) (wMo cI cZ cC h1 u.1 u.2)) (va_A [(h1, .inr (5, [.null, .null, .null, .null, .null, .null, .null, .null, .null, .int 0, .int 0, .int 0, .int 0]))] sz)) 9 4521 (va_A [(h1, .inr (5, [.null, .null, .null, .null, .null, .null, .null, .null, .null, .int 0, .int 0, .int 0, .int 0]))] sz) := by
  refine Met.ofW (cc := cX8_init) (maxL := 2) (ret := none) (by decide +kernel) rfl ?_
  intro p e s m args below meth c s₁ B hml hv
  obtain ⟨rfl, hsz, hP, hK, hD0⟩ := hv
  have hx := B.exec
  have hb := B.bytes
  have hr := B.returns
  have hts0 := atoms_spec (ws := .code yX8_init cX8_init 2 none :: LW) B.pre
  have hts : ∀ w ∈ LW, w.before #[.ref h1] s = true := fun w hw => hts0 w (List.mem_cons_of_mem _ hw)
  have hown : s.vm.findClass RX8 = some m.cls := findClass_of_methodNamed B.named
  have hin : meth.name = "<init>" := (name_of_methodNamed B.named B.method).1
  have hlk := B.notSynchronized
  subst hsz
  have hD := hD0.self (sz := s.heap.size)
  generalize hAe : va_A [(h1, .inr (5, [.null, .null, .null, .null, .null, .null, .null, .null, .null, .int 0, .int 0, .int 0, .int 0]))] s.heap.size = A at hD hK ⊢
  have hA : ∀ q : Nat, s.heap.size ≤ q → A q := fun q h => by rw [← hAe]; exact Or.inr h
  have hS : va_S A s.heap s.heap [] := va_S.rf
  have hP : va_P D vwCl [(h1, .inr (5, [.null, .null, .null, .null, .null, .null, .null, .null, .null, .int 0, .int 0, .int 0, .int 0]))] s.heap := hP
  have hl := lv_entry ([.ref h1]) (n := 2) (Nat.le_of_ble_eq_true rfl)
  rw [lg_entry_eq]
  generalize (lg_sl ([.ref h1]) ++ List.replicate (2 - (lg_sl ([.ref h1])).length) Slot.unset).toArray = ls at hl ⊢
  have hl : lv_has ls 2 [(0, .ref h1)] := hl
  refine lv_aload_n hx hb dX8_init_0 rfl (lv_at hl 0 rfl) ?_
  refine W.objInit hx hb hown (hts _ oi_Mo.1) (hts _ oi_Mo.2.1) (hts _ oi_Mo.2.2.1) rfl (by rw [hml]; exact hl.1) rfl dX8_init_1 (Nat.le_of_ble_eq_true rfl) (Nat.le_of_ble_eq_true rfl) ?_
  refine W.eq (g2 := F0 m 4 ls []) rfl ?_
  refine lv_aload_n hx hb dX8_init_4 rfl (lv_at hl 0 rfl) ?_
  refine lv_sipush hx hb dX8_init_5 (v := 383) (by decide) ?_
  refine va_newa (atype := .int) (ty := .int) (a0 := (383, .inl (fun _ => 0))) (N' := 383) hx hb (hts _ oi_Mo.2.2.2.1) rfl hK.1 hP hD hS hA (fun cA => rfl) (by decide) (by decide) (by decide) (Nat.le_of_ble_eq_true rfl) (Nat.le_of_ble_eq_true rfl) dX8_init_8 (fun q13 cA H0 hK1 hP hD hS => ?_)
  have ecA : cA = cI := by
    have z1 := (hK1.2 3 (cA, .int) rfl).2
    have z2 := (hK1.2 0 (cI, .int) rfl).2
    exact Option.some.inj (z1.symm.trans z2)
  rw [ecA] at hP hD
  clear ecA hK1
  refine va_putF (ci := 5) (k := 0) (C := RX8) (T := TX8) (N := 13) hx hb hts inW_X8 tyX8 tyX8_ok nmX8 hown hK.1 hP hD hS 0 rfl rfl (by decide) (hts _ fk_Mo_7) (fun _ h => h) rfl hin rfl (ty := .array .int) rfl rfl rfl (Nat.le_of_ble_eq_true rfl) dX8_init_10 (fun H0' locs0 hP hD hS => ?_)
  have hP : va_P D vwCl [(h1, .inr (5, [.ref q13, .null, .null, .null, .null, .null, .null, .null, .null, .int 0, .int 0, .int 0, .int 0])), (q13, .inl (cI, 383, .inl (fun _ => 0)))] H0' := hP
  have hD : va_D A [(h1, .inr (5, [.ref q13, .null, .null, .null, .null, .null, .null, .null, .null, .int 0, .int 0, .int 0, .int 0])), (q13, .inl (cI, 383, .inl (fun _ => 0)))] := hD
  refine lv_aload_n hx hb dX8_init_13 rfl (lv_at hl 0 rfl) ?_
  refine lv_sipush hx hb dX8_init_14 (v := 383) (by decide) ?_
  refine va_newa (atype := .int) (ty := .int) (a0 := (383, .inl (fun _ => 0))) (N' := 383) hx hb (hts _ oi_Mo.2.2.2.1) rfl hK.1 hP hD hS hA (fun cA => rfl) (by decide) (by decide) (by decide) (Nat.le_of_ble_eq_true rfl) (Nat.le_of_ble_eq_true rfl) dX8_init_17 (fun q14 cA H1 hK1 hP hD hS => ?_)
  have ecA : cA = cI := by
    have z1 := (hK1.2 3 (cA, .int) rfl).2
    have z2 := (hK1.2 0 (cI, .int) rfl).2
    exact Option.some.inj (z1.symm.trans z2)
  rw [ecA] at hP hD
  clear ecA hK1
  refine va_putF (ci := 5) (k := 1) (C := RX8) (T := TX8) (N := 13) hx hb hts inW_X8 tyX8 tyX8_ok nmX8 hown hK.1 hP hD hS 0 rfl rfl (by decide) (hts _ fk_Mo_13) (fun _ h => h) rfl hin rfl (ty := .array .int) rfl rfl rfl (Nat.le_of_ble_eq_true rfl) dX8_init_19 (fun H1' locs1 hP hD hS => ?_)
  have hP : va_P D vwCl [(h1, .inr (5, [.ref q13, .ref q14, .null, .null, .null, .null, .null, .null, .null, .int 0, .int 0, .int 0, .int 0])), (q13, .inl (cI, 383, .inl (fun _ => 0))), (q14, .inl (cI, 383, .inl (fun _ => 0)))] H1' := hP
  have hD : va_D A [(h1, .inr (5, [.ref q13, .ref q14, .null, .null, .null, .null, .null, .null, .null, .int 0, .int 0, .int 0, .int 0])), (q13, .inl (cI, 383, .inl (fun _ => 0))), (q14, .inl (cI, 383, .inl (fun _ => 0)))] := hD
  refine lv_aload_n hx hb dX8_init_22 rfl (lv_at hl 0 rfl) ?_
  refine lv_sipush hx hb dX8_init_23 (v := 383) (by decide) ?_
  refine va_newa (atype := .int) (ty := .int) (a0 := (383, .inl (fun _ => 0))) (N' := 383) hx hb (hts _ oi_Mo.2.2.2.1) rfl hK.1 hP hD hS hA (fun cA => rfl) (by decide) (by decide) (by decide) (Nat.le_of_ble_eq_true rfl) (Nat.le_of_ble_eq_true rfl) dX8_init_26 (fun q15 cA H2 hK1 hP hD hS => ?_)
  have ecA : cA = cI := by
    have z1 := (hK1.2 3 (cA, .int) rfl).2
    have z2 := (hK1.2 0 (cI, .int) rfl).2
    exact Option.some.inj (z1.symm.trans z2)
  rw [ecA] at hP hD
  clear ecA hK1
  refine va_putF (ci := 5) (k := 2) (C := RX8) (T := TX8) (N := 13) hx hb hts inW_X8 tyX8 tyX8_ok nmX8 hown hK.1 hP hD hS 0 rfl rfl (by decide) (hts _ fk_Mo_16) (fun _ h => h) rfl hin rfl (ty := .array .int) rfl rfl rfl (Nat.le_of_ble_eq_true rfl) dX8_init_28 (fun H2' locs2 hP hD hS => ?_)
  have hP : va_P D vwCl [(h1, .inr (5, [.ref q13, .ref q14, .ref q15, .null, .null, .null, .null, .null, .null, .int 0, .int 0, .int 0, .int 0])), (q13, .inl (cI, 383, .inl (fun _ => 0))), (q14, .inl (cI, 383, .inl (fun _ => 0))), (q15, .inl (cI, 383, .inl (fun _ => 0)))] H2' := hP
  have hD : va_D A [(h1, .inr (5, [.ref q13, .ref q14, .ref q15, .null, .null, .null, .null, .null, .null, .int 0, .int 0, .int 0, .int 0])), (q13, .inl (cI, 383, .inl (fun _ => 0))), (q14, .inl (cI, 383, .inl (fun _ => 0))), (q15, .inl (cI, 383, .inl (fun _ => 0)))] := hD
  refine lv_aload_n hx hb dX8_init_31 rfl (lv_at hl 0 rfl) ?_
  refine lv_sipush hx hb dX8_init_32 (v := 2298) (by decide) ?_
  refine va_newa (atype := .int) (ty := .int) (a0 := (2298, .inl (fun _ => 0))) (N' := 2298) hx hb (hts _ oi_Mo.2.2.2.1) rfl hK.1 hP hD hS hA (fun cA => rfl) (by decide) (by decide) (by decide) (Nat.le_of_ble_eq_true rfl) (Nat.le_of_ble_eq_true rfl) dX8_init_35 (fun q16 cA H3 hK1 hP hD hS => ?_)
  have ecA : cA = cI := by
    have z1 := (hK1.2 3 (cA, .int) rfl).2
    have z2 := (hK1.2 0 (cI, .int) rfl).2
    exact Option.some.inj (z1.symm.trans z2)
  rw [ecA] at hP hD
  clear ecA hK1
  refine va_putF (ci := 5) (k := 3) (C := RX8) (T := TX8) (N := 13) hx hb hts inW_X8 tyX8 tyX8_ok nmX8 hown hK.1 hP hD hS 0 rfl rfl (by decide) (hts _ fk_Mo_19) (fun _ h => h) rfl hin rfl (ty := .array .int) rfl rfl rfl (Nat.le_of_ble_eq_true rfl) dX8_init_37 (fun H3' locs3 hP hD hS => ?_)
  have hP : va_P D vwCl [(h1, .inr (5, [.ref q13, .ref q14, .ref q15, .ref q16, .null, .null, .null, .null, .null, .int 0, .int 0, .int 0, .int 0])), (q13, .inl (cI, 383, .inl (fun _ => 0))), (q14, .inl (cI, 383, .inl (fun _ => 0))), (q15, .inl (cI, 383, .inl (fun _ => 0))), (q16, .inl (cI, 2298, .inl (fun _ => 0)))] H3' := hP
  have hD : va_D A [(h1, .inr (5, [.ref q13, .ref q14, .ref q15, .ref q16, .null, .null, .null, .null, .null, .int 0, .int 0, .int 0, .int 0])), (q13, .inl (cI, 383, .inl (fun _ => 0))), (q14, .inl (cI, 383, .inl (fun _ => 0))), (q15, .inl (cI, 383, .inl (fun _ => 0))), (q16, .inl (cI, 2298, .inl (fun _ => 0)))] := hD
  refine lv_aload_n hx hb dX8_init_40 rfl (lv_at hl 0 rfl) ?_
  refine lv_sipush hx hb dX8_init_41 (v := 766) (by decide) ?_
  refine va_newa (atype := .int) (ty := .int) (a0 := (766, .inl (fun _ => 0))) (N' := 766) hx hb (hts _ oi_Mo.2.2.2.1) rfl hK.1 hP hD hS hA (fun cA => rfl) (by decide) (by decide) (by decide) (Nat.le_of_ble_eq_true rfl) (Nat.le_of_ble_eq_true rfl) dX8_init_44 (fun q17 cA H4 hK1 hP hD hS => ?_)
  have ecA : cA = cI := by
    have z1 := (hK1.2 3 (cA, .int) rfl).2
    have z2 := (hK1.2 0 (cI, .int) rfl).2
    exact Option.some.inj (z1.symm.trans z2)
  rw [ecA] at hP hD
  clear ecA hK1
  refine va_putF (ci := 5) (k := 4) (C := RX8) (T := TX8) (N := 13) hx hb hts inW_X8 tyX8 tyX8_ok nmX8 hown hK.1 hP hD hS 0 rfl rfl (by decide) (hts _ fk_Mo_22) (fun _ h => h) rfl hin rfl (ty := .array .int) rfl rfl rfl (Nat.le_of_ble_eq_true rfl) dX8_init_46 (fun H4' locs4 hP hD hS => ?_)
  have hP : va_P D vwCl [(h1, .inr (5, [.ref q13, .ref q14, .ref q15, .ref q16, .ref q17, .null, .null, .null, .null, .int 0, .int 0, .int 0, .int 0])), (q13, .inl (cI, 383, .inl (fun _ => 0))), (q14, .inl (cI, 383, .inl (fun _ => 0))), (q15, .inl (cI, 383, .inl (fun _ => 0))), (q16, .inl (cI, 2298, .inl (fun _ => 0))), (q17, .inl (cI, 766, .inl (fun _ => 0)))] H4' := hP
  have hD : va_D A [(h1, .inr (5, [.ref q13, .ref q14, .ref q15, .ref q16, .ref q17, .null, .null, .null, .null, .int 0, .int 0, .int 0, .int 0])), (q13, .inl (cI, 383, .inl (fun _ => 0))), (q14, .inl (cI, 383, .inl (fun _ => 0))), (q15, .inl (cI, 383, .inl (fun _ => 0))), (q16, .inl (cI, 2298, .inl (fun _ => 0))), (q17, .inl (cI, 766, .inl (fun _ => 0)))] := hD
  refine lv_aload_n hx hb dX8_init_49 rfl (lv_at hl 0 rfl) ?_
  refine lv_iconst hx hb dX8_init_50 (v := 2) (by decide) ?_
  refine va_newa (atype := .boolean) (ty := .boolean) (a0 := (2, .inl (fun _ => 0))) (N' := 2) hx hb (hts _ oi_Mo.2.2.2.2.1) rfl hK.1 hP hD hS hA (fun cA => rfl) (by decide) (by decide) (by decide) (Nat.le_of_ble_eq_true rfl) (Nat.le_of_ble_eq_true rfl) dX8_init_51 (fun q18 cA H5 hK1 hP hD hS => ?_)
  have ecA : cA = cZ := by
    have z1 := (hK1.2 3 (cA, .boolean) rfl).2
    have z2 := (hK1.2 1 (cZ, .boolean) rfl).2
    exact Option.some.inj (z1.symm.trans z2)
  rw [ecA] at hP hD
  clear ecA hK1
  refine va_putF (ci := 5) (k := 5) (C := RX8) (T := TX8) (N := 13) hx hb hts inW_X8 tyX8 tyX8_ok nmX8 hown hK.1 hP hD hS 0 rfl rfl (by decide) (hts _ fk_Mo_25) (fun _ h => h) rfl hin rfl (ty := .array .boolean) rfl rfl rfl (Nat.le_of_ble_eq_true rfl) dX8_init_53 (fun H5' locs5 hP hD hS => ?_)
  have hP : va_P D vwCl [(h1, .inr (5, [.ref q13, .ref q14, .ref q15, .ref q16, .ref q17, .ref q18, .null, .null, .null, .int 0, .int 0, .int 0, .int 0])), (q13, .inl (cI, 383, .inl (fun _ => 0))), (q14, .inl (cI, 383, .inl (fun _ => 0))), (q15, .inl (cI, 383, .inl (fun _ => 0))), (q16, .inl (cI, 2298, .inl (fun _ => 0))), (q17, .inl (cI, 766, .inl (fun _ => 0))), (q18, .inl (cZ, 2, .inl (fun _ => 0)))] H5' := hP
  have hD : va_D A [(h1, .inr (5, [.ref q13, .ref q14, .ref q15, .ref q16, .ref q17, .ref q18, .null, .null, .null, .int 0, .int 0, .int 0, .int 0])), (q13, .inl (cI, 383, .inl (fun _ => 0))), (q14, .inl (cI, 383, .inl (fun _ => 0))), (q15, .inl (cI, 383, .inl (fun _ => 0))), (q16, .inl (cI, 2298, .inl (fun _ => 0))), (q17, .inl (cI, 766, .inl (fun _ => 0))), (q18, .inl (cZ, 2, .inl (fun _ => 0)))] := hD
  refine lv_aload_n hx hb dX8_init_56 rfl (lv_at hl 0 rfl) ?_
  refine lv_bipush hx hb dX8_init_57 (v := 16) (by decide) ?_
  refine va_newa (atype := .int) (ty := .int) (a0 := (16, .inl (fun _ => 0))) (N' := 16) hx hb (hts _ oi_Mo.2.2.2.1) rfl hK.1 hP hD hS hA (fun cA => rfl) (by decide) (by decide) (by decide) (Nat.le_of_ble_eq_true rfl) (Nat.le_of_ble_eq_true rfl) dX8_init_59 (fun q19 cA H6 hK1 hP hD hS => ?_)
  have ecA : cA = cI := by
    have z1 := (hK1.2 3 (cA, .int) rfl).2
    have z2 := (hK1.2 0 (cI, .int) rfl).2
    exact Option.some.inj (z1.symm.trans z2)
  rw [ecA] at hP hD
  clear ecA hK1
  refine va_putF (ci := 5) (k := 6) (C := RX8) (T := TX8) (N := 13) hx hb hts inW_X8 tyX8 tyX8_ok nmX8 hown hK.1 hP hD hS 0 rfl rfl (by decide) (hts _ fk_Mo_29) (fun _ h => h) rfl hin rfl (ty := .array .int) rfl rfl rfl (Nat.le_of_ble_eq_true rfl) dX8_init_61 (fun H6' locs6 hP hD hS => ?_)
  have hP : va_P D vwCl [(h1, .inr (5, [.ref q13, .ref q14, .ref q15, .ref q16, .ref q17, .ref q18, .ref q19, .null, .null, .int 0, .int 0, .int 0, .int 0])), (q13, .inl (cI, 383, .inl (fun _ => 0))), (q14, .inl (cI, 383, .inl (fun _ => 0))), (q15, .inl (cI, 383, .inl (fun _ => 0))), (q16, .inl (cI, 2298, .inl (fun _ => 0))), (q17, .inl (cI, 766, .inl (fun _ => 0))), (q18, .inl (cZ, 2, .inl (fun _ => 0))), (q19, .inl (cI, 16, .inl (fun _ => 0)))] H6' := hP
  have hD : va_D A [(h1, .inr (5, [.ref q13, .ref q14, .ref q15, .ref q16, .ref q17, .ref q18, .ref q19, .null, .null, .int 0, .int 0, .int 0, .int 0])), (q13, .inl (cI, 383, .inl (fun _ => 0))), (q14, .inl (cI, 383, .inl (fun _ => 0))), (q15, .inl (cI, 383, .inl (fun _ => 0))), (q16, .inl (cI, 2298, .inl (fun _ => 0))), (q17, .inl (cI, 766, .inl (fun _ => 0))), (q18, .inl (cZ, 2, .inl (fun _ => 0))), (q19, .inl (cI, 16, .inl (fun _ => 0)))] := hD
  refine lv_aload_n hx hb dX8_init_64 rfl (lv_at hl 0 rfl) ?_
  refine lv_sipush hx hb dX8_init_65 (v := 210) (by decide) ?_
  refine va_newa (atype := .int) (ty := .int) (a0 := (210, .inl (fun _ => 0))) (N' := 210) hx hb (hts _ oi_Mo.2.2.2.1) rfl hK.1 hP hD hS hA (fun cA => rfl) (by decide) (by decide) (by decide) (Nat.le_of_ble_eq_true rfl) (Nat.le_of_ble_eq_true rfl) dX8_init_68 (fun q20 cA H7 hK1 hP hD hS => ?_)
  have ecA : cA = cI := by
    have z1 := (hK1.2 3 (cA, .int) rfl).2
    have z2 := (hK1.2 0 (cI, .int) rfl).2
    exact Option.some.inj (z1.symm.trans z2)
  rw [ecA] at hP hD
  clear ecA hK1
  refine va_putF (ci := 5) (k := 7) (C := RX8) (T := TX8) (N := 13) hx hb hts inW_X8 tyX8 tyX8_ok nmX8 hown hK.1 hP hD hS 0 rfl rfl (by decide) (hts _ fk_Mo_32) (fun _ h => h) rfl hin rfl (ty := .array .int) rfl rfl rfl (Nat.le_of_ble_eq_true rfl) dX8_init_70 (fun H7' locs7 hP hD hS => ?_)
  have hP : va_P D vwCl [(h1, .inr (5, [.ref q13, .ref q14, .ref q15, .ref q16, .ref q17, .ref q18, .ref q19, .ref q20, .null, .int 0, .int 0, .int 0, .int 0])), (q13, .inl (cI, 383, .inl (fun _ => 0))), (q14, .inl (cI, 383, .inl (fun _ => 0))), (q15, .inl (cI, 383, .inl (fun _ => 0))), (q16, .inl (cI, 2298, .inl (fun _ => 0))), (q17, .inl (cI, 766, .inl (fun _ => 0))), (q18, .inl (cZ, 2, .inl (fun _ => 0))), (q19, .inl (cI, 16, .inl (fun _ => 0))), (q20, .inl (cI, 210, .inl (fun _ => 0)))] H7' := hP
  have hD : va_D A [(h1, .inr (5, [.ref q13, .ref q14, .ref q15, .ref q16, .ref q17, .ref q18, .ref q19, .ref q20, .null, .int 0, .int 0, .int 0, .int 0])), (q13, .inl (cI, 383, .inl (fun _ => 0))), (q14, .inl (cI, 383, .inl (fun _ => 0))), (q15, .inl (cI, 383, .inl (fun _ => 0))), (q16, .inl (cI, 2298, .inl (fun _ => 0))), (q17, .inl (cI, 766, .inl (fun _ => 0))), (q18, .inl (cZ, 2, .inl (fun _ => 0))), (q19, .inl (cI, 16, .inl (fun _ => 0))), (q20, .inl (cI, 210, .inl (fun _ => 0)))] := hD
  refine lv_aload_n hx hb dX8_init_73 rfl (lv_at hl 0 rfl) ?_
  refine lv_bipush hx hb dX8_init_74 (v := 80) (by decide) ?_
  refine va_newa (atype := .char) (ty := .char) (a0 := (80, .inl (fun _ => 0))) (N' := 80) hx hb (hts _ oi_Mo.2.2.2.2.2) rfl hK.1 hP hD hS hA (fun cA => rfl) (by decide) (by decide) (by decide) (Nat.le_of_ble_eq_true rfl) (Nat.le_of_ble_eq_true rfl) dX8_init_76 (fun q21 cA H8 hK1 hP hD hS => ?_)
  have ecA : cA = cC := by
    have z1 := (hK1.2 3 (cA, .char) rfl).2
    have z2 := (hK1.2 2 (cC, .char) rfl).2
    exact Option.some.inj (z1.symm.trans z2)
  rw [ecA] at hP hD
  clear ecA hK1
  refine va_putF (ci := 5) (k := 8) (C := RX8) (T := TX8) (N := 13) hx hb hts inW_X8 tyX8 tyX8_ok nmX8 hown hK.1 hP hD hS 0 rfl rfl (by decide) (hts _ fk_Mo_35) (fun _ h => h) rfl hin rfl (ty := .array .char) rfl rfl rfl (Nat.le_of_ble_eq_true rfl) dX8_init_78 (fun H8' locs8 hP hD hS => ?_)
  have hP : va_P D vwCl [(h1, .inr (5, [.ref q13, .ref q14, .ref q15, .ref q16, .ref q17, .ref q18, .ref q19, .ref q20, .ref q21, .int 0, .int 0, .int 0, .int 0])), (q13, .inl (cI, 383, .inl (fun _ => 0))), (q14, .inl (cI, 383, .inl (fun _ => 0))), (q15, .inl (cI, 383, .inl (fun _ => 0))), (q16, .inl (cI, 2298, .inl (fun _ => 0))), (q17, .inl (cI, 766, .inl (fun _ => 0))), (q18, .inl (cZ, 2, .inl (fun _ => 0))), (q19, .inl (cI, 16, .inl (fun _ => 0))), (q20, .inl (cI, 210, .inl (fun _ => 0))), (q21, .inl (cC, 80, .inl (fun _ => 0)))] H8' := hP
  have hD : va_D A [(h1, .inr (5, [.ref q13, .ref q14, .ref q15, .ref q16, .ref q17, .ref q18, .ref q19, .ref q20, .ref q21, .int 0, .int 0, .int 0, .int 0])), (q13, .inl (cI, 383, .inl (fun _ => 0))), (q14, .inl (cI, 383, .inl (fun _ => 0))), (q15, .inl (cI, 383, .inl (fun _ => 0))), (q16, .inl (cI, 2298, .inl (fun _ => 0))), (q17, .inl (cI, 766, .inl (fun _ => 0))), (q18, .inl (cZ, 2, .inl (fun _ => 0))), (q19, .inl (cI, 16, .inl (fun _ => 0))), (q20, .inl (cI, 210, .inl (fun _ => 0))), (q21, .inl (cC, 80, .inl (fun _ => 0)))] := hD
  have hP : va_P D vwCl (wMo cI cZ cC h1 (fun n => if n = 13 then q13 else if n = 14 then q14 else if n = 15 then q15 else if n = 16 then q16 else if n = 17 then q17 else if n = 18 then q18 else if n = 19 then q19 else if n = 20 then q20 else q21) (fun _ _ => 0)) H8' := hP
  have hD : va_D A (wMo cI cZ cC h1 (fun n => if n = 13 then q13 else if n = 14 then q14 else if n = 15 then q15 else if n = 16 then q16 else if n = 17 then q17 else if n = 18 then q18 else if n = 19 then q19 else if n = 20 then q20 else q21) (fun _ _ => 0)) := hD
  have X : XC (EZ D cI cZ cC t K KV (fun n => if n = 12 then h1 else (fun n => if n = 13 then q13 else if n = 14 then q14 else if n = 15 then q15 else if n = 16 then q16 else if n = 17 then q17 else if n = 18 then q18 else if n = 19 then q19 else if n = 20 then q20 else q21) n) (wMo cI cZ cC h1 (fun n => if n = 13 then q13 else if n = 14 then q14 else if n = 15 then q15 else if n = 16 then q16 else if n = 17 then q17 else if n = 18 then q18 else if n = 19 then q19 else if n = 20 then q20 else q21))) RX8 cX8_init 2 none A p s m #[.ref h1] meth c := ⟨hx, hb, hr, hml, hown, hts, hlk, hK, hA⟩
  refine mo_body (h := fun _ _ => 0) ⟨0, fun h => rfl⟩ ⟨1, fun h => rfl, fun h f => rfl⟩ X (fun _ => rfl) (fun h' hC' => ?_) H8' locs8 ls hP hD hS hl
  intro H9 locs9 ls9 hP9 hD9 hS9 hl9
  exact W.vret hx hb hr (fun U hU hW => ⟨⟨((fun n => if n = 13 then q13 else if n = 14 then q14 else if n = 15 then q15 else if n = 16 then q16 else if n = 17 then q17 else if n = 18 then q18 else if n = 19 then q19 else if n = 20 then q20 else q21), h'), rfl, hC', by rw [hU]; exact hP9, hD9⟩, hS9.F hU⟩) hS9.2.2 dX8_init_129 hlk
