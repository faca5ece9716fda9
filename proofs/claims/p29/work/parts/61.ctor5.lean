/-! the constructor of the class: its contract -/
abbrev RMa : Room := { frames := 4, cells := 11, slots := 3891, locals := 150 }
theorem oi_Ma : Cond.methodLink RX7 1 objectInit ∈ LW ∧ Cond.instanceMethod objectInit ∈ LW ∧ Cond.code objectInit object_method_1_code 1 none ∈ LW := by decide +kernel
theorem fk_Ma_10 : Cond.fieldLink RX7 10 RX7 (TX7 0).2.1 (TX7 0).2.2.1 ∈ LW := by decide +kernel
theorem wd_St : Cond.code yX5_init cX5_init 2 none ∈ LW ∧ Cond.initialized RX5 ∈ LW ∧ Cond.instanceMethod yX5_init ∈ LW ∧ Cond.classLink RX7 7 RX5 ∈ LW ∧ Cond.instantiable RX5 1 ∈ LW := by decide +kernel
theorem nd_St : yX5_init.cls ≠ "java/lang/invoke/MethodHandle" ∧ yX5_init.cls ≠ "java/lang/invoke/VarHandle" ∧ (parseMethodDescriptor yX5_init.desc).map (fun d => d.parameters.length) = some 0 := by decide +kernel
theorem nl_St : Cond.methodLink RX7 9 yX5_init ∈ LW := by decide +kernel
theorem fk_Ma_16 : Cond.fieldLink RX7 16 RX7 (TX7 1).2.1 (TX7 1).2.2.1 ∈ LW := by decide +kernel
theorem fk_Ma_22 : Cond.fieldLink RX7 22 RX7 (TX7 2).2.1 (TX7 2).2.2.1 ∈ LW := by decide +kernel
theorem wd_Br : Cond.code yX0_init cX0_init 1 none ∈ LW ∧ Cond.initialized RX0 ∈ LW ∧ Cond.instanceMethod yX0_init ∈ LW ∧ Cond.classLink RX7 19 RX0 ∈ LW ∧ Cond.instantiable RX0 3 ∈ LW := by decide +kernel
theorem nd_Br : yX0_init.cls ≠ "java/lang/invoke/MethodHandle" ∧ yX0_init.cls ≠ "java/lang/invoke/VarHandle" ∧ (parseMethodDescriptor yX0_init.desc).map (fun d => d.parameters.length) = some 0 := by decide +kernel
theorem nl_Br : Cond.methodLinkNest RX7 21 yX0_init "SandMandalas" ∈ nestL := by decide +kernel
theorem fk_Ma_29 : Cond.fieldLink RX7 29 RX7 (TX7 3).2.1 (TX7 3).2.2.1 ∈ LW := by decide +kernel
theorem wd_Me : Cond.code yX2_init cX2_init 1 none ∈ LW ∧ Cond.initialized RX2 ∈ LW ∧ Cond.instanceMethod yX2_init ∈ LW ∧ Cond.classLink RX7 26 RX2 ∈ LW ∧ Cond.instantiable RX2 4 ∈ LW := by decide +kernel
theorem nd_Me : yX2_init.cls ≠ "java/lang/invoke/MethodHandle" ∧ yX2_init.cls ≠ "java/lang/invoke/VarHandle" ∧ (parseMethodDescriptor yX2_init.desc).map (fun d => d.parameters.length) = some 0 := by decide +kernel
theorem nl_Me : Cond.methodLinkNest RX7 28 yX2_init "SandMandalas" ∈ nestL := by decide +kernel
theorem fk_Ma_36 : Cond.fieldLink RX7 36 RX7 (TX7 4).2.1 (TX7 4).2.2.1 ∈ LW := by decide +kernel
theorem wd_Pa : Cond.code yX4_init cX4_init 1 none ∈ LW ∧ Cond.initialized RX4 ∈ LW ∧ Cond.instanceMethod yX4_init ∈ LW ∧ Cond.classLink RX7 33 RX4 ∈ LW ∧ Cond.instantiable RX4 2 ∈ LW := by decide +kernel
theorem nd_Pa : yX4_init.cls ≠ "java/lang/invoke/MethodHandle" ∧ yX4_init.cls ≠ "java/lang/invoke/VarHandle" ∧ (parseMethodDescriptor yX4_init.desc).map (fun d => d.parameters.length) = some 0 := by decide +kernel
theorem nl_Pa : Cond.methodLinkNest RX7 35 yX4_init "SandMandalas" ∈ nestL := by decide +kernel
def wMa (cI : ClassId) (h1 : Nat) (a : Nat → Nat) (g1 g2 : Hp) : va_W := [(h1, .inr (4, [.ref (a 1), .ref (a 3), .ref (a 5), .ref (a 8), .ref (a 10)])), (a 1, .inr (3, [.ref (a 2)])), (a 2, .inl (cI, 344, .inl (g1 2))), (a 3, .inr (3, [.ref (a 4)])), (a 4, .inl (cI, 344, .inl (g2 2))), (a 5, .inr (0, [.ref (a 6), .ref (a 7), .int 0])), (a 6, .inl (cI, 8, .inl (fun _ => 0))), (a 7, .inl (cI, 8, .inl (fun _ => 0))), (a 8, .inr (1, [.ref (a 9), .int 0, .int 0, .int 0])), (a 9, .inl (cI, 3096, .inl (fun _ => 0))), (a 10, .inr (2, [.ref (a 11), .int 0])), (a 11, .inl (cI, 80, .inl (fun _ => 0)))]
set_option maxHeartbeats 8000000 in
theorem c_Mandalas (l : Launch) (D : va_G) (cI cZ cC : ClassId) (t : Nat) (K KV : Nat → Nat) (h1 sz : Nat) : Met l yX7_init (.code yX7_init cX7_init 1 none :: LW) RMa (va_Pc [.ref h1] (fun U => U.heap.size = sz ∧ va_P D vwCl [(h1, .inr (4, [.null, .null, .null, .null, .null]))] U.heap ∧ CP (EZ D cI cZ cC t K KV (fun _ => 0) (fun _ => [])) (va_A [(h1, .inr (4, [.null, .null, .null, .null, .null]))] sz) U ∧ va_D (fun _ => True) [(h1, .inr (4, [.null, .null, .null, .null, .null]))])) (va_Qv (fun u : (Nat → Nat) × Hp × Hp => CR u.2.1 1 s0.g ∧ CR u.2.2 1 s0.g) (fun u U => va_P D vwCl (wMa cI h1 u.1 u.2.1 u.2.2) U.heap ∧ va_D (va_A [(h1, .inr (4, [.null, .null, .null, .null, .null]))] sz) (wMa cI h1 u.1 u.2.1 u.2.2)) (va_A [(h1, .inr (4, [.null, .null, .null, .null, .null]))] sz)) 11 3891 (va_A [(h1, .inr (4, [.null, .null, .null, .null, .null]))] sz) := by
  refine Met.ofW (cc := cX7_init) (maxL := 1) (ret := none) (by decide +kernel) rfl ?_
  intro p e s m args below meth c s₁ B hml hv
  obtain ⟨rfl, hsz, hP, hK, hD0⟩ := hv
  have hx := B.exec
  have hb := B.bytes
  have hr := B.returns
  have hts0 := atoms_spec (ws := .code yX7_init cX7_init 1 none :: LW) B.pre
  have hts : ∀ w ∈ LW, w.before #[.ref h1] s = true := fun w hw => hts0 w (List.mem_cons_of_mem _ hw)
  have hown : s.vm.findClass RX7 = some m.cls := findClass_of_methodNamed B.named
  have hin : meth.name = "<init>" := (name_of_methodNamed B.named B.method).1
  have hlk := B.notSynchronized
  subst hsz
  have hD := hD0.self (sz := s.heap.size)
  generalize hAe : va_A [(h1, .inr (4, [.null, .null, .null, .null, .null]))] s.heap.size = A at hD hK ⊢
  have hA : ∀ q : Nat, s.heap.size ≤ q → A q := fun q h => by rw [← hAe]; exact Or.inr h
  have hS : va_S A s.heap s.heap [] := va_S.rf
  have hP : va_P D vwCl [(h1, .inr (4, [.null, .null, .null, .null, .null]))] s.heap := hP
  have hl := lv_entry ([.ref h1]) (n := 1) (Nat.le_of_ble_eq_true rfl)
  rw [lg_entry_eq]
  generalize (lg_sl ([.ref h1]) ++ List.replicate (1 - (lg_sl ([.ref h1])).length) Slot.unset).toArray = ls at hl ⊢
  have hl : lv_has ls 1 [(0, .ref h1)] := hl
  refine lv_aload_n hx hb dX7_init_0 rfl (lv_at hl 0 rfl) ?_
  refine W.objInit hx hb hown (hts _ oi_Ma.1) (hts _ oi_Ma.2.1) (hts _ oi_Ma.2.2) rfl (by rw [hml]; exact hl.1) rfl dX7_init_1 (Nat.le_of_ble_eq_true rfl) (Nat.le_of_ble_eq_true rfl) ?_
  refine W.eq (g2 := F0 m 4 ls []) rfl ?_
  refine lv_aload_n hx hb dX7_init_4 rfl (lv_at hl 0 rfl) ?_
  refine va_new (ci := 3) (fs := [.null]) (C := RX5) (T := TX5) (N := 1) hx hb hts inW_X5 tyX5 tyX5_ok hown (hts _ wd_St.2.2.2.1) (hts _ wd_St.2.2.2.2) (hts _ wd_St.2.1) hK.1 hP hD hS hA rfl (fun j hj => by rcases (show j = 0 by omega) with rfl <;> rfl) (Nat.le_of_ble_eq_true rfl) (Nat.le_of_ble_eq_true rfl) dX7_init_5 (fun q0 H0 hP hD hS => ?_)
  have hP : va_P D vwCl [(h1, .inr (4, [.null, .null, .null, .null, .null])), (q0, .inr (3, [.null]))] H0 := hP
  have hD : va_D A [(h1, .inr (4, [.null, .null, .null, .null, .null])), (q0, .inr (3, [.null]))] := hD
  refine W.widen (k := 1) (n := 1) (Nat.le_of_ble_eq_true rfl) (Nat.le_of_ble_eq_true rfl) ?_
  refine lv_dup hx hb dX7_init_8 rfl ?_
  have hPc := hP.sub (ws' := [(q0, .inr (3, [.null]))]) [1] rfl
  have hDc := hD.sub (ws' := [(q0, .inr (3, [.null]))]) [1] (by decide) rfl
  have hFc := va_free (wc := [(q0, .inr (3, [.null]))]) hD hS hA [1] rfl
  refine va_callv (va_runI (As := []) (rest := [.ref q0, .ref h1]) ⟨hx, hb, hml, hown, hts⟩ (c_State l D cI cZ cC t K KV q0 H0.size) ⟨callB_of 0 hts (LW_goodC wd_St.1) rfl (rfl : Rst.cells = 1) (rfl : Rst.slots = 344) (hts _ wd_St.2.1) (hts _ nl_St) nd_St ⟨Nat.le_of_ble_eq_true rfl, Nat.le_of_ble_eq_true rfl⟩, rfl, hts _ wd_St.2.2.1⟩ ⟨fun a U g mk q => ⟨q.1, q.2.1, q.2.2.1, CP.blind g mk q.2.2.2.1, q.2.2.2.2⟩, fun U hU hW => ⟨rfl, by rw [hU], by rw [hU]; exact hPc, CP.warm (H0 := H0) hK hW (by rw [hU]; exact hS) hFc, hDc.weaken (fun _ _ _ _ => trivial)⟩⟩ rfl rfl hl.1 rfl (lv_room (Nat.le_of_ble_eq_true rfl)) dX7_init_9 ⟨Nat.le_of_ble_eq_true rfl, Nat.le_of_ble_eq_true rfl⟩) hS (fun q _ h => hFc q h) hFc (fun u tt H0c locs0 ht hvm hw0 hB hz1 hk1 hS => ?_)
  obtain ⟨a0, g0⟩ := u
  obtain ⟨hP1, hD1⟩ := hB
  rw [ht] at hP1
  obtain ⟨hP, hD⟩ := va_join (wr := [(h1, .inr (4, [.null, .null, .null, .null, .null]))]) (w1 := (wSt cI q0 a0 g0)) hP hD [1] [0] rfl rfl (by decide) (by decide) hk1 hFc hP1 hD1
  have hP : va_P D vwCl [(h1, .inr (4, [.null, .null, .null, .null, .null])), (q0, .inr (3, [.ref a0])), (a0, .inl (cI, 344, .inl (g0 2)))] H0c := hP
  have hD : va_D A [(h1, .inr (4, [.null, .null, .null, .null, .null])), (q0, .inr (3, [.ref a0])), (a0, .inl (cI, 344, .inl (g0 2)))] := hD
  refine W.widen (k := 2) (n := 345) (Nat.le_of_ble_eq_true rfl) (Nat.le_of_ble_eq_true rfl) ?_
  refine va_putF (ci := 4) (k := 0) (C := RX7) (T := TX7) (N := 5) hx hb hts inW_X7 tyX7 tyX7_ok nmX7 hown hK.1 hP hD hS 0 rfl rfl (by decide) (hts _ fk_Ma_10) (fun _ h => h) rfl hin rfl (ty := .object "SandMandalas$State") rfl rfl rfl (Nat.le_of_ble_eq_true rfl) dX7_init_12 (fun H0d locs0d hP hD hS => ?_)
  have hP : va_P D vwCl [(h1, .inr (4, [.ref q0, .null, .null, .null, .null])), (q0, .inr (3, [.ref a0])), (a0, .inl (cI, 344, .inl (g0 2)))] H0d := hP
  have hD : va_D A [(h1, .inr (4, [.ref q0, .null, .null, .null, .null])), (q0, .inr (3, [.ref a0])), (a0, .inl (cI, 344, .inl (g0 2)))] := hD
  refine lv_aload_n hx hb dX7_init_15 rfl (lv_at hl 0 rfl) ?_
  refine va_new (ci := 3) (fs := [.null]) (C := RX5) (T := TX5) (N := 1) hx hb hts inW_X5 tyX5 tyX5_ok hown (hts _ wd_St.2.2.2.1) (hts _ wd_St.2.2.2.2) (hts _ wd_St.2.1) hK.1 hP hD hS hA rfl (fun j hj => by rcases (show j = 0 by omega) with rfl <;> rfl) (Nat.le_of_ble_eq_true rfl) (Nat.le_of_ble_eq_true rfl) dX7_init_16 (fun q1 H1 hP hD hS => ?_)
  have hP : va_P D vwCl [(h1, .inr (4, [.ref q0, .null, .null, .null, .null])), (q0, .inr (3, [.ref a0])), (a0, .inl (cI, 344, .inl (g0 2))), (q1, .inr (3, [.null]))] H1 := hP
  have hD : va_D A [(h1, .inr (4, [.ref q0, .null, .null, .null, .null])), (q0, .inr (3, [.ref a0])), (a0, .inl (cI, 344, .inl (g0 2))), (q1, .inr (3, [.null]))] := hD
  refine W.widen (k := 3) (n := 346) (Nat.le_of_ble_eq_true rfl) (Nat.le_of_ble_eq_true rfl) ?_
  refine lv_dup hx hb dX7_init_19 rfl ?_
  have hPc := hP.sub (ws' := [(q1, .inr (3, [.null]))]) [3] rfl
  have hDc := hD.sub (ws' := [(q1, .inr (3, [.null]))]) [3] (by decide) rfl
  have hFc := va_free (wc := [(q1, .inr (3, [.null]))]) hD hS hA [3] rfl
  refine va_callv (va_runI (As := []) (rest := [.ref q1, .ref h1]) ⟨hx, hb, hml, hown, hts⟩ (c_State l D cI cZ cC t K KV q1 H1.size) ⟨callB_of 0 hts (LW_goodC wd_St.1) rfl (rfl : Rst.cells = 1) (rfl : Rst.slots = 344) (hts _ wd_St.2.1) (hts _ nl_St) nd_St ⟨Nat.le_of_ble_eq_true rfl, Nat.le_of_ble_eq_true rfl⟩, rfl, hts _ wd_St.2.2.1⟩ ⟨fun a U g mk q => ⟨q.1, q.2.1, q.2.2.1, CP.blind g mk q.2.2.2.1, q.2.2.2.2⟩, fun U hU hW => ⟨rfl, by rw [hU], by rw [hU]; exact hPc, CP.warm (H0 := H1) hK hW (by rw [hU]; exact hS) hFc, hDc.weaken (fun _ _ _ _ => trivial)⟩⟩ rfl rfl hl.1 rfl (lv_room (Nat.le_of_ble_eq_true rfl)) dX7_init_20 ⟨Nat.le_of_ble_eq_true rfl, Nat.le_of_ble_eq_true rfl⟩) hS (fun q _ h => hFc q h) hFc (fun u tt H1c locs1 ht hvm hw1 hB hz1 hk1 hS => ?_)
  obtain ⟨a1, g1⟩ := u
  obtain ⟨hP1, hD1⟩ := hB
  rw [ht] at hP1
  obtain ⟨hP, hD⟩ := va_join (wr := [(h1, .inr (4, [.ref q0, .null, .null, .null, .null])), (q0, .inr (3, [.ref a0])), (a0, .inl (cI, 344, .inl (g0 2)))]) (w1 := (wSt cI q1 a1 g1)) hP hD [3] [0, 1, 2] rfl rfl (by decide) (by decide) hk1 hFc hP1 hD1
  have hP : va_P D vwCl [(h1, .inr (4, [.ref q0, .null, .null, .null, .null])), (q0, .inr (3, [.ref a0])), (a0, .inl (cI, 344, .inl (g0 2))), (q1, .inr (3, [.ref a1])), (a1, .inl (cI, 344, .inl (g1 2)))] H1c := hP
  have hD : va_D A [(h1, .inr (4, [.ref q0, .null, .null, .null, .null])), (q0, .inr (3, [.ref a0])), (a0, .inl (cI, 344, .inl (g0 2))), (q1, .inr (3, [.ref a1])), (a1, .inl (cI, 344, .inl (g1 2)))] := hD
  refine W.widen (k := 4) (n := 690) (Nat.le_of_ble_eq_true rfl) (Nat.le_of_ble_eq_true rfl) ?_
  refine va_putF (ci := 4) (k := 1) (C := RX7) (T := TX7) (N := 5) hx hb hts inW_X7 tyX7 tyX7_ok nmX7 hown hK.1 hP hD hS 0 rfl rfl (by decide) (hts _ fk_Ma_16) (fun _ h => h) rfl hin rfl (ty := .object "SandMandalas$State") rfl rfl rfl (Nat.le_of_ble_eq_true rfl) dX7_init_23 (fun H1d locs1d hP hD hS => ?_)
  have hP : va_P D vwCl [(h1, .inr (4, [.ref q0, .ref q1, .null, .null, .null])), (q0, .inr (3, [.ref a0])), (a0, .inl (cI, 344, .inl (g0 2))), (q1, .inr (3, [.ref a1])), (a1, .inl (cI, 344, .inl (g1 2)))] H1d := hP
  have hD : va_D A [(h1, .inr (4, [.ref q0, .ref q1, .null, .null, .null])), (q0, .inr (3, [.ref a0])), (a0, .inl (cI, 344, .inl (g0 2))), (q1, .inr (3, [.ref a1])), (a1, .inl (cI, 344, .inl (g1 2)))] := hD
  refine lv_aload_n hx hb dX7_init_26 rfl (lv_at hl 0 rfl) ?_
  refine va_new (ci := 0) (fs := [.null, .null, .int 0]) (C := RX0) (T := TX0) (N := 3) hx hb hts inW_X0 tyX0 tyX0_ok hown (hts _ wd_Br.2.2.2.1) (hts _ wd_Br.2.2.2.2) (hts _ wd_Br.2.1) hK.1 hP hD hS hA rfl (fun j hj => by rcases (show j = 0 ∨ j = 1 ∨ j = 2 by omega) with rfl | rfl | rfl <;> rfl) (Nat.le_of_ble_eq_true rfl) (Nat.le_of_ble_eq_true rfl) dX7_init_27 (fun q2 H2 hP hD hS => ?_)
  have hP : va_P D vwCl [(h1, .inr (4, [.ref q0, .ref q1, .null, .null, .null])), (q0, .inr (3, [.ref a0])), (a0, .inl (cI, 344, .inl (g0 2))), (q1, .inr (3, [.ref a1])), (a1, .inl (cI, 344, .inl (g1 2))), (q2, .inr (0, [.null, .null, .int 0]))] H2 := hP
  have hD : va_D A [(h1, .inr (4, [.ref q0, .ref q1, .null, .null, .null])), (q0, .inr (3, [.ref a0])), (a0, .inl (cI, 344, .inl (g0 2))), (q1, .inr (3, [.ref a1])), (a1, .inl (cI, 344, .inl (g1 2))), (q2, .inr (0, [.null, .null, .int 0]))] := hD
  refine W.widen (k := 5) (n := 693) (Nat.le_of_ble_eq_true rfl) (Nat.le_of_ble_eq_true rfl) ?_
  refine lv_dup hx hb dX7_init_30 rfl ?_
  have hPc := hP.sub (ws' := [(q2, .inr (0, [.null, .null, .int 0]))]) [5] rfl
  have hDc := hD.sub (ws' := [(q2, .inr (0, [.null, .null, .int 0]))]) [5] (by decide) rfl
  have hFc := va_free (wc := [(q2, .inr (0, [.null, .null, .int 0]))]) hD hS hA [5] rfl
  refine va_callv (va_runIN (As := []) (rest := [.ref q2, .ref h1]) ⟨hx, hb, hml, hown, hts⟩ (c_Breath l D cI cZ cC t K KV q2 H2.size) ⟨va_cnB 0 hts (LW_goodC wd_Br.1) rfl (rfl : RBreath.cells = 2) (rfl : RBreath.slots = 16) (hK.2.1 _ nl_Br) (hts _ wd_Br.2.1) nd_Br ⟨Nat.le_of_ble_eq_true rfl, Nat.le_of_ble_eq_true rfl⟩, rfl, hts _ wd_Br.2.2.1⟩ ⟨fun a U g mk q => ⟨q.1, q.2.1, q.2.2.1, CP.blind g mk q.2.2.2.1, q.2.2.2.2⟩, fun U hU hW => ⟨rfl, by rw [hU], by rw [hU]; exact hPc, CP.warm (H0 := H2) hK hW (by rw [hU]; exact hS) hFc, hDc.weaken (fun _ _ _ _ => trivial)⟩⟩ rfl rfl hl.1 rfl (lv_room (Nat.le_of_ble_eq_true rfl)) dX7_init_31 ⟨Nat.le_of_ble_eq_true rfl, Nat.le_of_ble_eq_true rfl⟩) hS (fun q _ h => hFc q h) hFc (fun u tt H2c locs2 ht hvm hw2 hB hz1 hk1 hS => ?_)
  obtain ⟨a2, b2⟩ := u
  obtain ⟨hP1, hD1⟩ := hB
  rw [ht] at hP1
  obtain ⟨hP, hD⟩ := va_join (wr := [(h1, .inr (4, [.ref q0, .ref q1, .null, .null, .null])), (q0, .inr (3, [.ref a0])), (a0, .inl (cI, 344, .inl (g0 2))), (q1, .inr (3, [.ref a1])), (a1, .inl (cI, 344, .inl (g1 2)))]) (w1 := (wBreath cI q2 (a2, b2))) hP hD [5] [0, 1, 2, 3, 4] rfl rfl (by decide) (by decide) hk1 hFc hP1 hD1
  have hP : va_P D vwCl [(h1, .inr (4, [.ref q0, .ref q1, .null, .null, .null])), (q0, .inr (3, [.ref a0])), (a0, .inl (cI, 344, .inl (g0 2))), (q1, .inr (3, [.ref a1])), (a1, .inl (cI, 344, .inl (g1 2))), (q2, .inr (0, [.ref a2, .ref b2, .int 0])), (a2, .inl (cI, 8, .inl (fun _ => 0))), (b2, .inl (cI, 8, .inl (fun _ => 0)))] H2c := hP
  have hD : va_D A [(h1, .inr (4, [.ref q0, .ref q1, .null, .null, .null])), (q0, .inr (3, [.ref a0])), (a0, .inl (cI, 344, .inl (g0 2))), (q1, .inr (3, [.ref a1])), (a1, .inl (cI, 344, .inl (g1 2))), (q2, .inr (0, [.ref a2, .ref b2, .int 0])), (a2, .inl (cI, 8, .inl (fun _ => 0))), (b2, .inl (cI, 8, .inl (fun _ => 0)))] := hD
  refine W.widen (k := 7) (n := 709) (Nat.le_of_ble_eq_true rfl) (Nat.le_of_ble_eq_true rfl) ?_
  refine va_putF (ci := 4) (k := 2) (C := RX7) (T := TX7) (N := 5) hx hb hts inW_X7 tyX7 tyX7_ok nmX7 hown hK.1 hP hD hS 0 rfl rfl (by decide) (hts _ fk_Ma_22) (fun _ h => h) rfl hin rfl (ty := .object "SandMandalas$Breath") rfl rfl rfl (Nat.le_of_ble_eq_true rfl) dX7_init_34 (fun H2d locs2d hP hD hS => ?_)
  have hP : va_P D vwCl [(h1, .inr (4, [.ref q0, .ref q1, .ref q2, .null, .null])), (q0, .inr (3, [.ref a0])), (a0, .inl (cI, 344, .inl (g0 2))), (q1, .inr (3, [.ref a1])), (a1, .inl (cI, 344, .inl (g1 2))), (q2, .inr (0, [.ref a2, .ref b2, .int 0])), (a2, .inl (cI, 8, .inl (fun _ => 0))), (b2, .inl (cI, 8, .inl (fun _ => 0)))] H2d := hP
  have hD : va_D A [(h1, .inr (4, [.ref q0, .ref q1, .ref q2, .null, .null])), (q0, .inr (3, [.ref a0])), (a0, .inl (cI, 344, .inl (g0 2))), (q1, .inr (3, [.ref a1])), (a1, .inl (cI, 344, .inl (g1 2))), (q2, .inr (0, [.ref a2, .ref b2, .int 0])), (a2, .inl (cI, 8, .inl (fun _ => 0))), (b2, .inl (cI, 8, .inl (fun _ => 0)))] := hD
  refine lv_aload_n hx hb dX7_init_37 rfl (lv_at hl 0 rfl) ?_
  refine va_new (ci := 1) (fs := [.null, .int 0, .int 0, .int 0]) (C := RX2) (T := TX2) (N := 4) hx hb hts inW_X2 tyX2 tyX2_ok hown (hts _ wd_Me.2.2.2.1) (hts _ wd_Me.2.2.2.2) (hts _ wd_Me.2.1) hK.1 hP hD hS hA rfl (fun j hj => by rcases (show j = 0 ∨ j = 1 ∨ j = 2 ∨ j = 3 by omega) with rfl | rfl | rfl | rfl <;> rfl) (Nat.le_of_ble_eq_true rfl) (Nat.le_of_ble_eq_true rfl) dX7_init_38 (fun q3 H3 hP hD hS => ?_)
  have hP : va_P D vwCl [(h1, .inr (4, [.ref q0, .ref q1, .ref q2, .null, .null])), (q0, .inr (3, [.ref a0])), (a0, .inl (cI, 344, .inl (g0 2))), (q1, .inr (3, [.ref a1])), (a1, .inl (cI, 344, .inl (g1 2))), (q2, .inr (0, [.ref a2, .ref b2, .int 0])), (a2, .inl (cI, 8, .inl (fun _ => 0))), (b2, .inl (cI, 8, .inl (fun _ => 0))), (q3, .inr (1, [.null, .int 0, .int 0, .int 0]))] H3 := hP
  have hD : va_D A [(h1, .inr (4, [.ref q0, .ref q1, .ref q2, .null, .null])), (q0, .inr (3, [.ref a0])), (a0, .inl (cI, 344, .inl (g0 2))), (q1, .inr (3, [.ref a1])), (a1, .inl (cI, 344, .inl (g1 2))), (q2, .inr (0, [.ref a2, .ref b2, .int 0])), (a2, .inl (cI, 8, .inl (fun _ => 0))), (b2, .inl (cI, 8, .inl (fun _ => 0))), (q3, .inr (1, [.null, .int 0, .int 0, .int 0]))] := hD
  refine W.widen (k := 8) (n := 713) (Nat.le_of_ble_eq_true rfl) (Nat.le_of_ble_eq_true rfl) ?_
  refine lv_dup hx hb dX7_init_41 rfl ?_
  have hPc := hP.sub (ws' := [(q3, .inr (1, [.null, .int 0, .int 0, .int 0]))]) [8] rfl
  have hDc := hD.sub (ws' := [(q3, .inr (1, [.null, .int 0, .int 0, .int 0]))]) [8] (by decide) rfl
  have hFc := va_free (wc := [(q3, .inr (1, [.null, .int 0, .int 0, .int 0]))]) hD hS hA [8] rfl
  refine va_callv (va_runIN (As := []) (rest := [.ref q3, .ref h1]) ⟨hx, hb, hml, hown, hts⟩ (c_Memory l D cI cZ cC t K KV q3 H3.size) ⟨va_cnB 0 hts (LW_goodC wd_Me.1) rfl (rfl : RMemory.cells = 1) (rfl : RMemory.slots = 3096) (hK.2.1 _ nl_Me) (hts _ wd_Me.2.1) nd_Me ⟨Nat.le_of_ble_eq_true rfl, Nat.le_of_ble_eq_true rfl⟩, rfl, hts _ wd_Me.2.2.1⟩ ⟨fun a U g mk q => ⟨q.1, q.2.1, q.2.2.1, CP.blind g mk q.2.2.2.1, q.2.2.2.2⟩, fun U hU hW => ⟨rfl, by rw [hU], by rw [hU]; exact hPc, CP.warm (H0 := H3) hK hW (by rw [hU]; exact hS) hFc, hDc.weaken (fun _ _ _ _ => trivial)⟩⟩ rfl rfl hl.1 rfl (lv_room (Nat.le_of_ble_eq_true rfl)) dX7_init_42 ⟨Nat.le_of_ble_eq_true rfl, Nat.le_of_ble_eq_true rfl⟩) hS (fun q _ h => hFc q h) hFc (fun u tt H3c locs3 ht hvm hw3 hB hz1 hk1 hS => ?_)
  obtain ⟨a3, ea3⟩ : ∃ z, z = u := ⟨_, rfl⟩
  subst ea3
  obtain ⟨hP1, hD1⟩ := hB
  rw [ht] at hP1
  obtain ⟨hP, hD⟩ := va_join (wr := [(h1, .inr (4, [.ref q0, .ref q1, .ref q2, .null, .null])), (q0, .inr (3, [.ref a0])), (a0, .inl (cI, 344, .inl (g0 2))), (q1, .inr (3, [.ref a1])), (a1, .inl (cI, 344, .inl (g1 2))), (q2, .inr (0, [.ref a2, .ref b2, .int 0])), (a2, .inl (cI, 8, .inl (fun _ => 0))), (b2, .inl (cI, 8, .inl (fun _ => 0)))]) (w1 := (wMemory cI q3 a3)) hP hD [8] [0, 1, 2, 3, 4, 5, 6, 7] rfl rfl (by decide) (by decide) hk1 hFc hP1 hD1
  have hP : va_P D vwCl [(h1, .inr (4, [.ref q0, .ref q1, .ref q2, .null, .null])), (q0, .inr (3, [.ref a0])), (a0, .inl (cI, 344, .inl (g0 2))), (q1, .inr (3, [.ref a1])), (a1, .inl (cI, 344, .inl (g1 2))), (q2, .inr (0, [.ref a2, .ref b2, .int 0])), (a2, .inl (cI, 8, .inl (fun _ => 0))), (b2, .inl (cI, 8, .inl (fun _ => 0))), (q3, .inr (1, [.ref a3, .int 0, .int 0, .int 0])), (a3, .inl (cI, 3096, .inl (fun _ => 0)))] H3c := hP
  have hD : va_D A [(h1, .inr (4, [.ref q0, .ref q1, .ref q2, .null, .null])), (q0, .inr (3, [.ref a0])), (a0, .inl (cI, 344, .inl (g0 2))), (q1, .inr (3, [.ref a1])), (a1, .inl (cI, 344, .inl (g1 2))), (q2, .inr (0, [.ref a2, .ref b2, .int 0])), (a2, .inl (cI, 8, .inl (fun _ => 0))), (b2, .inl (cI, 8, .inl (fun _ => 0))), (q3, .inr (1, [.ref a3, .int 0, .int 0, .int 0])), (a3, .inl (cI, 3096, .inl (fun _ => 0)))] := hD
  refine W.widen (k := 9) (n := 3809) (Nat.le_of_ble_eq_true rfl) (Nat.le_of_ble_eq_true rfl) ?_
  refine va_putF (ci := 4) (k := 3) (C := RX7) (T := TX7) (N := 5) hx hb hts inW_X7 tyX7 tyX7_ok nmX7 hown hK.1 hP hD hS 0 rfl rfl (by decide) (hts _ fk_Ma_29) (fun _ h => h) rfl hin rfl (ty := .object "SandMandalas$Memory") rfl rfl rfl (Nat.le_of_ble_eq_true rfl) dX7_init_45 (fun H3d locs3d hP hD hS => ?_)
  have hP : va_P D vwCl [(h1, .inr (4, [.ref q0, .ref q1, .ref q2, .ref q3, .null])), (q0, .inr (3, [.ref a0])), (a0, .inl (cI, 344, .inl (g0 2))), (q1, .inr (3, [.ref a1])), (a1, .inl (cI, 344, .inl (g1 2))), (q2, .inr (0, [.ref a2, .ref b2, .int 0])), (a2, .inl (cI, 8, .inl (fun _ => 0))), (b2, .inl (cI, 8, .inl (fun _ => 0))), (q3, .inr (1, [.ref a3, .int 0, .int 0, .int 0])), (a3, .inl (cI, 3096, .inl (fun _ => 0)))] H3d := hP
  have hD : va_D A [(h1, .inr (4, [.ref q0, .ref q1, .ref q2, .ref q3, .null])), (q0, .inr (3, [.ref a0])), (a0, .inl (cI, 344, .inl (g0 2))), (q1, .inr (3, [.ref a1])), (a1, .inl (cI, 344, .inl (g1 2))), (q2, .inr (0, [.ref a2, .ref b2, .int 0])), (a2, .inl (cI, 8, .inl (fun _ => 0))), (b2, .inl (cI, 8, .inl (fun _ => 0))), (q3, .inr (1, [.ref a3, .int 0, .int 0, .int 0])), (a3, .inl (cI, 3096, .inl (fun _ => 0)))] := hD
  refine lv_aload_n hx hb dX7_init_48 rfl (lv_at hl 0 rfl) ?_
  refine va_new (ci := 2) (fs := [.null, .int 0]) (C := RX4) (T := TX4) (N := 2) hx hb hts inW_X4 tyX4 tyX4_ok hown (hts _ wd_Pa.2.2.2.1) (hts _ wd_Pa.2.2.2.2) (hts _ wd_Pa.2.1) hK.1 hP hD hS hA rfl (fun j hj => by rcases (show j = 0 ∨ j = 1 by omega) with rfl | rfl <;> rfl) (Nat.le_of_ble_eq_true rfl) (Nat.le_of_ble_eq_true rfl) dX7_init_49 (fun q4 H4 hP hD hS => ?_)
  have hP : va_P D vwCl [(h1, .inr (4, [.ref q0, .ref q1, .ref q2, .ref q3, .null])), (q0, .inr (3, [.ref a0])), (a0, .inl (cI, 344, .inl (g0 2))), (q1, .inr (3, [.ref a1])), (a1, .inl (cI, 344, .inl (g1 2))), (q2, .inr (0, [.ref a2, .ref b2, .int 0])), (a2, .inl (cI, 8, .inl (fun _ => 0))), (b2, .inl (cI, 8, .inl (fun _ => 0))), (q3, .inr (1, [.ref a3, .int 0, .int 0, .int 0])), (a3, .inl (cI, 3096, .inl (fun _ => 0))), (q4, .inr (2, [.null, .int 0]))] H4 := hP
  have hD : va_D A [(h1, .inr (4, [.ref q0, .ref q1, .ref q2, .ref q3, .null])), (q0, .inr (3, [.ref a0])), (a0, .inl (cI, 344, .inl (g0 2))), (q1, .inr (3, [.ref a1])), (a1, .inl (cI, 344, .inl (g1 2))), (q2, .inr (0, [.ref a2, .ref b2, .int 0])), (a2, .inl (cI, 8, .inl (fun _ => 0))), (b2, .inl (cI, 8, .inl (fun _ => 0))), (q3, .inr (1, [.ref a3, .int 0, .int 0, .int 0])), (a3, .inl (cI, 3096, .inl (fun _ => 0))), (q4, .inr (2, [.null, .int 0]))] := hD
  refine W.widen (k := 10) (n := 3811) (Nat.le_of_ble_eq_true rfl) (Nat.le_of_ble_eq_true rfl) ?_
  refine lv_dup hx hb dX7_init_52 rfl ?_
  have hPc := hP.sub (ws' := [(q4, .inr (2, [.null, .int 0]))]) [10] rfl
  have hDc := hD.sub (ws' := [(q4, .inr (2, [.null, .int 0]))]) [10] (by decide) rfl
  have hFc := va_free (wc := [(q4, .inr (2, [.null, .int 0]))]) hD hS hA [10] rfl
  refine va_callv (va_runIN (As := []) (rest := [.ref q4, .ref h1]) ⟨hx, hb, hml, hown, hts⟩ (c_Pad l D cI cZ cC t K KV q4 H4.size) ⟨va_cnB 0 hts (LW_goodC wd_Pa.1) rfl (rfl : RPad.cells = 1) (rfl : RPad.slots = 80) (hK.2.1 _ nl_Pa) (hts _ wd_Pa.2.1) nd_Pa ⟨Nat.le_of_ble_eq_true rfl, Nat.le_of_ble_eq_true rfl⟩, rfl, hts _ wd_Pa.2.2.1⟩ ⟨fun a U g mk q => ⟨q.1, q.2.1, q.2.2.1, CP.blind g mk q.2.2.2.1, q.2.2.2.2⟩, fun U hU hW => ⟨rfl, by rw [hU], by rw [hU]; exact hPc, CP.warm (H0 := H4) hK hW (by rw [hU]; exact hS) hFc, hDc.weaken (fun _ _ _ _ => trivial)⟩⟩ rfl rfl hl.1 rfl (lv_room (Nat.le_of_ble_eq_true rfl)) dX7_init_53 ⟨Nat.le_of_ble_eq_true rfl, Nat.le_of_ble_eq_true rfl⟩) hS (fun q _ h => hFc q h) hFc (fun u tt H4c locs4 ht hvm hw4 hB hz1 hk1 hS => ?_)
  obtain ⟨a4, ea4⟩ : ∃ z, z = u := ⟨_, rfl⟩
  subst ea4
  obtain ⟨hP1, hD1⟩ := hB
  rw [ht] at hP1
  obtain ⟨hP, hD⟩ := va_join (wr := [(h1, .inr (4, [.ref q0, .ref q1, .ref q2, .ref q3, .null])), (q0, .inr (3, [.ref a0])), (a0, .inl (cI, 344, .inl (g0 2))), (q1, .inr (3, [.ref a1])), (a1, .inl (cI, 344, .inl (g1 2))), (q2, .inr (0, [.ref a2, .ref b2, .int 0])), (a2, .inl (cI, 8, .inl (fun _ => 0))), (b2, .inl (cI, 8, .inl (fun _ => 0))), (q3, .inr (1, [.ref a3, .int 0, .int 0, .int 0])), (a3, .inl (cI, 3096, .inl (fun _ => 0)))]) (w1 := (wPad cI q4 a4)) hP hD [10] [0, 1, 2, 3, 4, 5, 6, 7, 8, 9] rfl rfl (by decide) (by decide) hk1 hFc hP1 hD1
  have hP : va_P D vwCl [(h1, .inr (4, [.ref q0, .ref q1, .ref q2, .ref q3, .null])), (q0, .inr (3, [.ref a0])), (a0, .inl (cI, 344, .inl (g0 2))), (q1, .inr (3, [.ref a1])), (a1, .inl (cI, 344, .inl (g1 2))), (q2, .inr (0, [.ref a2, .ref b2, .int 0])), (a2, .inl (cI, 8, .inl (fun _ => 0))), (b2, .inl (cI, 8, .inl (fun _ => 0))), (q3, .inr (1, [.ref a3, .int 0, .int 0, .int 0])), (a3, .inl (cI, 3096, .inl (fun _ => 0))), (q4, .inr (2, [.ref a4, .int 0])), (a4, .inl (cI, 80, .inl (fun _ => 0)))] H4c := hP
  have hD : va_D A [(h1, .inr (4, [.ref q0, .ref q1, .ref q2, .ref q3, .null])), (q0, .inr (3, [.ref a0])), (a0, .inl (cI, 344, .inl (g0 2))), (q1, .inr (3, [.ref a1])), (a1, .inl (cI, 344, .inl (g1 2))), (q2, .inr (0, [.ref a2, .ref b2, .int 0])), (a2, .inl (cI, 8, .inl (fun _ => 0))), (b2, .inl (cI, 8, .inl (fun _ => 0))), (q3, .inr (1, [.ref a3, .int 0, .int 0, .int 0])), (a3, .inl (cI, 3096, .inl (fun _ => 0))), (q4, .inr (2, [.ref a4, .int 0])), (a4, .inl (cI, 80, .inl (fun _ => 0)))] := hD
  refine W.widen (k := 11) (n := 3891) (Nat.le_of_ble_eq_true rfl) (Nat.le_of_ble_eq_true rfl) ?_
  refine va_putF (ci := 4) (k := 4) (C := RX7) (T := TX7) (N := 5) hx hb hts inW_X7 tyX7 tyX7_ok nmX7 hown hK.1 hP hD hS 0 rfl rfl (by decide) (hts _ fk_Ma_36) (fun _ h => h) rfl hin rfl (ty := .object "SandMandalas$Pad") rfl rfl rfl (Nat.le_of_ble_eq_true rfl) dX7_init_56 (fun H4d locs4d hP hD hS => ?_)
  have hP : va_P D vwCl [(h1, .inr (4, [.ref q0, .ref q1, .ref q2, .ref q3, .ref q4])), (q0, .inr (3, [.ref a0])), (a0, .inl (cI, 344, .inl (g0 2))), (q1, .inr (3, [.ref a1])), (a1, .inl (cI, 344, .inl (g1 2))), (q2, .inr (0, [.ref a2, .ref b2, .int 0])), (a2, .inl (cI, 8, .inl (fun _ => 0))), (b2, .inl (cI, 8, .inl (fun _ => 0))), (q3, .inr (1, [.ref a3, .int 0, .int 0, .int 0])), (a3, .inl (cI, 3096, .inl (fun _ => 0))), (q4, .inr (2, [.ref a4, .int 0])), (a4, .inl (cI, 80, .inl (fun _ => 0)))] H4d := hP
  have hD : va_D A [(h1, .inr (4, [.ref q0, .ref q1, .ref q2, .ref q3, .ref q4])), (q0, .inr (3, [.ref a0])), (a0, .inl (cI, 344, .inl (g0 2))), (q1, .inr (3, [.ref a1])), (a1, .inl (cI, 344, .inl (g1 2))), (q2, .inr (0, [.ref a2, .ref b2, .int 0])), (a2, .inl (cI, 8, .inl (fun _ => 0))), (b2, .inl (cI, 8, .inl (fun _ => 0))), (q3, .inr (1, [.ref a3, .int 0, .int 0, .int 0])), (a3, .inl (cI, 3096, .inl (fun _ => 0))), (q4, .inr (2, [.ref a4, .int 0])), (a4, .inl (cI, 80, .inl (fun _ => 0)))] := hD
  exact W.vret hx hb hr (fun U hU hW => ⟨⟨((fun n => [h1, q0, a0, q1, a1, q2, a2, b2, q3, a3, q4, a4].getD n 0), g0, g1), rfl, ⟨hw0, hw1⟩, by rw [hU]; exact hP, hD⟩, hS.F hU⟩) hS.2.2 dX7_init_59 hlk
