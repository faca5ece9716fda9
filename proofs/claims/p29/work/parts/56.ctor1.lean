/-! the constructor of a state: its contract -/
abbrev EZ (D : va_G) (cI cZ cC : ClassId) (t : Nat) (K KV : Nat → Nat) (ea : Nat → Nat) (wl : Hp → va_W) : EN := (D, (cI, cZ, cC), ea, t, K, KV, wl)
def wSt (cI : ClassId) (h1 q2 : Nat) (h : Hp) : va_W := [(h1, .inr (3, [.ref q2])), (q2, .inl (cI, 344, .inl (h 2)))]
theorem oi_1' : Cond.methodLink RX5 5 objectInit ∈ LW ∧ Cond.instanceMethod objectInit ∈ LW ∧ Cond.code objectInit object_method_1_code 1 none ∈ LW ∧ Cond.arrayClass .int ∈ LW := by decide +kernel
theorem SR_st {D : va_G} {cI cZ cC : ClassId} {t : Nat} {K KV : Nat → Nat} {h1 q2 : Nat} : SR (EZ D cI cZ cC t K KV (fun n => if n = 1 then h1 else q2) (wSt cI h1 q2)) 1 :=
  ⟨⟨0, fun h => rfl⟩, ⟨1, fun h => rfl, fun h f => rfl⟩⟩
set_option maxHeartbeats 4000000 in
theorem c_State (l : Launch) (D : va_G) (cI cZ cC : ClassId) (t : Nat) (K KV : Nat → Nat) (h1 sz : Nat) : Met l yX5_init (.code yX5_init cX5_init 2 none :: LW) Rst (va_Pc [.ref h1] (fun U => U.heap.size = sz ∧ va_P D vwCl [(h1, .inr (3, [.null]))] U.heap ∧ CP (EZ D cI cZ cC t K KV (fun _ => 0) (fun _ => [])) (va_A [(h1, .inr (3, [.null]))] sz) U ∧ va_D (fun _ => True) [(h1, .inr (3, [.null]))])) (va_Qv (fun u : Nat × Hp => CR u.2 1 s0.g) (fun u U => va_P D vwCl (wSt cI h1 u.1 u.2) U.heap ∧ va_D (va_A [(h1, .inr (3, [.null]))] sz) (wSt cI h1 u.1 u.2)) (va_A [(h1, .inr (3, [.null]))] sz)) 1 344 (va_A [(h1, .inr (3, [.null]))] sz) := by
  refine Met.ofW (cc := cX5_init) (maxL := 2) (ret := none) (by decide +kernel) rfl ?_
  intro p e s m args below meth c s₁ B hml hv
  obtain ⟨rfl, hsz, hP, hK, hD0⟩ := hv
  have hx := B.exec
  have hb := B.bytes
  have hr := B.returns
  have hts0 := atoms_spec (ws := .code yX5_init cX5_init 2 none :: LW) B.pre
  have hts : ∀ w ∈ LW, w.before #[.ref h1] s = true := fun w hw => hts0 w (List.mem_cons_of_mem _ hw)
  have hown : s.vm.findClass RX5 = some m.cls := findClass_of_methodNamed B.named
  have hin : meth.name = "<init>" := (name_of_methodNamed B.named B.method).1
  have hlk := B.notSynchronized
  subst hsz
  have hD := hD0.self (sz := s.heap.size)
  generalize hAe : va_A [(h1, .inr (3, [.null]))] s.heap.size = A at hD hK ⊢
  have hA : ∀ q : Nat, s.heap.size ≤ q → A q := fun q h => by rw [← hAe]; exact Or.inr h
  have hS : va_S A s.heap s.heap [] := va_S.rf
  have hP : va_P D vwCl [(h1, .inr (3, [.null]))] s.heap := hP
  have hl := lv_entry ([.ref h1]) (n := 2) (Nat.le_of_ble_eq_true rfl)
  rw [lg_entry_eq]
  generalize (lg_sl ([.ref h1]) ++ List.replicate (2 - (lg_sl ([.ref h1])).length) Slot.unset).toArray = ls at hl ⊢
  have hl : lv_has ls 2 [(0, .ref h1)] := hl
  refine lv_aload_n hx hb dX5_init_0 rfl (lv_at hl 0 rfl) ?_
  refine W.objInit hx hb hown (hts _ oi_1'.1) (hts _ oi_1'.2.1) (hts _ oi_1'.2.2.1) rfl (by rw [hml]; exact hl.1) rfl dX5_init_1 (Nat.le_of_ble_eq_true rfl) (Nat.le_of_ble_eq_true rfl) ?_
  refine W.eq (g2 := F0 m 4 ls []) rfl ?_
  refine lv_aload_n hx hb dX5_init_4 rfl (lv_at hl 0 rfl) ?_
  refine lv_sipush hx hb dX5_init_5 (v := 344) (by decide) ?_
  refine va_newa (atype := .int) (ty := .int) (a0 := (344, .inl (fun _ => 0))) (N' := 344) hx hb (hts _ oi_1'.2.2.2) rfl hK.1 hP hD hS hA (fun cA => rfl) (by decide) (by decide) (by decide) (Nat.le_of_ble_eq_true rfl) (Nat.le_of_ble_eq_true rfl) dX5_init_8 (fun q2 cA H hK1 hP hD hS => ?_)
  have ecA : cA = cI := by
    have z1 := (hK1.2 1 (cA, .int) rfl).2
    have z2 := (hK1.2 0 (cI, .int) rfl).2
    exact Option.some.inj (z1.symm.trans z2)
  subst ecA
  refine va_putF (ci := 3) (k := 0) (C := RX5) (T := TX5) (N := 1) hx hb hts inW_X5 tyX5 tyX5_ok nmX5 hown hK.1 hP hD hS 0 rfl rfl (by decide) (hts _ fl_X5_11) (fun _ h => h) rfl hin rfl (ty := .array .int) rfl rfl rfl (by decide) dX5_init_10 (fun H1 locs1 hP hD hS => ?_)
  have hP : va_P D vwCl (wSt cA h1 q2 (fun _ _ => 0)) H1 := hP
  have hD : va_D A (wSt cA h1 q2 (fun _ _ => 0)) := hD
  have X : XC (EZ D cA cZ cC t K KV (fun n => if n = 1 then h1 else q2) (wSt cA h1 q2)) RX5 cX5_init 2 none A p s m #[.ref h1] meth c := ⟨hx, hb, hr, hml, hown, hts, hlk, hK, hA⟩
  refine st_body (h := fun _ _ => 0) SR_st X (fun c hc => k_0) (fun h' hC' => ?_) H1 locs1 ls hP hD hS hl
  intro H2 locs2 ls2 hP2 hD2 hS2 hl2
  exact W.vret hx hb hr (fun U hU hW => ⟨⟨(q2, h'), rfl, hC', by rw [hU]; exact hP2, hD2⟩, hS2.F hU⟩) hS2.2.2 dX5_init_61 hlk
