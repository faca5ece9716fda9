/-! rows of the law's own frame: its end, and its reading of the script -/
abbrev VL (E : EN) (p : Program) (l : Launch) (e : Env) (s : State) (m : MethodId) (below : List Frame) (meth : Method) (c : Code) (b : Nat) (pc : Nat) (lv : List (Nat × Value)) (st : List Value) (h : Hp) : Prop := V E 5 (fun q => s.heap.size ≤ q) p l e room_1 s m #[Value.ref b] below meth c 12 3896 (lw_Z below #[Value.ref b] s) pc lv st h
theorem ogq {α : Type} {b : Prop} [Decidable b] {a : Option α} {x : α} (hf : (if b then a else none) = some x) : b ∧ a = some x := by
  by_cases h : b
  · rw [if_pos h] at hf; exact ⟨h, hf⟩
  · rw [if_neg h] at hf; cases hf
def cellv (L : Nat) (xs : Nat → Int32) (k : Int32) : Int32 := (if Int32.ofNat L ≤ k then 15485959 * k + 4842 else xs k.toNatClampNeg) &&& 2147483647
abbrev PreX (E : EN) (h : Hp) (sz : Nat) (As : List Value) (b L : Nat) (xs : Nat → Int32) : Array Value → State → Prop := va_Pc As (fun U => (U.heap.size = sz ∧ va_P (eD E) vwCl (wld E h) U.heap ∧ CP E (va_A (wld E h) sz) U ∧ va_D (fun _ => True) (wld E h)) ∧ va_X b L xs U U.heap)
def SMx (l : Launch) (E : EN) (d : Nat) (y : MethodName) (cc : ByteArray) (nL : Nat) (ret : Option FieldType) (As : List Value) (h : Hp) (r : Int32) (h' : Hp) (b L : Nat) (xs : Nat → Int32) : Prop := ∀ sz : Nat, b < sz → ¬ va_A (wld E h) sz b → Met l y (.code y cc nL ret :: LW) (rm d) (PreX E h sz As b L xs) (Qi E (va_A (wld E h) sz) r h') 0 0 (va_A (wld E h) sz)
theorem SMx.of {l : Launch} {E : EN} {d : Nat} {y : MethodName} {cc : ByteArray} {nL : Nat} {ret : Option FieldType} {As : List Value} {h h' : Hp} {r : Int32} {b L : Nat} {xs : Nat → Int32} (hy : plainName y.cls = true) (hn : (lg_sl As).length ≤ nL)
    (body : ∀ (p : Program) (e : Env) (s : State) (m : MethodId) (args : Array Value) (below : List Frame) (meth : Method) (c : Code) (A : Nat → Prop), XC E y.cls cc nL ret A p s m args meth c → va_X b L xs s s.heap → b < s.heap.size → ¬ A b → V E nL A p l e (rm d) s m args below meth c 0 0 (MQ below (Qi E A r h') args s 0 0 A) 0 (lv_args 0 As) [] h) : SMx l E d y cc nL ret As h r h' b L xs := by
  intro sz hb0 hnA
  refine Met.ofW (cc := cc) (maxL := nL) (ret := ret) hy rfl ?_
  intro p e s m args below meth c s₁ B hml hv
  obtain ⟨rfl, ⟨hsz, hP, hK, hD0⟩, hX⟩ := hv
  have hts := atoms_spec (ws := .code y cc nL ret :: LW) B.pre
  subst hsz
  have hl := lv_entry As hn
  rw [lg_entry_eq]
  exact body p e s m As.toArray below meth c _ ⟨B.exec, B.bytes, B.returns, hml, findClass_of_methodNamed B.named, fun w hw => hts w (List.mem_cons_of_mem _ hw), B.notSynchronized, hK, fun q hq => Or.inr hq⟩ hX hb0 hnA s.heap [] _ hP hD0.self va_S.rf hl
theorem ys_cell : YS yL_cell cL_cell 2 (some .int) 2 := ⟨by decide +kernel, by decide +kernel, by decide +kernel⟩
theorem yw_cell : Cond.static yL_cell ∈ LW := by decide +kernel
theorem ml_cell : Cond.methodLink RL 83 yL_cell ∈ LW := by decide +kernel
theorem kcl_7 : Jvm.Cond.constant RL 7 15485959 ∈ LW := by decide +kernel
theorem kcl_8 : Jvm.Cond.constant RL 8 2147483647 ∈ LW := by decide +kernel
section RW
variable {E : EN} {own : String} {cc : ByteArray} {nL : Nat} {ret' : Option FieldType} {A : Nat → Prop} {p : Program} {l : Launch} {e : Env} {R : Room} {s : State} {m : MethodId} {args : Array Value} {below : List Frame} {meth : Method} {c : Code} {cells slots : Nat} {Q : State → Prop} {pc : Nat} {lv : List (Nat × Value)} {st : List Value} {h h' : Hp} {b L : Nat} {xs : Nat → Int32}
theorem V_sld (X : XC E own cc nL ret' A p s m args meth c) (hX : va_X b L xs s s.heap) (hbl : b < s.heap.size) (hbA : ¬ A b) {i : Int32} (hin : vp_in i L) (hd : decode cc pc = .ok (.iaload, 1)) (kk : V E nL A p l e R s m args below meth c cells slots Q (pc + 1) lv (.int (xs i.toNatClampNeg) :: st) h) : V E nL A p l e R s m args below meth c cells slots Q pc lv (.int i :: .ref b :: st) h := fun H locs ls hP hD hS hl => va_sld X.1 X.2.1 hX hbl hbA hS hin hd (kk H locs ls hP hD hS hl)
theorem V_slen (X : XC E own cc nL ret' A p s m args meth c) (hX : va_X b L xs s s.heap) (hbl : b < s.heap.size) (hbA : ¬ A b) (hd : decode cc pc = .ok (.arraylength, 1)) (kk : V E nL A p l e R s m args below meth c cells slots Q (pc + 1) lv (.int (Int32.ofNat L) :: st) h) : V E nL A p l e R s m args below meth c cells slots Q pc lv (.ref b :: st) h := fun H locs ls hP hD hS hl => va_slen X.1 X.2.1 hX hbl hbA hS hd (kk H locs ls hP hD hS hl)
theorem vin_of {k : Int32} (hL : L ≤ 260) (hk : 0 ≤ k) (w : ¬ Int32.ofNat L ≤ k) : vp_in k L := by
  have w1 : ¬ ((L : Int) ≤ k.toInt) := fun x => w ((n_le k (n := L) (by omega)).mpr x)
  have w2 : (0 : Int) ≤ k.toInt := by
    rw [k_0] at hk
    exact (n_le k (n := 0) (by omega)).mp hk
  obtain ⟨a, ha, rfl⟩ := inR_of (x := k) (n := L) (decide_eq_true ⟨w2, by omega⟩) (by omega)
  exact nI_in ha (by omega)
theorem cell_ok (hL : L ≤ 260) {k : Int32} (hk : 0 ≤ k) : SMx l E 0 yL_cell cL_cell 2 (some .int) [.ref b, .int k] h (cellv L xs k) h b L xs := SMx.of (by decide +kernel) (Nat.le_of_ble_eq_true rfl) (fun p e s m args below meth c A X hX hbl hbA => by
  show V E 2 A p l e (rm 0) s m args below meth c 0 0 (MQ below (Qi E A (cellv L xs k) h) args s 0 0 A) 0 [(0, .ref b), (1, .int k)] [] h
  refine V_iload_n X 1 rfl dL_cell_0 ?_
  refine V_aload_n X 0 rfl dL_cell_1 ?_
  refine V_slen X hX hbl hbA dL_cell_2 ?_
  refine V_icmp_ge X (tgt := 12) (by decide) dL_cell_3 (fun w => ?_) (fun w => ?_)
  · refine V_ldc X kcl_7 dL_cell_12 ?_
    refine V_iload_n X 1 rfl dL_cell_14 ?_
    refine V_imul X dL_cell_15 ?_
    refine V_sipush X (v := 4842) (by decide) dL_cell_16 ?_
    refine V_iadd X dL_cell_19 ?_
    refine V_ldc X kcl_8 dL_cell_20 ?_
    refine V_iand X dL_cell_22 ?_
    exact V_iret X rfl (by unfold cellv; rw [if_pos w]) dL_cell_23
  · refine V_aload_n X 0 rfl dL_cell_6 ?_
    refine V_iload_n X 1 rfl dL_cell_7 ?_
    refine V_sld X hX hbl hbA (vin_of hL hk w) dL_cell_8 ?_
    refine V_goto X (tgt := 20) (by decide) dL_cell_9 ?_
    refine V_ldc X kcl_8 dL_cell_20 ?_
    refine V_iand X dL_cell_22 ?_
    exact V_iret X rfl (by unfold cellv; rw [if_neg w]) dL_cell_23)
theorem V_cell (X : XC E RL cc nL ret' A p s m args meth c) (hX : va_X b L xs s s.heap) (hbl : b < s.heap.size) (hbA : ¬ A b) (hL : L ≤ 260) {k : Int32} (hk : 0 ≤ k) (hR : 1 ≤ R.frames ∧ 21 ≤ R.locals) (hcs : cells ≤ R.cells ∧ slots ≤ R.slots) (hst : (st.map fun v => v.category).sum ≤ 8) (hd : decode cc pc = .ok (.invokestatic 83, 3)) (kk : V E nL A p l e R s m args below meth c cells slots Q (pc + 3) lv (.int (cellv L xs k) :: st) h) : V E nL A p l e R s m args below meth c cells slots Q pc lv (.int k :: .ref b :: st) h := fun H locs ls hP hD hS hl => by
  have hAA := V_AA X hD hS
  have hnb : ¬ va_A (wld E h) H.size b := fun q => hbA (hAA b q)
  have hbH : b < H.size := Nat.lt_of_lt_of_le hbl hS.1
  have hPS : PreS s H (PreX E h H.size [.ref b, .int k] b L xs) [.ref b, .int k] := ⟨fun a U g mk q => ⟨q.1, ⟨q.2.1.1, q.2.1.2.1, CP.blind g mk q.2.1.2.2.1, q.2.1.2.2.2⟩, va_X.moved (u := U) (Vm.Alike.refl U.vm) q.2.2⟩, fun U hU hW => ⟨rfl, ⟨by rw [hU], by rw [hU]; exact hP, CP.warm (H0 := H) X.2.2.2.2.2.2.2.1 hW (by rw [hU]; exact hS) hAA, hD.weaken (fun _ _ _ _ => trivial)⟩, by rw [hU]; exact va_X.kept (va_X.moved hW.alike hX) (hS.2.1 b hbl hbA)⟩⟩
  refine va_calli (va_runS (As := [.ref b, .int k]) (rest := st) (mc := 0) (ms := 0) ⟨X.1, X.2.1, X.2.2.2.1, X.2.2.2.2.1, X.2.2.2.2.2.1⟩ (cell_ok (l := l) (E := E) (h := h) (b := b) (xs := xs) hL hk H.size hbH hnb) (⟨callB_of 2 X.2.2.2.2.2.1 (LW_goodC ys_cell.1) rfl (rfl : (rm 0).cells = 0) (rfl : (rm 0).slots = 0) (X.2.2.2.2.2.1 _ ys_cell.2.1) (X.2.2.2.2.2.1 _ ml_cell) ys_cell.2.2 hR, X.2.2.2.2.2.1 _ yw_cell⟩) hPS rfl rfl hl.1 rfl (lv_room hst) hd ⟨hcs.1, hcs.2⟩) hS (fun q _ hq => hAA q hq) hAA (fun r1 u t H1 locs1 ht hvm hpost hB hz1 hk1 hS1 => ?_)
  obtain ⟨rfl, rfl⟩ := hpost
  obtain ⟨hP1, hD1⟩ := hB
  rw [ht] at hP1
  exact kk H1 locs1 ls hP1 (hD1.weaken (fun _ q _ hq => hAA q.1 hq)) hS1 hl
theorem V_lret {v : Int32} (X : XC E RL cL_law 5 ret (fun q => s.heap.size ≤ q) p s m #[Value.ref b] meth c) (hf0 : rz v h = some (1, h')) (hd : decode cL_law pc = .ok (.ireturn, 1)) : VL E p l e s m below meth c b pc lv [.int v] h := by
  have hv : v = 1 := by
    unfold rz at hf0
    by_cases z : v = 0 ∨ v = 1
    · rw [if_pos z] at hf0
      exact (Prod.mk.inj (Option.some.inj hf0)).1
    · rw [if_neg z] at hf0
      cases hf0
  subst hv
  intro H locs ls hP hD hS hl
  exact va_forget (fun q hq => hS.2.2 q hq) (lw_ret X.1 X.2.1 X.2.2.1 X.2.2.2.2.2.2.1 hd)
end RW
