/-! The JDK's String methods on the seven constants, and shapeOf. -/
def sLen (j : Nat) : Nat := sk_len.getD j 0
def sEm (j : Nat) : Int32 := if sLen j = 0 then 1 else 0
def sCh (j i : Nat) : Int32 := (sk_byt.getD j []).getD i 0
theorem ogp {α : Type} {b : Prop} [Decidable b] {a : Option α} {x : α} (hf : (if b then a else none) = some x) : b ∧ a = some x := by
  by_cases h : b
  · rw [if_pos h] at hf; exact ⟨h, hf⟩
  · rw [if_neg h] at hf; cases hf
section SR1
variable {E : EN} {own : String} {cc : ByteArray} {nL : Nat} {ret : Option FieldType} {A : Nat → Prop} {p : Program} {l : Launch} {e : Env} {R : Room} {s : State} {m : MethodId} {args : Array Value} {below : List Frame} {meth : Method} {c : Code} {cells slots : Nat} {Q : State → Prop} {pc : Nat} {lv lv' : List (Nat × Value)} {st : List Value} {h h' : Hp}
theorem V_sval (X : XC E RJ0 cc nL ret A p s m args meth c) {j : Nat} (hj : j < 7) (hd : decode cc pc = .ok (.getfield 9, 3)) (kk : V E nL A p l e R s m args below meth c cells slots Q (pc + 3) lv (.ref (eV E j) :: st) h) : V E nL A p l e R s m args below meth c cells slots Q pc lv (.ref (eK E j) :: st) h := fun H locs ls hP hD hS hl => vk_getf (ref := RJ0) X.1 X.2.1 (X.2.2.2.2.2.2.2.1.2.2.2.2.1.1 j hj).2.2.1 hS X.2.2.2.2.1 (X.2.2.2.2.2.1 _ fj_val) (fun _ q => q) hd (kk H locs ls hP hD hS hl)
theorem V_scod (X : XC E RJ0 cc nL ret A p s m args meth c) {j : Nat} (hj : j < 7) (hd : decode cc pc = .ok (.getfield 15, 3)) (kk : V E nL A p l e R s m args below meth c cells slots Q (pc + 3) lv (.int 0 :: st) h) : V E nL A p l e R s m args below meth c cells slots Q pc lv (.ref (eK E j) :: st) h := fun H locs ls hP hD hS hl => vk_getf (ref := RJ0) X.1 X.2.1 (X.2.2.2.2.2.2.2.1.2.2.2.2.1.1 j hj).2.1 hS X.2.2.2.2.1 (X.2.2.2.2.2.1 _ fj_cod) (fun _ q => q) hd (kk H locs ls hP hD hS hl)
theorem V_svlen (X : XC E own cc nL ret A p s m args meth c) {j : Nat} (hj : j < 7) (hd : decode cc pc = .ok (.arraylength, 1)) (kk : V E nL A p l e R s m args below meth c cells slots Q (pc + 1) lv (.int (Int32.ofNat (sLen j)) :: st) h) : V E nL A p l e R s m args below meth c cells slots Q pc lv (.ref (eV E j) :: st) h := fun H locs ls hP hD hS hl => va_tlen X.1 X.2.1 (X.2.2.2.2.2.2.2.1.2.2.2.2.1.1 j hj).2.2.2 hS rfl hd (kk H locs ls hP hD hS hl)
theorem V_svald (X : XC E own cc nL ret A p s m args meth c) {j : Nat} {i : Int32} (hj : j < 7) (hin : inB i (sLen j) = true) (hd : decode cc pc = .ok (.baload, 1)) (kk : V E nL A p l e R s m args below meth c cells slots Q (pc + 1) lv (.int (sCh j i.toNatClampNeg) :: st) h) : V E nL A p l e R s m args below meth c cells slots Q pc lv (.int i :: .ref (eV E j) :: st) h := fun H locs ls hP hD hS hl => va_tb X.1 X.2.1 (X.2.2.2.2.2.2.2.1.2.2.2.2.1.1 j hj).2.2.2 hS (inB_in hin) rfl hd (kk H locs ls hP hD hS hl)
theorem V_gcs (X : XC E RJ0 cc nL ret A p s m args meth c) (hd : decode cc pc = .ok (.getstatic 38, 3)) (kk : V E nL A p l e R s m args below meth c cells slots Q (pc + 3) lv (.int 1 :: st) h) : V E nL A p l e R s m args below meth c cells slots Q pc lv st h := fun H locs ls hP hD hS hl => va_gets (ref := RJ0) X.1 X.2.1 X.2.2.2.2.2.2.2.1.2.2.2.2.2.2.1 hS X.2.2.2.2.1 (X.2.2.2.2.2.1 _ fj_cs) (fun _ q => q) hd (kk H locs ls hP hD hS hl)
theorem V_gfm (X : XC E RJ0 cc nL ret A p s m args meth c) (hd : decode cc pc = .ok (.getstatic 1053, 3)) (kk : ∀ v : Value, v.category = 1 → V E nL A p l e R s m args below meth c cells slots Q (pc + 3) lv (v :: st) h) : V E nL A p l e R s m args below meth c cells slots Q pc lv st h := fun H locs ls hP hD hS hl => by
  rcases X.2.2.2.2.2.2.2.1.2.2.2.2.2.2.2 with q | ⟨t, q⟩
  · exact va_gets (ref := RJ3) X.1 X.2.1 q hS X.2.2.2.2.1 (X.2.2.2.2.2.1 _ fj_fm) (fun _ q => q) hd (kk .null rfl H locs ls hP hD hS hl)
  · exact va_gets (ref := RJ3) X.1 X.2.1 q hS X.2.2.2.2.1 (X.2.2.2.2.2.1 _ fj_fm) (fun _ q => q) hd (kk (.ref t) rfl H locs ls hP hD hS hl)
theorem V_callK (X : XC E own cc nL ret A p s m args meth c) {d maxL index n j : Nat} {y : MethodName} {bytes : ByteArray} {ret' : Option FieldType} {r : Int32} {As : List Value} {h1 : Hp} {stk : List Value} (hj : j < 7) (hM : SMi l E d y bytes maxL ret' (.ref (eK E j) :: As) h r h1) (hY : YS y bytes maxL ret' n) (hw : Cond.instanceMethod y ∈ LW ∧ Cond.selects y.cls y y ∈ LW) (hl0 : Cond.methodLink own index y ∈ LW) (hn : As.length = n) (hstk : As.reverse ++ .ref (eK E j) :: st = stk) (hR : d + 1 ≤ R.frames ∧ 8 + (maxL + 11) + 40 * d ≤ R.locals) (hcs : cells ≤ R.cells ∧ slots ≤ R.slots) (hst : (st.map fun v => v.category).sum ≤ 8) (hd : decode cc pc = .ok (.invokevirtual index, 3)) (kk : V E nL A p l e R s m args below meth c cells slots Q (pc + 3) lv (.int r :: st) h1) (hC : y.cls = "java/lang/String" := by rfl) : V E nL A p l e R s m args below meth c cells slots Q pc lv stk h := fun H locs ls hP hD hS hl => by
  subst hstk
  have hAA := V_AA X hD hS
  refine va_calli (va_runV (C := y.cls) (As := As) (rest := st) (mc := 0) (ms := 0) ⟨X.1, X.2.1, X.2.2.2.1, X.2.2.2.2.1, X.2.2.2.2.2.1⟩ (hM H.size) (⟨callB_of n X.2.2.2.2.2.1 (LW_goodC hY.1) rfl (rfl : (rm d).cells = 0) (rfl : (rm d).slots = 0) (X.2.2.2.2.2.1 _ hY.2.1) (X.2.2.2.2.2.1 _ hl0) hY.2.2 hR, X.2.2.2.2.2.1 _ hw.1, X.2.2.2.2.2.1 _ hw.2⟩) (⟨(PreS_of X hP hD hS (V_AA X hD hS)).1, by rw [hC]; exact vk_recv X.2.2.2.2.2.2.2.1.2.2.2.2.1 hj hS, (PreS_of (As := .ref (eK E j) :: As) X hP hD hS (V_AA X hD hS)).2⟩) rfl hn hl.1 rfl (lv_room hst) hd ⟨hcs.1, hcs.2⟩) hS (fun q _ hq => hAA q hq) hAA (fun r1 u t H1 locs1 ht hvm hpost hB hz1 hk1 hS1 => ?_)
  obtain ⟨rfl, rfl⟩ := hpost
  obtain ⟨hP1, hD1⟩ := hB
  rw [ht] at hP1
  exact kk H1 locs1 ls hP1 (hD1.weaken (fun _ q _ hq => hAA q.1 hq)) hS1 hl
/-- a method that answers the String constant j -/
def SMs (l : Launch) (E : EN) (d : Nat) (y : MethodName) (cc : ByteArray) (nL : Nat) (ret : Option FieldType) (As : List Value) (h : Hp) (j : Nat) : Prop := ∀ sz : Nat, Met l y (.code y cc nL ret :: LW) (rm d) (Pre E h sz As) (va_Qr (fun (u : Hp) => u = h) (fun (u : Hp) (a : Nat) (t : State) => a = eK E j ∧ va_P (eD E) vwCl (wld E u) t.heap ∧ va_D (va_A (wld E h) sz) (wld E u)) (va_A (wld E h) sz)) 0 0 (va_A (wld E h) sz)
theorem V_callSr (X : XC E own cc nL ret A p s m args meth c) {d maxL index n j : Nat} {y : MethodName} {bytes : ByteArray} {ret' : Option FieldType} {As : List Value} {stk : List Value} (hM : SMs l E d y bytes maxL ret' As h j) (hY : YS y bytes maxL ret' n) (hw : Cond.static y ∈ LW) (hl0 : Cond.methodLink own index y ∈ LW) (hn : As.length = n) (hstk : As.reverse ++ st = stk) (hR : d + 1 ≤ R.frames ∧ 8 + (maxL + 11) + 40 * d ≤ R.locals) (hcs : cells ≤ R.cells ∧ slots ≤ R.slots) (hst : (st.map fun v => v.category).sum ≤ 8) (hd : decode cc pc = .ok (.invokestatic index, 3)) (kk : V E nL A p l e R s m args below meth c cells slots Q (pc + 3) lv (.ref (eK E j) :: st) h) : V E nL A p l e R s m args below meth c cells slots Q pc lv stk h := fun H locs ls hP hD hS hl => by
  subst hstk
  have hAA := V_AA X hD hS
  refine va_callr (va_runS (As := As) (rest := st) (mc := 0) (ms := 0) ⟨X.1, X.2.1, X.2.2.2.1, X.2.2.2.2.1, X.2.2.2.2.2.1⟩ (hM H.size) (⟨callB_of n X.2.2.2.2.2.1 (LW_goodC hY.1) rfl (rfl : (rm d).cells = 0) (rfl : (rm d).slots = 0) (X.2.2.2.2.2.1 _ hY.2.1) (X.2.2.2.2.2.1 _ hl0) hY.2.2 hR, X.2.2.2.2.2.1 _ hw⟩) (PreS_of X hP hD hS (V_AA X hD hS)) rfl hn hl.1 rfl (lv_room hst) hd ⟨hcs.1, hcs.2⟩) hS (fun q _ hq => hAA q hq) hAA (fun u ra t H1 locs1 ht hvm hpost hB hz1 hk1 hS1 => ?_)
  subst hpost
  obtain ⟨rfl, hP1, hD1⟩ := hB
  rw [ht] at hP1
  exact kk H1 locs1 ls hP1 (hD1.weaken (fun _ q _ hq => hAA q.1 hq)) hS1 hl
theorem V_cret {v r : Int32} (X : XC E own cc nL ret A p s m args meth c) (hret : ret = some .char) (hn : narrow .char (.int v) = .int v) (hf0 : (some (v, h) : Re) = some (r, h')) (hd : decode cc pc = .ok (.ireturn, 1)) : V E nL A p l e R s m args below meth c cells slots (MQ below (Qi E A r h') args s cells slots A) pc lv [.int v] h := fun H locs ls hP hD hS hl => by
  cases hf0
  exact W.zret X.1 X.2.1 (X.2.2.1.trans hret) hn (fun t ht hW => ⟨⟨v, h, rfl, ⟨rfl, rfl⟩, by rw [ht]; exact hP, hD⟩, hS.F ht⟩) hS.2.2 hd X.2.2.2.2.2.2.1
theorem V_bret {v r : Int32} (X : XC E own cc nL ret A p s m args meth c) (hret : ret = some .byte) (hn : narrow .byte (.int v) = .int v) (hf0 : (some (v, h) : Re) = some (r, h')) (hd : decode cc pc = .ok (.ireturn, 1)) : V E nL A p l e R s m args below meth c cells slots (MQ below (Qi E A r h') args s cells slots A) pc lv [.int v] h := fun H locs ls hP hD hS hl => by
  cases hf0
  exact W.zret X.1 X.2.1 (X.2.2.1.trans hret) hn (fun t ht hW => ⟨⟨v, h, rfl, ⟨rfl, rfl⟩, by rw [ht]; exact hP, hD⟩, hS.F ht⟩) hS.2.2 hd X.2.2.2.2.2.2.1
theorem V_sret {j : Nat} (X : XC E own cc nL ret A p s m args meth c) (hret : ∃ n, ret = some (.object n)) (hd : decode cc pc = .ok (.areturn, 1)) : V E nL A p l e R s m args below meth c cells slots (MQ below (va_Qr (fun (u : Hp) => u = h) (fun (u : Hp) (a : Nat) (t : State) => a = eK E j ∧ va_P (eD E) vwCl (wld E u) t.heap ∧ va_D A (wld E u)) A) args s cells slots A) pc lv [.ref (eK E j)] h := fun H locs ls hP hD hS hl => by
  obtain ⟨n, hn⟩ := hret
  exact W.aret X.1 X.2.1 (X.2.2.1.trans hn) (Or.inl ⟨n, rfl⟩) (Or.inr ⟨_, rfl⟩) (fun t ht hW => ⟨⟨h, eK E j, rfl, rfl, rfl, by rw [ht]; exact hP, hD⟩, hS.F ht⟩) hS.2.2 hd X.2.2.2.2.2.2.1
theorem V_ldcS (X : XC E RX3 cc nL ret A p s m args meth c) {i : Nat} (j : Nat) (hj : j < 7) (hi : 44 + 2 * j = i) (hd : decode cc pc = .ok (.ldc i, 2)) (kk : V E nL A p l e R s m args below meth c cells slots Q (pc + 2) lv (.ref (eK E j) :: st) h) : V E nL A p l e R s m args below meth c cells slots Q pc lv st h := fun H locs ls hP hD hS hl => by
  subst hi
  exact va_ldcS X.1 X.2.1 X.2.2.2.2.1 (X.2.2.2.2.2.2.2.1.2.2.2.2.2.1 j hj) hd (kk H locs ls hP hD hS hl)
theorem SMs.of {d : Nat} {y : MethodName} {As : List Value} {j : Nat} (hy : plainName y.cls = true) (hn : (lg_sl As).length ≤ nL)
    (body : ∀ (p : Program) (e : Env) (s : State) (m : MethodId) (args : Array Value) (below : List Frame) (meth : Method) (c : Code) (A : Nat → Prop), XC E y.cls cc nL ret A p s m args meth c → V E nL A p l e (rm d) s m args below meth c 0 0 (MQ below (va_Qr (fun (u : Hp) => u = h) (fun (u : Hp) (a : Nat) (t : State) => a = eK E j ∧ va_P (eD E) vwCl (wld E u) t.heap ∧ va_D A (wld E u)) A) args s 0 0 A) 0 (lv_args 0 As) [] h) : SMs l E d y cc nL ret As h j := by
  intro sz
  refine Met.ofW (cc := cc) (maxL := nL) (ret := ret) hy rfl ?_
  intro p e s m args below meth c s₁ B hml hv
  obtain ⟨rfl, hsz, hP, hK, hD0⟩ := hv
  have hts := atoms_spec (ws := .code y cc nL ret :: LW) B.pre
  subst hsz
  have hl := lv_entry As hn
  rw [lg_entry_eq]
  exact body p e s m As.toArray below meth c _ ⟨B.exec, B.bytes, B.returns, hml, findClass_of_methodNamed B.named, fun w hw => hts w (List.mem_cons_of_mem _ hw), B.notSynchronized, hK, fun q hq => Or.inr hq⟩ s.heap [] _ hP hD0.self va_S.rf hl
end SR1
section JD
variable {E : EN} {l : Launch} {h : Hp}
theorem fJ0_coder_ok {j : Nat} (hj : j < 7) : SMi l E 0 yJ0_coder_7d493 cJ0_coder_7d493 1 (some .byte) [.ref (eK E j)] h 0 h :=
  SMi.of (by decide +kernel) (Nat.le_of_ble_eq_true rfl) (fun p e s m args below meth c A X => by
    refine V_gcs X dJ0_coder_7d493_0 ?_
    refine V_if_eq X (tgt := 13) (by decide) dJ0_coder_7d493_3 (fun q => absurd q (by decide)) (fun q => ?_)
    refine V_aload_n X 0 rfl dJ0_coder_7d493_6 ?_
    refine V_scod X hj dJ0_coder_7d493_7 ?_
    refine V_goto X (tgt := 14) (by decide) dJ0_coder_7d493_10 ?_
    exact V_bret X rfl (by rfl) rfl dJ0_coder_7d493_14)
theorem fJ0_isLatin1_ok {j : Nat} (hj : j < 7) : SMi l E 0 yJ0_isLatin1_aae02 cJ0_isLatin1_aae02 1 (some .boolean) [.ref (eK E j)] h 1 h :=
  SMi.of (by decide +kernel) (Nat.le_of_ble_eq_true rfl) (fun p e s m args below meth c A X => by
    refine V_gcs X dJ0_isLatin1_aae02_0 ?_
    refine V_if_eq X (tgt := 17) (by decide) dJ0_isLatin1_aae02_3 (fun q => absurd q (by decide)) (fun q => ?_)
    refine V_aload_n X 0 rfl dJ0_isLatin1_aae02_6 ?_
    refine V_scod X hj dJ0_isLatin1_aae02_7 ?_
    refine V_if_ne X (tgt := 17) (by decide) dJ0_isLatin1_aae02_10 (fun q => absurd rfl q) (fun q => ?_)
    refine V_iconst X (v := 1) (by decide) dJ0_isLatin1_aae02_13 ?_
    refine V_goto X (tgt := 18) (by decide) dJ0_isLatin1_aae02_14 ?_
    exact V_zret X rfl (by rfl) dJ0_isLatin1_aae02_18)
theorem fJ0_isEmpty_ok {j : Nat} (hj : j < 7) : SMi l E 0 yJ0_isEmpty_aae02 cJ0_isEmpty_aae02 1 (some .boolean) [.ref (eK E j)] h (sEm j) h :=
  SMi.of (by decide +kernel) (Nat.le_of_ble_eq_true rfl) (fun p e s m args below meth c A X => by
    have key : ∀ j, j < 7 → (Int32.ofNat (sLen j) = 0 ↔ sLen j = 0) := by decide +kernel
    unfold sEm
    refine V_aload_n X 0 rfl dJ0_isEmpty_aae02_0 ?_
    refine V_sval X hj dJ0_isEmpty_aae02_1 ?_
    refine V_svlen X hj dJ0_isEmpty_aae02_4 ?_
    refine V_if_ne X (tgt := 12) (by decide) dJ0_isEmpty_aae02_5 (fun q => ?_) (fun q => ?_)
    · refine V_iconst X (v := 0) (by decide) dJ0_isEmpty_aae02_12 ?_
      rw [if_neg (fun z => q ((key j hj).mpr z))]
      exact V_zret X rfl (by rfl) dJ0_isEmpty_aae02_13
    · refine V_iconst X (v := 1) (by decide) dJ0_isEmpty_aae02_8 ?_
      refine V_goto X (tgt := 13) (by decide) dJ0_isEmpty_aae02_9 ?_
      rw [if_pos ((key j hj).mp q)]
      exact V_zret X rfl (by rfl) dJ0_isEmpty_aae02_13)
theorem fJ0_length_ok {j : Nat} (hj : j < 7) : SMi l E 1 yJ0_length_8abf5 cJ0_length_8abf5 1 (some .int) [.ref (eK E j)] h (Int32.ofNat (sLen j)) h :=
  SMi.of (by decide +kernel) (Nat.le_of_ble_eq_true rfl) (fun p e s m args below meth c A X => by
    have key : ∀ j, j < 7 → Int32.ofNat (sLen j) >>> ((0 : Int32) &&& 31) = Int32.ofNat (sLen j) := by decide +kernel
    refine V_aload_n X 0 rfl dJ0_length_8abf5_0 ?_
    refine V_sval X hj dJ0_length_8abf5_1 ?_
    refine V_svlen X hj dJ0_length_8abf5_4 ?_
    refine V_aload_n X 0 rfl dJ0_length_8abf5_5 ?_
    refine V_callK X hj (fJ0_coder_ok hj) ys_J0_coder_7d493 yw_J0_coder_7d493 ml_J0_335 rfl rfl ⟨Nat.le_of_ble_eq_true rfl, Nat.le_of_ble_eq_true rfl⟩ ⟨Nat.zero_le _, Nat.zero_le _⟩ (Nat.le_of_ble_eq_true rfl) dJ0_length_8abf5_6 ?_
    refine V_ishr X dJ0_length_8abf5_9 ?_
    exact V_iret X rfl (by rw [key j hj]) dJ0_length_8abf5_10)
theorem fJ3_checkIndex_ok {x0 x1 : Int32} {v : Value} (hv : v.category = 1) (h0 : ¬ x0 < 0) (h1 : x0 < x1) : SMi l E 0 yJ3_checkIndex_8e157 cJ3_checkIndex_8e157 3 (some .int) [.int x0, .int x1, v] h x0 h :=
  SMi.of (by decide +kernel) (by cases v <;> first | (exact Nat.le_of_ble_eq_true rfl) | (simp [Value.category] at hv)) (fun p e s m args below meth c A X => by
    refine V_iload_n X 0 rfl dJ3_checkIndex_8e157_0 ?_
    refine V_if_lt X (tgt := 9) (by decide) dJ3_checkIndex_8e157_1 (fun q => absurd q h0) (fun q => ?_)
    refine V_iload_n X 0 rfl dJ3_checkIndex_8e157_4 ?_
    refine V_iload_n X 1 rfl dJ3_checkIndex_8e157_5 ?_
    refine V_icmp_lt X (tgt := 16) (by decide) dJ3_checkIndex_8e157_6 (fun q => ?_) (fun q => absurd h1 q)
    refine V_iload_n X 0 rfl dJ3_checkIndex_8e157_16 ?_
    exact V_iret X rfl rfl dJ3_checkIndex_8e157_17)
theorem fJ0_checkIndex_ok {x0 x1 : Int32} (h0 : ¬ x0 < 0) (h1 : x0 < x1) : SMv l E 1 yJ0_checkIndex_df160 cJ0_checkIndex_df160 2 [.int x0, .int x1] h h :=
  SMv.of (by decide +kernel) (Nat.le_of_ble_eq_true rfl) (fun p e s m args below meth c A X => by
    refine V_iload_n X 0 rfl dJ0_checkIndex_df160_0 ?_
    refine V_iload_n X 1 rfl dJ0_checkIndex_df160_1 ?_
    refine V_gfm X dJ0_checkIndex_df160_2 (fun v hv => ?_)
    refine V_callSi X (st := []) (fJ3_checkIndex_ok hv h0 h1) ys_J3_checkIndex_8e157 yw_J3_checkIndex_8e157 ml_J0_1059 rfl rfl ⟨Nat.le_of_ble_eq_true rfl, Nat.le_of_ble_eq_true rfl⟩ ⟨Nat.zero_le _, Nat.zero_le _⟩ (Nat.le_of_ble_eq_true rfl) dJ0_checkIndex_df160_5 ?_
    refine V_pop X rfl dJ0_checkIndex_df160_8 ?_
    exact V_vret (v := 0) (r := 0) X rfl rfl dJ0_checkIndex_df160_9)
theorem sLen_lt {j : Nat} (hj : j < 7) {i : Int32} (hin : inB i (sLen j) = true) : ¬ i < 0 ∧ i < Int32.ofNat (sLen j) := by
  have h7 : ∀ j, j < 7 → sLen j < 12 := by decide +kernel
  have hz := h7 j hj
  obtain ⟨n, hn, rfl⟩ := vp_in_of (inB_in hin) (by omega)
  exact ⟨nI_pos (by omega), nI_lt hn (by omega)⟩
theorem sCh_char {j : Nat} (hj : j < 7) {i : Int32} (hin : inB i (sLen j) = true) : ((sCh j i.toNatClampNeg &&& 255).toUInt32 % 65536).toInt32 = sCh j i.toNatClampNeg ∧ narrow .char (.int (sCh j i.toNatClampNeg)) = .int (sCh j i.toNatClampNeg) := by
  have key : ∀ j, j < 7 → ∀ i, i < 12 → ((sCh j i &&& 255).toUInt32 % 65536).toInt32 = sCh j i := by decide +kernel
  have key2 : ∀ j, j < 7 → ∀ i, i < 12 → narrow .char (.int (sCh j i)) = .int (sCh j i) := by decide +kernel
  have h7 : ∀ j, j < 7 → sLen j < 12 := by decide +kernel
  have hz := h7 j hj
  obtain ⟨n, hn, rfl⟩ := vp_in_of (inB_in hin) (by omega)
  rw [nI_clamp (by omega)]
  exact ⟨key j hj n (by omega), key2 j hj n (by omega)⟩
theorem fJ1_charAt_ok {j : Nat} (hj : j < 7) {i : Int32} (hin : inB i (sLen j) = true) : SMi l E 2 yJ1_charAt_3b067 cJ1_charAt_3b067 2 (some .char) [.ref (eV E j), .int i] h (sCh j i.toNatClampNeg) h :=
  SMi.of (by decide +kernel) (Nat.le_of_ble_eq_true rfl) (fun p e s m args below meth c A X => by
    refine V_iload_n X 1 rfl dJ1_charAt_3b067_0 ?_
    refine V_aload_n X 0 rfl dJ1_charAt_3b067_1 ?_
    refine V_svlen X hj dJ1_charAt_3b067_2 ?_
    refine V_callSv X (fJ0_checkIndex_ok (sLen_lt hj hin).1 (sLen_lt hj hin).2) ys_J0_checkIndex_df160 yw_J0_checkIndex_df160 ml_J1_9 rfl rfl ⟨Nat.le_of_ble_eq_true rfl, Nat.le_of_ble_eq_true rfl⟩ ⟨Nat.zero_le _, Nat.zero_le _⟩ (Nat.le_of_ble_eq_true rfl) dJ1_charAt_3b067_3 ?_
    refine V_aload_n X 0 rfl dJ1_charAt_3b067_6 ?_
    refine V_iload_n X 1 rfl dJ1_charAt_3b067_7 ?_
    refine V_svald X hj hin dJ1_charAt_3b067_8 ?_
    refine V_sipush X (v := 255) (by decide) dJ1_charAt_3b067_9 ?_
    refine V_iand X dJ1_charAt_3b067_12 ?_
    refine V_i2c X dJ1_charAt_3b067_13 ?_
    rw [(sCh_char hj hin).1]
    exact V_cret X rfl (sCh_char hj hin).2 rfl dJ1_charAt_3b067_14)
theorem fJ0_charAt_ok {j : Nat} (hj : j < 7) {i : Int32} (hin : inB i (sLen j) = true) : SMi l E 3 yJ0_charAt_5068e cJ0_charAt_5068e 2 (some .char) [.ref (eK E j), .int i] h (sCh j i.toNatClampNeg) h :=
  SMi.of (by decide +kernel) (Nat.le_of_ble_eq_true rfl) (fun p e s m args below meth c A X => by
    refine V_aload_n X 0 rfl dJ0_charAt_5068e_0 ?_
    refine V_callK X hj (fJ0_isLatin1_ok hj) ys_J0_isLatin1_aae02 yw_J0_isLatin1_aae02 ml_J0_492 rfl rfl ⟨Nat.le_of_ble_eq_true rfl, Nat.le_of_ble_eq_true rfl⟩ ⟨Nat.zero_le _, Nat.zero_le _⟩ (Nat.le_of_ble_eq_true rfl) dJ0_charAt_5068e_1 ?_
    refine V_if_eq X (tgt := 16) (by decide) dJ0_charAt_5068e_4 (fun q => absurd q (by decide)) (fun q => ?_)
    refine V_aload_n X 0 rfl dJ0_charAt_5068e_7 ?_
    refine V_sval X hj dJ0_charAt_5068e_8 ?_
    refine V_iload_n X 1 rfl dJ0_charAt_5068e_11 ?_
    refine V_callSi X (fJ1_charAt_ok hj hin) ys_J1_charAt_3b067 yw_J1_charAt_3b067 ml_J0_495 rfl rfl ⟨Nat.le_of_ble_eq_true rfl, Nat.le_of_ble_eq_true rfl⟩ ⟨Nat.zero_le _, Nat.zero_le _⟩ (Nat.le_of_ble_eq_true rfl) dJ0_charAt_5068e_12 ?_
    exact V_cret X rfl (sCh_char hj hin).2 rfl dJ0_charAt_5068e_15)
def f3_shapeOf (x : Int32) : Nat := if x = 98 then 4 else if x = 99 then 5 else if x = 104 then 0 else if x = 112 then 1 else if x = 115 then 2 else if x = 116 then 3 else 6
theorem f3_shapeOf_ok {x : Int32} : SMs l E 0 yX3_shapeOf cX3_shapeOf 1 (some (.object "java/lang/String")) [.int x] h (f3_shapeOf x) :=
  SMs.of (by decide +kernel) (Nat.le_of_ble_eq_true rfl) (fun p e s m args below meth c A X => by
    have hend : ∀ (j i pc' : Nat), j < 7 → 44 + 2 * j = i → decode cX3_shapeOf pc' = .ok (.ldc i, 2) → decode cX3_shapeOf (pc' + 2) = .ok (.areturn, 1) → f3_shapeOf x = j → V E 1 A p l e (rm 0) s m args below meth c 0 0 (MQ below (va_Qr (fun (u : Hp) => u = h) (fun (u : Hp) (a : Nat) (t : State) => a = eK E (f3_shapeOf x) ∧ va_P (eD E) vwCl (wld E u) t.heap ∧ va_D A (wld E u)) A) args s 0 0 A) pc' (lv_args 0 [.int x]) [] h := by
      intro j i pc' hj hi h1 h2 h3
      rw [h3]
      refine V_ldcS X j hj hi h1 ?_
      exact V_sret X ⟨_, rfl⟩ h2
    refine V_iload_n X 0 rfl dX3_shapeOf_0 ?_
    by_cases q1 : x = 98
    · refine V_table X (tgt := 107 - 3) (off := 103) (by rw [q1]; decide) (by decide) (by decide) dX3_shapeOf_1 ?_
      exact hend 4 52 104 (by decide) rfl dX3_shapeOf_104 dX3_shapeOf_106 (by rw [q1]; decide)
    by_cases q2 : x = 99
    · refine V_table X (tgt := 107) (off := 106) (by rw [q2]; decide) (by decide) (by decide) dX3_shapeOf_1 ?_
      exact hend 5 54 107 (by decide) rfl dX3_shapeOf_107 dX3_shapeOf_109 (by rw [q2]; decide)
    by_cases q3 : x = 104
    · refine V_table X (tgt := 92) (off := 91) (by rw [q3]; decide) (by decide) (by decide) dX3_shapeOf_1 ?_
      exact hend 0 44 92 (by decide) rfl dX3_shapeOf_92 dX3_shapeOf_94 (by rw [q3]; decide)
    by_cases q4 : x = 112
    · refine V_table X (tgt := 95) (off := 94) (by rw [q4]; decide) (by decide) (by decide) dX3_shapeOf_1 ?_
      exact hend 1 46 95 (by decide) rfl dX3_shapeOf_95 dX3_shapeOf_97 (by rw [q4]; decide)
    by_cases q5 : x = 115
    · refine V_table X (tgt := 98) (off := 97) (by rw [q5]; decide) (by decide) (by decide) dX3_shapeOf_1 ?_
      exact hend 2 48 98 (by decide) rfl dX3_shapeOf_98 dX3_shapeOf_100 (by rw [q5]; decide)
    by_cases q6 : x = 116
    · refine V_table X (tgt := 101) (off := 100) (by rw [q6]; decide) (by decide) (by decide) dX3_shapeOf_1 ?_
      exact hend 3 50 101 (by decide) rfl dX3_shapeOf_101 dX3_shapeOf_103 (by rw [q6]; decide)
    have hs : tsel x 109 98 116 #[103, 106, 109, 109, 109, 109, 91, 109, 109, 109, 109, 109, 109, 109, 94, 109, 109, 97, 100] = 109 := by
      by_cases z : x.toInt < 98 ∨ 116 < x.toInt
      · exact tsel_out z
      · have z1 := lv_neT q1 (show (98 : Int32).toInt = 98 by decide)
        have z2 := lv_neT q2 (show (99 : Int32).toInt = 99 by decide)
        have z3 := lv_neT q3 (show (104 : Int32).toInt = 104 by decide)
        have z4 := lv_neT q4 (show (112 : Int32).toInt = 112 by decide)
        have z5 := lv_neT q5 (show (115 : Int32).toInt = 115 by decide)
        have z6 := lv_neT q6 (show (116 : Int32).toInt = 116 by decide)
        have key : ∀ n : Nat, n < 19 → (n ≠ 0 ∧ n ≠ 1 ∧ n ≠ 6 ∧ n ≠ 14 ∧ n ≠ 17 ∧ n ≠ 18) → ((#[103, 106, 109, 109, 109, 109, 91, 109, 109, 109, 109, 109, 109, 109, 94, 109, 109, 97, 100] : Array Int)[n]?).getD 109 = 109 := by decide +kernel
        unfold tsel
        rw [if_neg z]
        exact key _ (by omega) (by omega)
    refine V_table X (tgt := 110) (off := 109) hs (by decide) (by decide) dX3_shapeOf_1 ?_
    exact hend 6 56 110 (by decide) rfl dX3_shapeOf_110 dX3_shapeOf_112 (by simp [f3_shapeOf, q1, q2, q3, q4, q5, q6]))
end JD
