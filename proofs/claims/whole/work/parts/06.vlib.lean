/-! The environment E of a run: class numbers, array classes, the cells' addresses, the sweep order's address, the String constants' addresses. Heaps are pictures Hp: cell number, place, value. -/
abbrev EN : Type := va_G × (ClassId × ClassId × ClassId) × (Nat → Nat) × Nat × (Nat → Nat) × (Nat → Nat)
abbrev eD (E : EN) : va_G := E.1
abbrev eI (E : EN) : ClassId := E.2.1.1
abbrev eZ (E : EN) : ClassId := E.2.1.2.1
abbrev eC (E : EN) : ClassId := E.2.1.2.2
abbrev eA (E : EN) : Nat → Nat := E.2.2.1
abbrev eT (E : EN) : Nat := E.2.2.2.1
abbrev eK (E : EN) : Nat → Nat := E.2.2.2.2.1
abbrev eV (E : EN) : Nat → Nat := E.2.2.2.2.2
abbrev tys (E : EN) : List (ClassId × FieldType) := [(eI E, .int), (eZ E, .boolean), (eC E, .char)]
abbrev Hp : Type := Nat → Nat → Int32
def hf (h : Hp) (k : Nat) (f : Nat → Int32) : Hp := fun a => if a = k then f else h a
def hu (h : Hp) (k i : Nat) (v : Int32) : Hp := hf h k (upd (h k) i v)
def wld (E : EN) (h : Hp) : va_W :=
  [(eA E 0, .inr (4, [.ref (eA E 1), .ref (eA E 3), .ref (eA E 5), .ref (eA E 8), .ref (eA E 10)])),
   (eA E 1, .inr (3, [.ref (eA E 2)])), (eA E 2, .inl (eI E, 344, .inl (h 2))),
   (eA E 3, .inr (3, [.ref (eA E 4)])), (eA E 4, .inl (eI E, 344, .inl (h 4))),
   (eA E 5, .inr (0, [.ref (eA E 6), .ref (eA E 7), .int (h 5 2)])), (eA E 6, .inl (eI E, 8, .inl (h 6))), (eA E 7, .inl (eI E, 8, .inl (h 7))),
   (eA E 8, .inr (1, [.ref (eA E 9), .int (h 8 1), .int (h 8 2), .int (h 8 3)])), (eA E 9, .inl (eI E, 3096, .inl (h 9))),
   (eA E 10, .inr (2, [.ref (eA E 11), .int (h 10 1)])), (eA E 11, .inl (eI E, 80, .inl (h 11))),
   (eA E 12, .inr (5, [.ref (eA E 13), .ref (eA E 14), .ref (eA E 15), .ref (eA E 16), .ref (eA E 17), .ref (eA E 18), .ref (eA E 19), .ref (eA E 20), .ref (eA E 21), .int (h 12 9), .int (h 12 10), .int (h 12 11), .int (h 12 12)])),
   (eA E 13, .inl (eI E, 383, .inl (h 13))), (eA E 14, .inl (eI E, 383, .inl (h 14))), (eA E 15, .inl (eI E, 383, .inl (h 15))), (eA E 16, .inl (eI E, 2298, .inl (h 16))), (eA E 17, .inl (eI E, 766, .inl (h 17))),
   (eA E 18, .inl (eZ E, 2, .inl (h 18))), (eA E 19, .inl (eI E, 16, .inl (h 19))), (eA E 20, .inl (eI E, 210, .inl (h 20))), (eA E 21, .inl (eC E, 80, .inl (h 21)))]
/-- an array cell, by its number -/
def AR (E : EN) (k : Nat) (cy : ClassId) (n : Nat) : Prop := (∀ h : Hp, (wld E h)[k]? = some (eA E k, .inl (cy, n, .inl (h k)))) ∧ ∀ (h : Hp) (f : Nat → Int32), (wld E h).set k (eA E k, .inl (cy, n, .inl f)) = wld E (hf h k f)
/-- an int field of an object's cell -/
def FI (E : EN) (k ci : Nat) (fs : Hp → List Value) (j : Nat) : Prop := (∀ h : Hp, (wld E h)[k]? = some (eA E k, .inr (ci, fs h))) ∧ (∀ h : Hp, (fs h)[j]? = some (.int (h k j))) ∧ ∀ (h : Hp) (v : Int32), (wld E h).set k (eA E k, .inr (ci, (fs h).set j (.int v))) = wld E (hu h k j v)
/-- a state object: cells at the next number -/
def SR (E : EN) (k : Nat) : Prop := (∀ h : Hp, (wld E h)[k]? = some (eA E k, .inr (3, [.ref (eA E (k + 1))]))) ∧ AR E (k + 1) (eI E) 344
theorem AR_2 (E : EN) : AR E 2 (eI E) 344 := ⟨fun _ => rfl, fun h f => by simp [wld, hf]⟩
theorem AR_4 (E : EN) : AR E 4 (eI E) 344 := ⟨fun _ => rfl, fun h f => by simp [wld, hf]⟩
theorem AR_6 (E : EN) : AR E 6 (eI E) 8 := ⟨fun _ => rfl, fun h f => by simp [wld, hf]⟩
theorem AR_7 (E : EN) : AR E 7 (eI E) 8 := ⟨fun _ => rfl, fun h f => by simp [wld, hf]⟩
theorem AR_9 (E : EN) : AR E 9 (eI E) 3096 := ⟨fun _ => rfl, fun h f => by simp [wld, hf]⟩
theorem AR_11 (E : EN) : AR E 11 (eI E) 80 := ⟨fun _ => rfl, fun h f => by simp [wld, hf]⟩
theorem AR_13 (E : EN) : AR E 13 (eI E) 383 := ⟨fun _ => rfl, fun h f => by simp [wld, hf]⟩
theorem AR_14 (E : EN) : AR E 14 (eI E) 383 := ⟨fun _ => rfl, fun h f => by simp [wld, hf]⟩
theorem AR_15 (E : EN) : AR E 15 (eI E) 383 := ⟨fun _ => rfl, fun h f => by simp [wld, hf]⟩
theorem AR_16 (E : EN) : AR E 16 (eI E) 2298 := ⟨fun _ => rfl, fun h f => by simp [wld, hf]⟩
theorem AR_17 (E : EN) : AR E 17 (eI E) 766 := ⟨fun _ => rfl, fun h f => by simp [wld, hf]⟩
theorem AR_18 (E : EN) : AR E 18 (eZ E) 2 := ⟨fun _ => rfl, fun h f => by simp [wld, hf]⟩
theorem AR_19 (E : EN) : AR E 19 (eI E) 16 := ⟨fun _ => rfl, fun h f => by simp [wld, hf]⟩
theorem AR_20 (E : EN) : AR E 20 (eI E) 210 := ⟨fun _ => rfl, fun h f => by simp [wld, hf]⟩
theorem AR_21 (E : EN) : AR E 21 (eC E) 80 := ⟨fun _ => rfl, fun h f => by simp [wld, hf]⟩
abbrev fs_5 (E : EN) : Hp → List Value := fun h => [.ref (eA E 6), .ref (eA E 7), .int (h 5 2)]
theorem FI_5_2 (E : EN) : FI E 5 0 (fs_5 E) 2 := ⟨fun _ => rfl, fun _ => rfl, fun h v => by simp [wld, hu, hf, upd]⟩
abbrev fs_8 (E : EN) : Hp → List Value := fun h => [.ref (eA E 9), .int (h 8 1), .int (h 8 2), .int (h 8 3)]
theorem FI_8_1 (E : EN) : FI E 8 1 (fs_8 E) 1 := ⟨fun _ => rfl, fun _ => rfl, fun h v => by simp [wld, hu, hf, upd]⟩
theorem FI_8_2 (E : EN) : FI E 8 1 (fs_8 E) 2 := ⟨fun _ => rfl, fun _ => rfl, fun h v => by simp [wld, hu, hf, upd]⟩
theorem FI_8_3 (E : EN) : FI E 8 1 (fs_8 E) 3 := ⟨fun _ => rfl, fun _ => rfl, fun h v => by simp [wld, hu, hf, upd]⟩
abbrev fs_10 (E : EN) : Hp → List Value := fun h => [.ref (eA E 11), .int (h 10 1)]
theorem FI_10_1 (E : EN) : FI E 10 2 (fs_10 E) 1 := ⟨fun _ => rfl, fun _ => rfl, fun h v => by simp [wld, hu, hf, upd]⟩
abbrev fs_12 (E : EN) : Hp → List Value := fun h => [.ref (eA E 13), .ref (eA E 14), .ref (eA E 15), .ref (eA E 16), .ref (eA E 17), .ref (eA E 18), .ref (eA E 19), .ref (eA E 20), .ref (eA E 21), .int (h 12 9), .int (h 12 10), .int (h 12 11), .int (h 12 12)]
theorem FI_12_9 (E : EN) : FI E 12 5 (fs_12 E) 9 := ⟨fun _ => rfl, fun _ => rfl, fun h v => by simp [wld, hu, hf, upd]⟩
theorem FI_12_10 (E : EN) : FI E 12 5 (fs_12 E) 10 := ⟨fun _ => rfl, fun _ => rfl, fun h v => by simp [wld, hu, hf, upd]⟩
theorem FI_12_11 (E : EN) : FI E 12 5 (fs_12 E) 11 := ⟨fun _ => rfl, fun _ => rfl, fun h v => by simp [wld, hu, hf, upd]⟩
theorem FI_12_12 (E : EN) : FI E 12 5 (fs_12 E) 12 := ⟨fun _ => rfl, fun _ => rfl, fun h v => by simp [wld, hu, hf, upd]⟩
theorem SR_1 (E : EN) : SR E 1 := ⟨fun _ => rfl, AR_2 E⟩
theorem SR_3 (E : EN) : SR E 3 := ⟨fun _ => rfl, AR_4 E⟩
/-- the words that every method may use -/
def LW : List Cond := lw_tbl.filter goodWord
theorem LW_good : GoodIn LW LW := fun w h => ⟨h, good_of_word (List.mem_filter.mp h).2⟩
theorem LW_of (i : Nat) {w : Cond} (h : lw_tbl[i]? = some w) (hg : goodWord w = true) : w ∈ LW := List.mem_filter.mpr ⟨List.mem_of_getElem? h, hg⟩
def sk_len : List Nat := [3, 6, 4, 11, 3, 1, 0]
def sk_byt : List (List Int32) := [[104, 68, 67], [112, 68, 68, 68, 42, 78], [115, 68, 68, 68], [116, 68, 61, 79, 79, 79, 79, 79, 79, 79, 79], [98, 68, 83], [99], []]
def sk_tx : List String := ["hDC", "pDDD*N", "sDDD", "tD=OOOOOOOO", "bDS", "c", ""]
def swo : List Int32 := [0, 2, 1, 3]
def nestL : List Cond := [.methodLinkNest RX7 21 yX0_init "SandMandalas", .methodLinkNest RX7 28 yX2_init "SandMandalas", .methodLinkNest RX7 35 yX4_init "SandMandalas", .methodLinkNest RX1 29 yX7_isRing "SandMandalas", .methodLinkNest RX1 42 yX7_bit "SandMandalas", .methodLinkNest RX1 46 yX7_isQuarter "SandMandalas", .methodLinkNest RX1 49 yX7_isColour "SandMandalas", .methodLinkNest RX1 67 yX7_isPlace "SandMandalas", .methodLinkNest RX1 85 yX7_isDirection "SandMandalas", .methodLinkNest RX6 35 yX7_bit "SandMandalas", .methodLinkNest RX5 57 yX7_isColour "SandMandalas", .methodLinkNest RX6 65 yX7_isColour "SandMandalas", .methodLinkNest RX3 89 yX7_bit "SandMandalas"]
/-- what a method takes as given of the machine's tables and of the cells that nobody writes -/
def CP (E : EN) (A : Nat → Prop) (U : State) : Prop := va_K (eD E) vwCl (tys E) U ∧ (∀ w ∈ nestL, va_Nw w U) ∧ va_Z RX1 "SWEEP_ORDER" "[I" (.ref (eT E)) A U U.heap ∧ va_T .int (eT E) 4 (fun j => .int (swo.getD j 0)) A U U.heap ∧
  vk_S 7 sk_len sk_byt (eK E) (eV E) A U U.heap ∧ (∀ i : Nat, i < 7 → vk_R RX3 (44 + 2 * i) (sk_tx.getD i "") (eK E i) U) ∧ va_Z RJ0 "COMPACT_STRINGS" "Z" (.int 1) A U U.heap ∧ va_Zq RJ3 "SIOOBE_FORMATTER" "Ljava/util/function/BiFunction;" A U U.heap
def isNest : Cond → Bool
  | .methodLinkNest .. => true
  | _ => false
theorem nestL_nest : nestL.all isNest = true := by decide +kernel
theorem va_Nw.warmAny {w : Cond} (hn : isNest w = true) {s U : State} (hW : s.WarmedH U.vm) (hZ : va_Nw w s) : va_Nw w U := by
  cases w <;> first | (simp [isNest] at hn; done) | exact va_Nw.warmM hW hZ
theorem CP.warm {E : EN} {A A' : Nat → Prop} {s U : State} {H0 : Heap} {locs : List Loc} (h : CP E A s) (hW : s.WarmedH U.vm) (hS : va_S A s.heap U.heap locs) (hAA : ∀ q, A' q → A q) : CP E A' U := by
  obtain ⟨h1, h2, h3, h4, h5, h6, h7, h8⟩ := h
  have hv := hW.alike
  refine ⟨h1.moved hv, fun w hw => va_Nw.warmAny (List.all_eq_true.mp nestL_nest w hw) hW (h2 w hw), ((h3.moved hv).kept hS.2.1).narrow hAA, ((h4.moved hv).kept hS.2.1).narrow hAA, ((h5.moved hv).kept hS.2.1).narrow hAA, fun i hi => (h6 i hi).warm hW, ((h7.moved hv).kept hS.2.1).narrow hAA, ((h8.moved hv).kept hS.2.1).narrow hAA⟩
theorem CP.blind {E : EN} {A : Nat → Prop} {U : State} {a : Array Value} (g : JFrame) (mk : MethodId) (h : CP E A U) : CP E A (U.calling g mk a) := by
  have hv : U.vm.Alike (U.calling g mk a).vm := Vm.Alike.refl U.vm
  obtain ⟨h1, h2, h3, h4, h5, h6, h7, h8⟩ := h
  refine ⟨h1.moved (u := U) hv, fun w hw => ?_, h3.moved (u := U) hv, h4.moved (u := U) hv, h5.moved (u := U) hv, fun i hi => (h6 i hi).same (u := U) rfl, h7.moved (u := U) hv, h8.moved (u := U) hv⟩
  have hn := List.all_eq_true.mp nestL_nest w hw
  have hz := h2 w hw
  cases w <;> first | (simp [isNest] at hn; done) | exact va_Nw.same rfl (u := U) rfl hz
def rm (d : Nat) : Room := { frames := d, cells := 0, slots := 0, locals := 40 * d }
abbrev Qi (E : EN) (A : Nat → Prop) (r : Int32) (h' : Hp) : Array Value → State → Outcome → State → Prop := va_Qi (fun (r' : Int32) (u : Hp) => r' = r ∧ u = h') (fun (u : Hp) (t : State) => va_P (eD E) vwCl (wld E u) t.heap ∧ va_D A (wld E u)) A
abbrev Qv (E : EN) (A : Nat → Prop) (h' : Hp) : Array Value → State → Outcome → State → Prop := va_Qv (fun (u : Hp) => u = h') (fun (u : Hp) (t : State) => va_P (eD E) vwCl (wld E u) t.heap ∧ va_D A (wld E u)) A
abbrev Pre (E : EN) (h : Hp) (sz : Nat) (As : List Value) : Array Value → State → Prop := va_Pc As (fun U => U.heap.size = sz ∧ va_P (eD E) vwCl (wld E h) U.heap ∧ CP E (va_A (wld E h) sz) U ∧ va_D (fun _ => True) (wld E h))
/-- a method's contract: on the picture h it answers r and leaves the picture h' -/
def SMi (l : Launch) (E : EN) (d : Nat) (y : MethodName) (cc : ByteArray) (nL : Nat) (ret : Option FieldType) (As : List Value) (h : Hp) (r : Int32) (h' : Hp) : Prop := ∀ sz : Nat, Met l y (.code y cc nL ret :: LW) (rm d) (Pre E h sz As) (Qi E (va_A (wld E h) sz) r h') 0 0 (va_A (wld E h) sz)
def SMv (l : Launch) (E : EN) (d : Nat) (y : MethodName) (cc : ByteArray) (nL : Nat) (As : List Value) (h : Hp) (h' : Hp) : Prop := ∀ sz : Nat, Met l y (.code y cc nL none :: LW) (rm d) (Pre E h sz As) (Qv E (va_A (wld E h) sz) h') 0 0 (va_A (wld E h) sz)
/-- what stays as it is all along a method's run -/
def XC (E : EN) (own : String) (cc : ByteArray) (nL : Nat) (ret : Option FieldType) (A : Nat → Prop) (p : Program) (s : State) (m : MethodId) (args : Array Value) (meth : Method) (c : Code) : Prop :=
  p.tables.exec = Jvm.exec ∧ c.code = cc ∧ meth.sig.returnType = ret ∧ c.maxLocals = nL ∧ s.vm.findClass own = some m.cls ∧ (∀ w ∈ LW, w.before args s = true) ∧ meth.locks = false ∧ CP E A s ∧ ∀ q : Nat, s.heap.size ≤ q → A q
/-- the goal at a place of a method's run: locals lv, stack st, picture h -/
def V (E : EN) (nL : Nat) (A : Nat → Prop) (p : Program) (l : Launch) (e : Env) (R : Room) (s : State) (m : MethodId) (args : Array Value) (below : List Frame) (meth : Method) (c : Code) (cells slots : Nat) (Q : State → Prop) (pc : Nat) (lv : List (Nat × Value)) (st : List Value) (h : Hp) : Prop :=
  ∀ (H : Heap) (locs : List Loc) (ls : Array Slot), va_P (eD E) vwCl (wld E h) H → va_D A (wld E h) → va_S A s.heap H locs → lv_has ls nL lv → W p l e R s m args below meth c H locs cells slots Q (F0 m pc ls st)
theorem ift {α : Type} {c : Prop} [Decidable c] {a b x : α} (hf : (if c then a else b) = x) (h : c) : a = x := by rw [if_pos h] at hf; exact hf
theorem ife {α : Type} {c : Prop} [Decidable c] {a b x : α} (hf : (if c then a else b) = x) (h : ¬ c) : b = x := by rw [if_neg h] at hf; exact hf
theorem ogd {α : Type} {b : Bool} {a : Option α} {x : α} (hf : (if b = true then a else none) = some x) : b = true ∧ a = some x := by
  by_cases h : b = true
  · rw [if_pos h] at hf; exact ⟨h, hf⟩
  · rw [if_neg h] at hf; cases hf
theorem ond {α : Type} {c : Prop} [Decidable c] {a : Option α} {x : α} (hf : (if c then none else a) = some x) : ¬ c ∧ a = some x := by
  by_cases h : c
  · rw [if_pos h] at hf; cases hf
  · rw [if_neg h] at hf; exact ⟨h, hf⟩
theorem obd {α β : Type} {o : Option α} {k : α → Option β} {x : β} (hf : o.bind k = some x) : ∃ a, o = some a ∧ k a = some x := by
  cases o with
  | none => cases hf
  | some a => exact ⟨a, rfl, hf⟩
def inB (i : Int32) (n : Nat) : Bool := decide (¬ (i < 0 ∨ n ≤ i.toNatClampNeg))
theorem inB_in {i : Int32} {n : Nat} (h : inB i n = true) : vp_in i n := of_decide_eq_true (p := ¬ (i < 0 ∨ n ≤ i.toNatClampNeg)) h
abbrev Re : Type := Option (Int32 × Hp)
/-- a truth value is returned -/
def rz (v : Int32) (h : Hp) : Re := if v = 0 ∨ v = 1 then some (v, h) else none
def tsel (x : Int32) (dflt lo hi : Int) (offs : Array Int) : Int := if x.toInt < lo ∨ hi < x.toInt then dflt else (offs[(x.toInt - lo).toNat]?).getD dflt
section VR
variable {E : EN} {own : String} {cc : ByteArray} {nL : Nat} {ret : Option FieldType} {A : Nat → Prop} {p : Program} {l : Launch} {e : Env} {R : Room} {s : State} {m : MethodId} {args : Array Value} {below : List Frame} {meth : Method} {c : Code} {cells slots : Nat} {Q : State → Prop} {pc : Nat} {lv lv' : List (Nat × Value)} {st : List Value} {h h' : Hp}
theorem V_iconst (X : XC E own cc nL ret A p s m args meth c) {n : Int} {v : Int32} (hv : Int32.ofInt n = v) (hd : decode cc pc = .ok (.iconst n, 1)) (kk : V E nL A p l e R s m args below meth c cells slots Q (pc + 1) lv (.int v :: st) h) : V E nL A p l e R s m args below meth c cells slots Q pc lv st h := fun H locs ls hP hD hS hl => lv_iconst X.1 X.2.1 hd hv (kk H locs ls hP hD hS hl)
theorem V_bipush (X : XC E own cc nL ret A p s m args meth c) {n : Int} {v : Int32} (hv : (Int8.ofInt n).toInt32 = v) (hd : decode cc pc = .ok (.bipush n, 2)) (kk : V E nL A p l e R s m args below meth c cells slots Q (pc + 2) lv (.int v :: st) h) : V E nL A p l e R s m args below meth c cells slots Q pc lv st h := fun H locs ls hP hD hS hl => lv_bipush X.1 X.2.1 hd hv (kk H locs ls hP hD hS hl)
theorem V_sipush (X : XC E own cc nL ret A p s m args meth c) {n : Int} {v : Int32} (hv : (Int16.ofInt n).toInt32 = v) (hd : decode cc pc = .ok (.sipush n, 3)) (kk : V E nL A p l e R s m args below meth c cells slots Q (pc + 3) lv (.int v :: st) h) : V E nL A p l e R s m args below meth c cells slots Q pc lv st h := fun H locs ls hP hD hS hl => lv_sipush X.1 X.2.1 hd hv (kk H locs ls hP hD hS hl)
theorem V_lconst (X : XC E own cc nL ret A p s m args meth c) {n : Fin 2} {v : Int64} (hv : Int64.ofNat (n : Nat) = v) (hd : decode cc pc = .ok (.lconst n, 1)) (kk : V E nL A p l e R s m args below meth c cells slots Q (pc + 1) lv (.long v :: st) h) : V E nL A p l e R s m args below meth c cells slots Q pc lv st h := fun H locs ls hP hD hS hl => lv_lconst X.1 X.2.1 hd hv (kk H locs ls hP hD hS hl)
theorem V_iload_n (X : XC E own cc nL ret A p s m args meth c) {k : Fin 4} {x : Int32} (j : Nat) (hj : lv[j]? = some ((k : Nat), .int x)) (hd : decode cc pc = .ok (.iload_n k, 1)) (kk : V E nL A p l e R s m args below meth c cells slots Q (pc + 1) lv (.int x :: st) h) : V E nL A p l e R s m args below meth c cells slots Q pc lv st h := fun H locs ls hP hD hS hl => lv_iload_n X.1 X.2.1 hd rfl (lv_at hl j hj) (kk H locs ls hP hD hS hl)
theorem V_iload (X : XC E own cc nL ret A p s m args meth c) {i : Nat} {x : Int32} (j : Nat) (hj : lv[j]? = some (i, .int x)) (hd : decode cc pc = .ok (.iload i, 2)) (kk : V E nL A p l e R s m args below meth c cells slots Q (pc + 2) lv (.int x :: st) h) : V E nL A p l e R s m args below meth c cells slots Q pc lv st h := fun H locs ls hP hD hS hl => lv_iload X.1 X.2.1 hd (lv_at hl j hj) (kk H locs ls hP hD hS hl)
theorem V_istore_n (X : XC E own cc nL ret A p s m args meth c) {k : Fin 4} {x : Int32} (hn : (k : Nat) < nL) (hlv : ((k : Nat), Value.int x) :: lv.filter (fun q => !(q.1 == (k : Nat)) && !(q.1 + 1 == (k : Nat) && q.2.category == 2)) = lv') (hd : decode cc pc = .ok (.istore_n k, 1)) (kk : V E nL A p l e R s m args below meth c cells slots Q (pc + 1) lv' st h) : V E nL A p l e R s m args below meth c cells slots Q pc lv (.int x :: st) h := fun H locs ls hP hD hS hl => lv_istore_n X.1 X.2.1 hd rfl hl hn hlv (fun ls1 hl1 => kk H locs ls1 hP hD hS hl1)
theorem V_istore (X : XC E own cc nL ret A p s m args meth c) {i : Nat} {x : Int32} (hn : i < nL) (hlv : (i, Value.int x) :: lv.filter (fun q => !(q.1 == i) && !(q.1 + 1 == i && q.2.category == 2)) = lv') (hd : decode cc pc = .ok (.istore i, 2)) (kk : V E nL A p l e R s m args below meth c cells slots Q (pc + 2) lv' st h) : V E nL A p l e R s m args below meth c cells slots Q pc lv (.int x :: st) h := fun H locs ls hP hD hS hl => lv_istore X.1 X.2.1 hd hl hn hlv (fun ls1 hl1 => kk H locs ls1 hP hD hS hl1)
theorem V_lload_n (X : XC E own cc nL ret A p s m args meth c) {k : Fin 4} {x : Int64} (j : Nat) (hj : lv[j]? = some ((k : Nat), .long x)) (hd : decode cc pc = .ok (.lload_n k, 1)) (kk : V E nL A p l e R s m args below meth c cells slots Q (pc + 1) lv (.long x :: st) h) : V E nL A p l e R s m args below meth c cells slots Q pc lv st h := fun H locs ls hP hD hS hl => lv_lload_n X.1 X.2.1 hd rfl (lv_at hl j hj) (kk H locs ls hP hD hS hl)
theorem V_lload (X : XC E own cc nL ret A p s m args meth c) {i : Nat} {x : Int64} (j : Nat) (hj : lv[j]? = some (i, .long x)) (hd : decode cc pc = .ok (.lload i, 2)) (kk : V E nL A p l e R s m args below meth c cells slots Q (pc + 2) lv (.long x :: st) h) : V E nL A p l e R s m args below meth c cells slots Q pc lv st h := fun H locs ls hP hD hS hl => lv_lload X.1 X.2.1 hd (lv_at hl j hj) (kk H locs ls hP hD hS hl)
theorem V_lstore_n (X : XC E own cc nL ret A p s m args meth c) {k : Fin 4} {x : Int64} (hn : (k : Nat) + 1 < nL) (hlv : ((k : Nat), Value.long x) :: lv.filter (fun q => !(q.1 == (k : Nat)) && (!(q.1 == (k : Nat) + 1) && !(q.1 + 1 == (k : Nat) && q.2.category == 2))) = lv') (hd : decode cc pc = .ok (.lstore_n k, 1)) (kk : V E nL A p l e R s m args below meth c cells slots Q (pc + 1) lv' st h) : V E nL A p l e R s m args below meth c cells slots Q pc lv (.long x :: st) h := fun H locs ls hP hD hS hl => lv_lstore_n X.1 X.2.1 hd rfl hl hn hlv (fun ls1 hl1 => kk H locs ls1 hP hD hS hl1)
theorem V_lstore (X : XC E own cc nL ret A p s m args meth c) {i : Nat} {x : Int64} (hn : i + 1 < nL) (hlv : (i, Value.long x) :: lv.filter (fun q => !(q.1 == i) && (!(q.1 == i + 1) && !(q.1 + 1 == i && q.2.category == 2))) = lv') (hd : decode cc pc = .ok (.lstore i, 2)) (kk : V E nL A p l e R s m args below meth c cells slots Q (pc + 2) lv' st h) : V E nL A p l e R s m args below meth c cells slots Q pc lv (.long x :: st) h := fun H locs ls hP hD hS hl => lv_lstore X.1 X.2.1 hd hl hn hlv (fun ls1 hl1 => kk H locs ls1 hP hD hS hl1)
theorem V_aload_n (X : XC E own cc nL ret A p s m args meth c) {k : Fin 4} {x : Nat} (j : Nat) (hj : lv[j]? = some ((k : Nat), .ref x)) (hd : decode cc pc = .ok (.aload_n k, 1)) (kk : V E nL A p l e R s m args below meth c cells slots Q (pc + 1) lv (.ref x :: st) h) : V E nL A p l e R s m args below meth c cells slots Q pc lv st h := fun H locs ls hP hD hS hl => lv_aload_n X.1 X.2.1 hd rfl (lv_at hl j hj) (kk H locs ls hP hD hS hl)
theorem V_aload (X : XC E own cc nL ret A p s m args meth c) {i : Nat} {x : Nat} (j : Nat) (hj : lv[j]? = some (i, .ref x)) (hd : decode cc pc = .ok (.aload i, 2)) (kk : V E nL A p l e R s m args below meth c cells slots Q (pc + 2) lv (.ref x :: st) h) : V E nL A p l e R s m args below meth c cells slots Q pc lv st h := fun H locs ls hP hD hS hl => lv_aload X.1 X.2.1 hd (lv_at hl j hj) (kk H locs ls hP hD hS hl)
theorem V_astore_n (X : XC E own cc nL ret A p s m args meth c) {k : Fin 4} {x : Nat} (hn : (k : Nat) < nL) (hlv : ((k : Nat), Value.ref x) :: lv.filter (fun q => !(q.1 == (k : Nat)) && !(q.1 + 1 == (k : Nat) && q.2.category == 2)) = lv') (hd : decode cc pc = .ok (.astore_n k, 1)) (kk : V E nL A p l e R s m args below meth c cells slots Q (pc + 1) lv' st h) : V E nL A p l e R s m args below meth c cells slots Q pc lv (.ref x :: st) h := fun H locs ls hP hD hS hl => lv_astore_n X.1 X.2.1 hd rfl hl hn hlv (fun ls1 hl1 => kk H locs ls1 hP hD hS hl1)
theorem V_astore (X : XC E own cc nL ret A p s m args meth c) {i : Nat} {x : Nat} (hn : i < nL) (hlv : (i, Value.ref x) :: lv.filter (fun q => !(q.1 == i) && !(q.1 + 1 == i && q.2.category == 2)) = lv') (hd : decode cc pc = .ok (.astore i, 2)) (kk : V E nL A p l e R s m args below meth c cells slots Q (pc + 2) lv' st h) : V E nL A p l e R s m args below meth c cells slots Q pc lv (.ref x :: st) h := fun H locs ls hP hD hS hl => lv_astore X.1 X.2.1 hd hl hn hlv (fun ls1 hl1 => kk H locs ls1 hP hD hS hl1)
theorem V_iinc (X : XC E own cc nL ret A p s m args meth c) {i : Nat} {n : Int} {x v : Int32} (j : Nat) (hj : lv[j]? = some (i, .int x)) (hv : x + Int32.ofInt n = v) (hn : i < nL) (hlv : (i, Value.int v) :: lv.filter (fun q => !(q.1 == i) && !(q.1 + 1 == i && q.2.category == 2)) = lv') (hd : decode cc pc = .ok (.iinc i n, 3)) (kk : V E nL A p l e R s m args below meth c cells slots Q (pc + 3) lv' st h) : V E nL A p l e R s m args below meth c cells slots Q pc lv st h := fun H locs ls hP hD hS hl => lv_iinc X.1 X.2.1 hd hl hj hv hn hlv (fun ls1 hl1 => kk H locs ls1 hP hD hS hl1)
theorem V_iadd (X : XC E own cc nL ret A p s m args meth c) {x y : Int32} (hd : decode cc pc = .ok (.iadd, 1)) (kk : V E nL A p l e R s m args below meth c cells slots Q (pc + 1) lv (.int (x + y) :: st) h) : V E nL A p l e R s m args below meth c cells slots Q pc lv (.int y :: .int x :: st) h := fun H locs ls hP hD hS hl => lv_iadd X.1 X.2.1 hd  (kk H locs ls hP hD hS hl)
theorem V_isub (X : XC E own cc nL ret A p s m args meth c) {x y : Int32} (hd : decode cc pc = .ok (.isub, 1)) (kk : V E nL A p l e R s m args below meth c cells slots Q (pc + 1) lv (.int (x - y) :: st) h) : V E nL A p l e R s m args below meth c cells slots Q pc lv (.int y :: .int x :: st) h := fun H locs ls hP hD hS hl => lv_isub X.1 X.2.1 hd  (kk H locs ls hP hD hS hl)
theorem V_imul (X : XC E own cc nL ret A p s m args meth c) {x y : Int32} (hd : decode cc pc = .ok (.imul, 1)) (kk : V E nL A p l e R s m args below meth c cells slots Q (pc + 1) lv (.int (x * y) :: st) h) : V E nL A p l e R s m args below meth c cells slots Q pc lv (.int y :: .int x :: st) h := fun H locs ls hP hD hS hl => lv_imul X.1 X.2.1 hd  (kk H locs ls hP hD hS hl)
theorem V_iand (X : XC E own cc nL ret A p s m args meth c) {x y : Int32} (hd : decode cc pc = .ok (.iand, 1)) (kk : V E nL A p l e R s m args below meth c cells slots Q (pc + 1) lv (.int (x &&& y) :: st) h) : V E nL A p l e R s m args below meth c cells slots Q pc lv (.int y :: .int x :: st) h := fun H locs ls hP hD hS hl => lv_iand X.1 X.2.1 hd  (kk H locs ls hP hD hS hl)
theorem V_ior (X : XC E own cc nL ret A p s m args meth c) {x y : Int32} (hd : decode cc pc = .ok (.ior, 1)) (kk : V E nL A p l e R s m args below meth c cells slots Q (pc + 1) lv (.int (x ||| y) :: st) h) : V E nL A p l e R s m args below meth c cells slots Q pc lv (.int y :: .int x :: st) h := fun H locs ls hP hD hS hl => lv_ior X.1 X.2.1 hd  (kk H locs ls hP hD hS hl)
theorem V_ixor (X : XC E own cc nL ret A p s m args meth c) {x y : Int32} (hd : decode cc pc = .ok (.ixor, 1)) (kk : V E nL A p l e R s m args below meth c cells slots Q (pc + 1) lv (.int (x ^^^ y) :: st) h) : V E nL A p l e R s m args below meth c cells slots Q pc lv (.int y :: .int x :: st) h := fun H locs ls hP hD hS hl => lv_ixor X.1 X.2.1 hd  (kk H locs ls hP hD hS hl)
theorem V_ishl (X : XC E own cc nL ret A p s m args meth c) {x y : Int32} (hd : decode cc pc = .ok (.ishl, 1)) (kk : V E nL A p l e R s m args below meth c cells slots Q (pc + 1) lv (.int (x <<< (y &&& 31)) :: st) h) : V E nL A p l e R s m args below meth c cells slots Q pc lv (.int y :: .int x :: st) h := fun H locs ls hP hD hS hl => lv_ishl X.1 X.2.1 hd  (kk H locs ls hP hD hS hl)
theorem V_ishr (X : XC E own cc nL ret A p s m args meth c) {x y : Int32} (hd : decode cc pc = .ok (.ishr, 1)) (kk : V E nL A p l e R s m args below meth c cells slots Q (pc + 1) lv (.int (x >>> (y &&& 31)) :: st) h) : V E nL A p l e R s m args below meth c cells slots Q pc lv (.int y :: .int x :: st) h := fun H locs ls hP hD hS hl => lv_ishr X.1 X.2.1 hd  (kk H locs ls hP hD hS hl)
theorem V_idiv (X : XC E own cc nL ret A p s m args meth c) {x y : Int32} (hne : ¬ y = 0) (hd : decode cc pc = .ok (.idiv, 1)) (kk : V E nL A p l e R s m args below meth c cells slots Q (pc + 1) lv (.int (x / y) :: st) h) : V E nL A p l e R s m args below meth c cells slots Q pc lv (.int y :: .int x :: st) h := fun H locs ls hP hD hS hl => lv_idiv X.1 X.2.1 hd hne (kk H locs ls hP hD hS hl)
theorem V_irem (X : XC E own cc nL ret A p s m args meth c) {x y : Int32} (hne : ¬ y = 0) (hd : decode cc pc = .ok (.irem, 1)) (kk : V E nL A p l e R s m args below meth c cells slots Q (pc + 1) lv (.int (x - x / y * y) :: st) h) : V E nL A p l e R s m args below meth c cells slots Q pc lv (.int y :: .int x :: st) h := fun H locs ls hP hD hS hl => lv_irem X.1 X.2.1 hd hne (kk H locs ls hP hD hS hl)
theorem V_ineg (X : XC E own cc nL ret A p s m args meth c) {x : Int32} (hd : decode cc pc = .ok (.ineg, 1)) (kk : V E nL A p l e R s m args below meth c cells slots Q (pc + 1) lv (.int (-x) :: st) h) : V E nL A p l e R s m args below meth c cells slots Q pc lv (.int x :: st) h := fun H locs ls hP hD hS hl => lv_ineg X.1 X.2.1 hd  (kk H locs ls hP hD hS hl)
theorem V_land (X : XC E own cc nL ret A p s m args meth c) {x y : Int64} (hd : decode cc pc = .ok (.land, 1)) (kk : V E nL A p l e R s m args below meth c cells slots Q (pc + 1) lv (.long (x &&& y) :: st) h) : V E nL A p l e R s m args below meth c cells slots Q pc lv (.long y :: .long x :: st) h := fun H locs ls hP hD hS hl => lv_land X.1 X.2.1 hd  (kk H locs ls hP hD hS hl)
theorem V_lor (X : XC E own cc nL ret A p s m args meth c) {x y : Int64} (hd : decode cc pc = .ok (.lor, 1)) (kk : V E nL A p l e R s m args below meth c cells slots Q (pc + 1) lv (.long (x ||| y) :: st) h) : V E nL A p l e R s m args below meth c cells slots Q pc lv (.long y :: .long x :: st) h := fun H locs ls hP hD hS hl => lv_lor X.1 X.2.1 hd  (kk H locs ls hP hD hS hl)
theorem V_i2l (X : XC E own cc nL ret A p s m args meth c) {x : Int32} (hd : decode cc pc = .ok (.i2l, 1)) (kk : V E nL A p l e R s m args below meth c cells slots Q (pc + 1) lv (.long x.toInt64 :: st) h) : V E nL A p l e R s m args below meth c cells slots Q pc lv (.int x :: st) h := fun H locs ls hP hD hS hl => lv_i2l X.1 X.2.1 hd rfl (kk H locs ls hP hD hS hl)
theorem V_l2i (X : XC E own cc nL ret A p s m args meth c) {x : Int64} (hd : decode cc pc = .ok (.l2i, 1)) (kk : V E nL A p l e R s m args below meth c cells slots Q (pc + 1) lv (.int x.toInt32 :: st) h) : V E nL A p l e R s m args below meth c cells slots Q pc lv (.long x :: st) h := fun H locs ls hP hD hS hl => lv_l2i X.1 X.2.1 hd rfl (kk H locs ls hP hD hS hl)
theorem V_i2c (X : XC E own cc nL ret A p s m args meth c) {x : Int32} (hd : decode cc pc = .ok (.i2c, 1)) (kk : V E nL A p l e R s m args below meth c cells slots Q (pc + 1) lv (.int (x.toUInt32 % 65536).toInt32 :: st) h) : V E nL A p l e R s m args below meth c cells slots Q pc lv (.int x :: st) h := fun H locs ls hP hD hS hl => lv_i2c X.1 X.2.1 hd rfl (kk H locs ls hP hD hS hl)
theorem V_lushr (X : XC E own cc nL ret A p s m args meth c) {x : Int64} {y : Int32} (hd : decode cc pc = .ok (.lushr, 1)) (kk : V E nL A p l e R s m args below meth c cells slots Q (pc + 1) lv (.long (x.toUInt64 >>> (y.toInt64.toUInt64 &&& Int64.toUInt64 63)).toInt64 :: st) h) : V E nL A p l e R s m args below meth c cells slots Q pc lv (.int y :: .long x :: st) h := fun H locs ls hP hD hS hl => lv_lushr X.1 X.2.1 hd rfl (kk H locs ls hP hD hS hl)
theorem V_lshl (X : XC E own cc nL ret A p s m args meth c) {x : Int64} {y : Int32} (hd : decode cc pc = .ok (.lshl, 1)) (kk : V E nL A p l e R s m args below meth c cells slots Q (pc + 1) lv (.long (x <<< (y.toInt64 &&& 63)) :: st) h) : V E nL A p l e R s m args below meth c cells slots Q pc lv (.int y :: .long x :: st) h := fun H locs ls hP hD hS hl => lv_lshl X.1 X.2.1 hd rfl (kk H locs ls hP hD hS hl)
theorem V_lcmp (X : XC E own cc nL ret A p s m args meth c) {x y : Int64} (hd : decode cc pc = .ok (.lcmp, 1)) (kk : V E nL A p l e R s m args below meth c cells slots Q (pc + 1) lv (.int (lg_cmp x y) :: st) h) : V E nL A p l e R s m args below meth c cells slots Q pc lv (.long y :: .long x :: st) h := fun H locs ls hP hD hS hl => W.lcmp X.1 X.2.1 hd  (kk H locs ls hP hD hS hl)
theorem V_dup (X : XC E own cc nL ret A p s m args meth c) {va : Value} (hva : va.category = 1) (hd : decode cc pc = .ok (.dup, 1)) (kk : V E nL A p l e R s m args below meth c cells slots Q (pc + 1) lv (va :: va :: st) h) : V E nL A p l e R s m args below meth c cells slots Q pc lv (va :: st) h := fun H locs ls hP hD hS hl => lv_dup X.1 X.2.1 hd hva (kk H locs ls hP hD hS hl)
theorem V_dup2 (X : XC E own cc nL ret A p s m args meth c) {va vb : Value} (hva : va.category = 1) (hvb : vb.category = 1) (hd : decode cc pc = .ok (.dup2, 1)) (kk : V E nL A p l e R s m args below meth c cells slots Q (pc + 1) lv (va :: vb :: va :: vb :: st) h) : V E nL A p l e R s m args below meth c cells slots Q pc lv (va :: vb :: st) h := fun H locs ls hP hD hS hl => lv_dup2_11 X.1 X.2.1 hd hva hvb (kk H locs ls hP hD hS hl)
theorem V_pop (X : XC E own cc nL ret A p s m args meth c) {va : Value} (hva : va.category = 1) (hd : decode cc pc = .ok (.pop, 1)) (kk : V E nL A p l e R s m args below meth c cells slots Q (pc + 1) lv st h) : V E nL A p l e R s m args below meth c cells slots Q pc lv (va :: st) h := fun H locs ls hP hD hS hl => lv_pop X.1 X.2.1 hd hva (kk H locs ls hP hD hS hl)
theorem V_if_eq (X : XC E own cc nL ret A p s m args meth c) {x : Int32} {off : Int} {tgt : Nat} (ht : (pc : Int) + off = (tgt : Int)) (hd : decode cc pc = .ok (.ifCond .eq off, 3)) (kk0 : (x = 0) → V E nL A p l e R s m args below meth c cells slots Q tgt lv st h) (kk1 : (¬ x = 0) → V E nL A p l e R s m args below meth c cells slots Q (pc + 3) lv st h) : V E nL A p l e R s m args below meth c cells slots Q pc lv (.int x :: st) h := fun H locs ls hP hD hS hl => lv_if_eq X.1 X.2.1 hd ht (fun q => kk0 q H locs ls hP hD hS hl) (fun q => kk1 q H locs ls hP hD hS hl)
theorem V_icmp_eq (X : XC E own cc nL ret A p s m args meth c) {x y : Int32} {off : Int} {tgt : Nat} (ht : (pc : Int) + off = (tgt : Int)) (hd : decode cc pc = .ok (.if_icmp .eq off, 3)) (kk0 : (x = y) → V E nL A p l e R s m args below meth c cells slots Q tgt lv st h) (kk1 : (¬ x = y) → V E nL A p l e R s m args below meth c cells slots Q (pc + 3) lv st h) : V E nL A p l e R s m args below meth c cells slots Q pc lv (.int y :: .int x :: st) h := fun H locs ls hP hD hS hl => lv_icmp_eq X.1 X.2.1 hd ht (fun q => kk0 q H locs ls hP hD hS hl) (fun q => kk1 q H locs ls hP hD hS hl)
theorem V_if_ne (X : XC E own cc nL ret A p s m args meth c) {x : Int32} {off : Int} {tgt : Nat} (ht : (pc : Int) + off = (tgt : Int)) (hd : decode cc pc = .ok (.ifCond .ne off, 3)) (kk0 : (¬ x = 0) → V E nL A p l e R s m args below meth c cells slots Q tgt lv st h) (kk1 : (x = 0) → V E nL A p l e R s m args below meth c cells slots Q (pc + 3) lv st h) : V E nL A p l e R s m args below meth c cells slots Q pc lv (.int x :: st) h := fun H locs ls hP hD hS hl => lv_if_ne X.1 X.2.1 hd ht (fun q => kk0 q H locs ls hP hD hS hl) (fun q => kk1 q H locs ls hP hD hS hl)
theorem V_icmp_ne (X : XC E own cc nL ret A p s m args meth c) {x y : Int32} {off : Int} {tgt : Nat} (ht : (pc : Int) + off = (tgt : Int)) (hd : decode cc pc = .ok (.if_icmp .ne off, 3)) (kk0 : (¬ x = y) → V E nL A p l e R s m args below meth c cells slots Q tgt lv st h) (kk1 : (x = y) → V E nL A p l e R s m args below meth c cells slots Q (pc + 3) lv st h) : V E nL A p l e R s m args below meth c cells slots Q pc lv (.int y :: .int x :: st) h := fun H locs ls hP hD hS hl => lv_icmp_ne X.1 X.2.1 hd ht (fun q => kk0 q H locs ls hP hD hS hl) (fun q => kk1 q H locs ls hP hD hS hl)
theorem V_if_lt (X : XC E own cc nL ret A p s m args meth c) {x : Int32} {off : Int} {tgt : Nat} (ht : (pc : Int) + off = (tgt : Int)) (hd : decode cc pc = .ok (.ifCond .lt off, 3)) (kk0 : (x < 0) → V E nL A p l e R s m args below meth c cells slots Q tgt lv st h) (kk1 : (¬ x < 0) → V E nL A p l e R s m args below meth c cells slots Q (pc + 3) lv st h) : V E nL A p l e R s m args below meth c cells slots Q pc lv (.int x :: st) h := fun H locs ls hP hD hS hl => lv_if_lt X.1 X.2.1 hd ht (fun q => kk0 q H locs ls hP hD hS hl) (fun q => kk1 q H locs ls hP hD hS hl)
theorem V_icmp_lt (X : XC E own cc nL ret A p s m args meth c) {x y : Int32} {off : Int} {tgt : Nat} (ht : (pc : Int) + off = (tgt : Int)) (hd : decode cc pc = .ok (.if_icmp .lt off, 3)) (kk0 : (x < y) → V E nL A p l e R s m args below meth c cells slots Q tgt lv st h) (kk1 : (¬ x < y) → V E nL A p l e R s m args below meth c cells slots Q (pc + 3) lv st h) : V E nL A p l e R s m args below meth c cells slots Q pc lv (.int y :: .int x :: st) h := fun H locs ls hP hD hS hl => lv_icmp_lt X.1 X.2.1 hd ht (fun q => kk0 q H locs ls hP hD hS hl) (fun q => kk1 q H locs ls hP hD hS hl)
theorem V_if_ge (X : XC E own cc nL ret A p s m args meth c) {x : Int32} {off : Int} {tgt : Nat} (ht : (pc : Int) + off = (tgt : Int)) (hd : decode cc pc = .ok (.ifCond .ge off, 3)) (kk0 : (0 ≤ x) → V E nL A p l e R s m args below meth c cells slots Q tgt lv st h) (kk1 : (¬ 0 ≤ x) → V E nL A p l e R s m args below meth c cells slots Q (pc + 3) lv st h) : V E nL A p l e R s m args below meth c cells slots Q pc lv (.int x :: st) h := fun H locs ls hP hD hS hl => lv_if_ge X.1 X.2.1 hd ht (fun q => kk0 q H locs ls hP hD hS hl) (fun q => kk1 q H locs ls hP hD hS hl)
theorem V_icmp_ge (X : XC E own cc nL ret A p s m args meth c) {x y : Int32} {off : Int} {tgt : Nat} (ht : (pc : Int) + off = (tgt : Int)) (hd : decode cc pc = .ok (.if_icmp .ge off, 3)) (kk0 : (y ≤ x) → V E nL A p l e R s m args below meth c cells slots Q tgt lv st h) (kk1 : (¬ y ≤ x) → V E nL A p l e R s m args below meth c cells slots Q (pc + 3) lv st h) : V E nL A p l e R s m args below meth c cells slots Q pc lv (.int y :: .int x :: st) h := fun H locs ls hP hD hS hl => lv_icmp_ge X.1 X.2.1 hd ht (fun q => kk0 q H locs ls hP hD hS hl) (fun q => kk1 q H locs ls hP hD hS hl)
theorem V_if_gt (X : XC E own cc nL ret A p s m args meth c) {x : Int32} {off : Int} {tgt : Nat} (ht : (pc : Int) + off = (tgt : Int)) (hd : decode cc pc = .ok (.ifCond .gt off, 3)) (kk0 : (0 < x) → V E nL A p l e R s m args below meth c cells slots Q tgt lv st h) (kk1 : (¬ 0 < x) → V E nL A p l e R s m args below meth c cells slots Q (pc + 3) lv st h) : V E nL A p l e R s m args below meth c cells slots Q pc lv (.int x :: st) h := fun H locs ls hP hD hS hl => lv_if_gt X.1 X.2.1 hd ht (fun q => kk0 q H locs ls hP hD hS hl) (fun q => kk1 q H locs ls hP hD hS hl)
theorem V_icmp_gt (X : XC E own cc nL ret A p s m args meth c) {x y : Int32} {off : Int} {tgt : Nat} (ht : (pc : Int) + off = (tgt : Int)) (hd : decode cc pc = .ok (.if_icmp .gt off, 3)) (kk0 : (y < x) → V E nL A p l e R s m args below meth c cells slots Q tgt lv st h) (kk1 : (¬ y < x) → V E nL A p l e R s m args below meth c cells slots Q (pc + 3) lv st h) : V E nL A p l e R s m args below meth c cells slots Q pc lv (.int y :: .int x :: st) h := fun H locs ls hP hD hS hl => lv_icmp_gt X.1 X.2.1 hd ht (fun q => kk0 q H locs ls hP hD hS hl) (fun q => kk1 q H locs ls hP hD hS hl)
theorem V_if_le (X : XC E own cc nL ret A p s m args meth c) {x : Int32} {off : Int} {tgt : Nat} (ht : (pc : Int) + off = (tgt : Int)) (hd : decode cc pc = .ok (.ifCond .le off, 3)) (kk0 : (x ≤ 0) → V E nL A p l e R s m args below meth c cells slots Q tgt lv st h) (kk1 : (¬ x ≤ 0) → V E nL A p l e R s m args below meth c cells slots Q (pc + 3) lv st h) : V E nL A p l e R s m args below meth c cells slots Q pc lv (.int x :: st) h := fun H locs ls hP hD hS hl => lv_if_le X.1 X.2.1 hd ht (fun q => kk0 q H locs ls hP hD hS hl) (fun q => kk1 q H locs ls hP hD hS hl)
theorem V_icmp_le (X : XC E own cc nL ret A p s m args meth c) {x y : Int32} {off : Int} {tgt : Nat} (ht : (pc : Int) + off = (tgt : Int)) (hd : decode cc pc = .ok (.if_icmp .le off, 3)) (kk0 : (x ≤ y) → V E nL A p l e R s m args below meth c cells slots Q tgt lv st h) (kk1 : (¬ x ≤ y) → V E nL A p l e R s m args below meth c cells slots Q (pc + 3) lv st h) : V E nL A p l e R s m args below meth c cells slots Q pc lv (.int y :: .int x :: st) h := fun H locs ls hP hD hS hl => lv_icmp_le X.1 X.2.1 hd ht (fun q => kk0 q H locs ls hP hD hS hl) (fun q => kk1 q H locs ls hP hD hS hl)
theorem V_goto (X : XC E own cc nL ret A p s m args meth c) {off : Int} {tgt : Nat} (ht : (pc : Int) + off = (tgt : Int)) (hd : decode cc pc = .ok (.goto off, 3)) (kk : V E nL A p l e R s m args below meth c cells slots Q tgt lv st h) : V E nL A p l e R s m args below meth c cells slots Q pc lv st h := fun H locs ls hP hD hS hl => lv_goto X.1 X.2.1 hd ht (kk H locs ls hP hD hS hl)
theorem V_sub (ks : List Nat) (hk : lv_pick lv ks = lv') (kk : V E nL A p l e R s m args below meth c cells slots Q pc lv' st h) : V E nL A p l e R s m args below meth c cells slots Q pc lv st h := fun H locs ls hP hD hS hl => kk H locs ls hP hD hS (lv_sub hl ks hk)
theorem V_ldc (X : XC E own cc nL ret A p s m args meth c) {index : Nat} {v : Int32} (hc : Jvm.Cond.constant own index v ∈ LW) (hd : decode cc pc = .ok (.ldc index, 2)) (kk : V E nL A p l e R s m args below meth c cells slots Q (pc + 2) lv (.int v :: st) h) : V E nL A p l e R s m args below meth c cells slots Q pc lv st h := fun H locs ls hP hD hS hl => lv_ldc X.1 X.2.1 X.2.2.2.2.1 (X.2.2.2.2.2.1 _ hc) hd (kk H locs ls hP hD hS hl)
theorem V_ldc2 (X : XC E own cc nL ret A p s m args meth c) {index : Nat} {v : Int64} (hc : Jvm.Cond.constantLong own index v ∈ LW) (hd : decode cc pc = .ok (.ldc2_w index, 3)) (kk : V E nL A p l e R s m args below meth c cells slots Q (pc + 3) lv (.long v :: st) h) : V E nL A p l e R s m args below meth c cells slots Q pc lv st h := fun H locs ls hP hD hS hl => lv_ldc2 X.1 X.2.1 X.2.2.2.2.1 (X.2.2.2.2.2.1 _ hc) hd (kk H locs ls hP hD hS hl)
theorem V_table (X : XC E own cc nL ret A p s m args meth c) {x : Int32} {dflt lo hi off : Int} {offs : Array Int} {len tgt : Nat} (hs : tsel x dflt lo hi offs = off) (ht : (pc : Int) + off = (tgt : Int)) (hz : lo + offs.size = hi + 1) (hd : decode cc pc = .ok (.tableswitch dflt lo hi offs, len)) (kk : V E nL A p l e R s m args below meth c cells slots Q tgt lv st h) : V E nL A p l e R s m args below meth c cells slots Q pc lv (.int x :: st) h := fun H locs ls hP hD hS hl => by
  by_cases q : x.toInt < lo ∨ hi < x.toInt
  · unfold tsel at hs
    rw [if_pos q] at hs
    exact lv_tableOut X.1 X.2.1 hd q (by rw [hs]; exact ht) (kk H locs ls hP hD hS hl)
  · unfold tsel at hs
    rw [if_neg q] at hs
    have hlt : (x.toInt - lo).toNat < offs.size := by omega
    rw [Array.getElem?_eq_getElem hlt] at hs
    exact lv_tableIn X.1 X.2.1 hd (by omega) (by omega) (Array.getElem?_eq_getElem hlt) (by rw [← hs] at ht; exact ht) (kk H locs ls hP hD hS hl)
theorem V_lookup (X : XC E own cc nL ret A p s m args meth c) {x : Int32} {dflt off : Int} {ps : Array (Int × Int)} {len tgt : Nat} (hp : (ps.toList.zip (ps.toList.drop 1)).all (fun (a, next) => a.1 < next.1) = true) (hs : Op.lookupswitch.offset ps.toList dflt x.toInt = off) (ht : (pc : Int) + off = (tgt : Int)) (hd : decode cc pc = .ok (.lookupswitch dflt ps, len)) (kk : V E nL A p l e R s m args below meth c cells slots Q tgt lv st h) : V E nL A p l e R s m args below meth c cells slots Q pc lv (.int x :: st) h := fun H locs ls hP hD hS hl => lv_lookup X.1 X.2.1 hd hp hs ht (kk H locs ls hP hD hS hl)
theorem V_iald (X : XC E own cc nL ret A p s m args meth c) {k n : Nat} {i : Int32} (hA : AR E k (eI E) n) (hin : inB i n = true) (hd : decode cc pc = .ok (.iaload, 1)) (kk : V E nL A p l e R s m args below meth c cells slots Q (pc + 1) lv (.int (h k i.toNatClampNeg) :: st) h) : V E nL A p l e R s m args below meth c cells slots Q pc lv (.int i :: .ref (eA E k) :: st) h := fun H locs ls hP hD hS hl => va_iald X.1 X.2.1 X.2.2.2.2.2.2.2.1.1 hP k 0 (hA.1 h) rfl (inB_in hin) hd (kk H locs ls hP hD hS hl)
theorem V_zald (X : XC E own cc nL ret A p s m args meth c) {k n : Nat} {i : Int32} (hA : AR E k (eZ E) n) (hin : inB i n = true) (hd : decode cc pc = .ok (.baload, 1)) (kk : V E nL A p l e R s m args below meth c cells slots Q (pc + 1) lv (.int (h k i.toNatClampNeg) :: st) h) : V E nL A p l e R s m args below meth c cells slots Q pc lv (.int i :: .ref (eA E k) :: st) h := fun H locs ls hP hD hS hl => va_zald X.1 X.2.1 X.2.2.2.2.2.2.2.1.1 hP k 1 (hA.1 h) rfl (inB_in hin) hd (kk H locs ls hP hD hS hl)
theorem V_cald (X : XC E own cc nL ret A p s m args meth c) {k n : Nat} {i : Int32} (hA : AR E k (eC E) n) (hin : inB i n = true) (hd : decode cc pc = .ok (.caload, 1)) (kk : V E nL A p l e R s m args below meth c cells slots Q (pc + 1) lv (.int (h k i.toNatClampNeg) :: st) h) : V E nL A p l e R s m args below meth c cells slots Q pc lv (.int i :: .ref (eA E k) :: st) h := fun H locs ls hP hD hS hl => va_cald X.1 X.2.1 X.2.2.2.2.2.2.2.1.1 hP k 2 (hA.1 h) rfl (inB_in hin) hd (kk H locs ls hP hD hS hl)
theorem V_iast (X : XC E own cc nL ret A p s m args meth c) {k n : Nat} {i x : Int32} (hA : AR E k (eI E) n) (hin : inB i n = true) (hd : decode cc pc = .ok (.iastore, 1)) (kk : V E nL A p l e R s m args below meth c cells slots Q (pc + 1) lv st (hu h k i.toNatClampNeg x)) : V E nL A p l e R s m args below meth c cells slots Q pc lv (.int x :: .int i :: .ref (eA E k) :: st) h := fun H locs ls hP hD hS hl => va_iast X.1 X.2.1 X.2.2.2.2.2.2.2.1.1 hP hD hS k 0 (hA.1 h) rfl (inB_in hin) hd (fun H1 locs1 hP1 hD1 hS1 => by
  rw [hA.2] at hP1 hD1
  exact kk H1 locs1 ls hP1 hD1 hS1 hl)
theorem V_zast (X : XC E own cc nL ret A p s m args meth c) {k n : Nat} {i x : Int32} (hA : AR E k (eZ E) n) (hin : inB i n = true) (hd : decode cc pc = .ok (.bastore, 1)) (kk : V E nL A p l e R s m args below meth c cells slots Q (pc + 1) lv st (hu h k i.toNatClampNeg (vp_nar .boolean x))) : V E nL A p l e R s m args below meth c cells slots Q pc lv (.int x :: .int i :: .ref (eA E k) :: st) h := fun H locs ls hP hD hS hl => va_zast X.1 X.2.1 X.2.2.2.2.2.2.2.1.1 hP hD hS k 1 (hA.1 h) rfl (inB_in hin) hd (fun H1 locs1 hP1 hD1 hS1 => by
  rw [hA.2] at hP1 hD1
  exact kk H1 locs1 ls hP1 hD1 hS1 hl)
theorem V_cast (X : XC E own cc nL ret A p s m args meth c) {k n : Nat} {i x : Int32} (hA : AR E k (eC E) n) (hin : inB i n = true) (hd : decode cc pc = .ok (.castore, 1)) (kk : V E nL A p l e R s m args below meth c cells slots Q (pc + 1) lv st (hu h k i.toNatClampNeg (vp_nar .char x))) : V E nL A p l e R s m args below meth c cells slots Q pc lv (.int x :: .int i :: .ref (eA E k) :: st) h := fun H locs ls hP hD hS hl => va_cast X.1 X.2.1 X.2.2.2.2.2.2.2.1.1 hP hD hS k 2 (hA.1 h) rfl (inB_in hin) hd (fun H1 locs1 hP1 hD1 hS1 => by
  rw [hA.2] at hP1 hD1
  exact kk H1 locs1 ls hP1 hD1 hS1 hl)
theorem V_alen (X : XC E own cc nL ret A p s m args meth c) {k n j : Nat} {cy : ClassId} {ty : FieldType} {v : Int32} (hA : AR E k cy n) (hj : (tys E)[j]? = some (cy, ty)) (hv : Int32.ofNat n = v) (hd : decode cc pc = .ok (.arraylength, 1)) (kk : V E nL A p l e R s m args below meth c cells slots Q (pc + 1) lv (.int v :: st) h) : V E nL A p l e R s m args below meth c cells slots Q pc lv (.ref (eA E k) :: st) h := fun H locs ls hP hD hS hl => va_alen X.1 X.2.1 X.2.2.2.2.2.2.2.1.1 hP k j (hA.1 h) hj hv hd (kk H locs ls hP hD hS hl)
theorem V_get (X : XC E own cc nL ret A p s m args meth c) {k ci index N j : Nat} {T : u_T} {fs : List Value} {v : Value} (hin : ∀ w ∈ u_ws own T N, w ∈ LW) (he : (wld E h)[k]? = some (eA E k, .inr (ci, fs))) (hc : vwCl[ci]? = some (own, T, N)) (hj : j < N) (hT : (T j).1 = own) (hlink : Cond.fieldLink own index own (T j).2.1 (T j).2.2.1 ∈ LW) (hv : fs[j]? = some v) (hd : decode cc pc = .ok (.getfield index, 3)) (kk : V E nL A p l e R s m args below meth c cells slots Q (pc + 3) lv (v :: st) h) : V E nL A p l e R s m args below meth c cells slots Q pc lv (.ref (eA E k) :: st) h := fun H locs ls hP hD hS hl => va_get (ref := own) X.1 X.2.1 X.2.2.2.2.2.1 hin X.2.2.2.2.1 X.2.2.2.2.2.2.2.1.1 hP k he hc j hj (X.2.2.2.2.2.1 _ hlink) (fun x hx => by rw [hT] at hx; exact hx) hv hd (kk H locs ls hP hD hS hl)
theorem V_puti (X : XC E own cc nL ret A p s m args meth c) {k ci index N j : Nat} {T : u_T} {fs : Hp → List Value} {x : Int32} {ty : FieldType} (ty0 : Nat → FieldType) (hF : FI E k ci fs j) (hin : ∀ w ∈ u_ws own T N, w ∈ LW) (hty : ∀ k, k < N → parseFieldDescriptor (T k).2.2.1 = some (ty0 k)) (hnm : ∀ a, a < N → ∀ b, b < N → a ≠ b → (T a).2.1 ≠ (T b).2.1) (hc : vwCl[ci]? = some (own, T, N)) (hj : j < N) (hT : (T j).1 = own) (hfin : (T j).2.2.2 = false) (hlink : Cond.fieldLink own index own (T j).2.1 (T j).2.2.1 ∈ LW) (hd0 : parseFieldDescriptor (T j).2.2.1 = some ty) (hn : narrow ty (.int x) = .int x) (hfit : fits ty (.int x) = true) (hd : decode cc pc = .ok (.putfield index, 3)) (kk : V E nL A p l e R s m args below meth c cells slots Q (pc + 3) lv st (hu h k j x)) : V E nL A p l e R s m args below meth c cells slots Q pc lv (.int x :: .ref (eA E k) :: st) h := fun H locs ls hP hD hS hl => va_put (ref := own) X.1 X.2.1 X.2.2.2.2.2.1 hin ty0 hty hnm X.2.2.2.2.1 X.2.2.2.2.2.2.2.1.1 hP hD hS k (hF.1 h) hc j hj (X.2.2.2.2.2.1 _ hlink) (fun x hx => by rw [hT] at hx; exact hx) hfin hd0 hn hfit (List.getElem?_eq_some_iff.mp (hF.2.1 h)).1 hd (fun H1 locs1 hP1 hD1 hS1 => by
  rw [hF.2.2] at hP1 hD1
  exact kk H1 locs1 ls hP1 hD1 hS1 hl)
theorem V_copyi (X : XC E own cc nL ret A p s m args meth c) {index k0 k1 n0 n1 : Nat} {sp dp n : Int32} (hA0 : AR E k0 (eI E) n0) (hA1 : AR E k1 (eI E) n1) (hlink : Cond.methodLink own index arraycopyName ∈ LW) (hnat : Cond.native arraycopyName ∈ LW) (hstat : Cond.static arraycopyName ∈ LW) (hini : Cond.initialized "java/lang/System" ∈ LW) (g1 : ¬ sp < 0) (g2 : ¬ dp < 0) (g3 : ¬ n < 0) (g4 : sp.toNatClampNeg + n.toNatClampNeg ≤ n0) (g5 : dp.toNatClampNeg + n.toNatClampNeg ≤ n1) (hfr : 1 ≤ R.frames) (hlo : (st.map fun v => v.category).sum + (nativeFrameWords "java/lang/System" "arraycopy" 5 + 11) ≤ R.locals) (hd : decode cc pc = .ok (.invokestatic index, 3)) (kk : V E nL A p l e R s m args below meth c cells slots Q (pc + 3) lv st (hf h k1 (va_cpy (h k0) (h k1) sp.toNatClampNeg dp.toNatClampNeg n.toNatClampNeg))) : V E nL A p l e R s m args below meth c cells slots Q pc lv (.int n :: .int dp :: .ref (eA E k1) :: .int sp :: .ref (eA E k0) :: st) h := fun H locs ls hP hD hS hl => va_copyi X.1 X.2.1 (X.2.2.2.1.trans hl.1.symm) X.2.2.2.2.1 (X.2.2.2.2.2.1 _ hlink) (X.2.2.2.2.2.1 _ hnat) (X.2.2.2.2.2.1 _ hstat) (X.2.2.2.2.2.1 _ hini) X.2.2.2.2.2.2.2.1.1 hP hD hS k0 k1 0 0 (hA0.1 h) (hA1.1 h) rfl rfl rfl g1 g2 g3 g4 g5 (fun _ _ => rfl) hfr hlo hd (fun H1 locs1 hP1 hD1 hS1 => by
  rw [hA1.2] at hP1 hD1
  exact kk H1 locs1 ls hP1 hD1 hS1 hl)
theorem V_mmin (X : XC E own cc nL ret A p s m args meth c) {index : Nat} {x y : Int32} (hlink : Cond.methodLink own index Lib.Math.min.name ∈ LW) (hstat : Cond.static Lib.Math.min.name ∈ LW) (hini : Cond.initialized "java/lang/Math" ∈ LW) (hcode : Cond.code Lib.Math.min.name Lib.Math.min.code 2 (some .int) ∈ LW) (hfr : 1 ≤ R.frames) (hlo : (st.map fun v => v.category).sum + 13 ≤ R.locals) (hcs : cells ≤ R.cells ∧ slots ≤ R.slots) (hd : decode cc pc = .ok (.invokestatic index, 3)) (kk : V E nL A p l e R s m args below meth c cells slots Q (pc + 3) lv (.int (if y < x then y else x) :: st) h) : V E nL A p l e R s m args below meth c cells slots Q pc lv (.int y :: .int x :: st) h := fun H locs ls hP hD hS hl => va_mmin X.1 X.2.1 (X.2.2.2.1.trans hl.1.symm) X.2.2.2.2.1 (X.2.2.2.2.2.1 _ hlink) (X.2.2.2.2.2.1 _ hstat) (X.2.2.2.2.2.1 _ hini) (X.2.2.2.2.2.1 _ hcode) hfr hlo hcs.1 hcs.2 hd (kk H locs ls hP hD hS hl)
theorem V_mmax (X : XC E own cc nL ret A p s m args meth c) {index : Nat} {x y : Int32} (hlink : Cond.methodLink own index Lib.Math.max.name ∈ LW) (hstat : Cond.static Lib.Math.max.name ∈ LW) (hini : Cond.initialized "java/lang/Math" ∈ LW) (hcode : Cond.code Lib.Math.max.name Lib.Math.max.code 2 (some .int) ∈ LW) (hfr : 1 ≤ R.frames) (hlo : (st.map fun v => v.category).sum + 13 ≤ R.locals) (hcs : cells ≤ R.cells ∧ slots ≤ R.slots) (hd : decode cc pc = .ok (.invokestatic index, 3)) (kk : V E nL A p l e R s m args below meth c cells slots Q (pc + 3) lv (.int (if x < y then y else x) :: st) h) : V E nL A p l e R s m args below meth c cells slots Q pc lv (.int y :: .int x :: st) h := fun H locs ls hP hD hS hl => va_mmax X.1 X.2.1 (X.2.2.2.1.trans hl.1.symm) X.2.2.2.2.1 (X.2.2.2.2.2.1 _ hlink) (X.2.2.2.2.2.1 _ hstat) (X.2.2.2.2.2.1 _ hini) (X.2.2.2.2.2.1 _ hcode) hfr hlo hcs.1 hcs.2 hd (kk H locs ls hP hD hS hl)
theorem V_gsw (X : XC E own cc nL ret A p s m args meth c) {index : Nat} (hlink : Cond.fieldLink own index RX1 "SWEEP_ORDER" "[I" ∈ LW) (hd : decode cc pc = .ok (.getstatic index, 3)) (kk : V E nL A p l e R s m args below meth c cells slots Q (pc + 3) lv (.ref (eT E) :: st) h) : V E nL A p l e R s m args below meth c cells slots Q pc lv st h := fun H locs ls hP hD hS hl => va_gets (ref := RX1) X.1 X.2.1 X.2.2.2.2.2.2.2.1.2.2.1 hS X.2.2.2.2.1 (X.2.2.2.2.2.1 _ hlink) (fun _ q => q) hd (kk H locs ls hP hD hS hl)
theorem V_tlen (X : XC E own cc nL ret A p s m args meth c) (hd : decode cc pc = .ok (.arraylength, 1)) (kk : V E nL A p l e R s m args below meth c cells slots Q (pc + 1) lv (.int 4 :: st) h) : V E nL A p l e R s m args below meth c cells slots Q pc lv (.ref (eT E) :: st) h := fun H locs ls hP hD hS hl => va_tlen X.1 X.2.1 X.2.2.2.2.2.2.2.1.2.2.2.1 hS (by decide) hd (kk H locs ls hP hD hS hl)
theorem V_tiald (X : XC E own cc nL ret A p s m args meth c) {i : Int32} (hin : inB i 4 = true) (hd : decode cc pc = .ok (.iaload, 1)) (kk : V E nL A p l e R s m args below meth c cells slots Q (pc + 1) lv (.int (swo.getD i.toNatClampNeg 0) :: st) h) : V E nL A p l e R s m args below meth c cells slots Q pc lv (.int i :: .ref (eT E) :: st) h := fun H locs ls hP hD hS hl => va_ti X.1 X.2.1 X.2.2.2.2.2.2.2.1.2.2.2.1 hS (inB_in hin) rfl hd (kk H locs ls hP hD hS hl)
/-- what is said of a method by name: its code is known, where it is called from -/
def YS (y : MethodName) (cc : ByteArray) (nL : Nat) (ret : Option FieldType) (n : Nat) : Prop := Cond.code y cc nL ret ∈ LW ∧ Cond.initialized y.cls ∈ LW ∧ (y.cls ≠ "java/lang/invoke/MethodHandle" ∧ y.cls ≠ "java/lang/invoke/VarHandle" ∧ (parseMethodDescriptor y.desc).map (fun d => d.parameters.length) = some n)
theorem LW_goodC {y : MethodName} {cc : ByteArray} {nL : Nat} {ret : Option FieldType} (h : Cond.code y cc nL ret ∈ LW) : GoodIn LW (.code y cc nL ret :: LW) := fun w hw => (List.mem_cons.mp hw).elim (fun q => LW_good w (q ▸ h)) (LW_good w)
theorem PreS_of (X : XC E own cc nL ret A p s m args meth c) {H : Heap} {locs : List Loc} {As : List Value} (hP : va_P (eD E) vwCl (wld E h) H) (hD : va_D A (wld E h)) (hS : va_S A s.heap H locs) (hAA : ∀ q, va_A (wld E h) H.size q → A q) : PreS s H (Pre E h H.size As) As := ⟨fun a U g mk q => ⟨q.1, q.2.1, q.2.2.1, CP.blind g mk q.2.2.2.1, q.2.2.2.2⟩, fun U hU hW => ⟨rfl, by rw [hU], by rw [hU]; exact hP, CP.warm (H0 := H) X.2.2.2.2.2.2.2.1 hW (by rw [hU]; exact hS) hAA, hD.weaken (fun _ _ _ _ => trivial)⟩⟩
theorem V_AA (X : XC E own cc nL ret A p s m args meth c) {H : Heap} {locs : List Loc} (hD : va_D A (wld E h)) (hS : va_S A s.heap H locs) : ∀ q, va_A (wld E h) H.size q → A q := by
  intro q hq
  rcases hq with ⟨k, e, hk⟩ | hq
  · exact hD.2 k (q, e) hk
  · exact X.2.2.2.2.2.2.2.2 q (Nat.le_trans hS.1 hq)
theorem wld_addr {i : Nat} {a : Nat} {e : va_E} (hk : (wld E h)[i]? = some (a, e)) : ∃ e' : va_E, (wld E h')[i]? = some (a, e') := by
  match i with
  | 0 => cases hk; exact ⟨_, rfl⟩
  | 1 => cases hk; exact ⟨_, rfl⟩
  | 2 => cases hk; exact ⟨_, rfl⟩
  | 3 => cases hk; exact ⟨_, rfl⟩
  | 4 => cases hk; exact ⟨_, rfl⟩
  | 5 => cases hk; exact ⟨_, rfl⟩
  | 6 => cases hk; exact ⟨_, rfl⟩
  | 7 => cases hk; exact ⟨_, rfl⟩
  | 8 => cases hk; exact ⟨_, rfl⟩
  | 9 => cases hk; exact ⟨_, rfl⟩
  | 10 => cases hk; exact ⟨_, rfl⟩
  | 11 => cases hk; exact ⟨_, rfl⟩
  | 12 => cases hk; exact ⟨_, rfl⟩
  | 13 => cases hk; exact ⟨_, rfl⟩
  | 14 => cases hk; exact ⟨_, rfl⟩
  | 15 => cases hk; exact ⟨_, rfl⟩
  | 16 => cases hk; exact ⟨_, rfl⟩
  | 17 => cases hk; exact ⟨_, rfl⟩
  | 18 => cases hk; exact ⟨_, rfl⟩
  | 19 => cases hk; exact ⟨_, rfl⟩
  | 20 => cases hk; exact ⟨_, rfl⟩
  | 21 => cases hk; exact ⟨_, rfl⟩
  | i + 22 => simp [wld] at hk
theorem wld_A {sz q : Nat} (hq : va_A (wld E h') sz q) : va_A (wld E h) sz q := by
  rcases hq with ⟨k, e, hk⟩ | hq
  · obtain ⟨e2, h2⟩ := wld_addr (h' := h) hk
    exact Or.inl ⟨k, e2, h2⟩
  · exact Or.inr hq
theorem V_callSi (X : XC E own cc nL ret A p s m args meth c) {d maxL index n : Nat} {y : MethodName} {bytes : ByteArray} {ret' : Option FieldType} {r : Int32} {As : List Value} {h1 : Hp} {stk : List Value} (hM : SMi l E d y bytes maxL ret' As h r h1) (hY : YS y bytes maxL ret' n) (hw : Cond.static y ∈ LW) (hl0 : Cond.methodLink own index y ∈ LW) (hn : As.length = n) (hstk : As.reverse ++ st = stk) (hR : d + 1 ≤ R.frames ∧ 8 + (maxL + 11) + 40 * d ≤ R.locals) (hcs : cells ≤ R.cells ∧ slots ≤ R.slots) (hst : (st.map fun v => v.category).sum ≤ 8) (hd : decode cc pc = .ok (.invokestatic index, 3)) (kk : V E nL A p l e R s m args below meth c cells slots Q (pc + 3) lv (.int r :: st) h1) : V E nL A p l e R s m args below meth c cells slots Q pc lv stk h := fun H locs ls hP hD hS hl => by
  subst hstk
  have hAA := V_AA X hD hS
  refine va_calli (va_runS (As := As) (rest := st) (mc := 0) (ms := 0) ⟨X.1, X.2.1, X.2.2.2.1, X.2.2.2.2.1, X.2.2.2.2.2.1⟩ (hM H.size) (⟨callB_of n X.2.2.2.2.2.1 (LW_goodC hY.1) rfl (rfl : (rm d).cells = 0) (rfl : (rm d).slots = 0) (X.2.2.2.2.2.1 _ hY.2.1) (X.2.2.2.2.2.1 _ hl0) hY.2.2 hR, X.2.2.2.2.2.1 _ hw⟩) (PreS_of X hP hD hS (V_AA X hD hS)) rfl hn hl.1 rfl (lv_room hst) hd ⟨hcs.1, hcs.2⟩) hS (fun q _ hq => hAA q hq) hAA (fun r1 u t H1 locs1 ht hvm hpost hB hz1 hk1 hS1 => ?_)
  obtain ⟨rfl, rfl⟩ := hpost
  obtain ⟨hP1, hD1⟩ := hB
  rw [ht] at hP1
  exact kk H1 locs1 ls hP1 (hD1.weaken (fun _ q _ hq => hAA q.1 hq)) hS1 hl
theorem V_callSv (X : XC E own cc nL ret A p s m args meth c) {d maxL index n : Nat} {y : MethodName} {bytes : ByteArray} {As : List Value} {h1 : Hp} {stk : List Value} (hM : SMv l E d y bytes maxL As h h1) (hY : YS y bytes maxL none n) (hw : Cond.static y ∈ LW) (hl0 : Cond.methodLink own index y ∈ LW) (hn : As.length = n) (hstk : As.reverse ++ st = stk) (hR : d + 1 ≤ R.frames ∧ 8 + (maxL + 11) + 40 * d ≤ R.locals) (hcs : cells ≤ R.cells ∧ slots ≤ R.slots) (hst : (st.map fun v => v.category).sum ≤ 8) (hd : decode cc pc = .ok (.invokestatic index, 3)) (kk : V E nL A p l e R s m args below meth c cells slots Q (pc + 3) lv st h1) : V E nL A p l e R s m args below meth c cells slots Q pc lv stk h := fun H locs ls hP hD hS hl => by
  subst hstk
  have hAA := V_AA X hD hS
  refine va_callv (va_runS (As := As) (rest := st) (mc := 0) (ms := 0) ⟨X.1, X.2.1, X.2.2.2.1, X.2.2.2.2.1, X.2.2.2.2.2.1⟩ (hM H.size) (⟨callB_of n X.2.2.2.2.2.1 (LW_goodC hY.1) rfl (rfl : (rm d).cells = 0) (rfl : (rm d).slots = 0) (X.2.2.2.2.2.1 _ hY.2.1) (X.2.2.2.2.2.1 _ hl0) hY.2.2 hR, X.2.2.2.2.2.1 _ hw⟩) (PreS_of X hP hD hS (V_AA X hD hS)) rfl hn hl.1 rfl (lv_room hst) hd ⟨hcs.1, hcs.2⟩) hS (fun q _ hq => hAA q hq) hAA (fun u t H1 locs1 ht hvm hpost hB hz1 hk1 hS1 => ?_)
  subst hpost
  obtain ⟨hP1, hD1⟩ := hB
  rw [ht] at hP1
  exact kk H1 locs1 ls hP1 (hD1.weaken (fun _ q _ hq => hAA q.1 hq)) hS1 hl
theorem V_callVi (X : XC E own cc nL ret A p s m args meth c) {d maxL index n : Nat} {y : MethodName} {bytes : ByteArray} {ret' : Option FieldType} {r : Int32} {As : List Value} {h1 : Hp} {stk : List Value} {b0 ci : Nat} {fs : List Value} {q0 : vw_C} (he : (wld E h)[b0]? = some (eA E b0, .inr (ci, fs))) (hc : vwCl[ci]? = some q0) (hC : q0.1 = y.cls) (hM : SMi l E d y bytes maxL ret' (.ref (eA E b0) :: As) h r h1) (hY : YS y bytes maxL ret' n) (hw : Cond.instanceMethod y ∈ LW ∧ Cond.selects y.cls y y ∈ LW) (hl0 : Cond.methodLink own index y ∈ LW) (hn : As.length = n) (hstk : As.reverse ++ .ref (eA E b0) :: st = stk) (hR : d + 1 ≤ R.frames ∧ 8 + (maxL + 11) + 40 * d ≤ R.locals) (hcs : cells ≤ R.cells ∧ slots ≤ R.slots) (hst : (st.map fun v => v.category).sum ≤ 8) (hd : decode cc pc = .ok (.invokevirtual index, 3)) (kk : V E nL A p l e R s m args below meth c cells slots Q (pc + 3) lv (.int r :: st) h1) : V E nL A p l e R s m args below meth c cells slots Q pc lv stk h := fun H locs ls hP hD hS hl => by
  subst hstk
  have hAA := V_AA X hD hS
  refine va_calli (va_runV (C := y.cls) (As := As) (rest := st) (mc := 0) (ms := 0) ⟨X.1, X.2.1, X.2.2.2.1, X.2.2.2.2.1, X.2.2.2.2.2.1⟩ (hM H.size) (⟨callB_of n X.2.2.2.2.2.1 (LW_goodC hY.1) rfl (rfl : (rm d).cells = 0) (rfl : (rm d).slots = 0) (X.2.2.2.2.2.1 _ hY.2.1) (X.2.2.2.2.2.1 _ hl0) hY.2.2 hR, X.2.2.2.2.2.1 _ hw.1, X.2.2.2.2.2.1 _ hw.2⟩) (⟨(PreS_of X hP hD hS (V_AA X hD hS)).1, by obtain ⟨cell, z1, z2, z3⟩ := va_recv X.2.2.2.2.2.2.2.1.1 hP hc he; exact ⟨cell, z1, z2, by rw [← hC]; exact z3⟩, (PreS_of (As := .ref (eA E b0) :: As) X hP hD hS (V_AA X hD hS)).2⟩) rfl hn hl.1 rfl (lv_room hst) hd ⟨hcs.1, hcs.2⟩) hS (fun q _ hq => hAA q hq) hAA (fun r1 u t H1 locs1 ht hvm hpost hB hz1 hk1 hS1 => ?_)
  obtain ⟨rfl, rfl⟩ := hpost
  obtain ⟨hP1, hD1⟩ := hB
  rw [ht] at hP1
  exact kk H1 locs1 ls hP1 (hD1.weaken (fun _ q _ hq => hAA q.1 hq)) hS1 hl
theorem V_callVv (X : XC E own cc nL ret A p s m args meth c) {d maxL index n : Nat} {y : MethodName} {bytes : ByteArray} {As : List Value} {h1 : Hp} {stk : List Value} {b0 ci : Nat} {fs : List Value} {q0 : vw_C} (he : (wld E h)[b0]? = some (eA E b0, .inr (ci, fs))) (hc : vwCl[ci]? = some q0) (hC : q0.1 = y.cls) (hM : SMv l E d y bytes maxL (.ref (eA E b0) :: As) h h1) (hY : YS y bytes maxL none n) (hw : Cond.instanceMethod y ∈ LW ∧ Cond.selects y.cls y y ∈ LW) (hl0 : Cond.methodLink own index y ∈ LW) (hn : As.length = n) (hstk : As.reverse ++ .ref (eA E b0) :: st = stk) (hR : d + 1 ≤ R.frames ∧ 8 + (maxL + 11) + 40 * d ≤ R.locals) (hcs : cells ≤ R.cells ∧ slots ≤ R.slots) (hst : (st.map fun v => v.category).sum ≤ 8) (hd : decode cc pc = .ok (.invokevirtual index, 3)) (kk : V E nL A p l e R s m args below meth c cells slots Q (pc + 3) lv st h1) : V E nL A p l e R s m args below meth c cells slots Q pc lv stk h := fun H locs ls hP hD hS hl => by
  subst hstk
  have hAA := V_AA X hD hS
  refine va_callv (va_runV (C := y.cls) (As := As) (rest := st) (mc := 0) (ms := 0) ⟨X.1, X.2.1, X.2.2.2.1, X.2.2.2.2.1, X.2.2.2.2.2.1⟩ (hM H.size) (⟨callB_of n X.2.2.2.2.2.1 (LW_goodC hY.1) rfl (rfl : (rm d).cells = 0) (rfl : (rm d).slots = 0) (X.2.2.2.2.2.1 _ hY.2.1) (X.2.2.2.2.2.1 _ hl0) hY.2.2 hR, X.2.2.2.2.2.1 _ hw.1, X.2.2.2.2.2.1 _ hw.2⟩) (⟨(PreS_of X hP hD hS (V_AA X hD hS)).1, by obtain ⟨cell, z1, z2, z3⟩ := va_recv X.2.2.2.2.2.2.2.1.1 hP hc he; exact ⟨cell, z1, z2, by rw [← hC]; exact z3⟩, (PreS_of (As := .ref (eA E b0) :: As) X hP hD hS (V_AA X hD hS)).2⟩) rfl hn hl.1 rfl (lv_room hst) hd ⟨hcs.1, hcs.2⟩) hS (fun q _ hq => hAA q hq) hAA (fun u t H1 locs1 ht hvm hpost hB hz1 hk1 hS1 => ?_)
  subst hpost
  obtain ⟨hP1, hD1⟩ := hB
  rw [ht] at hP1
  exact kk H1 locs1 ls hP1 (hD1.weaken (fun _ q _ hq => hAA q.1 hq)) hS1 hl
theorem V_callSNi (X : XC E own cc nL ret A p s m args meth c) {d maxL index n : Nat} {y : MethodName} {bytes : ByteArray} {ret' : Option FieldType} {r : Int32} {host : String} {As : List Value} {h1 : Hp} {stk : List Value} (hM : SMi l E d y bytes maxL ret' As h r h1) (hY : YS y bytes maxL ret' n) (hw : Cond.static y ∈ LW) (hl0 : Cond.methodLinkNest own index y host ∈ nestL) (hn : As.length = n) (hstk : As.reverse ++ st = stk) (hR : d + 1 ≤ R.frames ∧ 8 + (maxL + 11) + 40 * d ≤ R.locals) (hcs : cells ≤ R.cells ∧ slots ≤ R.slots) (hst : (st.map fun v => v.category).sum ≤ 8) (hd : decode cc pc = .ok (.invokestatic index, 3)) (kk : V E nL A p l e R s m args below meth c cells slots Q (pc + 3) lv (.int r :: st) h1) : V E nL A p l e R s m args below meth c cells slots Q pc lv stk h := fun H locs ls hP hD hS hl => by
  subst hstk
  have hAA := V_AA X hD hS
  refine va_calli (va_runSN (As := As) (rest := st) (mc := 0) (ms := 0) ⟨X.1, X.2.1, X.2.2.2.1, X.2.2.2.2.1, X.2.2.2.2.2.1⟩ (hM H.size) (⟨va_cnB n X.2.2.2.2.2.1 (LW_goodC hY.1) rfl (rfl : (rm d).cells = 0) (rfl : (rm d).slots = 0) (X.2.2.2.2.2.2.2.1.2.1 _ hl0) (X.2.2.2.2.2.1 _ hY.2.1) hY.2.2 hR, X.2.2.2.2.2.1 _ hw, trivial⟩) (PreS_of X hP hD hS (V_AA X hD hS)) rfl hn hl.1 rfl (lv_room hst) hd ⟨hcs.1, hcs.2⟩) hS (fun q _ hq => hAA q hq) hAA (fun r1 u t H1 locs1 ht hvm hpost hB hz1 hk1 hS1 => ?_)
  obtain ⟨rfl, rfl⟩ := hpost
  obtain ⟨hP1, hD1⟩ := hB
  rw [ht] at hP1
  exact kk H1 locs1 ls hP1 (hD1.weaken (fun _ q _ hq => hAA q.1 hq)) hS1 hl
theorem V_callSNv (X : XC E own cc nL ret A p s m args meth c) {d maxL index n : Nat} {y : MethodName} {bytes : ByteArray} {host : String} {As : List Value} {h1 : Hp} {stk : List Value} (hM : SMv l E d y bytes maxL As h h1) (hY : YS y bytes maxL none n) (hw : Cond.static y ∈ LW) (hl0 : Cond.methodLinkNest own index y host ∈ nestL) (hn : As.length = n) (hstk : As.reverse ++ st = stk) (hR : d + 1 ≤ R.frames ∧ 8 + (maxL + 11) + 40 * d ≤ R.locals) (hcs : cells ≤ R.cells ∧ slots ≤ R.slots) (hst : (st.map fun v => v.category).sum ≤ 8) (hd : decode cc pc = .ok (.invokestatic index, 3)) (kk : V E nL A p l e R s m args below meth c cells slots Q (pc + 3) lv st h1) : V E nL A p l e R s m args below meth c cells slots Q pc lv stk h := fun H locs ls hP hD hS hl => by
  subst hstk
  have hAA := V_AA X hD hS
  refine va_callv (va_runSN (As := As) (rest := st) (mc := 0) (ms := 0) ⟨X.1, X.2.1, X.2.2.2.1, X.2.2.2.2.1, X.2.2.2.2.2.1⟩ (hM H.size) (⟨va_cnB n X.2.2.2.2.2.1 (LW_goodC hY.1) rfl (rfl : (rm d).cells = 0) (rfl : (rm d).slots = 0) (X.2.2.2.2.2.2.2.1.2.1 _ hl0) (X.2.2.2.2.2.1 _ hY.2.1) hY.2.2 hR, X.2.2.2.2.2.1 _ hw, trivial⟩) (PreS_of X hP hD hS (V_AA X hD hS)) rfl hn hl.1 rfl (lv_room hst) hd ⟨hcs.1, hcs.2⟩) hS (fun q _ hq => hAA q hq) hAA (fun u t H1 locs1 ht hvm hpost hB hz1 hk1 hS1 => ?_)
  subst hpost
  obtain ⟨hP1, hD1⟩ := hB
  rw [ht] at hP1
  exact kk H1 locs1 ls hP1 (hD1.weaken (fun _ q _ hq => hAA q.1 hq)) hS1 hl
theorem V_callVNi (X : XC E own cc nL ret A p s m args meth c) {d maxL index n : Nat} {y : MethodName} {bytes : ByteArray} {ret' : Option FieldType} {r : Int32} {host : String} {As : List Value} {h1 : Hp} {stk : List Value} {b0 ci : Nat} {fs : List Value} {q0 : vw_C} (he : (wld E h)[b0]? = some (eA E b0, .inr (ci, fs))) (hc : vwCl[ci]? = some q0) (hC : q0.1 = y.cls) (hM : SMi l E d y bytes maxL ret' (.ref (eA E b0) :: As) h r h1) (hY : YS y bytes maxL ret' n) (hw : Cond.instanceMethod y ∈ LW ∧ Cond.selects y.cls y y ∈ LW) (hl0 : Cond.methodLinkNest own index y host ∈ nestL) (hn : As.length = n) (hstk : As.reverse ++ .ref (eA E b0) :: st = stk) (hR : d + 1 ≤ R.frames ∧ 8 + (maxL + 11) + 40 * d ≤ R.locals) (hcs : cells ≤ R.cells ∧ slots ≤ R.slots) (hst : (st.map fun v => v.category).sum ≤ 8) (hd : decode cc pc = .ok (.invokevirtual index, 3)) (kk : V E nL A p l e R s m args below meth c cells slots Q (pc + 3) lv (.int r :: st) h1) : V E nL A p l e R s m args below meth c cells slots Q pc lv stk h := fun H locs ls hP hD hS hl => by
  subst hstk
  have hAA := V_AA X hD hS
  refine va_calli (va_runVN (C := y.cls) (As := As) (rest := st) (mc := 0) (ms := 0) ⟨X.1, X.2.1, X.2.2.2.1, X.2.2.2.2.1, X.2.2.2.2.2.1⟩ (hM H.size) (⟨va_cnB n X.2.2.2.2.2.1 (LW_goodC hY.1) rfl (rfl : (rm d).cells = 0) (rfl : (rm d).slots = 0) (X.2.2.2.2.2.2.2.1.2.1 _ hl0) (X.2.2.2.2.2.1 _ hY.2.1) hY.2.2 hR, X.2.2.2.2.2.1 _ hw.1, X.2.2.2.2.2.1 _ hw.2⟩) (⟨(PreS_of X hP hD hS (V_AA X hD hS)).1, by obtain ⟨cell, z1, z2, z3⟩ := va_recv X.2.2.2.2.2.2.2.1.1 hP hc he; exact ⟨cell, z1, z2, by rw [← hC]; exact z3⟩, (PreS_of (As := .ref (eA E b0) :: As) X hP hD hS (V_AA X hD hS)).2⟩) rfl hn hl.1 rfl (lv_room hst) hd ⟨hcs.1, hcs.2⟩) hS (fun q _ hq => hAA q hq) hAA (fun r1 u t H1 locs1 ht hvm hpost hB hz1 hk1 hS1 => ?_)
  obtain ⟨rfl, rfl⟩ := hpost
  obtain ⟨hP1, hD1⟩ := hB
  rw [ht] at hP1
  exact kk H1 locs1 ls hP1 (hD1.weaken (fun _ q _ hq => hAA q.1 hq)) hS1 hl
theorem V_callVNv (X : XC E own cc nL ret A p s m args meth c) {d maxL index n : Nat} {y : MethodName} {bytes : ByteArray} {host : String} {As : List Value} {h1 : Hp} {stk : List Value} {b0 ci : Nat} {fs : List Value} {q0 : vw_C} (he : (wld E h)[b0]? = some (eA E b0, .inr (ci, fs))) (hc : vwCl[ci]? = some q0) (hC : q0.1 = y.cls) (hM : SMv l E d y bytes maxL (.ref (eA E b0) :: As) h h1) (hY : YS y bytes maxL none n) (hw : Cond.instanceMethod y ∈ LW ∧ Cond.selects y.cls y y ∈ LW) (hl0 : Cond.methodLinkNest own index y host ∈ nestL) (hn : As.length = n) (hstk : As.reverse ++ .ref (eA E b0) :: st = stk) (hR : d + 1 ≤ R.frames ∧ 8 + (maxL + 11) + 40 * d ≤ R.locals) (hcs : cells ≤ R.cells ∧ slots ≤ R.slots) (hst : (st.map fun v => v.category).sum ≤ 8) (hd : decode cc pc = .ok (.invokevirtual index, 3)) (kk : V E nL A p l e R s m args below meth c cells slots Q (pc + 3) lv st h1) : V E nL A p l e R s m args below meth c cells slots Q pc lv stk h := fun H locs ls hP hD hS hl => by
  subst hstk
  have hAA := V_AA X hD hS
  refine va_callv (va_runVN (C := y.cls) (As := As) (rest := st) (mc := 0) (ms := 0) ⟨X.1, X.2.1, X.2.2.2.1, X.2.2.2.2.1, X.2.2.2.2.2.1⟩ (hM H.size) (⟨va_cnB n X.2.2.2.2.2.1 (LW_goodC hY.1) rfl (rfl : (rm d).cells = 0) (rfl : (rm d).slots = 0) (X.2.2.2.2.2.2.2.1.2.1 _ hl0) (X.2.2.2.2.2.1 _ hY.2.1) hY.2.2 hR, X.2.2.2.2.2.1 _ hw.1, X.2.2.2.2.2.1 _ hw.2⟩) (⟨(PreS_of X hP hD hS (V_AA X hD hS)).1, by obtain ⟨cell, z1, z2, z3⟩ := va_recv X.2.2.2.2.2.2.2.1.1 hP hc he; exact ⟨cell, z1, z2, by rw [← hC]; exact z3⟩, (PreS_of (As := .ref (eA E b0) :: As) X hP hD hS (V_AA X hD hS)).2⟩) rfl hn hl.1 rfl (lv_room hst) hd ⟨hcs.1, hcs.2⟩) hS (fun q _ hq => hAA q hq) hAA (fun u t H1 locs1 ht hvm hpost hB hz1 hk1 hS1 => ?_)
  subst hpost
  obtain ⟨hP1, hD1⟩ := hB
  rw [ht] at hP1
  exact kk H1 locs1 ls hP1 (hD1.weaken (fun _ q _ hq => hAA q.1 hq)) hS1 hl
theorem V_iret (X : XC E own cc nL ret A p s m args meth c) {v r : Int32} (hret : ret = some .int) (hf0 : (some (v, h) : Re) = some (r, h')) (hd : decode cc pc = .ok (.ireturn, 1)) : V E nL A p l e R s m args below meth c cells slots (MQ below (Qi E A r h') args s cells slots A) pc lv [.int v] h := fun H locs ls hP hD hS hl => by
  cases hf0
  exact W.iret X.1 X.2.1 (X.2.2.1.trans hret) (fun t ht hW => ⟨⟨v, h, rfl, ⟨rfl, rfl⟩, by rw [ht]; exact hP, hD⟩, hS.F ht⟩) hS.2.2 hd X.2.2.2.2.2.2.1
theorem V_zret (X : XC E own cc nL ret A p s m args meth c) {v r : Int32} (hret : ret = some .boolean) (hf0 : rz v h = some (r, h')) (hd : decode cc pc = .ok (.ireturn, 1)) : V E nL A p l e R s m args below meth c cells slots (MQ below (Qi E A r h') args s cells slots A) pc lv [.int v] h := fun H locs ls hP hD hS hl => by
  unfold rz at hf0
  by_cases hz : v = 0 ∨ v = 1
  · rw [if_pos hz] at hf0
    cases hf0
    exact W.zret X.1 X.2.1 (X.2.2.1.trans hret) (by rcases hz with rfl | rfl <;> rfl) (fun t ht hW => ⟨⟨v, h, rfl, ⟨rfl, rfl⟩, by rw [ht]; exact hP, hD⟩, hS.F ht⟩) hS.2.2 hd X.2.2.2.2.2.2.1
  · rw [if_neg hz] at hf0
    cases hf0
theorem V_vret (X : XC E own cc nL ret A p s m args meth c) {v r : Int32} (hret : ret = none) (hf0 : (some (v, h) : Re) = some (r, h')) (hd : decode cc pc = .ok (.return_, 1)) : V E nL A p l e R s m args below meth c cells slots (MQ below (Qv E A h') args s cells slots A) pc lv [] h := fun H locs ls hP hD hS hl => by
  cases hf0
  exact W.vret X.1 X.2.1 (X.2.2.1.trans hret) (fun t ht hW => ⟨⟨h, rfl, rfl, by rw [ht]; exact hP, hD⟩, hS.F ht⟩) hS.2.2 hd X.2.2.2.2.2.2.1
end VR
theorem SMi.of {l : Launch} {E : EN} {d : Nat} {y : MethodName} {cc : ByteArray} {nL : Nat} {ret : Option FieldType} {As : List Value} {h h' : Hp} {r : Int32} (hy : plainName y.cls = true) (hn : (lg_sl As).length ≤ nL)
    (body : ∀ (p : Program) (e : Env) (s : State) (m : MethodId) (args : Array Value) (below : List Frame) (meth : Method) (c : Code) (A : Nat → Prop), XC E y.cls cc nL ret A p s m args meth c → V E nL A p l e (rm d) s m args below meth c 0 0 (MQ below (Qi E A r h') args s 0 0 A) 0 (lv_args 0 As) [] h) : SMi l E d y cc nL ret As h r h' := by
  intro sz
  refine Met.ofW (cc := cc) (maxL := nL) (ret := ret) hy rfl ?_
  intro p e s m args below meth c s₁ B hml hv
  obtain ⟨rfl, hsz, hP, hK, hD0⟩ := hv
  have hts := atoms_spec (ws := .code y cc nL ret :: LW) B.pre
  subst hsz
  have hl := lv_entry As hn
  rw [lg_entry_eq]
  exact body p e s m As.toArray below meth c _ ⟨B.exec, B.bytes, B.returns, hml, findClass_of_methodNamed B.named, fun w hw => hts w (List.mem_cons_of_mem _ hw), B.notSynchronized, hK, fun q hq => Or.inr hq⟩ s.heap [] _ hP hD0.self va_S.rf hl
theorem SMv.of {l : Launch} {E : EN} {d : Nat} {y : MethodName} {cc : ByteArray} {nL : Nat} {As : List Value} {h h' : Hp} (hy : plainName y.cls = true) (hn : (lg_sl As).length ≤ nL)
    (body : ∀ (p : Program) (e : Env) (s : State) (m : MethodId) (args : Array Value) (below : List Frame) (meth : Method) (c : Code) (A : Nat → Prop), XC E y.cls cc nL none A p s m args meth c → V E nL A p l e (rm d) s m args below meth c 0 0 (MQ below (Qv E A h') args s 0 0 A) 0 (lv_args 0 As) [] h) : SMv l E d y cc nL As h h' := by
  intro sz
  refine Met.ofW (cc := cc) (maxL := nL) (ret := none) hy rfl ?_
  intro p e s m args below meth c s₁ B hml hv
  obtain ⟨rfl, hsz, hP, hK, hD0⟩ := hv
  have hts := atoms_spec (ws := .code y cc nL none :: LW) B.pre
  subst hsz
  have hl := lv_entry As hn
  rw [lg_entry_eq]
  exact body p e s m As.toArray below meth c _ ⟨B.exec, B.bytes, B.returns, hml, findClass_of_methodNamed B.named, fun w hw => hts w (List.mem_cons_of_mem _ hw), B.notSynchronized, hK, fun q hq => Or.inr hq⟩ s.heap [] _ hP hD0.self va_S.rf hl
