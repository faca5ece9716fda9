section DM
variable {E : EN} {A : Nat → Prop} {p : Program} {l : Launch} {e : Env} {s : State} {m : MethodId} {args : Array Value} {below : List Frame} {meth : Method} {c : Code} {r : Int32} {h' : Hp}
def f3_firstFault_j96 (k4 : Int32 → Int32 → Hp → Re) (x1 : Int32) (x2 : Int32) (h : Hp) : Re :=
  (f4_length  h).bind fun c1 => if x1 = c1.1 then (some ((-6), c1.2)) else ((f4_sign x1 c1.2).bind fun c4 => if c4.1 = 59 then (k4 (x1 + 1) (x2 + 1) c4.2) else (some (x1, c4.2)))
set_option maxRecDepth 20000 in
set_option maxHeartbeats 4000000 in
theorem f3_firstFault_j96_ok (hE : IW E) (X : XC E RX3 cX3_firstFault 5 (some .int) A p s m args meth c) {k4 : Int32 → Int32 → Hp → Re} (hk4 : ∀ (x1 : Int32) (x2 : Int32) (h : Hp), k4 x1 x2 h = some (r, h') → VM E 5 A p l e 4 s m args below meth c (Qi E A r h') 4 [(0, .ref (eA E 10)), (1, .int x1), (2, .int x2)] [] h) {x1 : Int32} {x2 : Int32} {h : Hp} (hf0 : f3_firstFault_j96 k4 x1 x2 h = some (r, h')) : VM E 5 A p l e 4 s m args below meth c (Qi E A r h') 96 [(0, .ref (eA E 10)), (1, .int x1), (2, .int x2)] [] h := by
  unfold f3_firstFault_j96 at hf0
  have hf1 := hf0
  refine V_iload_n X 1 rfl dX3_firstFault_96 ?_
  refine V_aload_n X 0 rfl dX3_firstFault_97 ?_
  obtain ⟨c1, e_c1, hf3⟩ := obd hf1
  refine V_callVi X (OB_10 hE) rfl rfl (f4_length_ok hE e_c1) ys_X4_length yw_X4_length ml_X3_43 rfl rfl ⟨Nat.le_of_ble_eq_true rfl, Nat.le_of_ble_eq_true rfl⟩ ⟨Nat.zero_le _, Nat.zero_le _⟩ (Nat.le_of_ble_eq_true rfl) dX3_firstFault_98 ?_
  refine V_icmp_ne X (tgt := 107) (by decide) dX3_firstFault_101 (fun q101 => ?_) (fun q101 => ?_)
  · have hf4 := ife hf3 q101
    refine V_aload_n X 0 rfl dX3_firstFault_107 ?_
    refine V_iload_n X 1 rfl dX3_firstFault_108 ?_
    obtain ⟨c4, e_c4, hf6⟩ := obd hf4
    refine V_callVi X (OB_10 hE) rfl rfl (f4_sign_ok hE e_c4) ys_X4_sign yw_X4_sign ml_X3_11 rfl rfl ⟨Nat.le_of_ble_eq_true rfl, Nat.le_of_ble_eq_true rfl⟩ ⟨Nat.zero_le _, Nat.zero_le _⟩ (Nat.le_of_ble_eq_true rfl) dX3_firstFault_109 ?_
    refine V_bipush X (v := 59) (by decide) dX3_firstFault_112 ?_
    refine V_icmp_eq X (tgt := 119) (by decide) dX3_firstFault_114 (fun q114 => ?_) (fun q114 => ?_)
    · have hf7 := ift hf6 q114
      refine V_iinc X (v := _ + 1) 1 rfl (by rfl) (by decide) rfl dX3_firstFault_119 ?_
      refine V_iinc X (v := _ + 1) 2 rfl (by rfl) (by decide) rfl dX3_firstFault_122 ?_
      refine V_goto X (tgt := 4) (by decide) dX3_firstFault_125 ?_
      exact V_sub [2, 1, 0] rfl (hk4 _ _ _ hf7)
    · have hf7 := ife hf6 q114
      refine V_iload_n X 1 rfl dX3_firstFault_117 ?_
      exact V_iret X rfl hf7 dX3_firstFault_118
  · have hf4 := ift hf3 q101
    refine V_bipush X (v := -6) (by decide) dX3_firstFault_104 ?_
    exact V_iret X rfl hf4 dX3_firstFault_106
def f3_firstFault_B31 (k4 : Int32 → Int32 → Hp → Re) (k31 : Int32 → Int32 → Nat → Int32 → Hp → Re) (x1 : Int32) (x2 : Int32) (x3 : Nat) (x4 : Int32) (h : Hp) : Re :=
  if x3 < 7 then if (Int32.ofNat (sLen x3)) ≤ x4 then (if x3 < 7 then if x3 < 7 ∧ inB ((Int32.ofNat (sLen x3)) - 1) (sLen x3) = true then if (sCh x3 (Int32.toNatClampNeg ((Int32.ofNat (sLen x3)) - 1))) = 78 then ((f3_hasSecondDigit (x1 - 1) h).bind fun c6 => if c6.1 = 0 then (f3_firstFault_j96 k4 x1 x2 c6.2) else (f3_firstFault_j96 k4 (x1 + 1) x2 c6.2)) else (f3_firstFault_j96 k4 x1 x2 h) else none else none) else (if x3 < 7 ∧ inB x4 (sLen x3) = true then (f4_sign x1 h).bind fun c10 => (f3_fits (sCh x3 (Int32.toNatClampNeg x4)) c10.1 c10.2).bind fun c12 => if c12.1 = 0 then (some (x1, c12.2)) else (k31 (x1 + 1) x2 x3 (x4 + 1) c12.2) else none) else none
set_option maxRecDepth 20000 in
set_option maxHeartbeats 4000000 in
theorem f3_firstFault_B31_ok (hE : IW E) (X : XC E RX3 cX3_firstFault 5 (some .int) A p s m args meth c) {k4 : Int32 → Int32 → Hp → Re} {k31 : Int32 → Int32 → Nat → Int32 → Hp → Re} (hk4 : ∀ (x1 : Int32) (x2 : Int32) (h : Hp), k4 x1 x2 h = some (r, h') → VM E 5 A p l e 4 s m args below meth c (Qi E A r h') 4 [(0, .ref (eA E 10)), (1, .int x1), (2, .int x2)] [] h) (hk31 : ∀ (x1 : Int32) (x2 : Int32) (x3 : Nat) (x4 : Int32) (h : Hp), k31 x1 x2 x3 x4 h = some (r, h') → VM E 5 A p l e 4 s m args below meth c (Qi E A r h') 31 [(0, .ref (eA E 10)), (1, .int x1), (2, .int x2), (3, .ref (eK E x3)), (4, .int x4)] [] h) {x1 : Int32} {x2 : Int32} {x3 : Nat} {x4 : Int32} {h : Hp} (hf0 : f3_firstFault_B31 k4 k31 x1 x2 x3 x4 h = some (r, h')) : VM E 5 A p l e 4 s m args below meth c (Qi E A r h') 31 [(0, .ref (eA E 10)), (1, .int x1), (2, .int x2), (3, .ref (eK E x3)), (4, .int x4)] [] h := by
  unfold f3_firstFault_B31 at hf0
  have hf1 := hf0
  refine V_iload X 4 rfl dX3_firstFault_31 ?_
  refine V_aload_n X 3 rfl dX3_firstFault_33 ?_
  obtain ⟨g101, hf101⟩ := ogp hf1
  refine V_callK X g101 (fJ0_length_ok g101) ys_J0_length_8abf5 yw_J0_length_8abf5 ml_X3_27 rfl rfl ⟨Nat.le_of_ble_eq_true rfl, Nat.le_of_ble_eq_true rfl⟩ ⟨Nat.zero_le _, Nat.zero_le _⟩ (Nat.le_of_ble_eq_true rfl) dX3_firstFault_34 ?_
  refine V_icmp_ge X (tgt := 68) (by decide) dX3_firstFault_37 (fun q37 => ?_) (fun q37 => ?_)
  · have hf3 := ift hf101 q37
    refine V_aload_n X 3 rfl dX3_firstFault_68 ?_
    refine V_aload_n X 3 rfl dX3_firstFault_69 ?_
    obtain ⟨g103, hf103⟩ := ogp hf3
    refine V_callK X g103 (fJ0_length_ok g103) ys_J0_length_8abf5 yw_J0_length_8abf5 ml_X3_27 rfl rfl ⟨Nat.le_of_ble_eq_true rfl, Nat.le_of_ble_eq_true rfl⟩ ⟨Nat.zero_le _, Nat.zero_le _⟩ (Nat.le_of_ble_eq_true rfl) dX3_firstFault_70 ?_
    refine V_iconst X (v := 1) (by decide) dX3_firstFault_73 ?_
    refine V_isub X dX3_firstFault_74 ?_
    obtain ⟨g104, hf104⟩ := ogp hf103
    refine V_callK X g104.1 (fJ0_charAt_ok g104.1 g104.2) ys_J0_charAt_5068e yw_J0_charAt_5068e ml_X3_31 rfl rfl ⟨Nat.le_of_ble_eq_true rfl, Nat.le_of_ble_eq_true rfl⟩ ⟨Nat.zero_le _, Nat.zero_le _⟩ (Nat.le_of_ble_eq_true rfl) dX3_firstFault_75 ?_
    refine V_bipush X (v := 78) (by decide) dX3_firstFault_78 ?_
    refine V_icmp_ne X (tgt := 96) (by decide) dX3_firstFault_80 (fun q80 => ?_) (fun q80 => ?_)
    · have hf6 := ife hf104 q80
      exact V_sub [0, 1, 2] rfl (f3_firstFault_j96_ok hE X hk4 hf6)
    · have hf6 := ift hf104 q80
      refine V_aload_n X 0 rfl dX3_firstFault_83 ?_
      refine V_iload_n X 1 rfl dX3_firstFault_84 ?_
      refine V_iconst X (v := 1) (by decide) dX3_firstFault_85 ?_
      refine V_isub X dX3_firstFault_86 ?_
      obtain ⟨c6, e_c6, hf8⟩ := obd hf6
      refine V_callSi X (f3_hasSecondDigit_ok hE e_c6) ys_X3_hasSecondDigit yw_X3_hasSecondDigit ml_X3_39 rfl rfl ⟨Nat.le_of_ble_eq_true rfl, Nat.le_of_ble_eq_true rfl⟩ ⟨Nat.zero_le _, Nat.zero_le _⟩ (Nat.le_of_ble_eq_true rfl) dX3_firstFault_87 ?_
      refine V_if_eq X (tgt := 96) (by decide) dX3_firstFault_90 (fun q90 => ?_) (fun q90 => ?_)
      · have hf9 := ift hf8 q90
        exact V_sub [0, 1, 2] rfl (f3_firstFault_j96_ok hE X hk4 hf9)
      · have hf9 := ife hf8 q90
        refine V_iinc X (v := _ + 1) 1 rfl (by rfl) (by decide) rfl dX3_firstFault_93 ?_
        exact V_sub [1, 0, 2] rfl (f3_firstFault_j96_ok hE X hk4 hf9)
  · have hf3 := ife hf101 q37
    refine V_aload_n X 3 rfl dX3_firstFault_40 ?_
    refine V_iload X 4 rfl dX3_firstFault_41 ?_
    obtain ⟨g109, hf109⟩ := ogp hf3
    refine V_callK X g109.1 (fJ0_charAt_ok g109.1 g109.2) ys_J0_charAt_5068e yw_J0_charAt_5068e ml_X3_31 rfl rfl ⟨Nat.le_of_ble_eq_true rfl, Nat.le_of_ble_eq_true rfl⟩ ⟨Nat.zero_le _, Nat.zero_le _⟩ (Nat.le_of_ble_eq_true rfl) dX3_firstFault_43 ?_
    refine V_aload_n X 0 rfl dX3_firstFault_46 ?_
    refine V_iload_n X 1 rfl dX3_firstFault_47 ?_
    obtain ⟨c10, e_c10, hf12⟩ := obd hf109
    refine V_callVi X (OB_10 hE) rfl rfl (f4_sign_ok hE e_c10) ys_X4_sign yw_X4_sign ml_X3_11 rfl rfl ⟨Nat.le_of_ble_eq_true rfl, Nat.le_of_ble_eq_true rfl⟩ ⟨Nat.zero_le _, Nat.zero_le _⟩ (Nat.le_of_ble_eq_true rfl) dX3_firstFault_48 ?_
    obtain ⟨c12, e_c12, hf14⟩ := obd hf12
    refine V_callSi X (f3_fits_ok e_c12) ys_X3_fits yw_X3_fits ml_X3_35 rfl rfl ⟨Nat.le_of_ble_eq_true rfl, Nat.le_of_ble_eq_true rfl⟩ ⟨Nat.zero_le _, Nat.zero_le _⟩ (Nat.le_of_ble_eq_true rfl) dX3_firstFault_51 ?_
    refine V_if_ne X (tgt := 59) (by decide) dX3_firstFault_54 (fun q54 => ?_) (fun q54 => ?_)
    · have hf15 := ife hf14 q54
      refine V_iinc X (v := _ + 1) 1 rfl (by rfl) (by decide) rfl dX3_firstFault_59 ?_
      refine V_iinc X (v := _ + 1) 4 rfl (by rfl) (by decide) rfl dX3_firstFault_62 ?_
      refine V_goto X (tgt := 31) (by decide) dX3_firstFault_65 ?_
      exact V_sub [2, 1, 3, 4, 0] rfl (hk31 _ _ _ _ _ hf15)
    · have hf15 := ift hf14 q54
      refine V_iload_n X 1 rfl dX3_firstFault_57 ?_
      exact V_iret X rfl hf15 dX3_firstFault_58
def f3_firstFault_L31 (k4 : Int32 → Int32 → Hp → Re) : Nat → Int32 → Int32 → Nat → Int32 → Hp → Re
  | 0 => fun _ _ _ _ _ => none
  | n + 1 => f3_firstFault_B31 k4 (f3_firstFault_L31 k4 n)
theorem f3_firstFault_L31_s (k4 : Int32 → Int32 → Hp → Re) (n : Nat) (x1 : Int32) (x2 : Int32) (x3 : Nat) (x4 : Int32) (h : Hp) : f3_firstFault_L31 k4 (n + 1) x1 x2 x3 x4 h = f3_firstFault_B31 k4 (f3_firstFault_L31 k4 n) x1 x2 x3 x4 h := rfl
theorem f3_firstFault_L31_ok (hE : IW E) (X : XC E RX3 cX3_firstFault 5 (some .int) A p s m args meth c) {k4 : Int32 → Int32 → Hp → Re} (hk4 : ∀ (x1 : Int32) (x2 : Int32) (h : Hp), k4 x1 x2 h = some (r, h') → VM E 5 A p l e 4 s m args below meth c (Qi E A r h') 4 [(0, .ref (eA E 10)), (1, .int x1), (2, .int x2)] [] h) : ∀ (n : Nat) (x1 : Int32) (x2 : Int32) (x3 : Nat) (x4 : Int32) (h : Hp), f3_firstFault_L31 k4 n x1 x2 x3 x4 h = some (r, h') → VM E 5 A p l e 4 s m args below meth c (Qi E A r h') 31 [(0, .ref (eA E 10)), (1, .int x1), (2, .int x2), (3, .ref (eK E x3)), (4, .int x4)] [] h := by
  intro n
  induction n with
  | zero =>
    intro x1 x2 x3 x4 h q
    have q : (none : Re) = some (r, h') := q
    cases q
  | succ n ih =>
    intro x1 x2 x3 x4 h q
    exact f3_firstFault_B31_ok hE X hk4 ih q
def f3_firstFault_B4 (k4 : Int32 → Int32 → Hp → Re) (x1 : Int32) (x2 : Int32) (h : Hp) : Re :=
  if 80 ≤ x2 then (some (x1, h)) else ((f4_sign x1 h).bind fun c2 => if (f3_shapeOf c2.1) < 7 then if (sEm (f3_shapeOf c2.1)) = 0 then (f3_firstFault_L31 k4 FU x1 x2 (f3_shapeOf c2.1) 0 c2.2) else (some (x1, c2.2)) else none)
set_option maxRecDepth 20000 in
set_option maxHeartbeats 4000000 in
theorem f3_firstFault_B4_ok (hE : IW E) (X : XC E RX3 cX3_firstFault 5 (some .int) A p s m args meth c) {k4 : Int32 → Int32 → Hp → Re} (hk4 : ∀ (x1 : Int32) (x2 : Int32) (h : Hp), k4 x1 x2 h = some (r, h') → VM E 5 A p l e 4 s m args below meth c (Qi E A r h') 4 [(0, .ref (eA E 10)), (1, .int x1), (2, .int x2)] [] h) {x1 : Int32} {x2 : Int32} {h : Hp} (hf0 : f3_firstFault_B4 k4 x1 x2 h = some (r, h')) : VM E 5 A p l e 4 s m args below meth c (Qi E A r h') 4 [(0, .ref (eA E 10)), (1, .int x1), (2, .int x2)] [] h := by
  unfold f3_firstFault_B4 at hf0
  have hf1 := hf0
  refine V_iload_n X 2 rfl dX3_firstFault_4 ?_
  refine V_bipush X (v := 80) (by decide) dX3_firstFault_5 ?_
  refine V_icmp_ge X (tgt := 128) (by decide) dX3_firstFault_7 (fun q7 => ?_) (fun q7 => ?_)
  · have hf2 := ift hf1 q7
    refine V_iload_n X 1 rfl dX3_firstFault_128 ?_
    exact V_iret X rfl hf2 dX3_firstFault_129
  · have hf2 := ife hf1 q7
    refine V_aload_n X 0 rfl dX3_firstFault_10 ?_
    refine V_iload_n X 1 rfl dX3_firstFault_11 ?_
    obtain ⟨c2, e_c2, hf4⟩ := obd hf2
    refine V_callVi X (OB_10 hE) rfl rfl (f4_sign_ok hE e_c2) ys_X4_sign yw_X4_sign ml_X3_11 rfl rfl ⟨Nat.le_of_ble_eq_true rfl, Nat.le_of_ble_eq_true rfl⟩ ⟨Nat.zero_le _, Nat.zero_le _⟩ (Nat.le_of_ble_eq_true rfl) dX3_firstFault_12 ?_
    refine V_callSr X f3_shapeOf_ok ys_X3_shapeOf yw_X3_shapeOf ml_X3_15 rfl rfl ⟨Nat.le_of_ble_eq_true rfl, Nat.le_of_ble_eq_true rfl⟩ ⟨Nat.zero_le _, Nat.zero_le _⟩ (Nat.le_of_ble_eq_true rfl) dX3_firstFault_15 ?_
    refine V_astore_n X (by decide) rfl dX3_firstFault_18 ?_
    refine V_aload_n X 0 rfl dX3_firstFault_19 ?_
    obtain ⟨g104, hf104⟩ := ogp hf4
    refine V_callK X g104 (fJ0_isEmpty_ok g104) ys_J0_isEmpty_aae02 yw_J0_isEmpty_aae02 ml_X3_21 rfl rfl ⟨Nat.le_of_ble_eq_true rfl, Nat.le_of_ble_eq_true rfl⟩ ⟨Nat.zero_le _, Nat.zero_le _⟩ (Nat.le_of_ble_eq_true rfl) dX3_firstFault_20 ?_
    refine V_if_eq X (tgt := 28) (by decide) dX3_firstFault_23 (fun q23 => ?_) (fun q23 => ?_)
    · have hf6 := ift hf104 q23
      refine V_iconst X (v := 0) (by decide) dX3_firstFault_28 ?_
      refine V_istore X (by decide) rfl dX3_firstFault_29 ?_
      exact V_sub [2, 3, 4, 1, 0] rfl (f3_firstFault_L31_ok hE X hk4 FU _ _ _ _ _ hf6)
    · have hf6 := ife hf104 q23
      refine V_iload_n X 2 rfl dX3_firstFault_26 ?_
      exact V_iret X rfl hf6 dX3_firstFault_27
def f3_firstFault_L4 : Nat → Int32 → Int32 → Hp → Re
  | 0 => fun _ _ _ => none
  | n + 1 => f3_firstFault_B4 (f3_firstFault_L4 n)
theorem f3_firstFault_L4_s (n : Nat) (x1 : Int32) (x2 : Int32) (h : Hp) : f3_firstFault_L4 (n + 1) x1 x2 h = f3_firstFault_B4 (f3_firstFault_L4 n) x1 x2 h := rfl
theorem f3_firstFault_L4_ok (hE : IW E) (X : XC E RX3 cX3_firstFault 5 (some .int) A p s m args meth c) : ∀ (n : Nat) (x1 : Int32) (x2 : Int32) (h : Hp), f3_firstFault_L4 n x1 x2 h = some (r, h') → VM E 5 A p l e 4 s m args below meth c (Qi E A r h') 4 [(0, .ref (eA E 10)), (1, .int x1), (2, .int x2)] [] h := by
  intro n
  induction n with
  | zero =>
    intro x1 x2 h q
    have q : (none : Re) = some (r, h') := q
    cases q
  | succ n ih =>
    intro x1 x2 h q
    exact f3_firstFault_B4_ok hE X ih q
def f3_firstFault_e (h : Hp) : Re :=
  f3_firstFault_L4 FU 0 0 h
set_option maxRecDepth 20000 in
set_option maxHeartbeats 4000000 in
theorem f3_firstFault_e_ok (hE : IW E) (X : XC E RX3 cX3_firstFault 5 (some .int) A p s m args meth c) {h : Hp} (hf0 : f3_firstFault_e  h = some (r, h')) : VM E 5 A p l e 4 s m args below meth c (Qi E A r h') 0 [(0, .ref (eA E 10))] [] h := by
  unfold f3_firstFault_e at hf0
  have hf1 := hf0
  refine V_iconst X (v := 0) (by decide) dX3_firstFault_0 ?_
  refine V_istore_n X (by decide) rfl dX3_firstFault_1 ?_
  refine V_iconst X (v := 0) (by decide) dX3_firstFault_2 ?_
  refine V_istore_n X (by decide) rfl dX3_firstFault_3 ?_
  exact V_sub [2, 1, 0] rfl (f3_firstFault_L4_ok hE X FU _ _ _ hf1)
def f3_firstFault (h : Hp) : Re := f3_firstFault_e  h
theorem f3_firstFault_ok (hE : IW E) {h : Hp} {q : Int32 × Hp} (hf0 : f3_firstFault  h = some q) : SMi l E 4 yX3_firstFault cX3_firstFault 5 (some .int) [.ref (eA E 10)] h q.1 q.2 :=
  SMi.of (by decide +kernel) (Nat.le_of_ble_eq_true rfl) (fun p e s m args below meth c A X => f3_firstFault_e_ok hE X (r := q.1) (h' := q.2) hf0)
def f7_fault_e (h : Hp) : Re :=
  (f3_firstFault  h).bind fun c1 => some (c1.1, c1.2)
set_option maxRecDepth 20000 in
set_option maxHeartbeats 4000000 in
theorem f7_fault_e_ok (hE : IW E) (X : XC E RX7 cX7_fault 1 (some .int) A p s m args meth c) {h : Hp} (hf0 : f7_fault_e  h = some (r, h')) : VM E 1 A p l e 5 s m args below meth c (Qi E A r h') 0 [(0, .ref (eA E 0))] [] h := by
  unfold f7_fault_e at hf0
  have hf1 := hf0
  refine V_aload_n X 0 rfl dX7_fault_0 ?_
  refine G_X7_4_36 hE X dX7_fault_1 ?_
  obtain ⟨c1, e_c1, hf3⟩ := obd hf1
  refine V_callSi X (f3_firstFault_ok hE e_c1) ys_X3_firstFault yw_X3_firstFault ml_X7_197 rfl rfl ⟨Nat.le_of_ble_eq_true rfl, Nat.le_of_ble_eq_true rfl⟩ ⟨Nat.zero_le _, Nat.zero_le _⟩ (Nat.le_of_ble_eq_true rfl) dX7_fault_4 ?_
  exact V_iret X rfl hf3 dX7_fault_7
def f7_fault (h : Hp) : Re := f7_fault_e  h
theorem f7_fault_ok (hE : IW E) {h : Hp} {q : Int32 × Hp} (hf0 : f7_fault  h = some q) : SMi l E 5 yX7_fault cX7_fault 1 (some .int) [.ref (eA E 0)] h q.1 q.2 :=
  SMi.of (by decide +kernel) (Nat.le_of_ble_eq_true rfl) (fun p e s m args below meth c A X => f7_fault_e_ok hE X (r := q.1) (h' := q.2) hf0)
def f7_carryOut_j99 (x1 : Int32) (h : Hp) : Re :=
  (f4_empty  h).bind fun c1 => (f2_recordUnlessError x1 c1.2).bind fun c3 => some (c3.1, c3.2)
set_option maxRecDepth 20000 in
set_option maxHeartbeats 4000000 in
theorem f7_carryOut_j99_ok (hE : IW E) (X : XC E RX7 cX7_carryOut 4 (some .int) A p s m args meth c) {x1 : Int32} {h : Hp} (hf0 : f7_carryOut_j99 x1 h = some (r, h')) : VM E 4 A p l e 7 s m args below meth c (Qi E A r h') 99 [(0, .ref (eA E 0)), (1, .int x1)] [] h := by
  unfold f7_carryOut_j99 at hf0
  have hf1 := hf0
  refine V_aload_n X 0 rfl dX7_carryOut_99 ?_
  refine G_X7_4_36 hE X dX7_carryOut_100 ?_
  obtain ⟨c1, e_c1, hf3⟩ := obd hf1
  refine V_callVv X (OB_10 hE) rfl rfl (f4_empty_ok hE e_c1) ys_X4_empty yw_X4_empty ml_X7_194 rfl rfl ⟨Nat.le_of_ble_eq_true rfl, Nat.le_of_ble_eq_true rfl⟩ ⟨Nat.zero_le _, Nat.zero_le _⟩ (Nat.le_of_ble_eq_true rfl) dX7_carryOut_103 ?_
  refine V_aload_n X 0 rfl dX7_carryOut_106 ?_
  refine G_X7_3_29 hE X dX7_carryOut_107 ?_
  refine V_iload_n X 1 rfl dX7_carryOut_110 ?_
  obtain ⟨c3, e_c3, hf5⟩ := obd hf3
  refine V_callVi X (OB_8 hE) rfl rfl (f2_recordUnlessError_ok hE e_c3) ys_X2_recordUnlessError yw_X2_recordUnlessError ml_X7_50 rfl rfl ⟨Nat.le_of_ble_eq_true rfl, Nat.le_of_ble_eq_true rfl⟩ ⟨Nat.zero_le _, Nat.zero_le _⟩ (Nat.le_of_ble_eq_true rfl) dX7_carryOut_111 ?_
  exact V_iret X rfl hf5 dX7_carryOut_114
def f7_carryOut_j85 (k32 : Int32 → Int32 → Int32 → Hp → Re) (x1 : Int32) (x3 : Int32) (y0 : Int32) (h : Hp) : Re :=
  if y0 = 0 then (k32 x1 y0 (x3 + 1) h) else (k32 (x1 + 1) y0 (x3 + 1) h)
set_option maxRecDepth 20000 in
set_option maxHeartbeats 4000000 in
theorem f7_carryOut_j85_ok (hE : IW E) (X : XC E RX7 cX7_carryOut 4 (some .int) A p s m args meth c) {k32 : Int32 → Int32 → Int32 → Hp → Re} (hk32 : ∀ (x1 : Int32) (x2 : Int32) (x3 : Int32) (h : Hp), k32 x1 x2 x3 h = some (r, h') → VM E 4 A p l e 7 s m args below meth c (Qi E A r h') 32 [(0, .ref (eA E 0)), (1, .int x1), (2, .int x2), (3, .int x3)] [] h) {x1 : Int32} {x3 : Int32} {y0 : Int32} {h : Hp} (hf0 : f7_carryOut_j85 k32 x1 x3 y0 h = some (r, h')) : VM E 4 A p l e 7 s m args below meth c (Qi E A r h') 85 [(0, .ref (eA E 0)), (1, .int x1), (3, .int x3)] [.int y0] h := by
  unfold f7_carryOut_j85 at hf0
  have hf1 := hf0
  refine V_istore_n X (by decide) rfl dX7_carryOut_85 ?_
  refine V_iload_n X 0 rfl dX7_carryOut_86 ?_
  refine V_if_eq X (tgt := 93) (by decide) dX7_carryOut_87 (fun q87 => ?_) (fun q87 => ?_)
  · have hf2 := ift hf1 q87
    refine V_iinc X (v := _ + 1) 3 rfl (by rfl) (by decide) rfl dX7_carryOut_93 ?_
    refine V_goto X (tgt := 32) (by decide) dX7_carryOut_96 ?_
    exact V_sub [2, 3, 1, 0] rfl (hk32 _ _ _ _ hf2)
  · have hf2 := ife hf1 q87
    refine V_iinc X (v := _ + 1) 2 rfl (by rfl) (by decide) rfl dX7_carryOut_90 ?_
    refine V_iinc X (v := _ + 1) 3 rfl (by rfl) (by decide) rfl dX7_carryOut_93 ?_
    refine V_goto X (tgt := 32) (by decide) dX7_carryOut_96 ?_
    exact V_sub [3, 1, 2, 0] rfl (hk32 _ _ _ _ hf2)
def f7_carryOut_B32 (k32 : Int32 → Int32 → Int32 → Hp → Re) (x1 : Int32) (x2 : Int32) (x3 : Int32) (h : Hp) : Re :=
  (f4_length  h).bind fun c1 => if c1.1 ≤ x3 then (f7_carryOut_j99 x1 c1.2) else (if x2 = 0 then (f7_carryOut_j99 x1 c1.2) else ((f3_beginsAt x3 c1.2).bind fun c5 => if c5.1 = 0 then (k32 x1 x2 (x3 + 1) c5.2) else ((f3_obey x3 c5.2).bind fun c8 => if c8.1 < 0 then (f7_carryOut_j85 k32 x1 x3 0 c8.2) else (f7_carryOut_j85 k32 x1 x3 1 c8.2))))
set_option maxRecDepth 20000 in
set_option maxHeartbeats 4000000 in
theorem f7_carryOut_B32_ok (hE : IW E) (X : XC E RX7 cX7_carryOut 4 (some .int) A p s m args meth c) {k32 : Int32 → Int32 → Int32 → Hp → Re} (hk32 : ∀ (x1 : Int32) (x2 : Int32) (x3 : Int32) (h : Hp), k32 x1 x2 x3 h = some (r, h') → VM E 4 A p l e 7 s m args below meth c (Qi E A r h') 32 [(0, .ref (eA E 0)), (1, .int x1), (2, .int x2), (3, .int x3)] [] h) {x1 : Int32} {x2 : Int32} {x3 : Int32} {h : Hp} (hf0 : f7_carryOut_B32 k32 x1 x2 x3 h = some (r, h')) : VM E 4 A p l e 7 s m args below meth c (Qi E A r h') 32 [(0, .ref (eA E 0)), (1, .int x1), (2, .int x2), (3, .int x3)] [] h := by
  unfold f7_carryOut_B32 at hf0
  have hf1 := hf0
  refine V_iload_n X 3 rfl dX7_carryOut_32 ?_
  refine V_aload_n X 0 rfl dX7_carryOut_33 ?_
  refine G_X7_4_36 hE X dX7_carryOut_34 ?_
  obtain ⟨c1, e_c1, hf3⟩ := obd hf1
  refine V_callVi X (OB_10 hE) rfl rfl (f4_length_ok hE e_c1) ys_X4_length yw_X4_length ml_X7_160 rfl rfl ⟨Nat.le_of_ble_eq_true rfl, Nat.le_of_ble_eq_true rfl⟩ ⟨Nat.zero_le _, Nat.zero_le _⟩ (Nat.le_of_ble_eq_true rfl) dX7_carryOut_37 ?_
  refine V_icmp_ge X (tgt := 99) (by decide) dX7_carryOut_40 (fun q40 => ?_) (fun q40 => ?_)
  · have hf4 := ift hf3 q40
    exact V_sub [0, 1] rfl (f7_carryOut_j99_ok hE X hf4)
  · have hf4 := ife hf3 q40
    refine V_iload_n X 2 rfl dX7_carryOut_43 ?_
    refine V_if_eq X (tgt := 99) (by decide) dX7_carryOut_44 (fun q44 => ?_) (fun q44 => ?_)
    · have hf5 := ift hf4 q44
      exact V_sub [0, 1] rfl (f7_carryOut_j99_ok hE X hf5)
    · have hf5 := ife hf4 q44
      refine V_aload_n X 0 rfl dX7_carryOut_47 ?_
      refine G_X7_4_36 hE X dX7_carryOut_48 ?_
      refine V_iload_n X 3 rfl dX7_carryOut_51 ?_
      obtain ⟨c5, e_c5, hf7⟩ := obd hf5
      refine V_callSi X (f3_beginsAt_ok hE e_c5) ys_X3_beginsAt yw_X3_beginsAt ml_X7_203 rfl rfl ⟨Nat.le_of_ble_eq_true rfl, Nat.le_of_ble_eq_true rfl⟩ ⟨Nat.zero_le _, Nat.zero_le _⟩ (Nat.le_of_ble_eq_true rfl) dX7_carryOut_52 ?_
      refine V_if_ne X (tgt := 61) (by decide) dX7_carryOut_55 (fun q55 => ?_) (fun q55 => ?_)
      · have hf8 := ife hf7 q55
        refine V_aload_n X 0 rfl dX7_carryOut_61 ?_
        refine G_X7_4_36 hE X dX7_carryOut_62 ?_
        refine V_iload_n X 3 rfl dX7_carryOut_65 ?_
        refine V_aload_n X 0 rfl dX7_carryOut_66 ?_
        refine G_X7_0_10 hE X dX7_carryOut_67 ?_
        refine V_aload_n X 0 rfl dX7_carryOut_70 ?_
        refine G_X7_2_22 hE X dX7_carryOut_71 ?_
        obtain ⟨c8, e_c8, hf10⟩ := obd hf8
        refine V_callSi X (f3_obey_ok hE e_c8) ys_X3_obey yw_X3_obey ml_X7_207 rfl rfl ⟨Nat.le_of_ble_eq_true rfl, Nat.le_of_ble_eq_true rfl⟩ ⟨Nat.zero_le _, Nat.zero_le _⟩ (Nat.le_of_ble_eq_true rfl) dX7_carryOut_74 ?_
        refine V_if_lt X (tgt := 84) (by decide) dX7_carryOut_77 (fun q77 => ?_) (fun q77 => ?_)
        · have hf11 := ift hf10 q77
          refine V_iconst X (v := 0) (by decide) dX7_carryOut_84 ?_
          exact V_sub [0, 1, 3] rfl (f7_carryOut_j85_ok hE X hk32 hf11)
        · have hf11 := ife hf10 q77
          refine V_iconst X (v := 1) (by decide) dX7_carryOut_80 ?_
          refine V_goto X (tgt := 85) (by decide) dX7_carryOut_81 ?_
          exact V_sub [0, 1, 3] rfl (f7_carryOut_j85_ok hE X hk32 hf11)
      · have hf8 := ift hf7 q55
        refine V_goto X (tgt := 93) (by decide) dX7_carryOut_58 ?_
        refine V_iinc X (v := _ + 1) 3 rfl (by rfl) (by decide) rfl dX7_carryOut_93 ?_
        refine V_goto X (tgt := 32) (by decide) dX7_carryOut_96 ?_
        exact V_sub [1, 2, 3, 0] rfl (hk32 _ _ _ _ hf8)
def f7_carryOut_L32 : Nat → Int32 → Int32 → Int32 → Hp → Re
  | 0 => fun _ _ _ _ => none
  | n + 1 => f7_carryOut_B32 (f7_carryOut_L32 n)
theorem f7_carryOut_L32_s (n : Nat) (x1 : Int32) (x2 : Int32) (x3 : Int32) (h : Hp) : f7_carryOut_L32 (n + 1) x1 x2 x3 h = f7_carryOut_B32 (f7_carryOut_L32 n) x1 x2 x3 h := rfl
theorem f7_carryOut_L32_ok (hE : IW E) (X : XC E RX7 cX7_carryOut 4 (some .int) A p s m args meth c) : ∀ (n : Nat) (x1 : Int32) (x2 : Int32) (x3 : Int32) (h : Hp), f7_carryOut_L32 n x1 x2 x3 h = some (r, h') → VM E 4 A p l e 7 s m args below meth c (Qi E A r h') 32 [(0, .ref (eA E 0)), (1, .int x1), (2, .int x2), (3, .int x3)] [] h := by
  intro n
  induction n with
  | zero =>
    intro x1 x2 x3 h q
    have q : (none : Re) = some (r, h') := q
    cases q
  | succ n ih =>
    intro x1 x2 x3 h q
    exact f7_carryOut_B32_ok hE X ih q
def f7_carryOut_e (h : Hp) : Re :=
  (f3_firstFault  h).bind fun c1 => if c1.1 = (-6) then ((f2_stage  c1.2).bind fun c4 => f7_carryOut_L32 FU 0 1 0 c4.2) else (some ((-3), c1.2))
set_option maxRecDepth 20000 in
set_option maxHeartbeats 4000000 in
theorem f7_carryOut_e_ok (hE : IW E) (X : XC E RX7 cX7_carryOut 4 (some .int) A p s m args meth c) {h : Hp} (hf0 : f7_carryOut_e  h = some (r, h')) : VM E 4 A p l e 7 s m args below meth c (Qi E A r h') 0 [(0, .ref (eA E 0))] [] h := by
  unfold f7_carryOut_e at hf0
  have hf1 := hf0
  refine V_aload_n X 0 rfl dX7_carryOut_0 ?_
  refine G_X7_4_36 hE X dX7_carryOut_1 ?_
  obtain ⟨c1, e_c1, hf3⟩ := obd hf1
  refine V_callSi X (f3_firstFault_ok hE e_c1) ys_X3_firstFault yw_X3_firstFault ml_X7_197 rfl rfl ⟨Nat.le_of_ble_eq_true rfl, Nat.le_of_ble_eq_true rfl⟩ ⟨Nat.zero_le _, Nat.zero_le _⟩ (Nat.le_of_ble_eq_true rfl) dX7_carryOut_4 ?_
  refine V_bipush X (v := -6) (by decide) dX7_carryOut_7 ?_
  refine V_icmp_eq X (tgt := 15) (by decide) dX7_carryOut_9 (fun q9 => ?_) (fun q9 => ?_)
  · have hf4 := ift hf3 q9
    refine V_aload_n X 0 rfl dX7_carryOut_15 ?_
    refine G_X7_3_29 hE X dX7_carryOut_16 ?_
    refine V_aload_n X 0 rfl dX7_carryOut_19 ?_
    refine G_X7_0_10 hE X dX7_carryOut_20 ?_
    obtain ⟨c4, e_c4, hf6⟩ := obd hf4
    refine V_callVv X (OB_8 hE) rfl rfl (f2_stage_ok hE e_c4) ys_X2_stage yw_X2_stage ml_X7_40 rfl rfl ⟨Nat.le_of_ble_eq_true rfl, Nat.le_of_ble_eq_true rfl⟩ ⟨Nat.zero_le _, Nat.zero_le _⟩ (Nat.le_of_ble_eq_true rfl) dX7_carryOut_23 ?_
    refine V_iconst X (v := 0) (by decide) dX7_carryOut_26 ?_
    refine V_istore_n X (by decide) rfl dX7_carryOut_27 ?_
    refine V_iconst X (v := 1) (by decide) dX7_carryOut_28 ?_
    refine V_istore_n X (by decide) rfl dX7_carryOut_29 ?_
    refine V_iconst X (v := 0) (by decide) dX7_carryOut_30 ?_
    refine V_istore_n X (by decide) rfl dX7_carryOut_31 ?_
    exact V_sub [3, 2, 1, 0] rfl (f7_carryOut_L32_ok hE X FU _ _ _ _ hf6)
  · have hf4 := ife hf3 q9
    refine V_bipush X (v := -3) (by decide) dX7_carryOut_12 ?_
    exact V_iret X rfl hf4 dX7_carryOut_14
def f7_carryOut (h : Hp) : Re := f7_carryOut_e  h
theorem f7_carryOut_ok (hE : IW E) {h : Hp} {q : Int32 × Hp} (hf0 : f7_carryOut  h = some q) : SMi l E 7 yX7_carryOut cX7_carryOut 4 (some .int) [.ref (eA E 0)] h q.1 q.2 :=
  SMi.of (by decide +kernel) (Nat.le_of_ble_eq_true rfl) (fun p e s m args below meth c A X => f7_carryOut_e_ok hE X (r := q.1) (h' := q.2) hf0)
end DM
