section DM
variable {E : EN} {A : Nat → Prop} {p : Program} {l : Launch} {e : Env} {s : State} {m : MethodId} {args : Array Value} {below : List Frame} {meth : Method} {c : Code} {r : Int32} {h' : Hp}
def f1_quarterOfTurn_e (x0 : Int32) (h : Hp) : Re :=
  if x0 < 0 then (some ((-1), h)) else (if 4 ≤ x0 then (some ((-1), h)) else (if inB x0 4 = true then some (swo.getD (Int32.toNatClampNeg x0) 0, h) else none))
set_option maxRecDepth 20000 in
set_option maxHeartbeats 4000000 in
theorem f1_quarterOfTurn_e_ok (X : XC E RX1 cX1_quarterOfTurn 1 (some .int) A p s m args meth c) {x0 : Int32} {h : Hp} (hf0 : f1_quarterOfTurn_e x0 h = some (r, h')) : VM E 1 A p l e 0 s m args below meth c (Qi E A r h') 0 [(0, .int x0)] [] h := by
  unfold f1_quarterOfTurn_e at hf0
  have hf1 := hf0
  refine V_iload_n X 0 rfl dX1_quarterOfTurn_0 ?_
  refine V_if_lt X (tgt := 20) (by decide) dX1_quarterOfTurn_1 (fun q1 => ?_) (fun q1 => ?_)
  · have hf2 := ift hf1 q1
    refine V_iconst X (v := -1) (by decide) dX1_quarterOfTurn_20 ?_
    exact V_iret X rfl hf2 dX1_quarterOfTurn_21
  · have hf2 := ife hf1 q1
    refine V_iload_n X 0 rfl dX1_quarterOfTurn_4 ?_
    refine V_gsw X gs_X1_9 dX1_quarterOfTurn_5 ?_
    refine V_tlen X dX1_quarterOfTurn_8 ?_
    refine V_icmp_ge X (tgt := 20) (by decide) dX1_quarterOfTurn_9 (fun q9 => ?_) (fun q9 => ?_)
    · have hf3 := ift hf2 q9
      refine V_iconst X (v := -1) (by decide) dX1_quarterOfTurn_20 ?_
      exact V_iret X rfl hf3 dX1_quarterOfTurn_21
    · have hf3 := ife hf2 q9
      refine V_gsw X gs_X1_9 dX1_quarterOfTurn_12 ?_
      refine V_iload_n X 0 rfl dX1_quarterOfTurn_15 ?_
      obtain ⟨g3, hf3⟩ := ogd hf3
      refine V_tiald X g3 dX1_quarterOfTurn_16 ?_
      refine V_goto X (tgt := 21) (by decide) dX1_quarterOfTurn_17 ?_
      exact V_iret X rfl hf3 dX1_quarterOfTurn_21
def f1_quarterOfTurn (x0 : Int32) (h : Hp) : Re := f1_quarterOfTurn_e x0 h
theorem f1_quarterOfTurn_ok {x0 : Int32} {h : Hp} {q : Int32 × Hp} (hf0 : f1_quarterOfTurn x0 h = some q) : SMi l E 0 yX1_quarterOfTurn cX1_quarterOfTurn 1 (some .int) [.int x0] h q.1 q.2 :=
  SMi.of (by decide +kernel) (Nat.le_of_ble_eq_true rfl) (fun p e s m args below meth c A X => f1_quarterOfTurn_e_ok X (r := q.1) (h' := q.2) hf0)
def f5_isSwept_B2 (k : Nat) (k2 : Int32 → Int32 → Hp → Re) (x1 : Int32) (x2 : Int32) (h : Hp) : Re :=
  if 4 ≤ x2 then (rz 0 h) else ((f5_number k 20 h).bind fun c2 => if c2.1 ≤ x2 then (rz 0 c2.2) else ((f1_quarterOfTurn x2 c2.2).bind fun c5 => if c5.1 = x1 then (rz 1 c5.2) else (k2 x1 (x2 + 1) c5.2)))
set_option maxRecDepth 20000 in
set_option maxHeartbeats 4000000 in
theorem f5_isSwept_B2_ok {k : Nat} (hk : SR E k) (X : XC E RX5 cX5_isSwept 3 (some .boolean) A p s m args meth c) {k2 : Int32 → Int32 → Hp → Re} (hk2 : ∀ (x1 : Int32) (x2 : Int32) (h : Hp), k2 x1 x2 h = some (r, h') → VM E 3 A p l e 1 s m args below meth c (Qi E A r h') 2 [(0, .ref (eA E k)), (1, .int x1), (2, .int x2)] [] h) {x1 : Int32} {x2 : Int32} {h : Hp} (hf0 : f5_isSwept_B2 k k2 x1 x2 h = some (r, h')) : VM E 3 A p l e 1 s m args below meth c (Qi E A r h') 2 [(0, .ref (eA E k)), (1, .int x1), (2, .int x2)] [] h := by
  unfold f5_isSwept_B2 at hf0
  have hf1 := hf0
  refine V_iload_n X 2 rfl dX5_isSwept_2 ?_
  refine V_iconst X (v := 4) (by decide) dX5_isSwept_3 ?_
  refine V_icmp_ge X (tgt := 33) (by decide) dX5_isSwept_4 (fun q4 => ?_) (fun q4 => ?_)
  · have hf2 := ift hf1 q4
    refine V_iconst X (v := 0) (by decide) dX5_isSwept_33 ?_
    exact V_zret X rfl hf2 dX5_isSwept_34
  · have hf2 := ife hf1 q4
    refine V_iload_n X 2 rfl dX5_isSwept_7 ?_
    refine V_aload_n X 0 rfl dX5_isSwept_8 ?_
    refine V_bipush X (v := 20) (by decide) dX5_isSwept_9 ?_
    obtain ⟨c2, e_c2, hf4⟩ := obd hf2
    refine V_callVi X hk.1 rfl rfl (f5_number_ok hk e_c2) ys_X5_number yw_X5_number ml_X5_22 rfl rfl ⟨Nat.le_of_ble_eq_true rfl, Nat.le_of_ble_eq_true rfl⟩ ⟨Nat.zero_le _, Nat.zero_le _⟩ (Nat.le_of_ble_eq_true rfl) dX5_isSwept_11 ?_
    refine V_icmp_ge X (tgt := 33) (by decide) dX5_isSwept_14 (fun q14 => ?_) (fun q14 => ?_)
    · have hf5 := ift hf4 q14
      refine V_iconst X (v := 0) (by decide) dX5_isSwept_33 ?_
      exact V_zret X rfl hf5 dX5_isSwept_34
    · have hf5 := ife hf4 q14
      refine V_iload_n X 2 rfl dX5_isSwept_17 ?_
      obtain ⟨c5, e_c5, hf7⟩ := obd hf5
      refine V_callSi X (f1_quarterOfTurn_ok e_c5) ys_X1_quarterOfTurn yw_X1_quarterOfTurn ml_X5_35 rfl rfl ⟨Nat.le_of_ble_eq_true rfl, Nat.le_of_ble_eq_true rfl⟩ ⟨Nat.zero_le _, Nat.zero_le _⟩ (Nat.le_of_ble_eq_true rfl) dX5_isSwept_18 ?_
      refine V_iload_n X 1 rfl dX5_isSwept_21 ?_
      refine V_icmp_ne X (tgt := 27) (by decide) dX5_isSwept_22 (fun q22 => ?_) (fun q22 => ?_)
      · have hf8 := ife hf7 q22
        refine V_iinc X (v := _ + 1) 2 rfl (by rfl) (by decide) rfl dX5_isSwept_27 ?_
        refine V_goto X (tgt := 2) (by decide) dX5_isSwept_30 ?_
        exact V_sub [1, 2, 0] rfl (hk2 _ _ _ hf8)
      · have hf8 := ift hf7 q22
        refine V_iconst X (v := 1) (by decide) dX5_isSwept_25 ?_
        exact V_zret X rfl hf8 dX5_isSwept_26
def f5_isSwept_L2 (k : Nat) : Nat → Int32 → Int32 → Hp → Re
  | 0 => fun _ _ _ => none
  | n + 1 => f5_isSwept_B2 k (f5_isSwept_L2 k n)
theorem f5_isSwept_L2_s (k : Nat) (n : Nat) (x1 : Int32) (x2 : Int32) (h : Hp) : f5_isSwept_L2 k (n + 1) x1 x2 h = f5_isSwept_B2 k (f5_isSwept_L2 k n) x1 x2 h := rfl
theorem f5_isSwept_L2_ok {k : Nat} (hk : SR E k) (X : XC E RX5 cX5_isSwept 3 (some .boolean) A p s m args meth c) : ∀ (n : Nat) (x1 : Int32) (x2 : Int32) (h : Hp), f5_isSwept_L2 k n x1 x2 h = some (r, h') → VM E 3 A p l e 1 s m args below meth c (Qi E A r h') 2 [(0, .ref (eA E k)), (1, .int x1), (2, .int x2)] [] h := by
  intro n
  induction n with
  | zero =>
    intro x1 x2 h q
    have q : (none : Re) = some (r, h') := q
    cases q
  | succ n ih =>
    intro x1 x2 h q
    exact f5_isSwept_B2_ok hk X ih q
def f5_isSwept_e (k : Nat) (x1 : Int32) (h : Hp) : Re :=
  f5_isSwept_L2 k FU x1 0 h
set_option maxRecDepth 20000 in
set_option maxHeartbeats 4000000 in
theorem f5_isSwept_e_ok {k : Nat} (hk : SR E k) (X : XC E RX5 cX5_isSwept 3 (some .boolean) A p s m args meth c) {x1 : Int32} {h : Hp} (hf0 : f5_isSwept_e k x1 h = some (r, h')) : VM E 3 A p l e 1 s m args below meth c (Qi E A r h') 0 [(0, .ref (eA E k)), (1, .int x1)] [] h := by
  unfold f5_isSwept_e at hf0
  have hf1 := hf0
  refine V_iconst X (v := 0) (by decide) dX5_isSwept_0 ?_
  refine V_istore_n X (by decide) rfl dX5_isSwept_1 ?_
  exact V_sub [1, 2, 0] rfl (f5_isSwept_L2_ok hk X FU _ _ _ hf1)
def f5_isSwept (k : Nat) (x1 : Int32) (h : Hp) : Re := f5_isSwept_e k x1 h
theorem f5_isSwept_ok {k : Nat} (hk : SR E k) {x1 : Int32} {h : Hp} {q : Int32 × Hp} (hf0 : f5_isSwept k x1 h = some q) : SMi l E 1 yX5_isSwept cX5_isSwept 3 (some .boolean) [.ref (eA E k), .int x1] h q.1 q.2 :=
  SMi.of (by decide +kernel) (Nat.le_of_ble_eq_true rfl) (fun p e s m args below meth c A X => f5_isSwept_e_ok hk X (r := q.1) (h' := q.2) hf0)
def f7_ofQuarter_e (x1 : Int32) (x2 : Int32) (h : Hp) : Re :=
  (f7_isQuarter x1 h).bind fun c1 => if c1.1 = 0 then (some ((-1), c1.2)) else (if x2 = 0 then ((f6_tally 0 (-1) x1 (-1) c1.2).bind fun c6 => some (c6.1, c6.2)) else if x2 = 1 then ((f6_tally 3 (-1) x1 (-1) c1.2).bind fun c9 => some (c9.1, c9.2)) else if x2 = 2 then ((f5_heldBy 1 x1 c1.2).bind fun c12 => some (c12.1, c12.2)) else if x2 = 3 then ((f5_isMirrored 1 x1 c1.2).bind fun c15 => (f7_bit c15.1 c15.2).bind fun c17 => some (c17.1, c17.2)) else if x2 = 4 then ((f5_isSwept 1 x1 c1.2).bind fun c20 => (f7_bit c20.1 c20.2).bind fun c22 => some (c22.1, c22.2)) else ((f7_isColour (x2 - 4) c1.2).bind fun c25 => if c25.1 = 0 then (some ((-2), c25.2)) else ((f6_tally 0 (x2 - 4) x1 (-1) c25.2).bind fun c28 => some (c28.1, c28.2))))
set_option maxRecDepth 20000 in
set_option maxHeartbeats 4000000 in
theorem f7_ofQuarter_e_ok (hE : IW E) (X : XC E RX7 cX7_ofQuarter 4 (some .int) A p s m args meth c) {x1 : Int32} {x2 : Int32} {h : Hp} (hf0 : f7_ofQuarter_e x1 x2 h = some (r, h')) : VM E 4 A p l e 6 s m args below meth c (Qi E A r h') 0 [(0, .ref (eA E 0)), (1, .int x1), (2, .int x2)] [] h := by
  unfold f7_ofQuarter_e at hf0
  have hf1 := hf0
  refine V_iload_n X 1 rfl dX7_ofQuarter_0 ?_
  obtain ⟨c1, e_c1, hf3⟩ := obd hf1
  refine V_callSi X (f7_isQuarter_ok e_c1) ys_X7_isQuarter yw_X7_isQuarter ml_X7_130 rfl rfl ⟨Nat.le_of_ble_eq_true rfl, Nat.le_of_ble_eq_true rfl⟩ ⟨Nat.zero_le _, Nat.zero_le _⟩ (Nat.le_of_ble_eq_true rfl) dX7_ofQuarter_1 ?_
  refine V_if_ne X (tgt := 9) (by decide) dX7_ofQuarter_4 (fun q4 => ?_) (fun q4 => ?_)
  · have hf4 := ife hf3 q4
    refine V_iload_n X 2 rfl dX7_ofQuarter_9 ?_
    rcases oif hf4 with ⟨q10_0, hf10_0⟩ | ⟨q10_0, hf10_0⟩
    · refine V_table X (tgt := 44) (off := 34) (by rw [q10_0]; decide) (by decide) (by decide) dX7_ofQuarter_10 ?_
      have hf6 := hf10_0
      refine V_aload_n X 0 rfl dX7_ofQuarter_44 ?_
      refine G_X7_0_10 hE X dX7_ofQuarter_45 ?_
      refine V_iconst X (v := 0) (by decide) dX7_ofQuarter_48 ?_
      refine V_iconst X (v := -1) (by decide) dX7_ofQuarter_49 ?_
      refine V_iload_n X 1 rfl dX7_ofQuarter_50 ?_
      refine V_iconst X (v := -1) (by decide) dX7_ofQuarter_51 ?_
      obtain ⟨c6, e_c6, hf8⟩ := obd hf6
      refine V_callSi X (f6_tally_ok hE e_c6) ys_X6_tally yw_X6_tally ml_X7_127 rfl rfl ⟨Nat.le_of_ble_eq_true rfl, Nat.le_of_ble_eq_true rfl⟩ ⟨Nat.zero_le _, Nat.zero_le _⟩ (Nat.le_of_ble_eq_true rfl) dX7_ofQuarter_52 ?_
      exact V_iret X rfl hf8 dX7_ofQuarter_55
    rcases oif hf10_0 with ⟨q10_1, hf10_1⟩ | ⟨q10_1, hf10_1⟩
    · refine V_table X (tgt := 56) (off := 46) (by rw [q10_1]; decide) (by decide) (by decide) dX7_ofQuarter_10 ?_
      have hf9 := hf10_1
      refine V_aload_n X 0 rfl dX7_ofQuarter_56 ?_
      refine G_X7_0_10 hE X dX7_ofQuarter_57 ?_
      refine V_iconst X (v := 3) (by decide) dX7_ofQuarter_60 ?_
      refine V_iconst X (v := -1) (by decide) dX7_ofQuarter_61 ?_
      refine V_iload_n X 1 rfl dX7_ofQuarter_62 ?_
      refine V_iconst X (v := -1) (by decide) dX7_ofQuarter_63 ?_
      obtain ⟨c9, e_c9, hf11⟩ := obd hf9
      refine V_callSi X (f6_tally_ok hE e_c9) ys_X6_tally yw_X6_tally ml_X7_127 rfl rfl ⟨Nat.le_of_ble_eq_true rfl, Nat.le_of_ble_eq_true rfl⟩ ⟨Nat.zero_le _, Nat.zero_le _⟩ (Nat.le_of_ble_eq_true rfl) dX7_ofQuarter_64 ?_
      exact V_iret X rfl hf11 dX7_ofQuarter_67
    rcases oif hf10_1 with ⟨q10_2, hf10_2⟩ | ⟨q10_2, hf10_2⟩
    · refine V_table X (tgt := 68) (off := 58) (by rw [q10_2]; decide) (by decide) (by decide) dX7_ofQuarter_10 ?_
      have hf12 := hf10_2
      refine V_aload_n X 0 rfl dX7_ofQuarter_68 ?_
      refine G_X7_0_10 hE X dX7_ofQuarter_69 ?_
      refine V_iload_n X 1 rfl dX7_ofQuarter_72 ?_
      obtain ⟨c12, e_c12, hf14⟩ := obd hf12
      refine V_callVi X (SR_1 hE).1 rfl rfl (f5_heldBy_ok (SR_1 hE) e_c12) ys_X5_heldBy yw_X5_heldBy ml_X7_133 rfl rfl ⟨Nat.le_of_ble_eq_true rfl, Nat.le_of_ble_eq_true rfl⟩ ⟨Nat.zero_le _, Nat.zero_le _⟩ (Nat.le_of_ble_eq_true rfl) dX7_ofQuarter_73 ?_
      exact V_iret X rfl hf14 dX7_ofQuarter_76
    rcases oif hf10_2 with ⟨q10_3, hf10_3⟩ | ⟨q10_3, hf10_3⟩
    · refine V_table X (tgt := 77) (off := 67) (by rw [q10_3]; decide) (by decide) (by decide) dX7_ofQuarter_10 ?_
      have hf15 := hf10_3
      refine V_aload_n X 0 rfl dX7_ofQuarter_77 ?_
      refine G_X7_0_10 hE X dX7_ofQuarter_78 ?_
      refine V_iload_n X 1 rfl dX7_ofQuarter_81 ?_
      obtain ⟨c15, e_c15, hf17⟩ := obd hf15
      refine V_callVi X (SR_1 hE).1 rfl rfl (f5_isMirrored_ok (SR_1 hE) e_c15) ys_X5_isMirrored yw_X5_isMirrored ml_X7_136 rfl rfl ⟨Nat.le_of_ble_eq_true rfl, Nat.le_of_ble_eq_true rfl⟩ ⟨Nat.zero_le _, Nat.zero_le _⟩ (Nat.le_of_ble_eq_true rfl) dX7_ofQuarter_82 ?_
      obtain ⟨c17, e_c17, hf19⟩ := obd hf17
      refine V_callSi X (f7_bit_ok e_c17) ys_X7_bit yw_X7_bit ml_X7_99 rfl rfl ⟨Nat.le_of_ble_eq_true rfl, Nat.le_of_ble_eq_true rfl⟩ ⟨Nat.zero_le _, Nat.zero_le _⟩ (Nat.le_of_ble_eq_true rfl) dX7_ofQuarter_85 ?_
      exact V_iret X rfl hf19 dX7_ofQuarter_88
    rcases oif hf10_3 with ⟨q10_4, hf10_4⟩ | ⟨q10_4, hf10_4⟩
    · refine V_table X (tgt := 89) (off := 79) (by rw [q10_4]; decide) (by decide) (by decide) dX7_ofQuarter_10 ?_
      have hf20 := hf10_4
      refine V_aload_n X 0 rfl dX7_ofQuarter_89 ?_
      refine G_X7_0_10 hE X dX7_ofQuarter_90 ?_
      refine V_iload_n X 1 rfl dX7_ofQuarter_93 ?_
      obtain ⟨c20, e_c20, hf22⟩ := obd hf20
      refine V_callVi X (SR_1 hE).1 rfl rfl (f5_isSwept_ok (SR_1 hE) e_c20) ys_X5_isSwept yw_X5_isSwept ml_X7_139 rfl rfl ⟨Nat.le_of_ble_eq_true rfl, Nat.le_of_ble_eq_true rfl⟩ ⟨Nat.zero_le _, Nat.zero_le _⟩ (Nat.le_of_ble_eq_true rfl) dX7_ofQuarter_94 ?_
      obtain ⟨c22, e_c22, hf24⟩ := obd hf22
      refine V_callSi X (f7_bit_ok e_c22) ys_X7_bit yw_X7_bit ml_X7_99 rfl rfl ⟨Nat.le_of_ble_eq_true rfl, Nat.le_of_ble_eq_true rfl⟩ ⟨Nat.zero_le _, Nat.zero_le _⟩ (Nat.le_of_ble_eq_true rfl) dX7_ofQuarter_97 ?_
      exact V_iret X rfl hf24 dX7_ofQuarter_100
    · skip
      refine V_table X (tgt := 101) (off := 91) (tsel_out (by have z0 := lv_neT q10_0 (show (0 : Int32).toInt = 0 by decide); have z1 := lv_neT q10_1 (show (1 : Int32).toInt = 1 by decide); have z2 := lv_neT q10_2 (show (2 : Int32).toInt = 2 by decide); have z3 := lv_neT q10_3 (show (3 : Int32).toInt = 3 by decide); have z4 := lv_neT q10_4 (show (4 : Int32).toInt = 4 by decide); omega)) (by decide) (by decide) dX7_ofQuarter_10 ?_
      have hf25 := hf10_4
      refine V_iload_n X 2 rfl dX7_ofQuarter_101 ?_
      refine V_iconst X (v := 4) (by decide) dX7_ofQuarter_102 ?_
      refine V_isub X dX7_ofQuarter_103 ?_
      refine V_istore_n X (by decide) rfl dX7_ofQuarter_104 ?_
      refine V_iload_n X 0 rfl dX7_ofQuarter_105 ?_
      obtain ⟨c25, e_c25, hf27⟩ := obd hf25
      refine V_callSi X (f7_isColour_ok e_c25) ys_X7_isColour yw_X7_isColour ml_X7_142 rfl rfl ⟨Nat.le_of_ble_eq_true rfl, Nat.le_of_ble_eq_true rfl⟩ ⟨Nat.zero_le _, Nat.zero_le _⟩ (Nat.le_of_ble_eq_true rfl) dX7_ofQuarter_106 ?_
      refine V_if_ne X (tgt := 115) (by decide) dX7_ofQuarter_109 (fun q109 => ?_) (fun q109 => ?_)
      · have hf28 := ife hf27 q109
        refine V_aload_n X 1 rfl dX7_ofQuarter_115 ?_
        refine G_X7_0_10 hE X dX7_ofQuarter_116 ?_
        refine V_iconst X (v := 0) (by decide) dX7_ofQuarter_119 ?_
        refine V_iload_n X 0 rfl dX7_ofQuarter_120 ?_
        refine V_iload_n X 2 rfl dX7_ofQuarter_121 ?_
        refine V_iconst X (v := -1) (by decide) dX7_ofQuarter_122 ?_
        obtain ⟨c28, e_c28, hf30⟩ := obd hf28
        refine V_callSi X (f6_tally_ok hE e_c28) ys_X6_tally yw_X6_tally ml_X7_127 rfl rfl ⟨Nat.le_of_ble_eq_true rfl, Nat.le_of_ble_eq_true rfl⟩ ⟨Nat.zero_le _, Nat.zero_le _⟩ (Nat.le_of_ble_eq_true rfl) dX7_ofQuarter_123 ?_
        exact V_iret X rfl hf30 dX7_ofQuarter_126
      · have hf28 := ift hf27 q109
        refine V_bipush X (v := -2) (by decide) dX7_ofQuarter_112 ?_
        exact V_iret X rfl hf28 dX7_ofQuarter_114
  · have hf4 := ift hf3 q4
    refine V_iconst X (v := -1) (by decide) dX7_ofQuarter_7 ?_
    exact V_iret X rfl hf4 dX7_ofQuarter_8
def f7_ofQuarter (x1 : Int32) (x2 : Int32) (h : Hp) : Re := f7_ofQuarter_e x1 x2 h
theorem f7_ofQuarter_ok (hE : IW E) {x1 : Int32} {x2 : Int32} {h : Hp} {q : Int32 × Hp} (hf0 : f7_ofQuarter x1 x2 h = some q) : SMi l E 6 yX7_ofQuarter cX7_ofQuarter 4 (some .int) [.ref (eA E 0), .int x1, .int x2] h q.1 q.2 :=
  SMi.of (by decide +kernel) (Nat.le_of_ble_eq_true rfl) (fun p e s m args below meth c A X => f7_ofQuarter_e_ok hE X (r := q.1) (h' := q.2) hf0)
def f5_funnel_e (k : Nat) (x1 : Int32) (h : Hp) : Re :=
  (f5_number k (8 + x1) h).bind fun c1 => some (c1.1, c1.2)
set_option maxRecDepth 20000 in
set_option maxHeartbeats 4000000 in
theorem f5_funnel_e_ok {k : Nat} (hk : SR E k) (X : XC E RX5 cX5_funnel 2 (some .int) A p s m args meth c) {x1 : Int32} {h : Hp} (hf0 : f5_funnel_e k x1 h = some (r, h')) : VM E 2 A p l e 1 s m args below meth c (Qi E A r h') 0 [(0, .ref (eA E k)), (1, .int x1)] [] h := by
  unfold f5_funnel_e at hf0
  have hf1 := hf0
  refine V_aload_n X 0 rfl dX5_funnel_0 ?_
  refine V_bipush X (v := 8) (by decide) dX5_funnel_1 ?_
  refine V_iload_n X 1 rfl dX5_funnel_3 ?_
  refine V_iadd X dX5_funnel_4 ?_
  obtain ⟨c1, e_c1, hf3⟩ := obd hf1
  refine V_callVi X hk.1 rfl rfl (f5_number_ok hk e_c1) ys_X5_number yw_X5_number ml_X5_22 rfl rfl ⟨Nat.le_of_ble_eq_true rfl, Nat.le_of_ble_eq_true rfl⟩ ⟨Nat.zero_le _, Nat.zero_le _⟩ (Nat.le_of_ble_eq_true rfl) dX5_funnel_5 ?_
  exact V_iret X rfl hf3 dX5_funnel_8
def f5_funnel (k : Nat) (x1 : Int32) (h : Hp) : Re := f5_funnel_e k x1 h
theorem f5_funnel_ok {k : Nat} (hk : SR E k) {x1 : Int32} {h : Hp} {q : Int32 × Hp} (hf0 : f5_funnel k x1 h = some q) : SMi l E 1 yX5_funnel cX5_funnel 2 (some .int) [.ref (eA E k), .int x1] h q.1 q.2 :=
  SMi.of (by decide +kernel) (Nat.le_of_ble_eq_true rfl) (fun p e s m args below meth c A X => f5_funnel_e_ok hk X (r := q.1) (h' := q.2) hf0)
def f5_holderOf_B2 (k : Nat) (k2 : Int32 → Int32 → Hp → Re) (x1 : Int32) (x2 : Int32) (h : Hp) : Re :=
  if 4 ≤ x2 then (some ((-6), h)) else ((f5_heldBy k x2 h).bind fun c2 => if c2.1 = x1 then (some (x2, c2.2)) else (k2 x1 (x2 + 1) c2.2))
set_option maxRecDepth 20000 in
set_option maxHeartbeats 4000000 in
theorem f5_holderOf_B2_ok {k : Nat} (hk : SR E k) (X : XC E RX5 cX5_holderOf 3 (some .int) A p s m args meth c) {k2 : Int32 → Int32 → Hp → Re} (hk2 : ∀ (x1 : Int32) (x2 : Int32) (h : Hp), k2 x1 x2 h = some (r, h') → VM E 3 A p l e 2 s m args below meth c (Qi E A r h') 2 [(0, .ref (eA E k)), (1, .int x1), (2, .int x2)] [] h) {x1 : Int32} {x2 : Int32} {h : Hp} (hf0 : f5_holderOf_B2 k k2 x1 x2 h = some (r, h')) : VM E 3 A p l e 2 s m args below meth c (Qi E A r h') 2 [(0, .ref (eA E k)), (1, .int x1), (2, .int x2)] [] h := by
  unfold f5_holderOf_B2 at hf0
  have hf1 := hf0
  refine V_iload_n X 2 rfl dX5_holderOf_2 ?_
  refine V_iconst X (v := 4) (by decide) dX5_holderOf_3 ?_
  refine V_icmp_ge X (tgt := 24) (by decide) dX5_holderOf_4 (fun q4 => ?_) (fun q4 => ?_)
  · have hf2 := ift hf1 q4
    refine V_bipush X (v := -6) (by decide) dX5_holderOf_24 ?_
    exact V_iret X rfl hf2 dX5_holderOf_26
  · have hf2 := ife hf1 q4
    refine V_aload_n X 0 rfl dX5_holderOf_7 ?_
    refine V_iload_n X 2 rfl dX5_holderOf_8 ?_
    obtain ⟨c2, e_c2, hf4⟩ := obd hf2
    refine V_callVi X hk.1 rfl rfl (f5_heldBy_ok hk e_c2) ys_X5_heldBy yw_X5_heldBy ml_X5_32 rfl rfl ⟨Nat.le_of_ble_eq_true rfl, Nat.le_of_ble_eq_true rfl⟩ ⟨Nat.zero_le _, Nat.zero_le _⟩ (Nat.le_of_ble_eq_true rfl) dX5_holderOf_9 ?_
    refine V_iload_n X 1 rfl dX5_holderOf_12 ?_
    refine V_icmp_ne X (tgt := 18) (by decide) dX5_holderOf_13 (fun q13 => ?_) (fun q13 => ?_)
    · have hf5 := ife hf4 q13
      refine V_iinc X (v := _ + 1) 2 rfl (by rfl) (by decide) rfl dX5_holderOf_18 ?_
      refine V_goto X (tgt := 2) (by decide) dX5_holderOf_21 ?_
      exact V_sub [1, 2, 0] rfl (hk2 _ _ _ hf5)
    · have hf5 := ift hf4 q13
      refine V_iload_n X 2 rfl dX5_holderOf_16 ?_
      exact V_iret X rfl hf5 dX5_holderOf_17
def f5_holderOf_L2 (k : Nat) : Nat → Int32 → Int32 → Hp → Re
  | 0 => fun _ _ _ => none
  | n + 1 => f5_holderOf_B2 k (f5_holderOf_L2 k n)
theorem f5_holderOf_L2_s (k : Nat) (n : Nat) (x1 : Int32) (x2 : Int32) (h : Hp) : f5_holderOf_L2 k (n + 1) x1 x2 h = f5_holderOf_B2 k (f5_holderOf_L2 k n) x1 x2 h := rfl
theorem f5_holderOf_L2_ok {k : Nat} (hk : SR E k) (X : XC E RX5 cX5_holderOf 3 (some .int) A p s m args meth c) : ∀ (n : Nat) (x1 : Int32) (x2 : Int32) (h : Hp), f5_holderOf_L2 k n x1 x2 h = some (r, h') → VM E 3 A p l e 2 s m args below meth c (Qi E A r h') 2 [(0, .ref (eA E k)), (1, .int x1), (2, .int x2)] [] h := by
  intro n
  induction n with
  | zero =>
    intro x1 x2 h q
    have q : (none : Re) = some (r, h') := q
    cases q
  | succ n ih =>
    intro x1 x2 h q
    exact f5_holderOf_B2_ok hk X ih q
def f5_holderOf_e (k : Nat) (x1 : Int32) (h : Hp) : Re :=
  f5_holderOf_L2 k FU x1 0 h
set_option maxRecDepth 20000 in
set_option maxHeartbeats 4000000 in
theorem f5_holderOf_e_ok {k : Nat} (hk : SR E k) (X : XC E RX5 cX5_holderOf 3 (some .int) A p s m args meth c) {x1 : Int32} {h : Hp} (hf0 : f5_holderOf_e k x1 h = some (r, h')) : VM E 3 A p l e 2 s m args below meth c (Qi E A r h') 0 [(0, .ref (eA E k)), (1, .int x1)] [] h := by
  unfold f5_holderOf_e at hf0
  have hf1 := hf0
  refine V_iconst X (v := 0) (by decide) dX5_holderOf_0 ?_
  refine V_istore_n X (by decide) rfl dX5_holderOf_1 ?_
  exact V_sub [1, 2, 0] rfl (f5_holderOf_L2_ok hk X FU _ _ _ hf1)
def f5_holderOf (k : Nat) (x1 : Int32) (h : Hp) : Re := f5_holderOf_e k x1 h
theorem f5_holderOf_ok {k : Nat} (hk : SR E k) {x1 : Int32} {h : Hp} {q : Int32 × Hp} (hf0 : f5_holderOf k x1 h = some q) : SMi l E 2 yX5_holderOf cX5_holderOf 3 (some .int) [.ref (eA E k), .int x1] h q.1 q.2 :=
  SMi.of (by decide +kernel) (Nat.le_of_ble_eq_true rfl) (fun p e s m args below meth c A X => f5_holderOf_e_ok hk X (r := q.1) (h' := q.2) hf0)
def f7_ofColour_e (x1 : Int32) (x2 : Int32) (h : Hp) : Re :=
  (f7_isColour x1 h).bind fun c1 => if c1.1 = 0 then (some ((-1), c1.2)) else (if x2 = 0 then ((f5_funnel 1 x1 c1.2).bind fun c6 => some (c6.1, c6.2)) else if x2 = 1 then ((f5_holderOf 1 x1 c1.2).bind fun c9 => some (c9.1, c9.2)) else if x2 = 2 then ((f6_tally 0 x1 (-1) (-1) c1.2).bind fun c12 => some (c12.1, c12.2)) else if x2 = 3 then ((f6_tally 4 x1 (-1) (-1) c1.2).bind fun c15 => some (c15.1, c15.2)) else if x2 = 4 then ((f6_tally 5 x1 (-1) (-1) c1.2).bind fun c18 => some (c18.1, c18.2)) else (some ((-2), c1.2)))
set_option maxRecDepth 20000 in
set_option maxHeartbeats 4000000 in
theorem f7_ofColour_e_ok (hE : IW E) (X : XC E RX7 cX7_ofColour 3 (some .int) A p s m args meth c) {x1 : Int32} {x2 : Int32} {h : Hp} (hf0 : f7_ofColour_e x1 x2 h = some (r, h')) : VM E 3 A p l e 6 s m args below meth c (Qi E A r h') 0 [(0, .ref (eA E 0)), (1, .int x1), (2, .int x2)] [] h := by
  unfold f7_ofColour_e at hf0
  have hf1 := hf0
  refine V_iload_n X 1 rfl dX7_ofColour_0 ?_
  obtain ⟨c1, e_c1, hf3⟩ := obd hf1
  refine V_callSi X (f7_isColour_ok e_c1) ys_X7_isColour yw_X7_isColour ml_X7_142 rfl rfl ⟨Nat.le_of_ble_eq_true rfl, Nat.le_of_ble_eq_true rfl⟩ ⟨Nat.zero_le _, Nat.zero_le _⟩ (Nat.le_of_ble_eq_true rfl) dX7_ofColour_1 ?_
  refine V_if_ne X (tgt := 9) (by decide) dX7_ofColour_4 (fun q4 => ?_) (fun q4 => ?_)
  · have hf4 := ife hf3 q4
    refine V_iload_n X 2 rfl dX7_ofColour_9 ?_
    rcases oif hf4 with ⟨q10_0, hf10_0⟩ | ⟨q10_0, hf10_0⟩
    · refine V_table X (tgt := 44) (off := 34) (by rw [q10_0]; decide) (by decide) (by decide) dX7_ofColour_10 ?_
      have hf6 := hf10_0
      refine V_aload_n X 0 rfl dX7_ofColour_44 ?_
      refine G_X7_0_10 hE X dX7_ofColour_45 ?_
      refine V_iload_n X 1 rfl dX7_ofColour_48 ?_
      obtain ⟨c6, e_c6, hf8⟩ := obd hf6
      refine V_callVi X (SR_1 hE).1 rfl rfl (f5_funnel_ok (SR_1 hE) e_c6) ys_X5_funnel yw_X5_funnel ml_X7_145 rfl rfl ⟨Nat.le_of_ble_eq_true rfl, Nat.le_of_ble_eq_true rfl⟩ ⟨Nat.zero_le _, Nat.zero_le _⟩ (Nat.le_of_ble_eq_true rfl) dX7_ofColour_49 ?_
      exact V_iret X rfl hf8 dX7_ofColour_52
    rcases oif hf10_0 with ⟨q10_1, hf10_1⟩ | ⟨q10_1, hf10_1⟩
    · refine V_table X (tgt := 53) (off := 43) (by rw [q10_1]; decide) (by decide) (by decide) dX7_ofColour_10 ?_
      have hf9 := hf10_1
      refine V_aload_n X 0 rfl dX7_ofColour_53 ?_
      refine G_X7_0_10 hE X dX7_ofColour_54 ?_
      refine V_iload_n X 1 rfl dX7_ofColour_57 ?_
      obtain ⟨c9, e_c9, hf11⟩ := obd hf9
      refine V_callVi X (SR_1 hE).1 rfl rfl (f5_holderOf_ok (SR_1 hE) e_c9) ys_X5_holderOf yw_X5_holderOf ml_X7_148 rfl rfl ⟨Nat.le_of_ble_eq_true rfl, Nat.le_of_ble_eq_true rfl⟩ ⟨Nat.zero_le _, Nat.zero_le _⟩ (Nat.le_of_ble_eq_true rfl) dX7_ofColour_58 ?_
      exact V_iret X rfl hf11 dX7_ofColour_61
    rcases oif hf10_1 with ⟨q10_2, hf10_2⟩ | ⟨q10_2, hf10_2⟩
    · refine V_table X (tgt := 62) (off := 52) (by rw [q10_2]; decide) (by decide) (by decide) dX7_ofColour_10 ?_
      have hf12 := hf10_2
      refine V_aload_n X 0 rfl dX7_ofColour_62 ?_
      refine G_X7_0_10 hE X dX7_ofColour_63 ?_
      refine V_iconst X (v := 0) (by decide) dX7_ofColour_66 ?_
      refine V_iload_n X 1 rfl dX7_ofColour_67 ?_
      refine V_iconst X (v := -1) (by decide) dX7_ofColour_68 ?_
      refine V_iconst X (v := -1) (by decide) dX7_ofColour_69 ?_
      obtain ⟨c12, e_c12, hf14⟩ := obd hf12
      refine V_callSi X (f6_tally_ok hE e_c12) ys_X6_tally yw_X6_tally ml_X7_127 rfl rfl ⟨Nat.le_of_ble_eq_true rfl, Nat.le_of_ble_eq_true rfl⟩ ⟨Nat.zero_le _, Nat.zero_le _⟩ (Nat.le_of_ble_eq_true rfl) dX7_ofColour_70 ?_
      exact V_iret X rfl hf14 dX7_ofColour_73
    rcases oif hf10_2 with ⟨q10_3, hf10_3⟩ | ⟨q10_3, hf10_3⟩
    · refine V_table X (tgt := 74) (off := 64) (by rw [q10_3]; decide) (by decide) (by decide) dX7_ofColour_10 ?_
      have hf15 := hf10_3
      refine V_aload_n X 0 rfl dX7_ofColour_74 ?_
      refine G_X7_0_10 hE X dX7_ofColour_75 ?_
      refine V_iconst X (v := 4) (by decide) dX7_ofColour_78 ?_
      refine V_iload_n X 1 rfl dX7_ofColour_79 ?_
      refine V_iconst X (v := -1) (by decide) dX7_ofColour_80 ?_
      refine V_iconst X (v := -1) (by decide) dX7_ofColour_81 ?_
      obtain ⟨c15, e_c15, hf17⟩ := obd hf15
      refine V_callSi X (f6_tally_ok hE e_c15) ys_X6_tally yw_X6_tally ml_X7_127 rfl rfl ⟨Nat.le_of_ble_eq_true rfl, Nat.le_of_ble_eq_true rfl⟩ ⟨Nat.zero_le _, Nat.zero_le _⟩ (Nat.le_of_ble_eq_true rfl) dX7_ofColour_82 ?_
      exact V_iret X rfl hf17 dX7_ofColour_85
    rcases oif hf10_3 with ⟨q10_4, hf10_4⟩ | ⟨q10_4, hf10_4⟩
    · refine V_table X (tgt := 86) (off := 76) (by rw [q10_4]; decide) (by decide) (by decide) dX7_ofColour_10 ?_
      have hf18 := hf10_4
      refine V_aload_n X 0 rfl dX7_ofColour_86 ?_
      refine G_X7_0_10 hE X dX7_ofColour_87 ?_
      refine V_iconst X (v := 5) (by decide) dX7_ofColour_90 ?_
      refine V_iload_n X 1 rfl dX7_ofColour_91 ?_
      refine V_iconst X (v := -1) (by decide) dX7_ofColour_92 ?_
      refine V_iconst X (v := -1) (by decide) dX7_ofColour_93 ?_
      obtain ⟨c18, e_c18, hf20⟩ := obd hf18
      refine V_callSi X (f6_tally_ok hE e_c18) ys_X6_tally yw_X6_tally ml_X7_127 rfl rfl ⟨Nat.le_of_ble_eq_true rfl, Nat.le_of_ble_eq_true rfl⟩ ⟨Nat.zero_le _, Nat.zero_le _⟩ (Nat.le_of_ble_eq_true rfl) dX7_ofColour_94 ?_
      exact V_iret X rfl hf20 dX7_ofColour_97
    · skip
      refine V_table X (tgt := 98) (off := 88) (tsel_out (by have z0 := lv_neT q10_0 (show (0 : Int32).toInt = 0 by decide); have z1 := lv_neT q10_1 (show (1 : Int32).toInt = 1 by decide); have z2 := lv_neT q10_2 (show (2 : Int32).toInt = 2 by decide); have z3 := lv_neT q10_3 (show (3 : Int32).toInt = 3 by decide); have z4 := lv_neT q10_4 (show (4 : Int32).toInt = 4 by decide); omega)) (by decide) (by decide) dX7_ofColour_10 ?_
      have hf21 := hf10_4
      refine V_bipush X (v := -2) (by decide) dX7_ofColour_98 ?_
      exact V_iret X rfl hf21 dX7_ofColour_100
  · have hf4 := ift hf3 q4
    refine V_iconst X (v := -1) (by decide) dX7_ofColour_7 ?_
    exact V_iret X rfl hf4 dX7_ofColour_8
def f7_ofColour (x1 : Int32) (x2 : Int32) (h : Hp) : Re := f7_ofColour_e x1 x2 h
theorem f7_ofColour_ok (hE : IW E) {x1 : Int32} {x2 : Int32} {h : Hp} {q : Int32 × Hp} (hf0 : f7_ofColour x1 x2 h = some q) : SMi l E 6 yX7_ofColour cX7_ofColour 3 (some .int) [.ref (eA E 0), .int x1, .int x2] h q.1 q.2 :=
  SMi.of (by decide +kernel) (Nat.le_of_ble_eq_true rfl) (fun p e s m args below meth c A X => f7_ofColour_e_ok hE X (r := q.1) (h' := q.2) hf0)
def f7_lacking_B4 (k4 : Int32 → Int32 → Hp → Re) (x1 : Int32) (x2 : Int32) (h : Hp) : Re :=
  if 6 < x2 then (some (x1, h)) else ((f6_tally 5 x2 (-1) (-1) h).bind fun c2 => (f5_funnel 1 x2 c2.2).bind fun c4 => if c2.1 ≤ c4.1 then (k4 x1 (x2 + 1) c4.2) else ((some (x1 ||| ((1 : Int32) <<< (x2 &&& 31)) : Int32)).bind fun z7 => k4 z7 (x2 + 1) c4.2))
set_option maxRecDepth 20000 in
set_option maxHeartbeats 4000000 in
theorem f7_lacking_B4_ok (hE : IW E) (X : XC E RX7 cX7_lacking 4 (some .int) A p s m args meth c) {k4 : Int32 → Int32 → Hp → Re} (hk4 : ∀ (x1 : Int32) (x2 : Int32) (h : Hp), k4 x1 x2 h = some (r, h') → VM E 4 A p l e 6 s m args below meth c (Qi E A r h') 4 [(0, .ref (eA E 0)), (1, .int x1), (2, .int x2)] [] h) {x1 : Int32} {x2 : Int32} {h : Hp} (hf0 : f7_lacking_B4 k4 x1 x2 h = some (r, h')) : VM E 4 A p l e 6 s m args below meth c (Qi E A r h') 4 [(0, .ref (eA E 0)), (1, .int x1), (2, .int x2)] [] h := by
  unfold f7_lacking_B4 at hf0
  have hf1 := hf0
  refine V_iload_n X 2 rfl dX7_lacking_4 ?_
  refine V_bipush X (v := 6) (by decide) dX7_lacking_5 ?_
  refine V_icmp_gt X (tgt := 46) (by decide) dX7_lacking_7 (fun q7 => ?_) (fun q7 => ?_)
  · have hf2 := ift hf1 q7
    refine V_iload_n X 1 rfl dX7_lacking_46 ?_
    exact V_iret X rfl hf2 dX7_lacking_47
  · have hf2 := ife hf1 q7
    refine V_aload_n X 0 rfl dX7_lacking_10 ?_
    refine G_X7_0_10 hE X dX7_lacking_11 ?_
    refine V_iconst X (v := 5) (by decide) dX7_lacking_14 ?_
    refine V_iload_n X 2 rfl dX7_lacking_15 ?_
    refine V_iconst X (v := -1) (by decide) dX7_lacking_16 ?_
    refine V_iconst X (v := -1) (by decide) dX7_lacking_17 ?_
    obtain ⟨c2, e_c2, hf4⟩ := obd hf2
    refine V_callSi X (f6_tally_ok hE e_c2) ys_X6_tally yw_X6_tally ml_X7_127 rfl rfl ⟨Nat.le_of_ble_eq_true rfl, Nat.le_of_ble_eq_true rfl⟩ ⟨Nat.zero_le _, Nat.zero_le _⟩ (Nat.le_of_ble_eq_true rfl) dX7_lacking_18 ?_
    refine V_istore_n X (by decide) rfl dX7_lacking_21 ?_
    refine V_iload_n X 0 rfl dX7_lacking_22 ?_
    refine V_aload_n X 1 rfl dX7_lacking_23 ?_
    refine G_X7_0_10 hE X dX7_lacking_24 ?_
    refine V_iload_n X 3 rfl dX7_lacking_27 ?_
    obtain ⟨c4, e_c4, hf6⟩ := obd hf4
    refine V_callVi X (SR_1 hE).1 rfl rfl (f5_funnel_ok (SR_1 hE) e_c4) ys_X5_funnel yw_X5_funnel ml_X7_145 rfl rfl ⟨Nat.le_of_ble_eq_true rfl, Nat.le_of_ble_eq_true rfl⟩ ⟨Nat.zero_le _, Nat.zero_le _⟩ (Nat.le_of_ble_eq_true rfl) dX7_lacking_28 ?_
    refine V_icmp_le X (tgt := 40) (by decide) dX7_lacking_31 (fun q31 => ?_) (fun q31 => ?_)
    · have hf7 := ift hf6 q31
      refine V_iinc X (v := _ + 1) 3 rfl (by rfl) (by decide) rfl dX7_lacking_40 ?_
      refine V_goto X (tgt := 4) (by decide) dX7_lacking_43 ?_
      exact V_sub [2, 3, 0] rfl (hk4 _ _ _ hf7)
    · have hf7 := ife hf6 q31
      refine V_iload_n X 2 rfl dX7_lacking_34 ?_
      refine V_iconst X (v := 1) (by decide) dX7_lacking_35 ?_
      refine V_iload_n X 3 rfl dX7_lacking_36 ?_
      refine V_ishl X dX7_lacking_37 ?_
      refine V_ior X dX7_lacking_38 ?_
      refine V_istore_n X (by decide) rfl dX7_lacking_39 ?_
      have hf9 := obs hf7
      refine V_iinc X (v := _ + 1) 3 rfl (by rfl) (by decide) rfl dX7_lacking_40 ?_
      refine V_goto X (tgt := 4) (by decide) dX7_lacking_43 ?_
      exact V_sub [3, 1, 0] rfl (hk4 _ _ _ hf9)
def f7_lacking_L4 : Nat → Int32 → Int32 → Hp → Re
  | 0 => fun _ _ _ => none
  | n + 1 => f7_lacking_B4 (f7_lacking_L4 n)
theorem f7_lacking_L4_s (n : Nat) (x1 : Int32) (x2 : Int32) (h : Hp) : f7_lacking_L4 (n + 1) x1 x2 h = f7_lacking_B4 (f7_lacking_L4 n) x1 x2 h := rfl
theorem f7_lacking_L4_ok (hE : IW E) (X : XC E RX7 cX7_lacking 4 (some .int) A p s m args meth c) : ∀ (n : Nat) (x1 : Int32) (x2 : Int32) (h : Hp), f7_lacking_L4 n x1 x2 h = some (r, h') → VM E 4 A p l e 6 s m args below meth c (Qi E A r h') 4 [(0, .ref (eA E 0)), (1, .int x1), (2, .int x2)] [] h := by
  intro n
  induction n with
  | zero =>
    intro x1 x2 h q
    have q : (none : Re) = some (r, h') := q
    cases q
  | succ n ih =>
    intro x1 x2 h q
    exact f7_lacking_B4_ok hE X ih q
def f7_lacking_e (h : Hp) : Re :=
  f7_lacking_L4 FU 0 1 h
set_option maxRecDepth 20000 in
set_option maxHeartbeats 4000000 in
theorem f7_lacking_e_ok (hE : IW E) (X : XC E RX7 cX7_lacking 4 (some .int) A p s m args meth c) {h : Hp} (hf0 : f7_lacking_e  h = some (r, h')) : VM E 4 A p l e 6 s m args below meth c (Qi E A r h') 0 [(0, .ref (eA E 0))] [] h := by
  unfold f7_lacking_e at hf0
  have hf1 := hf0
  refine V_iconst X (v := 0) (by decide) dX7_lacking_0 ?_
  refine V_istore_n X (by decide) rfl dX7_lacking_1 ?_
  refine V_iconst X (v := 1) (by decide) dX7_lacking_2 ?_
  refine V_istore_n X (by decide) rfl dX7_lacking_3 ?_
  exact V_sub [2, 1, 0] rfl (f7_lacking_L4_ok hE X FU _ _ _ hf1)
def f7_lacking (h : Hp) : Re := f7_lacking_e  h
theorem f7_lacking_ok (hE : IW E) {h : Hp} {q : Int32 × Hp} (hf0 : f7_lacking  h = some q) : SMi l E 6 yX7_lacking cX7_lacking 4 (some .int) [.ref (eA E 0)] h q.1 q.2 :=
  SMi.of (by decide +kernel) (Nat.le_of_ble_eq_true rfl) (fun p e s m args below meth c A X => f7_lacking_e_ok hE X (r := q.1) (h' := q.2) hf0)
def f7_best_B6 (k6 : Int32 → Int32 → Int32 → Hp → Re) (x1 : Int32) (x2 : Int32) (x3 : Int32) (h : Hp) : Re :=
  if 4 ≤ x3 then (some (x1, h)) else ((f6_tally 1 (-1) x3 (-1) h).bind fun c2 => if c2.1 ≤ x2 then (k6 x1 x2 (x3 + 1) c2.2) else (k6 x3 c2.1 (x3 + 1) c2.2))
set_option maxRecDepth 20000 in
set_option maxHeartbeats 4000000 in
theorem f7_best_B6_ok (hE : IW E) (X : XC E RX7 cX7_best 5 (some .int) A p s m args meth c) {k6 : Int32 → Int32 → Int32 → Hp → Re} (hk6 : ∀ (x1 : Int32) (x2 : Int32) (x3 : Int32) (h : Hp), k6 x1 x2 x3 h = some (r, h') → VM E 5 A p l e 6 s m args below meth c (Qi E A r h') 6 [(0, .ref (eA E 0)), (1, .int x1), (2, .int x2), (3, .int x3)] [] h) {x1 : Int32} {x2 : Int32} {x3 : Int32} {h : Hp} (hf0 : f7_best_B6 k6 x1 x2 x3 h = some (r, h')) : VM E 5 A p l e 6 s m args below meth c (Qi E A r h') 6 [(0, .ref (eA E 0)), (1, .int x1), (2, .int x2), (3, .int x3)] [] h := by
  unfold f7_best_B6 at hf0
  have hf1 := hf0
  refine V_iload_n X 3 rfl dX7_best_6 ?_
  refine V_iconst X (v := 4) (by decide) dX7_best_7 ?_
  refine V_icmp_ge X (tgt := 41) (by decide) dX7_best_8 (fun q8 => ?_) (fun q8 => ?_)
  · have hf2 := ift hf1 q8
    refine V_iload_n X 1 rfl dX7_best_41 ?_
    exact V_iret X rfl hf2 dX7_best_42
  · have hf2 := ife hf1 q8
    refine V_aload_n X 0 rfl dX7_best_11 ?_
    refine G_X7_0_10 hE X dX7_best_12 ?_
    refine V_iconst X (v := 1) (by decide) dX7_best_15 ?_
    refine V_iconst X (v := -1) (by decide) dX7_best_16 ?_
    refine V_iload_n X 3 rfl dX7_best_17 ?_
    refine V_iconst X (v := -1) (by decide) dX7_best_18 ?_
    obtain ⟨c2, e_c2, hf4⟩ := obd hf2
    refine V_callSi X (f6_tally_ok hE e_c2) ys_X6_tally yw_X6_tally ml_X7_127 rfl rfl ⟨Nat.le_of_ble_eq_true rfl, Nat.le_of_ble_eq_true rfl⟩ ⟨Nat.zero_le _, Nat.zero_le _⟩ (Nat.le_of_ble_eq_true rfl) dX7_best_19 ?_
    refine V_istore X (by decide) rfl dX7_best_22 ?_
    refine V_iload X 0 rfl dX7_best_24 ?_
    refine V_iload_n X 3 rfl dX7_best_26 ?_
    refine V_icmp_le X (tgt := 35) (by decide) dX7_best_27 (fun q27 => ?_) (fun q27 => ?_)
    · have hf5 := ift hf4 q27
      refine V_iinc X (v := _ + 1) 4 rfl (by rfl) (by decide) rfl dX7_best_35 ?_
      refine V_goto X (tgt := 6) (by decide) dX7_best_38 ?_
      exact V_sub [2, 3, 4, 0] rfl (hk6 _ _ _ _ hf5)
    · have hf5 := ife hf4 q27
      refine V_iload X 0 rfl dX7_best_30 ?_
      refine V_istore_n X (by decide) rfl dX7_best_32 ?_
      refine V_iload_n X 4 rfl dX7_best_33 ?_
      refine V_istore_n X (by decide) rfl dX7_best_34 ?_
      refine V_iinc X (v := _ + 1) 4 rfl (by rfl) (by decide) rfl dX7_best_35 ?_
      refine V_goto X (tgt := 6) (by decide) dX7_best_38 ?_
      exact V_sub [4, 1, 2, 0] rfl (hk6 _ _ _ _ hf5)
def f7_best_L6 : Nat → Int32 → Int32 → Int32 → Hp → Re
  | 0 => fun _ _ _ _ => none
  | n + 1 => f7_best_B6 (f7_best_L6 n)
theorem f7_best_L6_s (n : Nat) (x1 : Int32) (x2 : Int32) (x3 : Int32) (h : Hp) : f7_best_L6 (n + 1) x1 x2 x3 h = f7_best_B6 (f7_best_L6 n) x1 x2 x3 h := rfl
theorem f7_best_L6_ok (hE : IW E) (X : XC E RX7 cX7_best 5 (some .int) A p s m args meth c) : ∀ (n : Nat) (x1 : Int32) (x2 : Int32) (x3 : Int32) (h : Hp), f7_best_L6 n x1 x2 x3 h = some (r, h') → VM E 5 A p l e 6 s m args below meth c (Qi E A r h') 6 [(0, .ref (eA E 0)), (1, .int x1), (2, .int x2), (3, .int x3)] [] h := by
  intro n
  induction n with
  | zero =>
    intro x1 x2 x3 h q
    have q : (none : Re) = some (r, h') := q
    cases q
  | succ n ih =>
    intro x1 x2 x3 h q
    exact f7_best_B6_ok hE X ih q
def f7_best_e (h : Hp) : Re :=
  f7_best_L6 FU 0 0 0 h
set_option maxRecDepth 20000 in
set_option maxHeartbeats 4000000 in
theorem f7_best_e_ok (hE : IW E) (X : XC E RX7 cX7_best 5 (some .int) A p s m args meth c) {h : Hp} (hf0 : f7_best_e  h = some (r, h')) : VM E 5 A p l e 6 s m args below meth c (Qi E A r h') 0 [(0, .ref (eA E 0))] [] h := by
  unfold f7_best_e at hf0
  have hf1 := hf0
  refine V_iconst X (v := 0) (by decide) dX7_best_0 ?_
  refine V_istore_n X (by decide) rfl dX7_best_1 ?_
  refine V_iconst X (v := 0) (by decide) dX7_best_2 ?_
  refine V_istore_n X (by decide) rfl dX7_best_3 ?_
  refine V_iconst X (v := 0) (by decide) dX7_best_4 ?_
  refine V_istore_n X (by decide) rfl dX7_best_5 ?_
  exact V_sub [3, 2, 1, 0] rfl (f7_best_L6_ok hE X FU _ _ _ _ hf1)
def f7_best (h : Hp) : Re := f7_best_e  h
theorem f7_best_ok (hE : IW E) {h : Hp} {q : Int32 × Hp} (hf0 : f7_best  h = some q) : SMi l E 6 yX7_best cX7_best 5 (some .int) [.ref (eA E 0)] h q.1 q.2 :=
  SMi.of (by decide +kernel) (Nat.le_of_ble_eq_true rfl) (fun p e s m args below meth c A X => f7_best_e_ok hE X (r := q.1) (h' := q.2) hf0)
def f6_canBePoured_e (x1 : Int32) (x2 : Int32) (x3 : Int32) (h : Hp) : Re :=
  (f5_wanted 1 x1 x2 x3 h).bind fun c1 => (f5_colour 1 x1 x2 x3 c1.2).bind fun c3 => (f7_isColour c1.1 c3.2).bind fun c5 => if c5.1 = 0 then (rz 0 c5.2) else (if c3.1 = 0 then (rz 1 c5.2) else (if c3.1 = c1.1 then (rz 1 c5.2) else (rz 0 c5.2)))
set_option maxRecDepth 20000 in
set_option maxHeartbeats 4000000 in
theorem f6_canBePoured_e_ok (hE : IW E) (X : XC E RX6 cX6_canBePoured 6 (some .boolean) A p s m args meth c) {x1 : Int32} {x2 : Int32} {x3 : Int32} {h : Hp} (hf0 : f6_canBePoured_e x1 x2 x3 h = some (r, h')) : VM E 6 A p l e 3 s m args below meth c (Qi E A r h') 0 [(0, .ref (eA E 1)), (1, .int x1), (2, .int x2), (3, .int x3)] [] h := by
  unfold f6_canBePoured_e at hf0
  have hf1 := hf0
  refine V_aload_n X 0 rfl dX6_canBePoured_0 ?_
  refine V_iload_n X 1 rfl dX6_canBePoured_1 ?_
  refine V_iload_n X 2 rfl dX6_canBePoured_2 ?_
  refine V_iload_n X 3 rfl dX6_canBePoured_3 ?_
  obtain ⟨c1, e_c1, hf3⟩ := obd hf1
  refine V_callVi X (SR_1 hE).1 rfl rfl (f5_wanted_ok (SR_1 hE) e_c1) ys_X5_wanted yw_X5_wanted ml_X6_25 rfl rfl ⟨Nat.le_of_ble_eq_true rfl, Nat.le_of_ble_eq_true rfl⟩ ⟨Nat.zero_le _, Nat.zero_le _⟩ (Nat.le_of_ble_eq_true rfl) dX6_canBePoured_4 ?_
  refine V_istore X (by decide) rfl dX6_canBePoured_7 ?_
  refine V_aload_n X 1 rfl dX6_canBePoured_9 ?_
  refine V_iload_n X 2 rfl dX6_canBePoured_10 ?_
  refine V_iload_n X 3 rfl dX6_canBePoured_11 ?_
  refine V_iload_n X 4 rfl dX6_canBePoured_12 ?_
  obtain ⟨c3, e_c3, hf5⟩ := obd hf3
  refine V_callVi X (SR_1 hE).1 rfl rfl (f5_colour_ok (SR_1 hE) e_c3) ys_X5_colour yw_X5_colour ml_X6_19 rfl rfl ⟨Nat.le_of_ble_eq_true rfl, Nat.le_of_ble_eq_true rfl⟩ ⟨Nat.zero_le _, Nat.zero_le _⟩ (Nat.le_of_ble_eq_true rfl) dX6_canBePoured_13 ?_
  refine V_istore X (by decide) rfl dX6_canBePoured_16 ?_
  refine V_iload X 1 rfl dX6_canBePoured_18 ?_
  obtain ⟨c5, e_c5, hf7⟩ := obd hf5
  refine V_callSNi X (f7_isColour_ok e_c5) ys_X7_isColour yw_X7_isColour nl_X6_65 rfl rfl ⟨Nat.le_of_ble_eq_true rfl, Nat.le_of_ble_eq_true rfl⟩ ⟨Nat.zero_le _, Nat.zero_le _⟩ (Nat.le_of_ble_eq_true rfl) dX6_canBePoured_20 ?_
  refine V_if_eq X (tgt := 42) (by decide) dX6_canBePoured_23 (fun q23 => ?_) (fun q23 => ?_)
  · have hf8 := ift hf7 q23
    refine V_iconst X (v := 0) (by decide) dX6_canBePoured_42 ?_
    exact V_zret X rfl hf8 dX6_canBePoured_43
  · have hf8 := ife hf7 q23
    refine V_iload X 0 rfl dX6_canBePoured_26 ?_
    refine V_if_eq X (tgt := 38) (by decide) dX6_canBePoured_28 (fun q28 => ?_) (fun q28 => ?_)
    · have hf9 := ift hf8 q28
      refine V_iconst X (v := 1) (by decide) dX6_canBePoured_38 ?_
      refine V_goto X (tgt := 43) (by decide) dX6_canBePoured_39 ?_
      exact V_zret X rfl hf9 dX6_canBePoured_43
    · have hf9 := ife hf8 q28
      refine V_iload X 0 rfl dX6_canBePoured_31 ?_
      refine V_iload X 1 rfl dX6_canBePoured_33 ?_
      refine V_icmp_ne X (tgt := 42) (by decide) dX6_canBePoured_35 (fun q35 => ?_) (fun q35 => ?_)
      · have hf10 := ife hf9 q35
        refine V_iconst X (v := 0) (by decide) dX6_canBePoured_42 ?_
        exact V_zret X rfl hf10 dX6_canBePoured_43
      · have hf10 := ift hf9 q35
        refine V_iconst X (v := 1) (by decide) dX6_canBePoured_38 ?_
        refine V_goto X (tgt := 43) (by decide) dX6_canBePoured_39 ?_
        exact V_zret X rfl hf10 dX6_canBePoured_43
def f6_canBePoured (x1 : Int32) (x2 : Int32) (x3 : Int32) (h : Hp) : Re := f6_canBePoured_e x1 x2 x3 h
theorem f6_canBePoured_ok (hE : IW E) {x1 : Int32} {x2 : Int32} {x3 : Int32} {h : Hp} {q : Int32 × Hp} (hf0 : f6_canBePoured x1 x2 x3 h = some q) : SMi l E 3 yX6_canBePoured cX6_canBePoured 6 (some .boolean) [.ref (eA E 1), .int x1, .int x2, .int x3] h q.1 q.2 :=
  SMi.of (by decide +kernel) (Nat.le_of_ble_eq_true rfl) (fun p e s m args below meth c A X => f6_canBePoured_e_ok hE X (r := q.1) (h' := q.2) hf0)
def f6_neediest_B33 (k16 : Int32 → Int32 → Int32 → Hp → Re) (k24 : Int32 → Int32 → Int32 → Int32 → Hp → Re) (k33 : Int32 → Int32 → Int32 → Int32 → Int32 → Hp → Re) (x1 : Int32) (x2 : Int32) (x3 : Int32) (x4 : Int32) (x5 : Int32) (h : Hp) : Re :=
  if 8 ≤ x5 then (k24 x1 x2 x3 (x4 + 1) h) else ((f5_grains 1 x4 x3 x5 h).bind fun c2 => if x2 ≤ c2.1 then (k33 x1 x2 x3 x4 (x5 + 1) c2.2) else ((f6_canBePoured x4 x3 x5 c2.2).bind fun c5 => if c5.1 = 0 then (k33 x1 x2 x3 x4 (x5 + 1) c5.2) else (k33 ((((x3 * 4) + x4) * 8) + x5) c2.1 x3 x4 (x5 + 1) c5.2)))
set_option maxRecDepth 20000 in
set_option maxHeartbeats 4000000 in
theorem f6_neediest_B33_ok (hE : IW E) (X : XC E RX6 cX6_neediest 7 (some .int) A p s m args meth c) {k16 : Int32 → Int32 → Int32 → Hp → Re} {k24 : Int32 → Int32 → Int32 → Int32 → Hp → Re} {k33 : Int32 → Int32 → Int32 → Int32 → Int32 → Hp → Re} (hk16 : ∀ (x1 : Int32) (x2 : Int32) (x3 : Int32) (h : Hp), k16 x1 x2 x3 h = some (r, h') → VM E 7 A p l e 4 s m args below meth c (Qi E A r h') 16 [(0, .ref (eA E 1)), (1, .int x1), (2, .int x2), (3, .int x3)] [] h) (hk24 : ∀ (x1 : Int32) (x2 : Int32) (x3 : Int32) (x4 : Int32) (h : Hp), k24 x1 x2 x3 x4 h = some (r, h') → VM E 7 A p l e 4 s m args below meth c (Qi E A r h') 24 [(0, .ref (eA E 1)), (1, .int x1), (2, .int x2), (3, .int x3), (4, .int x4)] [] h) (hk33 : ∀ (x1 : Int32) (x2 : Int32) (x3 : Int32) (x4 : Int32) (x5 : Int32) (h : Hp), k33 x1 x2 x3 x4 x5 h = some (r, h') → VM E 7 A p l e 4 s m args below meth c (Qi E A r h') 33 [(0, .ref (eA E 1)), (1, .int x1), (2, .int x2), (3, .int x3), (4, .int x4), (5, .int x5)] [] h) {x1 : Int32} {x2 : Int32} {x3 : Int32} {x4 : Int32} {x5 : Int32} {h : Hp} (hf0 : f6_neediest_B33 k16 k24 k33 x1 x2 x3 x4 x5 h = some (r, h')) : VM E 7 A p l e 4 s m args below meth c (Qi E A r h') 33 [(0, .ref (eA E 1)), (1, .int x1), (2, .int x2), (3, .int x3), (4, .int x4), (5, .int x5)] [] h := by
  unfold f6_neediest_B33 at hf0
  have hf1 := hf0
  refine V_iload X 5 rfl dX6_neediest_33 ?_
  refine V_bipush X (v := 8) (by decide) dX6_neediest_35 ?_
  refine V_icmp_ge X (tgt := 91) (by decide) dX6_neediest_37 (fun q37 => ?_) (fun q37 => ?_)
  · have hf2 := ift hf1 q37
    refine V_iinc X (v := _ + 1) 4 rfl (by rfl) (by decide) rfl dX6_neediest_91 ?_
    refine V_goto X (tgt := 24) (by decide) dX6_neediest_94 ?_
    exact V_sub [1, 2, 3, 4, 0] rfl (hk24 _ _ _ _ _ hf2)
  · have hf2 := ife hf1 q37
    refine V_aload_n X 0 rfl dX6_neediest_40 ?_
    refine V_iload X 4 rfl dX6_neediest_41 ?_
    refine V_iload_n X 3 rfl dX6_neediest_43 ?_
    refine V_iload X 5 rfl dX6_neediest_44 ?_
    obtain ⟨c2, e_c2, hf4⟩ := obd hf2
    refine V_callVi X (SR_1 hE).1 rfl rfl (f5_grains_ok (SR_1 hE) e_c2) ys_X5_grains yw_X5_grains ml_X6_32 rfl rfl ⟨Nat.le_of_ble_eq_true rfl, Nat.le_of_ble_eq_true rfl⟩ ⟨Nat.zero_le _, Nat.zero_le _⟩ (Nat.le_of_ble_eq_true rfl) dX6_neediest_46 ?_
    refine V_istore X (by decide) rfl dX6_neediest_49 ?_
    refine V_iload X 0 rfl dX6_neediest_51 ?_
    refine V_iload_n X 3 rfl dX6_neediest_53 ?_
    refine V_icmp_ge X (tgt := 85) (by decide) dX6_neediest_54 (fun q54 => ?_) (fun q54 => ?_)
    · have hf5 := ift hf4 q54
      refine V_iinc X (v := _ + 1) 6 rfl (by rfl) (by decide) rfl dX6_neediest_85 ?_
      refine V_goto X (tgt := 33) (by decide) dX6_neediest_88 ?_
      exact V_sub [2, 3, 4, 5, 6, 0] rfl (hk33 _ _ _ _ _ _ hf5)
    · have hf5 := ife hf4 q54
      refine V_aload_n X 1 rfl dX6_neediest_57 ?_
      refine V_iload X 5 rfl dX6_neediest_58 ?_
      refine V_iload_n X 4 rfl dX6_neediest_60 ?_
      refine V_iload X 6 rfl dX6_neediest_61 ?_
      obtain ⟨c5, e_c5, hf7⟩ := obd hf5
      refine V_callSi X (f6_canBePoured_ok hE e_c5) ys_X6_canBePoured yw_X6_canBePoured ml_X6_61 rfl rfl ⟨Nat.le_of_ble_eq_true rfl, Nat.le_of_ble_eq_true rfl⟩ ⟨Nat.zero_le _, Nat.zero_le _⟩ (Nat.le_of_ble_eq_true rfl) dX6_neediest_63 ?_
      refine V_if_eq X (tgt := 85) (by decide) dX6_neediest_66 (fun q66 => ?_) (fun q66 => ?_)
      · have hf8 := ift hf7 q66
        refine V_iinc X (v := _ + 1) 6 rfl (by rfl) (by decide) rfl dX6_neediest_85 ?_
        refine V_goto X (tgt := 33) (by decide) dX6_neediest_88 ?_
        exact V_sub [2, 3, 4, 5, 6, 0] rfl (hk33 _ _ _ _ _ _ hf8)
      · have hf8 := ife hf7 q66
        refine V_iload X 0 rfl dX6_neediest_69 ?_
        refine V_istore_n X (by decide) rfl dX6_neediest_71 ?_
        refine V_iload_n X 4 rfl dX6_neediest_72 ?_
        refine V_iconst X (v := 4) (by decide) dX6_neediest_73 ?_
        refine V_imul X dX6_neediest_74 ?_
        refine V_iload X 5 rfl dX6_neediest_75 ?_
        refine V_iadd X dX6_neediest_77 ?_
        refine V_bipush X (v := 8) (by decide) dX6_neediest_78 ?_
        refine V_imul X dX6_neediest_80 ?_
        refine V_iload X 6 rfl dX6_neediest_81 ?_
        refine V_iadd X dX6_neediest_83 ?_
        refine V_istore_n X (by decide) rfl dX6_neediest_84 ?_
        refine V_iinc X (v := _ + 1) 6 rfl (by rfl) (by decide) rfl dX6_neediest_85 ?_
        refine V_goto X (tgt := 33) (by decide) dX6_neediest_88 ?_
        exact V_sub [4, 1, 2, 5, 6, 0] rfl (hk33 _ _ _ _ _ _ hf8)
def f6_neediest_L33 (k16 : Int32 → Int32 → Int32 → Hp → Re) (k24 : Int32 → Int32 → Int32 → Int32 → Hp → Re) : Nat → Int32 → Int32 → Int32 → Int32 → Int32 → Hp → Re
  | 0 => fun _ _ _ _ _ _ => none
  | n + 1 => f6_neediest_B33 k16 k24 (f6_neediest_L33 k16 k24 n)
theorem f6_neediest_L33_s (k16 : Int32 → Int32 → Int32 → Hp → Re) (k24 : Int32 → Int32 → Int32 → Int32 → Hp → Re) (n : Nat) (x1 : Int32) (x2 : Int32) (x3 : Int32) (x4 : Int32) (x5 : Int32) (h : Hp) : f6_neediest_L33 k16 k24 (n + 1) x1 x2 x3 x4 x5 h = f6_neediest_B33 k16 k24 (f6_neediest_L33 k16 k24 n) x1 x2 x3 x4 x5 h := rfl
theorem f6_neediest_L33_ok (hE : IW E) (X : XC E RX6 cX6_neediest 7 (some .int) A p s m args meth c) {k16 : Int32 → Int32 → Int32 → Hp → Re} {k24 : Int32 → Int32 → Int32 → Int32 → Hp → Re} (hk16 : ∀ (x1 : Int32) (x2 : Int32) (x3 : Int32) (h : Hp), k16 x1 x2 x3 h = some (r, h') → VM E 7 A p l e 4 s m args below meth c (Qi E A r h') 16 [(0, .ref (eA E 1)), (1, .int x1), (2, .int x2), (3, .int x3)] [] h) (hk24 : ∀ (x1 : Int32) (x2 : Int32) (x3 : Int32) (x4 : Int32) (h : Hp), k24 x1 x2 x3 x4 h = some (r, h') → VM E 7 A p l e 4 s m args below meth c (Qi E A r h') 24 [(0, .ref (eA E 1)), (1, .int x1), (2, .int x2), (3, .int x3), (4, .int x4)] [] h) : ∀ (n : Nat) (x1 : Int32) (x2 : Int32) (x3 : Int32) (x4 : Int32) (x5 : Int32) (h : Hp), f6_neediest_L33 k16 k24 n x1 x2 x3 x4 x5 h = some (r, h') → VM E 7 A p l e 4 s m args below meth c (Qi E A r h') 33 [(0, .ref (eA E 1)), (1, .int x1), (2, .int x2), (3, .int x3), (4, .int x4), (5, .int x5)] [] h := by
  intro n
  induction n with
  | zero =>
    intro x1 x2 x3 x4 x5 h q
    have q : (none : Re) = some (r, h') := q
    cases q
  | succ n ih =>
    intro x1 x2 x3 x4 x5 h q
    exact f6_neediest_B33_ok hE X hk16 hk24 ih q
def f6_neediest_B24 (k16 : Int32 → Int32 → Int32 → Hp → Re) (k24 : Int32 → Int32 → Int32 → Int32 → Hp → Re) (x1 : Int32) (x2 : Int32) (x3 : Int32) (x4 : Int32) (h : Hp) : Re :=
  if 4 ≤ x4 then (k16 x1 x2 (x3 + 1) h) else (f6_neediest_L33 k16 k24 FU x1 x2 x3 x4 0 h)
set_option maxRecDepth 20000 in
set_option maxHeartbeats 4000000 in
theorem f6_neediest_B24_ok (hE : IW E) (X : XC E RX6 cX6_neediest 7 (some .int) A p s m args meth c) {k16 : Int32 → Int32 → Int32 → Hp → Re} {k24 : Int32 → Int32 → Int32 → Int32 → Hp → Re} (hk16 : ∀ (x1 : Int32) (x2 : Int32) (x3 : Int32) (h : Hp), k16 x1 x2 x3 h = some (r, h') → VM E 7 A p l e 4 s m args below meth c (Qi E A r h') 16 [(0, .ref (eA E 1)), (1, .int x1), (2, .int x2), (3, .int x3)] [] h) (hk24 : ∀ (x1 : Int32) (x2 : Int32) (x3 : Int32) (x4 : Int32) (h : Hp), k24 x1 x2 x3 x4 h = some (r, h') → VM E 7 A p l e 4 s m args below meth c (Qi E A r h') 24 [(0, .ref (eA E 1)), (1, .int x1), (2, .int x2), (3, .int x3), (4, .int x4)] [] h) {x1 : Int32} {x2 : Int32} {x3 : Int32} {x4 : Int32} {h : Hp} (hf0 : f6_neediest_B24 k16 k24 x1 x2 x3 x4 h = some (r, h')) : VM E 7 A p l e 4 s m args below meth c (Qi E A r h') 24 [(0, .ref (eA E 1)), (1, .int x1), (2, .int x2), (3, .int x3), (4, .int x4)] [] h := by
  unfold f6_neediest_B24 at hf0
  have hf1 := hf0
  refine V_iload X 4 rfl dX6_neediest_24 ?_
  refine V_iconst X (v := 4) (by decide) dX6_neediest_26 ?_
  refine V_icmp_ge X (tgt := 97) (by decide) dX6_neediest_27 (fun q27 => ?_) (fun q27 => ?_)
  · have hf2 := ift hf1 q27
    refine V_iinc X (v := _ + 1) 3 rfl (by rfl) (by decide) rfl dX6_neediest_97 ?_
    refine V_goto X (tgt := 16) (by decide) dX6_neediest_100 ?_
    exact V_sub [1, 2, 3, 0] rfl (hk16 _ _ _ _ hf2)
  · have hf2 := ife hf1 q27
    refine V_iconst X (v := 0) (by decide) dX6_neediest_30 ?_
    refine V_istore X (by decide) rfl dX6_neediest_31 ?_
    exact V_sub [1, 2, 3, 4, 5, 0] rfl (f6_neediest_L33_ok hE X hk16 hk24 FU _ _ _ _ _ _ hf2)
def f6_neediest_L24 (k16 : Int32 → Int32 → Int32 → Hp → Re) : Nat → Int32 → Int32 → Int32 → Int32 → Hp → Re
  | 0 => fun _ _ _ _ _ => none
  | n + 1 => f6_neediest_B24 k16 (f6_neediest_L24 k16 n)
theorem f6_neediest_L24_s (k16 : Int32 → Int32 → Int32 → Hp → Re) (n : Nat) (x1 : Int32) (x2 : Int32) (x3 : Int32) (x4 : Int32) (h : Hp) : f6_neediest_L24 k16 (n + 1) x1 x2 x3 x4 h = f6_neediest_B24 k16 (f6_neediest_L24 k16 n) x1 x2 x3 x4 h := rfl
theorem f6_neediest_L24_ok (hE : IW E) (X : XC E RX6 cX6_neediest 7 (some .int) A p s m args meth c) {k16 : Int32 → Int32 → Int32 → Hp → Re} (hk16 : ∀ (x1 : Int32) (x2 : Int32) (x3 : Int32) (h : Hp), k16 x1 x2 x3 h = some (r, h') → VM E 7 A p l e 4 s m args below meth c (Qi E A r h') 16 [(0, .ref (eA E 1)), (1, .int x1), (2, .int x2), (3, .int x3)] [] h) : ∀ (n : Nat) (x1 : Int32) (x2 : Int32) (x3 : Int32) (x4 : Int32) (h : Hp), f6_neediest_L24 k16 n x1 x2 x3 x4 h = some (r, h') → VM E 7 A p l e 4 s m args below meth c (Qi E A r h') 24 [(0, .ref (eA E 1)), (1, .int x1), (2, .int x2), (3, .int x3), (4, .int x4)] [] h := by
  intro n
  induction n with
  | zero =>
    intro x1 x2 x3 x4 h q
    have q : (none : Re) = some (r, h') := q
    cases q
  | succ n ih =>
    intro x1 x2 x3 x4 h q
    exact f6_neediest_B24_ok hE X hk16 ih q
def f6_neediest_B16 (k16 : Int32 → Int32 → Int32 → Hp → Re) (x1 : Int32) (x2 : Int32) (x3 : Int32) (h : Hp) : Re :=
  if 5 ≤ x3 then (some (x1, h)) else (f6_neediest_L24 k16 FU x1 x2 x3 0 h)
set_option maxRecDepth 20000 in
set_option maxHeartbeats 4000000 in
theorem f6_neediest_B16_ok (hE : IW E) (X : XC E RX6 cX6_neediest 7 (some .int) A p s m args meth c) {k16 : Int32 → Int32 → Int32 → Hp → Re} (hk16 : ∀ (x1 : Int32) (x2 : Int32) (x3 : Int32) (h : Hp), k16 x1 x2 x3 h = some (r, h') → VM E 7 A p l e 4 s m args below meth c (Qi E A r h') 16 [(0, .ref (eA E 1)), (1, .int x1), (2, .int x2), (3, .int x3)] [] h) {x1 : Int32} {x2 : Int32} {x3 : Int32} {h : Hp} (hf0 : f6_neediest_B16 k16 x1 x2 x3 h = some (r, h')) : VM E 7 A p l e 4 s m args below meth c (Qi E A r h') 16 [(0, .ref (eA E 1)), (1, .int x1), (2, .int x2), (3, .int x3)] [] h := by
  unfold f6_neediest_B16 at hf0
  have hf1 := hf0
  refine V_iload_n X 3 rfl dX6_neediest_16 ?_
  refine V_iconst X (v := 5) (by decide) dX6_neediest_17 ?_
  refine V_icmp_ge X (tgt := 103) (by decide) dX6_neediest_18 (fun q18 => ?_) (fun q18 => ?_)
  · have hf2 := ift hf1 q18
    refine V_iload_n X 1 rfl dX6_neediest_103 ?_
    exact V_iret X rfl hf2 dX6_neediest_104
  · have hf2 := ife hf1 q18
    refine V_iconst X (v := 0) (by decide) dX6_neediest_21 ?_
    refine V_istore X (by decide) rfl dX6_neediest_22 ?_
    exact V_sub [1, 2, 3, 4, 0] rfl (f6_neediest_L24_ok hE X hk16 FU _ _ _ _ _ hf2)
def f6_neediest_L16 : Nat → Int32 → Int32 → Int32 → Hp → Re
  | 0 => fun _ _ _ _ => none
  | n + 1 => f6_neediest_B16 (f6_neediest_L16 n)
theorem f6_neediest_L16_s (n : Nat) (x1 : Int32) (x2 : Int32) (x3 : Int32) (h : Hp) : f6_neediest_L16 (n + 1) x1 x2 x3 h = f6_neediest_B16 (f6_neediest_L16 n) x1 x2 x3 h := rfl
theorem f6_neediest_L16_ok (hE : IW E) (X : XC E RX6 cX6_neediest 7 (some .int) A p s m args meth c) : ∀ (n : Nat) (x1 : Int32) (x2 : Int32) (x3 : Int32) (h : Hp), f6_neediest_L16 n x1 x2 x3 h = some (r, h') → VM E 7 A p l e 4 s m args below meth c (Qi E A r h') 16 [(0, .ref (eA E 1)), (1, .int x1), (2, .int x2), (3, .int x3)] [] h := by
  intro n
  induction n with
  | zero =>
    intro x1 x2 x3 h q
    have q : (none : Re) = some (r, h') := q
    cases q
  | succ n ih =>
    intro x1 x2 x3 h q
    exact f6_neediest_B16_ok hE X ih q
def f6_neediest_e (h : Hp) : Re :=
  (f5_setting 1 0 h).bind fun c1 => (f5_number 1 19 c1.2).bind fun c3 => f6_neediest_L16 FU (-6) c1.1 c3.1 c3.2
set_option maxRecDepth 20000 in
set_option maxHeartbeats 4000000 in
theorem f6_neediest_e_ok (hE : IW E) (X : XC E RX6 cX6_neediest 7 (some .int) A p s m args meth c) {h : Hp} (hf0 : f6_neediest_e  h = some (r, h')) : VM E 7 A p l e 4 s m args below meth c (Qi E A r h') 0 [(0, .ref (eA E 1))] [] h := by
  unfold f6_neediest_e at hf0
  have hf1 := hf0
  refine V_bipush X (v := -6) (by decide) dX6_neediest_0 ?_
  refine V_istore_n X (by decide) rfl dX6_neediest_2 ?_
  refine V_aload_n X 1 rfl dX6_neediest_3 ?_
  refine V_iconst X (v := 0) (by decide) dX6_neediest_4 ?_
  obtain ⟨c1, e_c1, hf3⟩ := obd hf1
  refine V_callVi X (SR_1 hE).1 rfl rfl (f5_setting_ok (SR_1 hE) e_c1) ys_X5_setting yw_X5_setting ml_X6_54 rfl rfl ⟨Nat.le_of_ble_eq_true rfl, Nat.le_of_ble_eq_true rfl⟩ ⟨Nat.zero_le _, Nat.zero_le _⟩ (Nat.le_of_ble_eq_true rfl) dX6_neediest_5 ?_
  refine V_istore_n X (by decide) rfl dX6_neediest_8 ?_
  refine V_aload_n X 2 rfl dX6_neediest_9 ?_
  refine V_bipush X (v := 19) (by decide) dX6_neediest_10 ?_
  obtain ⟨c3, e_c3, hf5⟩ := obd hf3
  refine V_callVi X (SR_1 hE).1 rfl rfl (f5_number_ok (SR_1 hE) e_c3) ys_X5_number yw_X5_number ml_X6_58 rfl rfl ⟨Nat.le_of_ble_eq_true rfl, Nat.le_of_ble_eq_true rfl⟩ ⟨Nat.zero_le _, Nat.zero_le _⟩ (Nat.le_of_ble_eq_true rfl) dX6_neediest_12 ?_
  refine V_istore_n X (by decide) rfl dX6_neediest_15 ?_
  exact V_sub [3, 2, 1, 0] rfl (f6_neediest_L16_ok hE X FU _ _ _ _ hf5)
def f6_neediest (h : Hp) : Re := f6_neediest_e  h
theorem f6_neediest_ok (hE : IW E) {h : Hp} {q : Int32 × Hp} (hf0 : f6_neediest  h = some q) : SMi l E 4 yX6_neediest cX6_neediest 7 (some .int) [.ref (eA E 1)] h q.1 q.2 :=
  SMi.of (by decide +kernel) (Nat.le_of_ble_eq_true rfl) (fun p e s m args below meth c A X => f6_neediest_e_ok hE X (r := q.1) (h' := q.2) hf0)
def f7_needed_e (x1 : Int32) (h : Hp) : Re :=
  if x1 < 0 then (some ((-2), h)) else (if x1 ≤ 4 then ((f6_neediest  h).bind fun c3 => if c3.1 = (-6) then (some ((-6), c3.2)) else ((some ((c3.1 / 8) - (c3.1 / 8) / 4 * 4 : Int32)).bind fun z6 => if x1 = 0 then (some (z6, c3.2)) else if x1 = 1 then (some ((c3.1 / 8) / 4, c3.2)) else if x1 = 2 then (some (c3.1 - c3.1 / 8 * 8, c3.2)) else if x1 = 3 then ((f5_wanted 1 z6 ((c3.1 / 8) / 4) (c3.1 - c3.1 / 8 * 8) c3.2).bind fun c13 => some (c13.1, c13.2)) else ((f5_missing 1 z6 ((c3.1 / 8) / 4) (c3.1 - c3.1 / 8 * 8) c3.2).bind fun c16 => some (c16.1, c16.2)))) else (some ((-2), h)))
set_option maxRecDepth 20000 in
set_option maxHeartbeats 4000000 in
theorem f7_needed_e_ok (hE : IW E) (X : XC E RX7 cX7_needed 6 (some .int) A p s m args meth c) {x1 : Int32} {h : Hp} (hf0 : f7_needed_e x1 h = some (r, h')) : VM E 6 A p l e 5 s m args below meth c (Qi E A r h') 0 [(0, .ref (eA E 0)), (1, .int x1)] [] h := by
  unfold f7_needed_e at hf0
  have hf1 := hf0
  refine V_iload_n X 1 rfl dX7_needed_0 ?_
  refine V_if_lt X (tgt := 9) (by decide) dX7_needed_1 (fun q1 => ?_) (fun q1 => ?_)
  · have hf2 := ift hf1 q1
    refine V_bipush X (v := -2) (by decide) dX7_needed_9 ?_
    exact V_iret X rfl hf2 dX7_needed_11
  · have hf2 := ife hf1 q1
    refine V_iload_n X 1 rfl dX7_needed_4 ?_
    refine V_iconst X (v := 4) (by decide) dX7_needed_5 ?_
    refine V_icmp_le X (tgt := 12) (by decide) dX7_needed_6 (fun q6 => ?_) (fun q6 => ?_)
    · have hf3 := ift hf2 q6
      refine V_aload_n X 0 rfl dX7_needed_12 ?_
      refine G_X7_0_10 hE X dX7_needed_13 ?_
      obtain ⟨c3, e_c3, hf5⟩ := obd hf3
      refine V_callSi X (f6_neediest_ok hE e_c3) ys_X6_neediest yw_X6_neediest ml_X7_167 rfl rfl ⟨Nat.le_of_ble_eq_true rfl, Nat.le_of_ble_eq_true rfl⟩ ⟨Nat.zero_le _, Nat.zero_le _⟩ (Nat.le_of_ble_eq_true rfl) dX7_needed_16 ?_
      refine V_istore_n X (by decide) rfl dX7_needed_19 ?_
      refine V_iload_n X 0 rfl dX7_needed_20 ?_
      refine V_bipush X (v := -6) (by decide) dX7_needed_21 ?_
      refine V_icmp_ne X (tgt := 29) (by decide) dX7_needed_23 (fun q23 => ?_) (fun q23 => ?_)
      · have hf6 := ife hf5 q23
        refine V_iload_n X 0 rfl dX7_needed_29 ?_
        refine V_bipush X (v := 8) (by decide) dX7_needed_30 ?_
        refine V_idiv X (by decide) dX7_needed_32 ?_
        refine V_iconst X (v := 4) (by decide) dX7_needed_33 ?_
        refine V_irem X (by decide) dX7_needed_34 ?_
        refine V_istore_n X (by decide) rfl dX7_needed_35 ?_
        have hf8 := obs hf6
        refine V_iload_n X 1 rfl dX7_needed_36 ?_
        refine V_bipush X (v := 8) (by decide) dX7_needed_37 ?_
        refine V_idiv X (by decide) dX7_needed_39 ?_
        refine V_iconst X (v := 4) (by decide) dX7_needed_40 ?_
        refine V_idiv X (by decide) dX7_needed_41 ?_
        refine V_istore X (by decide) rfl dX7_needed_42 ?_
        refine V_iload_n X 2 rfl dX7_needed_44 ?_
        refine V_bipush X (v := 8) (by decide) dX7_needed_45 ?_
        refine V_irem X (by decide) dX7_needed_47 ?_
        refine V_istore X (by decide) rfl dX7_needed_48 ?_
        refine V_iload_n X 5 rfl dX7_needed_50 ?_
        rcases oif hf8 with ⟨q51_0, hf51_0⟩ | ⟨q51_0, hf51_0⟩
        · refine V_table X (tgt := 80) (off := 29) (by rw [q51_0]; decide) (by decide) (by decide) dX7_needed_51 ?_
          have hf10 := hf51_0
          refine V_iload_n X 2 rfl dX7_needed_80 ?_
          exact V_iret X rfl hf10 dX7_needed_81
        rcases oif hf51_0 with ⟨q51_1, hf51_1⟩ | ⟨q51_1, hf51_1⟩
        · refine V_table X (tgt := 82) (off := 31) (by rw [q51_1]; decide) (by decide) (by decide) dX7_needed_51 ?_
          have hf11 := hf51_1
          refine V_iload X 1 rfl dX7_needed_82 ?_
          exact V_iret X rfl hf11 dX7_needed_84
        rcases oif hf51_1 with ⟨q51_2, hf51_2⟩ | ⟨q51_2, hf51_2⟩
        · refine V_table X (tgt := 85) (off := 34) (by rw [q51_2]; decide) (by decide) (by decide) dX7_needed_51 ?_
          have hf12 := hf51_2
          refine V_iload X 0 rfl dX7_needed_85 ?_
          exact V_iret X rfl hf12 dX7_needed_87
        rcases oif hf51_2 with ⟨q51_3, hf51_3⟩ | ⟨q51_3, hf51_3⟩
        · refine V_table X (tgt := 88) (off := 37) (by rw [q51_3]; decide) (by decide) (by decide) dX7_needed_51 ?_
          have hf13 := hf51_3
          refine V_aload_n X 4 rfl dX7_needed_88 ?_
          refine G_X7_0_10 hE X dX7_needed_89 ?_
          refine V_iload_n X 2 rfl dX7_needed_92 ?_
          refine V_iload X 1 rfl dX7_needed_93 ?_
          refine V_iload X 0 rfl dX7_needed_95 ?_
          obtain ⟨c13, e_c13, hf15⟩ := obd hf13
          refine V_callVi X (SR_1 hE).1 rfl rfl (f5_wanted_ok (SR_1 hE) e_c13) ys_X5_wanted yw_X5_wanted ml_X7_93 rfl rfl ⟨Nat.le_of_ble_eq_true rfl, Nat.le_of_ble_eq_true rfl⟩ ⟨Nat.zero_le _, Nat.zero_le _⟩ (Nat.le_of_ble_eq_true rfl) dX7_needed_97 ?_
          exact V_iret X rfl hf15 dX7_needed_100
        · skip
          refine V_table X (tgt := 101) (off := 50) (tsel_out (by have z0 := lv_neT q51_0 (show (0 : Int32).toInt = 0 by decide); have z1 := lv_neT q51_1 (show (1 : Int32).toInt = 1 by decide); have z2 := lv_neT q51_2 (show (2 : Int32).toInt = 2 by decide); have z3 := lv_neT q51_3 (show (3 : Int32).toInt = 3 by decide); omega)) (by decide) (by decide) dX7_needed_51 ?_
          have hf16 := hf51_3
          refine V_aload_n X 4 rfl dX7_needed_101 ?_
          refine G_X7_0_10 hE X dX7_needed_102 ?_
          refine V_iload_n X 2 rfl dX7_needed_105 ?_
          refine V_iload X 1 rfl dX7_needed_106 ?_
          refine V_iload X 0 rfl dX7_needed_108 ?_
          obtain ⟨c16, e_c16, hf18⟩ := obd hf16
          refine V_callVi X (SR_1 hE).1 rfl rfl (f5_missing_ok (SR_1 hE) e_c16) ys_X5_missing yw_X5_missing ml_X7_170 rfl rfl ⟨Nat.le_of_ble_eq_true rfl, Nat.le_of_ble_eq_true rfl⟩ ⟨Nat.zero_le _, Nat.zero_le _⟩ (Nat.le_of_ble_eq_true rfl) dX7_needed_110 ?_
          exact V_iret X rfl hf18 dX7_needed_113
      · have hf6 := ift hf5 q23
        refine V_bipush X (v := -6) (by decide) dX7_needed_26 ?_
        exact V_iret X rfl hf6 dX7_needed_28
    · have hf3 := ife hf2 q6
      refine V_bipush X (v := -2) (by decide) dX7_needed_9 ?_
      exact V_iret X rfl hf3 dX7_needed_11
def f7_needed (x1 : Int32) (h : Hp) : Re := f7_needed_e x1 h
theorem f7_needed_ok (hE : IW E) {x1 : Int32} {h : Hp} {q : Int32 × Hp} (hf0 : f7_needed x1 h = some q) : SMi l E 5 yX7_needed cX7_needed 6 (some .int) [.ref (eA E 0), .int x1] h q.1 q.2 :=
  SMi.of (by decide +kernel) (Nat.le_of_ble_eq_true rfl) (fun p e s m args below meth c A X => f7_needed_e_ok hE X (r := q.1) (h' := q.2) hf0)
def f2_circleRow_e (x1 : Int32) (h : Hp) : Re :=
  some ((((h 8 1) + x1) - ((h 8 1) + x1) / 7 * 7) * 344, h)
set_option maxRecDepth 20000 in
set_option maxHeartbeats 4000000 in
theorem f2_circleRow_e_ok (hE : IW E) (X : XC E RX2 cX2_circleRow 2 (some .int) A p s m args meth c) {x1 : Int32} {h : Hp} (hf0 : f2_circleRow_e x1 h = some (r, h')) : VM E 2 A p l e 0 s m args below meth c (Qi E A r h') 0 [(0, .ref (eA E 8)), (1, .int x1)] [] h := by
  unfold f2_circleRow_e at hf0
  have hf1 := hf0
  refine V_aload_n X 0 rfl dX2_circleRow_0 ?_
  refine G_X2_1_29 hE X dX2_circleRow_1 ?_
  refine V_iload_n X 1 rfl dX2_circleRow_4 ?_
  refine V_iadd X dX2_circleRow_5 ?_
  refine V_bipush X (v := 7) (by decide) dX2_circleRow_6 ?_
  refine V_irem X (by decide) dX2_circleRow_8 ?_
  refine V_sipush X (v := 344) (by decide) dX2_circleRow_9 ?_
  refine V_imul X dX2_circleRow_12 ?_
  exact V_iret X rfl hf1 dX2_circleRow_13
def f2_circleRow (x1 : Int32) (h : Hp) : Re := f2_circleRow_e x1 h
theorem f2_circleRow_ok (hE : IW E) {x1 : Int32} {h : Hp} {q : Int32 × Hp} (hf0 : f2_circleRow x1 h = some q) : SMi l E 0 yX2_circleRow cX2_circleRow 2 (some .int) [.ref (eA E 8), .int x1] h q.1 q.2 :=
  SMi.of (by decide +kernel) (Nat.le_of_ble_eq_true rfl) (fun p e s m args below meth c A X => f2_circleRow_e_ok hE X (r := q.1) (h' := q.2) hf0)
def f5_copyInto_e (k : Nat) (x2 : Int32) (h : Hp) : Re :=
  if x2 < 0 then (some (0, h)) else (if (3096 - 344) < x2 then (some (0, h)) else (if cpB 0 x2 344 344 3096 = true then (some (hf h 9 (va_cpy (h (k + 1)) (h 9) (Int32.toNatClampNeg 0) (Int32.toNatClampNeg x2) (Int32.toNatClampNeg 344)))).bind fun h4 => some (0, h4) else none))
set_option maxRecDepth 20000 in
set_option maxHeartbeats 4000000 in
theorem f5_copyInto_e_ok {k : Nat} (hE : IW E) (hk : SR E k) (X : XC E RX5 cX5_copyInto 3 none A p s m args meth c) {x2 : Int32} {h : Hp} (hf0 : f5_copyInto_e k x2 h = some (r, h')) : VM E 3 A p l e 1 s m args below meth c (Qv E A h') 0 [(0, .ref (eA E k)), (1, .ref (eA E 9)), (2, .int x2)] [] h := by
  unfold f5_copyInto_e at hf0
  have hf1 := hf0
  refine V_iload_n X 2 rfl dX5_copyInto_0 ?_
  refine V_if_lt X (tgt := 27) (by decide) dX5_copyInto_1 (fun q1 => ?_) (fun q1 => ?_)
  · have hf2 := ift hf1 q1
    exact V_vret X rfl hf2 dX5_copyInto_27
  · have hf2 := ife hf1 q1
    refine V_iload_n X 2 rfl dX5_copyInto_4 ?_
    refine V_aload_n X 1 rfl dX5_copyInto_5 ?_
    refine V_alen (j := 0) (v := 3096) X (AR_9 hE) rfl (by decide) dX5_copyInto_6 ?_
    refine V_sipush X (v := 344) (by decide) dX5_copyInto_7 ?_
    refine V_isub X dX5_copyInto_10 ?_
    refine V_icmp_gt X (tgt := 27) (by decide) dX5_copyInto_11 (fun q11 => ?_) (fun q11 => ?_)
    · have hf3 := ift hf2 q11
      exact V_vret X rfl hf3 dX5_copyInto_27
    · have hf3 := ife hf2 q11
      refine V_aload_n X 0 rfl dX5_copyInto_14 ?_
      refine G_X5_0_11 hk X dX5_copyInto_15 ?_
      refine V_iconst X (v := 0) (by decide) dX5_copyInto_18 ?_
      refine V_aload_n X 1 rfl dX5_copyInto_19 ?_
      refine V_iload_n X 2 rfl dX5_copyInto_20 ?_
      refine V_sipush X (v := 344) (by decide) dX5_copyInto_21 ?_
      obtain ⟨g103, hf103⟩ := ogd hf3
      obtain ⟨ga, gb, gc, gd, ge⟩ := cpB_of g103
      refine V_copyi X hk.2 (AR_9 hE) cp_X5_26 cp_nat cp_stat cp_ini ga gb gc gd ge (by decide) (by decide) dX5_copyInto_24 ?_
      have hf6 := obs hf103
      exact V_vret X rfl hf6 dX5_copyInto_27
def f5_copyInto (k : Nat) (x2 : Int32) (h : Hp) : Re := f5_copyInto_e k x2 h
theorem f5_copyInto_ok {k : Nat} (hE : IW E) (hk : SR E k) {x2 : Int32} {h : Hp} {q : Int32 × Hp} (hf0 : f5_copyInto k x2 h = some q) : SMv l E 1 yX5_copyInto cX5_copyInto 3 [.ref (eA E k), .ref (eA E 9), .int x2] h q.2 :=
  SMv.of (by decide +kernel) (Nat.le_of_ble_eq_true rfl) (fun p e s m args below meth c A X => f5_copyInto_e_ok hE hk X (r := q.1) (h' := q.2) hf0)
def f2_stage_e (h : Hp) : Re :=
  (f2_circleRow (h 8 2) h).bind fun c1 => (f5_copyInto 1 c1.1 c1.2).bind fun c3 => some (0, c3.2)
set_option maxRecDepth 20000 in
set_option maxHeartbeats 4000000 in
theorem f2_stage_e_ok (hE : IW E) (X : XC E RX2 cX2_stage 2 none A p s m args meth c) {h : Hp} (hf0 : f2_stage_e  h = some (r, h')) : VM E 2 A p l e 2 s m args below meth c (Qv E A h') 0 [(0, .ref (eA E 8)), (1, .ref (eA E 1))] [] h := by
  unfold f2_stage_e at hf0
  have hf1 := hf0
  refine V_aload_n X 1 rfl dX2_stage_0 ?_
  refine V_aload_n X 0 rfl dX2_stage_1 ?_
  refine G_X2_0_13 hE X dX2_stage_2 ?_
  refine V_aload_n X 0 rfl dX2_stage_5 ?_
  refine V_aload_n X 0 rfl dX2_stage_6 ?_
  refine G_X2_2_17 hE X dX2_stage_7 ?_
  obtain ⟨c1, e_c1, hf3⟩ := obd hf1
  refine V_callVi X (OB_8 hE) rfl rfl (f2_circleRow_ok hE e_c1) ys_X2_circleRow yw_X2_circleRow ml_X2_21 rfl rfl ⟨Nat.le_of_ble_eq_true rfl, Nat.le_of_ble_eq_true rfl⟩ ⟨Nat.zero_le _, Nat.zero_le _⟩ (Nat.le_of_ble_eq_true rfl) dX2_stage_10 ?_
  obtain ⟨c3, e_c3, hf5⟩ := obd hf3
  refine V_callVv X (SR_1 hE).1 rfl rfl (f5_copyInto_ok hE (SR_1 hE) e_c3) ys_X5_copyInto yw_X5_copyInto ml_X2_25 rfl rfl ⟨Nat.le_of_ble_eq_true rfl, Nat.le_of_ble_eq_true rfl⟩ ⟨Nat.zero_le _, Nat.zero_le _⟩ (Nat.le_of_ble_eq_true rfl) dX2_stage_13 ?_
  exact V_vret X rfl hf5 dX2_stage_16
def f2_stage (h : Hp) : Re := f2_stage_e  h
theorem f2_stage_ok (hE : IW E) {h : Hp} {q : Int32 × Hp} (hf0 : f2_stage  h = some q) : SMv l E 2 yX2_stage cX2_stage 2 [.ref (eA E 8), .ref (eA E 1)] h q.2 :=
  SMv.of (by decide +kernel) (Nat.le_of_ble_eq_true rfl) (fun p e s m args below meth c A X => f2_stage_e_ok hE X (r := q.1) (h' := q.2) hf0)
def f5_lay_e (k : Nat) (x1 : Int32) (x2 : Int32) (h : Hp) : Re :=
  if x1 < 0 then (some (0, h)) else (if 344 ≤ x1 then (some (0, h)) else (if inB x1 344 = true then (some (hu h (k + 1) (Int32.toNatClampNeg x1) x2)).bind fun h4 => some (0, h4) else none))
set_option maxRecDepth 20000 in
set_option maxHeartbeats 4000000 in
theorem f5_lay_e_ok {k : Nat} (hk : SR E k) (X : XC E RX5 cX5_lay 3 none A p s m args meth c) {x1 : Int32} {x2 : Int32} {h : Hp} (hf0 : f5_lay_e k x1 x2 h = some (r, h')) : VM E 3 A p l e 0 s m args below meth c (Qv E A h') 0 [(0, .ref (eA E k)), (1, .int x1), (2, .int x2)] [] h := by
  unfold f5_lay_e at hf0
  have hf1 := hf0
  refine V_iload_n X 1 rfl dX5_lay_0 ?_
  refine V_if_lt X (tgt := 20) (by decide) dX5_lay_1 (fun q1 => ?_) (fun q1 => ?_)
  · have hf2 := ift hf1 q1
    exact V_vret X rfl hf2 dX5_lay_20
  · have hf2 := ife hf1 q1
    refine V_iload_n X 1 rfl dX5_lay_4 ?_
    refine V_aload_n X 0 rfl dX5_lay_5 ?_
    refine G_X5_0_11 hk X dX5_lay_6 ?_
    refine V_alen (j := 0) (v := 344) X hk.2 rfl (by decide) dX5_lay_9 ?_
    refine V_icmp_ge X (tgt := 20) (by decide) dX5_lay_10 (fun q10 => ?_) (fun q10 => ?_)
    · have hf3 := ift hf2 q10
      exact V_vret X rfl hf3 dX5_lay_20
    · have hf3 := ife hf2 q10
      refine V_aload_n X 0 rfl dX5_lay_13 ?_
      refine G_X5_0_11 hk X dX5_lay_14 ?_
      refine V_iload_n X 1 rfl dX5_lay_17 ?_
      refine V_iload_n X 2 rfl dX5_lay_18 ?_
      obtain ⟨g103, hf103⟩ := ogd hf3
      refine V_iast X hk.2 g103 dX5_lay_19 ?_
      have hf6 := obs hf103
      exact V_vret X rfl hf6 dX5_lay_20
def f5_lay (k : Nat) (x1 : Int32) (x2 : Int32) (h : Hp) : Re := f5_lay_e k x1 x2 h
theorem f5_lay_ok {k : Nat} (hk : SR E k) {x1 : Int32} {x2 : Int32} {h : Hp} {q : Int32 × Hp} (hf0 : f5_lay k x1 x2 h = some q) : SMv l E 0 yX5_lay cX5_lay 3 [.ref (eA E k), .int x1, .int x2] h q.2 :=
  SMv.of (by decide +kernel) (Nat.le_of_ble_eq_true rfl) (fun p e s m args below meth c A X => f5_lay_e_ok hk X (r := q.1) (h' := q.2) hf0)
def f1_takeFunnel_j52 (x1 : Int32) (x2 : Int32) (h : Hp) : Re :=
  (f5_heldBy 1 x1 h).bind fun c1 => (f5_lay 1 (15 + x1) x2 c1.2).bind fun c3 => some (c1.1, c3.2)
set_option maxRecDepth 20000 in
set_option maxHeartbeats 4000000 in
theorem f1_takeFunnel_j52_ok (hE : IW E) (X : XC E RX1 cX1_takeFunnel 5 (some .int) A p s m args meth c) {x1 : Int32} {x2 : Int32} {h : Hp} (hf0 : f1_takeFunnel_j52 x1 x2 h = some (r, h')) : VM E 5 A p l e 3 s m args below meth c (Qi E A r h') 52 [(0, .ref (eA E 1)), (1, .int x1), (2, .int x2)] [] h := by
  unfold f1_takeFunnel_j52 at hf0
  have hf1 := hf0
  refine V_aload_n X 0 rfl dX1_takeFunnel_52 ?_
  refine V_iload_n X 1 rfl dX1_takeFunnel_53 ?_
  obtain ⟨c1, e_c1, hf3⟩ := obd hf1
  refine V_callVi X (SR_1 hE).1 rfl rfl (f5_heldBy_ok (SR_1 hE) e_c1) ys_X5_heldBy yw_X5_heldBy ml_X1_55 rfl rfl ⟨Nat.le_of_ble_eq_true rfl, Nat.le_of_ble_eq_true rfl⟩ ⟨Nat.zero_le _, Nat.zero_le _⟩ (Nat.le_of_ble_eq_true rfl) dX1_takeFunnel_54 ?_
  refine V_istore X (by decide) rfl dX1_takeFunnel_57 ?_
  refine V_aload_n X 1 rfl dX1_takeFunnel_59 ?_
  refine V_bipush X (v := 15) (by decide) dX1_takeFunnel_60 ?_
  refine V_iload_n X 2 rfl dX1_takeFunnel_62 ?_
  refine V_iadd X dX1_takeFunnel_63 ?_
  refine V_iload_n X 3 rfl dX1_takeFunnel_64 ?_
  obtain ⟨c3, e_c3, hf5⟩ := obd hf3
  refine V_callVv X (SR_1 hE).1 rfl rfl (f5_lay_ok (SR_1 hE) e_c3) ys_X5_lay yw_X5_lay ml_X1_25 rfl rfl ⟨Nat.le_of_ble_eq_true rfl, Nat.le_of_ble_eq_true rfl⟩ ⟨Nat.zero_le _, Nat.zero_le _⟩ (Nat.le_of_ble_eq_true rfl) dX1_takeFunnel_65 ?_
  refine V_iload X 0 rfl dX1_takeFunnel_68 ?_
  exact V_iret X rfl hf5 dX1_takeFunnel_70
def f1_takeFunnel_j37 (x1 : Int32) (x2 : Int32) (y0 : Int32) (h : Hp) : Re :=
  if y0 = (-6) then (f1_takeFunnel_j52 x1 x2 h) else (if y0 = x1 then (f1_takeFunnel_j52 x1 x2 h) else (some ((-5), h)))
set_option maxRecDepth 20000 in
set_option maxHeartbeats 4000000 in
theorem f1_takeFunnel_j37_ok (hE : IW E) (X : XC E RX1 cX1_takeFunnel 5 (some .int) A p s m args meth c) {x1 : Int32} {x2 : Int32} {y0 : Int32} {h : Hp} (hf0 : f1_takeFunnel_j37 x1 x2 y0 h = some (r, h')) : VM E 5 A p l e 3 s m args below meth c (Qi E A r h') 37 [(0, .ref (eA E 1)), (1, .int x1), (2, .int x2)] [.int y0] h := by
  unfold f1_takeFunnel_j37 at hf0
  have hf1 := hf0
  refine V_istore_n X (by decide) rfl dX1_takeFunnel_37 ?_
  refine V_iload_n X 0 rfl dX1_takeFunnel_38 ?_
  refine V_bipush X (v := -6) (by decide) dX1_takeFunnel_39 ?_
  refine V_icmp_eq X (tgt := 52) (by decide) dX1_takeFunnel_41 (fun q41 => ?_) (fun q41 => ?_)
  · have hf2 := ift hf1 q41
    exact V_sub [1, 2, 3] rfl (f1_takeFunnel_j52_ok hE X hf2)
  · have hf2 := ife hf1 q41
    refine V_iload_n X 0 rfl dX1_takeFunnel_44 ?_
    refine V_iload_n X 2 rfl dX1_takeFunnel_45 ?_
    refine V_icmp_eq X (tgt := 52) (by decide) dX1_takeFunnel_46 (fun q46 => ?_) (fun q46 => ?_)
    · have hf3 := ift hf2 q46
      exact V_sub [1, 2, 3] rfl (f1_takeFunnel_j52_ok hE X hf3)
    · have hf3 := ife hf2 q46
      refine V_bipush X (v := -5) (by decide) dX1_takeFunnel_49 ?_
      exact V_iret X rfl hf3 dX1_takeFunnel_51
def f1_takeFunnel_j23 (x1 : Int32) (x2 : Int32) (h : Hp) : Re :=
  if x2 = 0 then (f1_takeFunnel_j37 x1 x2 (-6) h) else ((f5_holderOf 1 x2 h).bind fun c2 => f1_takeFunnel_j37 x1 x2 c2.1 c2.2)
set_option maxRecDepth 20000 in
set_option maxHeartbeats 4000000 in
theorem f1_takeFunnel_j23_ok (hE : IW E) (X : XC E RX1 cX1_takeFunnel 5 (some .int) A p s m args meth c) {x1 : Int32} {x2 : Int32} {h : Hp} (hf0 : f1_takeFunnel_j23 x1 x2 h = some (r, h')) : VM E 5 A p l e 3 s m args below meth c (Qi E A r h') 23 [(0, .ref (eA E 1)), (1, .int x1), (2, .int x2)] [] h := by
  unfold f1_takeFunnel_j23 at hf0
  have hf1 := hf0
  refine V_iload_n X 2 rfl dX1_takeFunnel_23 ?_
  refine V_if_ne X (tgt := 32) (by decide) dX1_takeFunnel_24 (fun q24 => ?_) (fun q24 => ?_)
  · have hf2 := ife hf1 q24
    refine V_aload_n X 0 rfl dX1_takeFunnel_32 ?_
    refine V_iload_n X 2 rfl dX1_takeFunnel_33 ?_
    obtain ⟨c2, e_c2, hf4⟩ := obd hf2
    refine V_callVi X (SR_1 hE).1 rfl rfl (f5_holderOf_ok (SR_1 hE) e_c2) ys_X5_holderOf yw_X5_holderOf ml_X1_52 rfl rfl ⟨Nat.le_of_ble_eq_true rfl, Nat.le_of_ble_eq_true rfl⟩ ⟨Nat.zero_le _, Nat.zero_le _⟩ (Nat.le_of_ble_eq_true rfl) dX1_takeFunnel_34 ?_
    exact V_sub [0, 1, 2] rfl (f1_takeFunnel_j37_ok hE X hf4)
  · have hf2 := ift hf1 q24
    refine V_bipush X (v := -6) (by decide) dX1_takeFunnel_27 ?_
    refine V_goto X (tgt := 37) (by decide) dX1_takeFunnel_29 ?_
    exact V_sub [0, 1, 2] rfl (f1_takeFunnel_j37_ok hE X hf2)
def f1_takeFunnel_e (x1 : Int32) (x2 : Int32) (h : Hp) : Re :=
  (f7_isQuarter x1 h).bind fun c1 => if c1.1 = 0 then (some ((-1), c1.2)) else (if x2 = 0 then (f1_takeFunnel_j23 x1 x2 c1.2) else ((f7_isColour x2 c1.2).bind fun c5 => if c5.1 = 0 then (some ((-2), c5.2)) else (f1_takeFunnel_j23 x1 x2 c5.2)))
set_option maxRecDepth 20000 in
set_option maxHeartbeats 4000000 in
theorem f1_takeFunnel_e_ok (hE : IW E) (X : XC E RX1 cX1_takeFunnel 5 (some .int) A p s m args meth c) {x1 : Int32} {x2 : Int32} {h : Hp} (hf0 : f1_takeFunnel_e x1 x2 h = some (r, h')) : VM E 5 A p l e 3 s m args below meth c (Qi E A r h') 0 [(0, .ref (eA E 1)), (1, .int x1), (2, .int x2)] [] h := by
  unfold f1_takeFunnel_e at hf0
  have hf1 := hf0
  refine V_iload_n X 1 rfl dX1_takeFunnel_0 ?_
  obtain ⟨c1, e_c1, hf3⟩ := obd hf1
  refine V_callSNi X (f7_isQuarter_ok e_c1) ys_X7_isQuarter yw_X7_isQuarter nl_X1_46 rfl rfl ⟨Nat.le_of_ble_eq_true rfl, Nat.le_of_ble_eq_true rfl⟩ ⟨Nat.zero_le _, Nat.zero_le _⟩ (Nat.le_of_ble_eq_true rfl) dX1_takeFunnel_1 ?_
  refine V_if_ne X (tgt := 9) (by decide) dX1_takeFunnel_4 (fun q4 => ?_) (fun q4 => ?_)
  · have hf4 := ife hf3 q4
    refine V_iload_n X 2 rfl dX1_takeFunnel_9 ?_
    refine V_if_eq X (tgt := 23) (by decide) dX1_takeFunnel_10 (fun q10 => ?_) (fun q10 => ?_)
    · have hf5 := ift hf4 q10
      exact V_sub [0, 1, 2] rfl (f1_takeFunnel_j23_ok hE X hf5)
    · have hf5 := ife hf4 q10
      refine V_iload_n X 2 rfl dX1_takeFunnel_13 ?_
      obtain ⟨c5, e_c5, hf7⟩ := obd hf5
      refine V_callSNi X (f7_isColour_ok e_c5) ys_X7_isColour yw_X7_isColour nl_X1_49 rfl rfl ⟨Nat.le_of_ble_eq_true rfl, Nat.le_of_ble_eq_true rfl⟩ ⟨Nat.zero_le _, Nat.zero_le _⟩ (Nat.le_of_ble_eq_true rfl) dX1_takeFunnel_14 ?_
      refine V_if_ne X (tgt := 23) (by decide) dX1_takeFunnel_17 (fun q17 => ?_) (fun q17 => ?_)
      · have hf8 := ife hf7 q17
        exact V_sub [0, 1, 2] rfl (f1_takeFunnel_j23_ok hE X hf8)
      · have hf8 := ift hf7 q17
        refine V_bipush X (v := -2) (by decide) dX1_takeFunnel_20 ?_
        exact V_iret X rfl hf8 dX1_takeFunnel_22
  · have hf4 := ift hf3 q4
    refine V_iconst X (v := -1) (by decide) dX1_takeFunnel_7 ?_
    exact V_iret X rfl hf4 dX1_takeFunnel_8
def f1_takeFunnel (x1 : Int32) (x2 : Int32) (h : Hp) : Re := f1_takeFunnel_e x1 x2 h
theorem f1_takeFunnel_ok (hE : IW E) {x1 : Int32} {x2 : Int32} {h : Hp} {q : Int32 × Hp} (hf0 : f1_takeFunnel x1 x2 h = some q) : SMi l E 3 yX1_takeFunnel cX1_takeFunnel 5 (some .int) [.ref (eA E 1), .int x1, .int x2] h q.1 q.2 :=
  SMi.of (by decide +kernel) (Nat.le_of_ble_eq_true rfl) (fun p e s m args below meth c A X => f1_takeFunnel_e_ok hE X (r := q.1) (h' := q.2) hf0)
def f2_recordUnlessError_e (x1 : Int32) (h : Hp) : Re :=
  if 0 ≤ x1 then (if 6 ≤ (h 8 2) then ((some (hu h 8 1 (((h 8 1) + 1) - ((h 8 1) + 1) / 7 * 7))).bind fun h3 => some (x1, h3)) else ((some (hu h 8 2 ((h 8 2) + 1))).bind fun h5 => some (x1, h5))) else (some (x1, h))
set_option maxRecDepth 20000 in
set_option maxHeartbeats 4000000 in
theorem f2_recordUnlessError_e_ok (hE : IW E) (X : XC E RX2 cX2_recordUnlessError 2 (some .int) A p s m args meth c) {x1 : Int32} {h : Hp} (hf0 : f2_recordUnlessError_e x1 h = some (r, h')) : VM E 2 A p l e 0 s m args below meth c (Qi E A r h') 0 [(0, .ref (eA E 8)), (1, .int x1)] [] h := by
  unfold f2_recordUnlessError_e at hf0
  have hf1 := hf0
  refine V_iload_n X 1 rfl dX2_recordUnlessError_0 ?_
  refine V_if_ge X (tgt := 6) (by decide) dX2_recordUnlessError_1 (fun q1 => ?_) (fun q1 => ?_)
  · have hf2 := ift hf1 q1
    refine V_aload_n X 0 rfl dX2_recordUnlessError_6 ?_
    refine G_X2_2_17 hE X dX2_recordUnlessError_7 ?_
    refine V_bipush X (v := 6) (by decide) dX2_recordUnlessError_10 ?_
    refine V_icmp_ge X (tgt := 28) (by decide) dX2_recordUnlessError_12 (fun q12 => ?_) (fun q12 => ?_)
    · have hf3 := ift hf2 q12
      refine V_aload_n X 0 rfl dX2_recordUnlessError_28 ?_
      refine V_aload_n X 0 rfl dX2_recordUnlessError_29 ?_
      refine G_X2_1_29 hE X dX2_recordUnlessError_30 ?_
      refine V_iconst X (v := 1) (by decide) dX2_recordUnlessError_33 ?_
      refine V_iadd X dX2_recordUnlessError_34 ?_
      refine V_bipush X (v := 7) (by decide) dX2_recordUnlessError_35 ?_
      refine V_irem X (by decide) dX2_recordUnlessError_37 ?_
      refine P_X2_1_29 hE X dX2_recordUnlessError_38 ?_
      have hf5 := obs hf3
      refine V_iload_n X 1 rfl dX2_recordUnlessError_41 ?_
      exact V_iret X rfl hf5 dX2_recordUnlessError_42
    · have hf3 := ife hf2 q12
      refine V_aload_n X 0 rfl dX2_recordUnlessError_15 ?_
      refine V_dup X rfl dX2_recordUnlessError_16 ?_
      refine G_X2_2_17 hE X dX2_recordUnlessError_17 ?_
      refine V_iconst X (v := 1) (by decide) dX2_recordUnlessError_20 ?_
      refine V_iadd X dX2_recordUnlessError_21 ?_
      refine P_X2_2_17 hE X dX2_recordUnlessError_22 ?_
      have hf7 := obs hf3
      refine V_goto X (tgt := 41) (by decide) dX2_recordUnlessError_25 ?_
      refine V_iload_n X 1 rfl dX2_recordUnlessError_41 ?_
      exact V_iret X rfl hf7 dX2_recordUnlessError_42
  · have hf2 := ife hf1 q1
    refine V_iload_n X 1 rfl dX2_recordUnlessError_4 ?_
    exact V_iret X rfl hf2 dX2_recordUnlessError_5
def f2_recordUnlessError (x1 : Int32) (h : Hp) : Re := f2_recordUnlessError_e x1 h
theorem f2_recordUnlessError_ok (hE : IW E) {x1 : Int32} {h : Hp} {q : Int32 × Hp} (hf0 : f2_recordUnlessError x1 h = some q) : SMi l E 0 yX2_recordUnlessError cX2_recordUnlessError 2 (some .int) [.ref (eA E 8), .int x1] h q.1 q.2 :=
  SMi.of (by decide +kernel) (Nat.le_of_ble_eq_true rfl) (fun p e s m args below meth c A X => f2_recordUnlessError_e_ok hE X (r := q.1) (h' := q.2) hf0)
def f7_take_e (x1 : Int32) (x2 : Int32) (h : Hp) : Re :=
  (f2_stage  h).bind fun c1 => (f1_takeFunnel x1 x2 c1.2).bind fun c3 => (f2_recordUnlessError c3.1 c3.2).bind fun c5 => some (c5.1, c5.2)
set_option maxRecDepth 20000 in
set_option maxHeartbeats 4000000 in
theorem f7_take_e_ok (hE : IW E) (X : XC E RX7 cX7_take 3 (some .int) A p s m args meth c) {x1 : Int32} {x2 : Int32} {h : Hp} (hf0 : f7_take_e x1 x2 h = some (r, h')) : VM E 3 A p l e 4 s m args below meth c (Qi E A r h') 0 [(0, .ref (eA E 0)), (1, .int x1), (2, .int x2)] [] h := by
  unfold f7_take_e at hf0
  have hf1 := hf0
  refine V_aload_n X 0 rfl dX7_take_0 ?_
  refine G_X7_3_29 hE X dX7_take_1 ?_
  refine V_aload_n X 0 rfl dX7_take_4 ?_
  refine G_X7_0_10 hE X dX7_take_5 ?_
  obtain ⟨c1, e_c1, hf3⟩ := obd hf1
  refine V_callVv X (OB_8 hE) rfl rfl (f2_stage_ok hE e_c1) ys_X2_stage yw_X2_stage ml_X7_40 rfl rfl ⟨Nat.le_of_ble_eq_true rfl, Nat.le_of_ble_eq_true rfl⟩ ⟨Nat.zero_le _, Nat.zero_le _⟩ (Nat.le_of_ble_eq_true rfl) dX7_take_8 ?_
  refine V_aload_n X 0 rfl dX7_take_11 ?_
  refine G_X7_3_29 hE X dX7_take_12 ?_
  refine V_aload_n X 0 rfl dX7_take_15 ?_
  refine G_X7_0_10 hE X dX7_take_16 ?_
  refine V_iload_n X 1 rfl dX7_take_19 ?_
  refine V_iload_n X 2 rfl dX7_take_20 ?_
  obtain ⟨c3, e_c3, hf5⟩ := obd hf3
  refine V_callSi X (f1_takeFunnel_ok hE e_c3) ys_X1_takeFunnel yw_X1_takeFunnel ml_X7_57 rfl rfl ⟨Nat.le_of_ble_eq_true rfl, Nat.le_of_ble_eq_true rfl⟩ ⟨Nat.zero_le _, Nat.zero_le _⟩ (Nat.le_of_ble_eq_true rfl) dX7_take_21 ?_
  obtain ⟨c5, e_c5, hf7⟩ := obd hf5
  refine V_callVi X (OB_8 hE) rfl rfl (f2_recordUnlessError_ok hE e_c5) ys_X2_recordUnlessError yw_X2_recordUnlessError ml_X7_50 rfl rfl ⟨Nat.le_of_ble_eq_true rfl, Nat.le_of_ble_eq_true rfl⟩ ⟨Nat.zero_le _, Nat.zero_le _⟩ (Nat.le_of_ble_eq_true rfl) dX7_take_24 ?_
  exact V_iret X rfl hf7 dX7_take_27
def f7_take (x1 : Int32) (x2 : Int32) (h : Hp) : Re := f7_take_e x1 x2 h
theorem f7_take_ok (hE : IW E) {x1 : Int32} {x2 : Int32} {h : Hp} {q : Int32 × Hp} (hf0 : f7_take x1 x2 h = some q) : SMi l E 4 yX7_take cX7_take 3 (some .int) [.ref (eA E 0), .int x1, .int x2] h q.1 q.2 :=
  SMi.of (by decide +kernel) (Nat.le_of_ble_eq_true rfl) (fun p e s m args below meth c A X => f7_take_e_ok hE X (r := q.1) (h' := q.2) hf0)
def f5_heap_j41 (k : Nat) (y0 : Int32) (y1 : Int32) (h : Hp) : Re :=
  (f5_lay k y1 y0 h).bind fun c1 => some (0, c1.2)
set_option maxRecDepth 20000 in
set_option maxHeartbeats 4000000 in
theorem f5_heap_j41_ok {k : Nat} (hk : SR E k) (X : XC E RX5 cX5_heap 7 none A p s m args meth c) {y0 : Int32} {y1 : Int32} {h : Hp} (hf0 : f5_heap_j41 k y0 y1 h = some (r, h')) : VM E 7 A p l e 1 s m args below meth c (Qv E A h') 41 [] [.int y0, .int y1, .ref (eA E k)] h := by
  unfold f5_heap_j41 at hf0
  have hf1 := hf0
  obtain ⟨c1, e_c1, hf3⟩ := obd hf1
  refine V_callVv X hk.1 rfl rfl (f5_lay_ok hk e_c1) ys_X5_lay yw_X5_lay ml_X5_15 rfl rfl ⟨Nat.le_of_ble_eq_true rfl, Nat.le_of_ble_eq_true rfl⟩ ⟨Nat.zero_le _, Nat.zero_le _⟩ (Nat.le_of_ble_eq_true rfl) dX5_heap_41 ?_
  exact V_vret X rfl hf3 dX5_heap_44
def f5_heap_e (k : Nat) (x1 : Int32) (x2 : Int32) (x3 : Int32) (x4 : Int32) (x5 : Int32) (h : Hp) : Re :=
  (f5_lay k (24 + ((((x1 * 5) + x2) * 8) + x3)) x5 h).bind fun c1 => if x5 = 0 then (f5_heap_j41 k 0 (184 + ((((x1 * 5) + x2) * 8) + x3)) c1.2) else (f5_heap_j41 k x4 (184 + ((((x1 * 5) + x2) * 8) + x3)) c1.2)
set_option maxRecDepth 20000 in
set_option maxHeartbeats 4000000 in
theorem f5_heap_e_ok {k : Nat} (hk : SR E k) (X : XC E RX5 cX5_heap 7 none A p s m args meth c) {x1 : Int32} {x2 : Int32} {x3 : Int32} {x4 : Int32} {x5 : Int32} {h : Hp} (hf0 : f5_heap_e k x1 x2 x3 x4 x5 h = some (r, h')) : VM E 7 A p l e 1 s m args below meth c (Qv E A h') 0 [(0, .ref (eA E k)), (1, .int x1), (2, .int x2), (3, .int x3), (4, .int x4), (5, .int x5)] [] h := by
  unfold f5_heap_e at hf0
  have hf1 := hf0
  refine V_iload_n X 1 rfl dX5_heap_0 ?_
  refine V_iconst X (v := 5) (by decide) dX5_heap_1 ?_
  refine V_imul X dX5_heap_2 ?_
  refine V_iload_n X 2 rfl dX5_heap_3 ?_
  refine V_iadd X dX5_heap_4 ?_
  refine V_bipush X (v := 8) (by decide) dX5_heap_5 ?_
  refine V_imul X dX5_heap_7 ?_
  refine V_iload_n X 3 rfl dX5_heap_8 ?_
  refine V_iadd X dX5_heap_9 ?_
  refine V_istore X (by decide) rfl dX5_heap_10 ?_
  refine V_aload_n X 1 rfl dX5_heap_12 ?_
  refine V_bipush X (v := 24) (by decide) dX5_heap_13 ?_
  refine V_iload X 0 rfl dX5_heap_15 ?_
  refine V_iadd X dX5_heap_17 ?_
  refine V_iload X 6 rfl dX5_heap_18 ?_
  obtain ⟨c1, e_c1, hf3⟩ := obd hf1
  refine V_callVv X hk.1 rfl rfl (f5_lay_ok hk e_c1) ys_X5_lay yw_X5_lay ml_X5_15 rfl rfl ⟨Nat.le_of_ble_eq_true rfl, Nat.le_of_ble_eq_true rfl⟩ ⟨Nat.zero_le _, Nat.zero_le _⟩ (Nat.le_of_ble_eq_true rfl) dX5_heap_20 ?_
  refine V_aload_n X 1 rfl dX5_heap_23 ?_
  refine V_sipush X (v := 184) (by decide) dX5_heap_24 ?_
  refine V_iload X 0 rfl dX5_heap_27 ?_
  refine V_iadd X dX5_heap_29 ?_
  refine V_iload X 6 rfl dX5_heap_30 ?_
  refine V_if_ne X (tgt := 39) (by decide) dX5_heap_32 (fun q32 => ?_) (fun q32 => ?_)
  · have hf4 := ife hf3 q32
    refine V_iload X 5 rfl dX5_heap_39 ?_
    exact V_sub [] rfl (f5_heap_j41_ok hk X hf4)
  · have hf4 := ift hf3 q32
    refine V_iconst X (v := 0) (by decide) dX5_heap_35 ?_
    refine V_goto X (tgt := 41) (by decide) dX5_heap_36 ?_
    exact V_sub [] rfl (f5_heap_j41_ok hk X hf4)
def f5_heap (k : Nat) (x1 : Int32) (x2 : Int32) (x3 : Int32) (x4 : Int32) (x5 : Int32) (h : Hp) : Re := f5_heap_e k x1 x2 x3 x4 x5 h
theorem f5_heap_ok {k : Nat} (hk : SR E k) {x1 : Int32} {x2 : Int32} {x3 : Int32} {x4 : Int32} {x5 : Int32} {h : Hp} {q : Int32 × Hp} (hf0 : f5_heap k x1 x2 x3 x4 x5 h = some q) : SMv l E 1 yX5_heap cX5_heap 7 [.ref (eA E k), .int x1, .int x2, .int x3, .int x4, .int x5] h q.2 :=
  SMv.of (by decide +kernel) (Nat.le_of_ble_eq_true rfl) (fun p e s m args below meth c A X => f5_heap_e_ok hk X (r := q.1) (h' := q.2) hf0)
def f5_raise_e (k : Nat) (x1 : Int32) (x2 : Int32) (h : Hp) : Re :=
  (f5_number k x1 h).bind fun c1 => (f5_lay k x1 (c1.1 + x2) c1.2).bind fun c3 => some (0, c3.2)
set_option maxRecDepth 20000 in
set_option maxHeartbeats 4000000 in
theorem f5_raise_e_ok {k : Nat} (hk : SR E k) (X : XC E RX5 cX5_raise 3 none A p s m args meth c) {x1 : Int32} {x2 : Int32} {h : Hp} (hf0 : f5_raise_e k x1 x2 h = some (r, h')) : VM E 3 A p l e 1 s m args below meth c (Qv E A h') 0 [(0, .ref (eA E k)), (1, .int x1), (2, .int x2)] [] h := by
  unfold f5_raise_e at hf0
  have hf1 := hf0
  refine V_aload_n X 0 rfl dX5_raise_0 ?_
  refine V_iload_n X 1 rfl dX5_raise_1 ?_
  refine V_aload_n X 0 rfl dX5_raise_2 ?_
  refine V_iload_n X 1 rfl dX5_raise_3 ?_
  obtain ⟨c1, e_c1, hf3⟩ := obd hf1
  refine V_callVi X hk.1 rfl rfl (f5_number_ok hk e_c1) ys_X5_number yw_X5_number ml_X5_22 rfl rfl ⟨Nat.le_of_ble_eq_true rfl, Nat.le_of_ble_eq_true rfl⟩ ⟨Nat.zero_le _, Nat.zero_le _⟩ (Nat.le_of_ble_eq_true rfl) dX5_raise_4 ?_
  refine V_iload_n X 2 rfl dX5_raise_7 ?_
  refine V_iadd X dX5_raise_8 ?_
  obtain ⟨c3, e_c3, hf5⟩ := obd hf3
  refine V_callVv X hk.1 rfl rfl (f5_lay_ok hk e_c3) ys_X5_lay yw_X5_lay ml_X5_15 rfl rfl ⟨Nat.le_of_ble_eq_true rfl, Nat.le_of_ble_eq_true rfl⟩ ⟨Nat.zero_le _, Nat.zero_le _⟩ (Nat.le_of_ble_eq_true rfl) dX5_raise_9 ?_
  exact V_vret X rfl hf5 dX5_raise_12
def f5_raise (k : Nat) (x1 : Int32) (x2 : Int32) (h : Hp) : Re := f5_raise_e k x1 x2 h
theorem f5_raise_ok {k : Nat} (hk : SR E k) {x1 : Int32} {x2 : Int32} {h : Hp} {q : Int32 × Hp} (hf0 : f5_raise k x1 x2 h = some q) : SMv l E 1 yX5_raise cX5_raise 3 [.ref (eA E k), .int x1, .int x2] h q.2 :=
  SMv.of (by decide +kernel) (Nat.le_of_ble_eq_true rfl) (fun p e s m args below meth c A X => f5_raise_e_ok hk X (r := q.1) (h' := q.2) hf0)
def f1_pourGrains_j74 (x1 : Int32) (x2 : Int32) (x3 : Int32) (x4 : Int32) (x5 : Int32) (h : Hp) : Re :=
  (f5_funnel 1 x5 h).bind fun c1 => if x4 ≤ c1.1 then ((f5_grains 1 x1 x2 x3 c1.2).bind fun c4 => if (c4.1 + x4) ≤ 99 then ((f5_heap 1 x1 x2 x3 x5 (c4.1 + x4) c4.2).bind fun c7 => (f5_raise 1 (8 + x5) (-x4) c7.2).bind fun c9 => (f5_raise 1 22 x4 c9.2).bind fun c11 => some (c4.1 + x4, c11.2)) else (some ((-4), c4.2))) else (some ((-5), c1.2))
set_option maxRecDepth 20000 in
set_option maxHeartbeats 4000000 in
theorem f1_pourGrains_j74_ok (hE : IW E) (X : XC E RX1 cX1_pourGrains 8 (some .int) A p s m args meth c) {x1 : Int32} {x2 : Int32} {x3 : Int32} {x4 : Int32} {x5 : Int32} {h : Hp} (hf0 : f1_pourGrains_j74 x1 x2 x3 x4 x5 h = some (r, h')) : VM E 8 A p l e 2 s m args below meth c (Qi E A r h') 74 [(0, .ref (eA E 1)), (1, .int x1), (2, .int x2), (3, .int x3), (4, .int x4), (5, .int x5)] [] h := by
  unfold f1_pourGrains_j74 at hf0
  have hf1 := hf0
  refine V_aload_n X 0 rfl dX1_pourGrains_74 ?_
  refine V_iload X 5 rfl dX1_pourGrains_75 ?_
  obtain ⟨c1, e_c1, hf3⟩ := obd hf1
  refine V_callVi X (SR_1 hE).1 rfl rfl (f5_funnel_ok (SR_1 hE) e_c1) ys_X5_funnel yw_X5_funnel ml_X1_58 rfl rfl ⟨Nat.le_of_ble_eq_true rfl, Nat.le_of_ble_eq_true rfl⟩ ⟨Nat.zero_le _, Nat.zero_le _⟩ (Nat.le_of_ble_eq_true rfl) dX1_pourGrains_77 ?_
  refine V_iload X 4 rfl dX1_pourGrains_80 ?_
  refine V_icmp_ge X (tgt := 88) (by decide) dX1_pourGrains_82 (fun q82 => ?_) (fun q82 => ?_)
  · have hf4 := ift hf3 q82
    refine V_aload_n X 0 rfl dX1_pourGrains_88 ?_
    refine V_iload_n X 1 rfl dX1_pourGrains_89 ?_
    refine V_iload_n X 2 rfl dX1_pourGrains_90 ?_
    refine V_iload_n X 3 rfl dX1_pourGrains_91 ?_
    obtain ⟨c4, e_c4, hf6⟩ := obd hf4
    refine V_callVi X (SR_1 hE).1 rfl rfl (f5_grains_ok (SR_1 hE) e_c4) ys_X5_grains yw_X5_grains ml_X1_75 rfl rfl ⟨Nat.le_of_ble_eq_true rfl, Nat.le_of_ble_eq_true rfl⟩ ⟨Nat.zero_le _, Nat.zero_le _⟩ (Nat.le_of_ble_eq_true rfl) dX1_pourGrains_92 ?_
    refine V_iload X 4 rfl dX1_pourGrains_95 ?_
    refine V_iadd X dX1_pourGrains_97 ?_
    refine V_istore X (by decide) rfl dX1_pourGrains_98 ?_
    refine V_iload X 0 rfl dX1_pourGrains_100 ?_
    refine V_bipush X (v := 99) (by decide) dX1_pourGrains_102 ?_
    refine V_icmp_le X (tgt := 110) (by decide) dX1_pourGrains_104 (fun q104 => ?_) (fun q104 => ?_)
    · have hf7 := ift hf6 q104
      refine V_aload_n X 1 rfl dX1_pourGrains_110 ?_
      refine V_iload_n X 2 rfl dX1_pourGrains_111 ?_
      refine V_iload_n X 3 rfl dX1_pourGrains_112 ?_
      refine V_iload_n X 4 rfl dX1_pourGrains_113 ?_
      refine V_iload X 6 rfl dX1_pourGrains_114 ?_
      refine V_iload X 0 rfl dX1_pourGrains_116 ?_
      obtain ⟨c7, e_c7, hf9⟩ := obd hf7
      refine V_callVv X (SR_1 hE).1 rfl rfl (f5_heap_ok (SR_1 hE) e_c7) ys_X5_heap yw_X5_heap ml_X1_78 rfl rfl ⟨Nat.le_of_ble_eq_true rfl, Nat.le_of_ble_eq_true rfl⟩ ⟨Nat.zero_le _, Nat.zero_le _⟩ (Nat.le_of_ble_eq_true rfl) dX1_pourGrains_118 ?_
      refine V_aload_n X 1 rfl dX1_pourGrains_121 ?_
      refine V_bipush X (v := 8) (by decide) dX1_pourGrains_122 ?_
      refine V_iload X 6 rfl dX1_pourGrains_124 ?_
      refine V_iadd X dX1_pourGrains_126 ?_
      refine V_iload X 5 rfl dX1_pourGrains_127 ?_
      refine V_ineg X dX1_pourGrains_129 ?_
      obtain ⟨c9, e_c9, hf11⟩ := obd hf9
      refine V_callVv X (SR_1 hE).1 rfl rfl (f5_raise_ok (SR_1 hE) e_c9) ys_X5_raise yw_X5_raise ml_X1_82 rfl rfl ⟨Nat.le_of_ble_eq_true rfl, Nat.le_of_ble_eq_true rfl⟩ ⟨Nat.zero_le _, Nat.zero_le _⟩ (Nat.le_of_ble_eq_true rfl) dX1_pourGrains_130 ?_
      refine V_aload_n X 1 rfl dX1_pourGrains_133 ?_
      refine V_bipush X (v := 22) (by decide) dX1_pourGrains_134 ?_
      refine V_iload X 5 rfl dX1_pourGrains_136 ?_
      obtain ⟨c11, e_c11, hf13⟩ := obd hf11
      refine V_callVv X (SR_1 hE).1 rfl rfl (f5_raise_ok (SR_1 hE) e_c11) ys_X5_raise yw_X5_raise ml_X1_82 rfl rfl ⟨Nat.le_of_ble_eq_true rfl, Nat.le_of_ble_eq_true rfl⟩ ⟨Nat.zero_le _, Nat.zero_le _⟩ (Nat.le_of_ble_eq_true rfl) dX1_pourGrains_138 ?_
      refine V_iload X 0 rfl dX1_pourGrains_141 ?_
      exact V_iret X rfl hf13 dX1_pourGrains_143
    · have hf7 := ife hf6 q104
      refine V_bipush X (v := -4) (by decide) dX1_pourGrains_107 ?_
      exact V_iret X rfl hf7 dX1_pourGrains_109
  · have hf4 := ife hf3 q82
    refine V_bipush X (v := -5) (by decide) dX1_pourGrains_85 ?_
    exact V_iret X rfl hf4 dX1_pourGrains_87
def f1_pourGrains_e (x1 : Int32) (x2 : Int32) (x3 : Int32) (x4 : Int32) (h : Hp) : Re :=
  (f7_isPlace x1 x2 x3 h).bind fun c1 => if c1.1 = 0 then (some ((-1), c1.2)) else (if x4 < 1 then (some ((-2), c1.2)) else (if x4 ≤ 99 then ((f5_heldBy 1 x1 c1.2).bind fun c6 => (f5_colour 1 x1 x2 x3 c6.2).bind fun c8 => if c6.1 = 0 then (some ((-5), c8.2)) else ((f5_isClosed 1 x2 c8.2).bind fun c11 => if c11.1 = 0 then (if c8.1 = 0 then (f1_pourGrains_j74 x1 x2 x3 x4 c6.1 c11.2) else (if c8.1 = c6.1 then (f1_pourGrains_j74 x1 x2 x3 x4 c6.1 c11.2) else (some ((-5), c11.2)))) else (some ((-5), c11.2)))) else (some ((-2), c1.2))))
set_option maxRecDepth 20000 in
set_option maxHeartbeats 4000000 in
theorem f1_pourGrains_e_ok (hE : IW E) (X : XC E RX1 cX1_pourGrains 8 (some .int) A p s m args meth c) {x1 : Int32} {x2 : Int32} {x3 : Int32} {x4 : Int32} {h : Hp} (hf0 : f1_pourGrains_e x1 x2 x3 x4 h = some (r, h')) : VM E 8 A p l e 2 s m args below meth c (Qi E A r h') 0 [(0, .ref (eA E 1)), (1, .int x1), (2, .int x2), (3, .int x3), (4, .int x4)] [] h := by
  unfold f1_pourGrains_e at hf0
  have hf1 := hf0
  refine V_iload_n X 1 rfl dX1_pourGrains_0 ?_
  refine V_iload_n X 2 rfl dX1_pourGrains_1 ?_
  refine V_iload_n X 3 rfl dX1_pourGrains_2 ?_
  obtain ⟨c1, e_c1, hf3⟩ := obd hf1
  refine V_callSNi X (f7_isPlace_ok e_c1) ys_X7_isPlace yw_X7_isPlace nl_X1_67 rfl rfl ⟨Nat.le_of_ble_eq_true rfl, Nat.le_of_ble_eq_true rfl⟩ ⟨Nat.zero_le _, Nat.zero_le _⟩ (Nat.le_of_ble_eq_true rfl) dX1_pourGrains_3 ?_
  refine V_if_ne X (tgt := 11) (by decide) dX1_pourGrains_6 (fun q6 => ?_) (fun q6 => ?_)
  · have hf4 := ife hf3 q6
    refine V_iload X 4 rfl dX1_pourGrains_11 ?_
    refine V_iconst X (v := 1) (by decide) dX1_pourGrains_13 ?_
    refine V_icmp_lt X (tgt := 24) (by decide) dX1_pourGrains_14 (fun q14 => ?_) (fun q14 => ?_)
    · have hf5 := ift hf4 q14
      refine V_bipush X (v := -2) (by decide) dX1_pourGrains_24 ?_
      exact V_iret X rfl hf5 dX1_pourGrains_26
    · have hf5 := ife hf4 q14
      refine V_iload X 4 rfl dX1_pourGrains_17 ?_
      refine V_bipush X (v := 99) (by decide) dX1_pourGrains_19 ?_
      refine V_icmp_le X (tgt := 27) (by decide) dX1_pourGrains_21 (fun q21 => ?_) (fun q21 => ?_)
      · have hf6 := ift hf5 q21
        refine V_aload_n X 0 rfl dX1_pourGrains_27 ?_
        refine V_iload_n X 1 rfl dX1_pourGrains_28 ?_
        obtain ⟨c6, e_c6, hf8⟩ := obd hf6
        refine V_callVi X (SR_1 hE).1 rfl rfl (f5_heldBy_ok (SR_1 hE) e_c6) ys_X5_heldBy yw_X5_heldBy ml_X1_55 rfl rfl ⟨Nat.le_of_ble_eq_true rfl, Nat.le_of_ble_eq_true rfl⟩ ⟨Nat.zero_le _, Nat.zero_le _⟩ (Nat.le_of_ble_eq_true rfl) dX1_pourGrains_29 ?_
        refine V_istore X (by decide) rfl dX1_pourGrains_32 ?_
        refine V_aload_n X 1 rfl dX1_pourGrains_34 ?_
        refine V_iload_n X 2 rfl dX1_pourGrains_35 ?_
        refine V_iload_n X 3 rfl dX1_pourGrains_36 ?_
        refine V_iload_n X 4 rfl dX1_pourGrains_37 ?_
        obtain ⟨c8, e_c8, hf10⟩ := obd hf8
        refine V_callVi X (SR_1 hE).1 rfl rfl (f5_colour_ok (SR_1 hE) e_c8) ys_X5_colour yw_X5_colour ml_X1_71 rfl rfl ⟨Nat.le_of_ble_eq_true rfl, Nat.le_of_ble_eq_true rfl⟩ ⟨Nat.zero_le _, Nat.zero_le _⟩ (Nat.le_of_ble_eq_true rfl) dX1_pourGrains_38 ?_
        refine V_istore X (by decide) rfl dX1_pourGrains_41 ?_
        refine V_iload X 1 rfl dX1_pourGrains_43 ?_
        refine V_if_eq X (tgt := 56) (by decide) dX1_pourGrains_45 (fun q45 => ?_) (fun q45 => ?_)
        · have hf11 := ift hf10 q45
          refine V_bipush X (v := -5) (by decide) dX1_pourGrains_56 ?_
          exact V_iret X rfl hf11 dX1_pourGrains_58
        · have hf11 := ife hf10 q45
          refine V_aload_n X 2 rfl dX1_pourGrains_48 ?_
          refine V_iload_n X 4 rfl dX1_pourGrains_49 ?_
          obtain ⟨c11, e_c11, hf13⟩ := obd hf11
          refine V_callVi X (SR_1 hE).1 rfl rfl (f5_isClosed_ok (SR_1 hE) e_c11) ys_X5_isClosed yw_X5_isClosed ml_X1_36 rfl rfl ⟨Nat.le_of_ble_eq_true rfl, Nat.le_of_ble_eq_true rfl⟩ ⟨Nat.zero_le _, Nat.zero_le _⟩ (Nat.le_of_ble_eq_true rfl) dX1_pourGrains_50 ?_
          refine V_if_eq X (tgt := 59) (by decide) dX1_pourGrains_53 (fun q53 => ?_) (fun q53 => ?_)
          · have hf14 := ift hf13 q53
            refine V_iload X 0 rfl dX1_pourGrains_59 ?_
            refine V_if_eq X (tgt := 74) (by decide) dX1_pourGrains_61 (fun q61 => ?_) (fun q61 => ?_)
            · have hf15 := ift hf14 q61
              exact V_sub [2, 3, 4, 5, 6, 1] rfl (f1_pourGrains_j74_ok hE X hf15)
            · have hf15 := ife hf14 q61
              refine V_iload X 0 rfl dX1_pourGrains_64 ?_
              refine V_iload X 1 rfl dX1_pourGrains_66 ?_
              refine V_icmp_eq X (tgt := 74) (by decide) dX1_pourGrains_68 (fun q68 => ?_) (fun q68 => ?_)
              · have hf16 := ift hf15 q68
                exact V_sub [2, 3, 4, 5, 6, 1] rfl (f1_pourGrains_j74_ok hE X hf16)
              · have hf16 := ife hf15 q68
                refine V_bipush X (v := -5) (by decide) dX1_pourGrains_71 ?_
                exact V_iret X rfl hf16 dX1_pourGrains_73
          · have hf14 := ife hf13 q53
            refine V_bipush X (v := -5) (by decide) dX1_pourGrains_56 ?_
            exact V_iret X rfl hf14 dX1_pourGrains_58
      · have hf6 := ife hf5 q21
        refine V_bipush X (v := -2) (by decide) dX1_pourGrains_24 ?_
        exact V_iret X rfl hf6 dX1_pourGrains_26
  · have hf4 := ift hf3 q6
    refine V_iconst X (v := -1) (by decide) dX1_pourGrains_9 ?_
    exact V_iret X rfl hf4 dX1_pourGrains_10
def f1_pourGrains (x1 : Int32) (x2 : Int32) (x3 : Int32) (x4 : Int32) (h : Hp) : Re := f1_pourGrains_e x1 x2 x3 x4 h
theorem f1_pourGrains_ok (hE : IW E) {x1 : Int32} {x2 : Int32} {x3 : Int32} {x4 : Int32} {h : Hp} {q : Int32 × Hp} (hf0 : f1_pourGrains x1 x2 x3 x4 h = some q) : SMi l E 2 yX1_pourGrains cX1_pourGrains 8 (some .int) [.ref (eA E 1), .int x1, .int x2, .int x3, .int x4] h q.1 q.2 :=
  SMi.of (by decide +kernel) (Nat.le_of_ble_eq_true rfl) (fun p e s m args below meth c A X => f1_pourGrains_e_ok hE X (r := q.1) (h' := q.2) hf0)
def f7_pour_e (x1 : Int32) (x2 : Int32) (x3 : Int32) (x4 : Int32) (h : Hp) : Re :=
  (f2_stage  h).bind fun c1 => (f1_pourGrains x1 x2 x3 x4 c1.2).bind fun c3 => (f2_recordUnlessError c3.1 c3.2).bind fun c5 => some (c5.1, c5.2)
set_option maxRecDepth 20000 in
set_option maxHeartbeats 4000000 in
theorem f7_pour_e_ok (hE : IW E) (X : XC E RX7 cX7_pour 5 (some .int) A p s m args meth c) {x1 : Int32} {x2 : Int32} {x3 : Int32} {x4 : Int32} {h : Hp} (hf0 : f7_pour_e x1 x2 x3 x4 h = some (r, h')) : VM E 5 A p l e 3 s m args below meth c (Qi E A r h') 0 [(0, .ref (eA E 0)), (1, .int x1), (2, .int x2), (3, .int x3), (4, .int x4)] [] h := by
  unfold f7_pour_e at hf0
  have hf1 := hf0
  refine V_aload_n X 0 rfl dX7_pour_0 ?_
  refine G_X7_3_29 hE X dX7_pour_1 ?_
  refine V_aload_n X 0 rfl dX7_pour_4 ?_
  refine G_X7_0_10 hE X dX7_pour_5 ?_
  obtain ⟨c1, e_c1, hf3⟩ := obd hf1
  refine V_callVv X (OB_8 hE) rfl rfl (f2_stage_ok hE e_c1) ys_X2_stage yw_X2_stage ml_X7_40 rfl rfl ⟨Nat.le_of_ble_eq_true rfl, Nat.le_of_ble_eq_true rfl⟩ ⟨Nat.zero_le _, Nat.zero_le _⟩ (Nat.le_of_ble_eq_true rfl) dX7_pour_8 ?_
  refine V_aload_n X 0 rfl dX7_pour_11 ?_
  refine G_X7_3_29 hE X dX7_pour_12 ?_
  refine V_aload_n X 0 rfl dX7_pour_15 ?_
  refine G_X7_0_10 hE X dX7_pour_16 ?_
  refine V_iload_n X 1 rfl dX7_pour_19 ?_
  refine V_iload_n X 2 rfl dX7_pour_20 ?_
  refine V_iload_n X 3 rfl dX7_pour_21 ?_
  refine V_iload X 4 rfl dX7_pour_22 ?_
  obtain ⟨c3, e_c3, hf5⟩ := obd hf3
  refine V_callSi X (f1_pourGrains_ok hE e_c3) ys_X1_pourGrains yw_X1_pourGrains ml_X7_63 rfl rfl ⟨Nat.le_of_ble_eq_true rfl, Nat.le_of_ble_eq_true rfl⟩ ⟨Nat.zero_le _, Nat.zero_le _⟩ (Nat.le_of_ble_eq_true rfl) dX7_pour_24 ?_
  obtain ⟨c5, e_c5, hf7⟩ := obd hf5
  refine V_callVi X (OB_8 hE) rfl rfl (f2_recordUnlessError_ok hE e_c5) ys_X2_recordUnlessError yw_X2_recordUnlessError ml_X7_50 rfl rfl ⟨Nat.le_of_ble_eq_true rfl, Nat.le_of_ble_eq_true rfl⟩ ⟨Nat.zero_le _, Nat.zero_le _⟩ (Nat.le_of_ble_eq_true rfl) dX7_pour_27 ?_
  exact V_iret X rfl hf7 dX7_pour_30
def f7_pour (x1 : Int32) (x2 : Int32) (x3 : Int32) (x4 : Int32) (h : Hp) : Re := f7_pour_e x1 x2 x3 x4 h
theorem f7_pour_ok (hE : IW E) {x1 : Int32} {x2 : Int32} {x3 : Int32} {x4 : Int32} {h : Hp} {q : Int32 × Hp} (hf0 : f7_pour x1 x2 x3 x4 h = some q) : SMi l E 3 yX7_pour cX7_pour 5 (some .int) [.ref (eA E 0), .int x1, .int x2, .int x3, .int x4] h q.1 q.2 :=
  SMi.of (by decide +kernel) (Nat.le_of_ble_eq_true rfl) (fun p e s m args below meth c A X => f7_pour_e_ok hE X (r := q.1) (h' := q.2) hf0)
def f1_scrapeBare_e (x1 : Int32) (x2 : Int32) (x3 : Int32) (h : Hp) : Re :=
  (f7_isPlace x1 x2 x3 h).bind fun c1 => if c1.1 = 0 then (some ((-1), c1.2)) else ((f5_grains 1 x1 x2 x3 c1.2).bind fun c4 => (f5_isClosed 1 x2 c4.2).bind fun c6 => if c6.1 = 0 then (if c4.1 = 0 then (some ((-5), c6.2)) else ((f5_heap 1 x1 x2 x3 0 0 c6.2).bind fun c10 => (f5_raise 1 23 c4.1 c10.2).bind fun c12 => some (c4.1, c12.2))) else (some ((-5), c6.2)))
set_option maxRecDepth 20000 in
set_option maxHeartbeats 4000000 in
theorem f1_scrapeBare_e_ok (hE : IW E) (X : XC E RX1 cX1_scrapeBare 5 (some .int) A p s m args meth c) {x1 : Int32} {x2 : Int32} {x3 : Int32} {h : Hp} (hf0 : f1_scrapeBare_e x1 x2 x3 h = some (r, h')) : VM E 5 A p l e 2 s m args below meth c (Qi E A r h') 0 [(0, .ref (eA E 1)), (1, .int x1), (2, .int x2), (3, .int x3)] [] h := by
  unfold f1_scrapeBare_e at hf0
  have hf1 := hf0
  refine V_iload_n X 1 rfl dX1_scrapeBare_0 ?_
  refine V_iload_n X 2 rfl dX1_scrapeBare_1 ?_
  refine V_iload_n X 3 rfl dX1_scrapeBare_2 ?_
  obtain ⟨c1, e_c1, hf3⟩ := obd hf1
  refine V_callSNi X (f7_isPlace_ok e_c1) ys_X7_isPlace yw_X7_isPlace nl_X1_67 rfl rfl ⟨Nat.le_of_ble_eq_true rfl, Nat.le_of_ble_eq_true rfl⟩ ⟨Nat.zero_le _, Nat.zero_le _⟩ (Nat.le_of_ble_eq_true rfl) dX1_scrapeBare_3 ?_
  refine V_if_ne X (tgt := 11) (by decide) dX1_scrapeBare_6 (fun q6 => ?_) (fun q6 => ?_)
  · have hf4 := ife hf3 q6
    refine V_aload_n X 0 rfl dX1_scrapeBare_11 ?_
    refine V_iload_n X 1 rfl dX1_scrapeBare_12 ?_
    refine V_iload_n X 2 rfl dX1_scrapeBare_13 ?_
    refine V_iload_n X 3 rfl dX1_scrapeBare_14 ?_
    obtain ⟨c4, e_c4, hf6⟩ := obd hf4
    refine V_callVi X (SR_1 hE).1 rfl rfl (f5_grains_ok (SR_1 hE) e_c4) ys_X5_grains yw_X5_grains ml_X1_75 rfl rfl ⟨Nat.le_of_ble_eq_true rfl, Nat.le_of_ble_eq_true rfl⟩ ⟨Nat.zero_le _, Nat.zero_le _⟩ (Nat.le_of_ble_eq_true rfl) dX1_scrapeBare_15 ?_
    refine V_istore X (by decide) rfl dX1_scrapeBare_18 ?_
    refine V_aload_n X 1 rfl dX1_scrapeBare_20 ?_
    refine V_iload_n X 3 rfl dX1_scrapeBare_21 ?_
    obtain ⟨c6, e_c6, hf8⟩ := obd hf6
    refine V_callVi X (SR_1 hE).1 rfl rfl (f5_isClosed_ok (SR_1 hE) e_c6) ys_X5_isClosed yw_X5_isClosed ml_X1_36 rfl rfl ⟨Nat.le_of_ble_eq_true rfl, Nat.le_of_ble_eq_true rfl⟩ ⟨Nat.zero_le _, Nat.zero_le _⟩ (Nat.le_of_ble_eq_true rfl) dX1_scrapeBare_22 ?_
    refine V_if_ne X (tgt := 33) (by decide) dX1_scrapeBare_25 (fun q25 => ?_) (fun q25 => ?_)
    · have hf9 := ife hf8 q25
      refine V_bipush X (v := -5) (by decide) dX1_scrapeBare_33 ?_
      exact V_iret X rfl hf9 dX1_scrapeBare_35
    · have hf9 := ift hf8 q25
      refine V_iload X 0 rfl dX1_scrapeBare_28 ?_
      refine V_if_ne X (tgt := 36) (by decide) dX1_scrapeBare_30 (fun q30 => ?_) (fun q30 => ?_)
      · have hf10 := ife hf9 q30
        refine V_aload_n X 1 rfl dX1_scrapeBare_36 ?_
        refine V_iload_n X 2 rfl dX1_scrapeBare_37 ?_
        refine V_iload_n X 3 rfl dX1_scrapeBare_38 ?_
        refine V_iload_n X 4 rfl dX1_scrapeBare_39 ?_
        refine V_iconst X (v := 0) (by decide) dX1_scrapeBare_40 ?_
        refine V_iconst X (v := 0) (by decide) dX1_scrapeBare_41 ?_
        obtain ⟨c10, e_c10, hf12⟩ := obd hf10
        refine V_callVv X (SR_1 hE).1 rfl rfl (f5_heap_ok (SR_1 hE) e_c10) ys_X5_heap yw_X5_heap ml_X1_78 rfl rfl ⟨Nat.le_of_ble_eq_true rfl, Nat.le_of_ble_eq_true rfl⟩ ⟨Nat.zero_le _, Nat.zero_le _⟩ (Nat.le_of_ble_eq_true rfl) dX1_scrapeBare_42 ?_
        refine V_aload_n X 1 rfl dX1_scrapeBare_45 ?_
        refine V_bipush X (v := 23) (by decide) dX1_scrapeBare_46 ?_
        refine V_iload X 0 rfl dX1_scrapeBare_48 ?_
        obtain ⟨c12, e_c12, hf14⟩ := obd hf12
        refine V_callVv X (SR_1 hE).1 rfl rfl (f5_raise_ok (SR_1 hE) e_c12) ys_X5_raise yw_X5_raise ml_X1_82 rfl rfl ⟨Nat.le_of_ble_eq_true rfl, Nat.le_of_ble_eq_true rfl⟩ ⟨Nat.zero_le _, Nat.zero_le _⟩ (Nat.le_of_ble_eq_true rfl) dX1_scrapeBare_50 ?_
        refine V_iload X 0 rfl dX1_scrapeBare_53 ?_
        exact V_iret X rfl hf14 dX1_scrapeBare_55
      · have hf10 := ift hf9 q30
        refine V_bipush X (v := -5) (by decide) dX1_scrapeBare_33 ?_
        exact V_iret X rfl hf10 dX1_scrapeBare_35
  · have hf4 := ift hf3 q6
    refine V_iconst X (v := -1) (by decide) dX1_scrapeBare_9 ?_
    exact V_iret X rfl hf4 dX1_scrapeBare_10
def f1_scrapeBare (x1 : Int32) (x2 : Int32) (x3 : Int32) (h : Hp) : Re := f1_scrapeBare_e x1 x2 x3 h
theorem f1_scrapeBare_ok (hE : IW E) {x1 : Int32} {x2 : Int32} {x3 : Int32} {h : Hp} {q : Int32 × Hp} (hf0 : f1_scrapeBare x1 x2 x3 h = some q) : SMi l E 2 yX1_scrapeBare cX1_scrapeBare 5 (some .int) [.ref (eA E 1), .int x1, .int x2, .int x3] h q.1 q.2 :=
  SMi.of (by decide +kernel) (Nat.le_of_ble_eq_true rfl) (fun p e s m args below meth c A X => f1_scrapeBare_e_ok hE X (r := q.1) (h' := q.2) hf0)
def f7_scrape_e (x1 : Int32) (x2 : Int32) (x3 : Int32) (h : Hp) : Re :=
  (f2_stage  h).bind fun c1 => (f1_scrapeBare x1 x2 x3 c1.2).bind fun c3 => (f2_recordUnlessError c3.1 c3.2).bind fun c5 => some (c5.1, c5.2)
set_option maxRecDepth 20000 in
set_option maxHeartbeats 4000000 in
theorem f7_scrape_e_ok (hE : IW E) (X : XC E RX7 cX7_scrape 4 (some .int) A p s m args meth c) {x1 : Int32} {x2 : Int32} {x3 : Int32} {h : Hp} (hf0 : f7_scrape_e x1 x2 x3 h = some (r, h')) : VM E 4 A p l e 3 s m args below meth c (Qi E A r h') 0 [(0, .ref (eA E 0)), (1, .int x1), (2, .int x2), (3, .int x3)] [] h := by
  unfold f7_scrape_e at hf0
  have hf1 := hf0
  refine V_aload_n X 0 rfl dX7_scrape_0 ?_
  refine G_X7_3_29 hE X dX7_scrape_1 ?_
  refine V_aload_n X 0 rfl dX7_scrape_4 ?_
  refine G_X7_0_10 hE X dX7_scrape_5 ?_
  obtain ⟨c1, e_c1, hf3⟩ := obd hf1
  refine V_callVv X (OB_8 hE) rfl rfl (f2_stage_ok hE e_c1) ys_X2_stage yw_X2_stage ml_X7_40 rfl rfl ⟨Nat.le_of_ble_eq_true rfl, Nat.le_of_ble_eq_true rfl⟩ ⟨Nat.zero_le _, Nat.zero_le _⟩ (Nat.le_of_ble_eq_true rfl) dX7_scrape_8 ?_
  refine V_aload_n X 0 rfl dX7_scrape_11 ?_
  refine G_X7_3_29 hE X dX7_scrape_12 ?_
  refine V_aload_n X 0 rfl dX7_scrape_15 ?_
  refine G_X7_0_10 hE X dX7_scrape_16 ?_
  refine V_iload_n X 1 rfl dX7_scrape_19 ?_
  refine V_iload_n X 2 rfl dX7_scrape_20 ?_
  refine V_iload_n X 3 rfl dX7_scrape_21 ?_
  obtain ⟨c3, e_c3, hf5⟩ := obd hf3
  refine V_callSi X (f1_scrapeBare_ok hE e_c3) ys_X1_scrapeBare yw_X1_scrapeBare ml_X7_67 rfl rfl ⟨Nat.le_of_ble_eq_true rfl, Nat.le_of_ble_eq_true rfl⟩ ⟨Nat.zero_le _, Nat.zero_le _⟩ (Nat.le_of_ble_eq_true rfl) dX7_scrape_22 ?_
  obtain ⟨c5, e_c5, hf7⟩ := obd hf5
  refine V_callVi X (OB_8 hE) rfl rfl (f2_recordUnlessError_ok hE e_c5) ys_X2_recordUnlessError yw_X2_recordUnlessError ml_X7_50 rfl rfl ⟨Nat.le_of_ble_eq_true rfl, Nat.le_of_ble_eq_true rfl⟩ ⟨Nat.zero_le _, Nat.zero_le _⟩ (Nat.le_of_ble_eq_true rfl) dX7_scrape_25 ?_
  exact V_iret X rfl hf7 dX7_scrape_28
def f7_scrape (x1 : Int32) (x2 : Int32) (x3 : Int32) (h : Hp) : Re := f7_scrape_e x1 x2 x3 h
theorem f7_scrape_ok (hE : IW E) {x1 : Int32} {x2 : Int32} {x3 : Int32} {h : Hp} {q : Int32 × Hp} (hf0 : f7_scrape x1 x2 x3 h = some q) : SMi l E 3 yX7_scrape cX7_scrape 4 (some .int) [.ref (eA E 0), .int x1, .int x2, .int x3] h q.1 q.2 :=
  SMi.of (by decide +kernel) (Nat.le_of_ble_eq_true rfl) (fun p e s m args below meth c A X => f7_scrape_e_ok hE X (r := q.1) (h' := q.2) hf0)
def f7_isDirection_e (x0 : Int32) (h : Hp) : Re :=
  if x0 = 0 then (rz 1 h) else (if x0 = 1 then (rz 1 h) else (rz 0 h))
set_option maxRecDepth 20000 in
set_option maxHeartbeats 4000000 in
theorem f7_isDirection_e_ok (X : XC E RX7 cX7_isDirection 1 (some .boolean) A p s m args meth c) {x0 : Int32} {h : Hp} (hf0 : f7_isDirection_e x0 h = some (r, h')) : VM E 1 A p l e 0 s m args below meth c (Qi E A r h') 0 [(0, .int x0)] [] h := by
  unfold f7_isDirection_e at hf0
  have hf1 := hf0
  refine V_iload_n X 0 rfl dX7_isDirection_0 ?_
  refine V_if_eq X (tgt := 9) (by decide) dX7_isDirection_1 (fun q1 => ?_) (fun q1 => ?_)
  · have hf2 := ift hf1 q1
    refine V_iconst X (v := 1) (by decide) dX7_isDirection_9 ?_
    refine V_goto X (tgt := 14) (by decide) dX7_isDirection_10 ?_
    exact V_zret X rfl hf2 dX7_isDirection_14
  · have hf2 := ife hf1 q1
    refine V_iload_n X 0 rfl dX7_isDirection_4 ?_
    refine V_iconst X (v := 1) (by decide) dX7_isDirection_5 ?_
    refine V_icmp_ne X (tgt := 13) (by decide) dX7_isDirection_6 (fun q6 => ?_) (fun q6 => ?_)
    · have hf3 := ife hf2 q6
      refine V_iconst X (v := 0) (by decide) dX7_isDirection_13 ?_
      exact V_zret X rfl hf3 dX7_isDirection_14
    · have hf3 := ift hf2 q6
      refine V_iconst X (v := 1) (by decide) dX7_isDirection_9 ?_
      refine V_goto X (tgt := 14) (by decide) dX7_isDirection_10 ?_
      exact V_zret X rfl hf3 dX7_isDirection_14
def f7_isDirection (x0 : Int32) (h : Hp) : Re := f7_isDirection_e x0 h
theorem f7_isDirection_ok {x0 : Int32} {h : Hp} {q : Int32 × Hp} (hf0 : f7_isDirection x0 h = some q) : SMi l E 0 yX7_isDirection cX7_isDirection 1 (some .boolean) [.int x0] h q.1 q.2 :=
  SMi.of (by decide +kernel) (Nat.le_of_ble_eq_true rfl) (fun p e s m args below meth c A X => f7_isDirection_e_ok X (r := q.1) (h' := q.2) hf0)
def f5_copyFrom_e (k : Nat) (k2 : Nat) (h : Hp) : Re :=
  if cpB 0 0 344 344 344 = true then (some (hf h (k + 1) (va_cpy (h (k2 + 1)) (h (k + 1)) (Int32.toNatClampNeg 0) (Int32.toNatClampNeg 0) (Int32.toNatClampNeg 344)))).bind fun h2 => some (0, h2) else none
set_option maxRecDepth 20000 in
set_option maxHeartbeats 4000000 in
theorem f5_copyFrom_e_ok {k : Nat} {k2 : Nat} (hk : SR E k) (hk2 : SR E k2) (X : XC E RX5 cX5_copyFrom 2 none A p s m args meth c) {h : Hp} (hf0 : f5_copyFrom_e k k2  h = some (r, h')) : VM E 2 A p l e 1 s m args below meth c (Qv E A h') 0 [(0, .ref (eA E k)), (1, .ref (eA E k2))] [] h := by
  unfold f5_copyFrom_e at hf0
  have hf1 := hf0
  refine V_aload_n X 1 rfl dX5_copyFrom_0 ?_
  refine G_X5_0_11 hk2 X dX5_copyFrom_1 ?_
  refine V_iconst X (v := 0) (by decide) dX5_copyFrom_4 ?_
  refine V_aload_n X 0 rfl dX5_copyFrom_5 ?_
  refine G_X5_0_11 hk X dX5_copyFrom_6 ?_
  refine V_iconst X (v := 0) (by decide) dX5_copyFrom_9 ?_
  refine V_sipush X (v := 344) (by decide) dX5_copyFrom_10 ?_
  obtain ⟨g101, hf101⟩ := ogd hf1
  obtain ⟨ga, gb, gc, gd, ge⟩ := cpB_of g101
  refine V_copyi X hk2.2 hk.2 cp_X5_26 cp_nat cp_stat cp_ini ga gb gc gd ge (by decide) (by decide) dX5_copyFrom_13 ?_
  have hf4 := obs hf101
  exact V_vret X rfl hf4 dX5_copyFrom_16
def f5_copyFrom (k : Nat) (k2 : Nat) (h : Hp) : Re := f5_copyFrom_e k k2  h
theorem f5_copyFrom_ok {k : Nat} {k2 : Nat} (hk : SR E k) (hk2 : SR E k2) {h : Hp} {q : Int32 × Hp} (hf0 : f5_copyFrom k k2  h = some q) : SMv l E 1 yX5_copyFrom cX5_copyFrom 2 [.ref (eA E k), .ref (eA E k2)] h q.2 :=
  SMv.of (by decide +kernel) (Nat.le_of_ble_eq_true rfl) (fun p e s m args below meth c A X => f5_copyFrom_e_ok hk hk2 X (r := q.1) (h' := q.2) hf0)
def f0_rememberRing_B3 (k : Nat) (k3 : Int32 → Int32 → Int32 → Hp → Re) (x2 : Int32) (x3 : Int32) (x4 : Int32) (h : Hp) : Re :=
  if 8 ≤ x4 then (some (0, h)) else (if 8 ≤ x4 then (some (0, h)) else ((f5_grains k x2 x3 x4 h).bind fun c3 => if inB x4 8 = true then (some (hu c3.2 6 (Int32.toNatClampNeg x4) c3.1)).bind fun h6 => (f5_colour k x2 x3 x4 h6).bind fun c8 => if inB x4 8 = true then (some (hu c8.2 7 (Int32.toNatClampNeg x4) c8.1)).bind fun h11 => k3 x2 x3 (x4 + 1) h11 else none else none))
set_option maxRecDepth 20000 in
set_option maxHeartbeats 4000000 in
theorem f0_rememberRing_B3_ok {k : Nat} (hE : IW E) (hk : SR E k) (X : XC E RX0 cX0_rememberRing 5 none A p s m args meth c) {k3 : Int32 → Int32 → Int32 → Hp → Re} (hk3 : ∀ (x2 : Int32) (x3 : Int32) (x4 : Int32) (h : Hp), k3 x2 x3 x4 h = some (r, h') → VM E 5 A p l e 2 s m args below meth c (Qv E A h') 3 [(0, .ref (eA E 5)), (1, .ref (eA E k)), (2, .int x2), (3, .int x3), (4, .int x4)] [] h) {x2 : Int32} {x3 : Int32} {x4 : Int32} {h : Hp} (hf0 : f0_rememberRing_B3 k k3 x2 x3 x4 h = some (r, h')) : VM E 5 A p l e 2 s m args below meth c (Qv E A h') 3 [(0, .ref (eA E 5)), (1, .ref (eA E k)), (2, .int x2), (3, .int x3), (4, .int x4)] [] h := by
  unfold f0_rememberRing_B3 at hf0
  have hf1 := hf0
  refine V_iload X 4 rfl dX0_rememberRing_3 ?_
  refine V_aload_n X 0 rfl dX0_rememberRing_5 ?_
  refine G_X0_0_9 hE X dX0_rememberRing_6 ?_
  refine V_alen (j := 0) (v := 8) X (AR_6 hE) rfl (by decide) dX0_rememberRing_9 ?_
  refine V_icmp_ge X (tgt := 59) (by decide) dX0_rememberRing_10 (fun q10 => ?_) (fun q10 => ?_)
  · have hf2 := ift hf1 q10
    exact V_vret X rfl hf2 dX0_rememberRing_59
  · have hf2 := ife hf1 q10
    refine V_iload X 4 rfl dX0_rememberRing_13 ?_
    refine V_aload_n X 0 rfl dX0_rememberRing_15 ?_
    refine G_X0_1_15 hE X dX0_rememberRing_16 ?_
    refine V_alen (j := 0) (v := 8) X (AR_7 hE) rfl (by decide) dX0_rememberRing_19 ?_
    refine V_icmp_ge X (tgt := 59) (by decide) dX0_rememberRing_20 (fun q20 => ?_) (fun q20 => ?_)
    · have hf3 := ift hf2 q20
      exact V_vret X rfl hf3 dX0_rememberRing_59
    · have hf3 := ife hf2 q20
      refine V_aload_n X 0 rfl dX0_rememberRing_23 ?_
      refine G_X0_0_9 hE X dX0_rememberRing_24 ?_
      refine V_iload X 4 rfl dX0_rememberRing_27 ?_
      refine V_aload_n X 1 rfl dX0_rememberRing_29 ?_
      refine V_iload_n X 2 rfl dX0_rememberRing_30 ?_
      refine V_iload_n X 3 rfl dX0_rememberRing_31 ?_
      refine V_iload X 4 rfl dX0_rememberRing_32 ?_
      obtain ⟨c3, e_c3, hf5⟩ := obd hf3
      refine V_callVi X hk.1 rfl rfl (f5_grains_ok hk e_c3) ys_X5_grains yw_X5_grains ml_X0_36 rfl rfl ⟨Nat.le_of_ble_eq_true rfl, Nat.le_of_ble_eq_true rfl⟩ ⟨Nat.zero_le _, Nat.zero_le _⟩ (Nat.le_of_ble_eq_true rfl) dX0_rememberRing_34 ?_
      obtain ⟨g105, hf105⟩ := ogd hf5
      refine V_iast X (AR_6 hE) g105 dX0_rememberRing_37 ?_
      have hf8 := obs hf105
      refine V_aload_n X 0 rfl dX0_rememberRing_38 ?_
      refine G_X0_1_15 hE X dX0_rememberRing_39 ?_
      refine V_iload X 4 rfl dX0_rememberRing_42 ?_
      refine V_aload_n X 1 rfl dX0_rememberRing_44 ?_
      refine V_iload_n X 2 rfl dX0_rememberRing_45 ?_
      refine V_iload_n X 3 rfl dX0_rememberRing_46 ?_
      refine V_iload X 4 rfl dX0_rememberRing_47 ?_
      obtain ⟨c8, e_c8, hf10⟩ := obd hf8
      refine V_callVi X hk.1 rfl rfl (f5_colour_ok hk e_c8) ys_X5_colour yw_X5_colour ml_X0_40 rfl rfl ⟨Nat.le_of_ble_eq_true rfl, Nat.le_of_ble_eq_true rfl⟩ ⟨Nat.zero_le _, Nat.zero_le _⟩ (Nat.le_of_ble_eq_true rfl) dX0_rememberRing_49 ?_
      obtain ⟨g110, hf110⟩ := ogd hf10
      refine V_iast X (AR_7 hE) g110 dX0_rememberRing_52 ?_
      have hf13 := obs hf110
      refine V_iinc X (v := _ + 1) 4 rfl (by rfl) (by decide) rfl dX0_rememberRing_53 ?_
      refine V_goto X (tgt := 3) (by decide) dX0_rememberRing_56 ?_
      exact V_sub [1, 2, 3, 4, 0] rfl (hk3 _ _ _ _ hf13)
def f0_rememberRing_L3 (k : Nat) : Nat → Int32 → Int32 → Int32 → Hp → Re
  | 0 => fun _ _ _ _ => none
  | n + 1 => f0_rememberRing_B3 k (f0_rememberRing_L3 k n)
theorem f0_rememberRing_L3_s (k : Nat) (n : Nat) (x2 : Int32) (x3 : Int32) (x4 : Int32) (h : Hp) : f0_rememberRing_L3 k (n + 1) x2 x3 x4 h = f0_rememberRing_B3 k (f0_rememberRing_L3 k n) x2 x3 x4 h := rfl
theorem f0_rememberRing_L3_ok {k : Nat} (hE : IW E) (hk : SR E k) (X : XC E RX0 cX0_rememberRing 5 none A p s m args meth c) : ∀ (n : Nat) (x2 : Int32) (x3 : Int32) (x4 : Int32) (h : Hp), f0_rememberRing_L3 k n x2 x3 x4 h = some (r, h') → VM E 5 A p l e 2 s m args below meth c (Qv E A h') 3 [(0, .ref (eA E 5)), (1, .ref (eA E k)), (2, .int x2), (3, .int x3), (4, .int x4)] [] h := by
  intro n
  induction n with
  | zero =>
    intro x2 x3 x4 h q
    have q : (none : Re) = some (r, h') := q
    cases q
  | succ n ih =>
    intro x2 x3 x4 h q
    exact f0_rememberRing_B3_ok hE hk X ih q
def f0_rememberRing_e (k : Nat) (x2 : Int32) (x3 : Int32) (h : Hp) : Re :=
  f0_rememberRing_L3 k FU x2 x3 0 h
set_option maxRecDepth 20000 in
set_option maxHeartbeats 4000000 in
theorem f0_rememberRing_e_ok {k : Nat} (hE : IW E) (hk : SR E k) (X : XC E RX0 cX0_rememberRing 5 none A p s m args meth c) {x2 : Int32} {x3 : Int32} {h : Hp} (hf0 : f0_rememberRing_e k x2 x3 h = some (r, h')) : VM E 5 A p l e 2 s m args below meth c (Qv E A h') 0 [(0, .ref (eA E 5)), (1, .ref (eA E k)), (2, .int x2), (3, .int x3)] [] h := by
  unfold f0_rememberRing_e at hf0
  have hf1 := hf0
  refine V_iconst X (v := 0) (by decide) dX0_rememberRing_0 ?_
  refine V_istore X (by decide) rfl dX0_rememberRing_1 ?_
  exact V_sub [1, 2, 3, 4, 0] rfl (f0_rememberRing_L3_ok hE hk X FU _ _ _ _ hf1)
def f0_rememberRing (k : Nat) (x2 : Int32) (x3 : Int32) (h : Hp) : Re := f0_rememberRing_e k x2 x3 h
theorem f0_rememberRing_ok {k : Nat} (hE : IW E) (hk : SR E k) {x2 : Int32} {x3 : Int32} {h : Hp} {q : Int32 × Hp} (hf0 : f0_rememberRing k x2 x3 h = some q) : SMv l E 2 yX0_rememberRing cX0_rememberRing 5 [.ref (eA E 5), .ref (eA E k), .int x2, .int x3] h q.2 :=
  SMv.of (by decide +kernel) (Nat.le_of_ble_eq_true rfl) (fun p e s m args below meth c A X => f0_rememberRing_e_ok hE hk X (r := q.1) (h' := q.2) hf0)
def f0_remembered_e (ka : Nat) (x1 : Int32) (h : Hp) : Re :=
  if x1 < 0 then (some (0, h)) else (if 8 ≤ x1 then (some (0, h)) else (if inB x1 8 = true then some (h ka (Int32.toNatClampNeg x1), h) else none))
set_option maxRecDepth 20000 in
set_option maxHeartbeats 4000000 in
theorem f0_remembered_e_ok {ka : Nat} (hka : AR E ka (eI E) 8) (X : XC E RX0 cX0_remembered 2 (some .int) A p s m args meth c) {x1 : Int32} {h : Hp} (hf0 : f0_remembered_e ka x1 h = some (r, h')) : VM E 2 A p l e 0 s m args below meth c (Qi E A r h') 0 [(0, .ref (eA E ka)), (1, .int x1)] [] h := by
  unfold f0_remembered_e at hf0
  have hf1 := hf0
  refine V_iload_n X 1 rfl dX0_remembered_0 ?_
  refine V_if_lt X (tgt := 16) (by decide) dX0_remembered_1 (fun q1 => ?_) (fun q1 => ?_)
  · have hf2 := ift hf1 q1
    refine V_iconst X (v := 0) (by decide) dX0_remembered_16 ?_
    exact V_iret X rfl hf2 dX0_remembered_17
  · have hf2 := ife hf1 q1
    refine V_iload_n X 1 rfl dX0_remembered_4 ?_
    refine V_aload_n X 0 rfl dX0_remembered_5 ?_
    refine V_alen (j := 0) (v := 8) X hka rfl (by decide) dX0_remembered_6 ?_
    refine V_icmp_ge X (tgt := 16) (by decide) dX0_remembered_7 (fun q7 => ?_) (fun q7 => ?_)
    · have hf3 := ift hf2 q7
      refine V_iconst X (v := 0) (by decide) dX0_remembered_16 ?_
      exact V_iret X rfl hf3 dX0_remembered_17
    · have hf3 := ife hf2 q7
      refine V_aload_n X 0 rfl dX0_remembered_10 ?_
      refine V_iload_n X 1 rfl dX0_remembered_11 ?_
      obtain ⟨g103, hf103⟩ := ogd hf3
      refine V_iald X hka g103 dX0_remembered_12 ?_
      refine V_goto X (tgt := 17) (by decide) dX0_remembered_13 ?_
      exact V_iret X rfl hf103 dX0_remembered_17
def f0_remembered (ka : Nat) (x1 : Int32) (h : Hp) : Re := f0_remembered_e ka x1 h
theorem f0_remembered_ok {ka : Nat} (hka : AR E ka (eI E) 8) {x1 : Int32} {h : Hp} {q : Int32 × Hp} (hf0 : f0_remembered ka x1 h = some q) : SMi l E 0 yX0_remembered cX0_remembered 2 (some .int) [.ref (eA E ka), .int x1] h q.1 q.2 :=
  SMi.of (by decide +kernel) (Nat.le_of_ble_eq_true rfl) (fun p e s m args below meth c A X => f0_remembered_e_ok hka X (r := q.1) (h' := q.2) hf0)
def f0_spilled_e (x0 : Int32) (x1 : Int32) (h : Hp) : Re :=
  if x0 ≤ x1 then (some (0, h)) else (some ((x0 - x1) / 2, h))
set_option maxRecDepth 20000 in
set_option maxHeartbeats 4000000 in
theorem f0_spilled_e_ok (X : XC E RX0 cX0_spilled 2 (some .int) A p s m args meth c) {x0 : Int32} {x1 : Int32} {h : Hp} (hf0 : f0_spilled_e x0 x1 h = some (r, h')) : VM E 2 A p l e 0 s m args below meth c (Qi E A r h') 0 [(0, .int x0), (1, .int x1)] [] h := by
  unfold f0_spilled_e at hf0
  have hf1 := hf0
  refine V_iload_n X 0 rfl dX0_spilled_0 ?_
  refine V_iload_n X 1 rfl dX0_spilled_1 ?_
  refine V_icmp_le X (tgt := 13) (by decide) dX0_spilled_2 (fun q2 => ?_) (fun q2 => ?_)
  · have hf2 := ift hf1 q2
    refine V_iconst X (v := 0) (by decide) dX0_spilled_13 ?_
    exact V_iret X rfl hf2 dX0_spilled_14
  · have hf2 := ife hf1 q2
    refine V_iload_n X 0 rfl dX0_spilled_5 ?_
    refine V_iload_n X 1 rfl dX0_spilled_6 ?_
    refine V_isub X dX0_spilled_7 ?_
    refine V_iconst X (v := 2) (by decide) dX0_spilled_8 ?_
    refine V_idiv X (by decide) dX0_spilled_9 ?_
    refine V_goto X (tgt := 14) (by decide) dX0_spilled_10 ?_
    exact V_iret X rfl hf2 dX0_spilled_14
def f0_spilled (x0 : Int32) (x1 : Int32) (h : Hp) : Re := f0_spilled_e x0 x1 h
theorem f0_spilled_ok {x0 : Int32} {x1 : Int32} {h : Hp} {q : Int32 × Hp} (hf0 : f0_spilled x0 x1 h = some q) : SMi l E 0 yX0_spilled cX0_spilled 2 (some .int) [.int x0, .int x1] h q.1 q.2 :=
  SMi.of (by decide +kernel) (Nat.le_of_ble_eq_true rfl) (fun p e s m args below meth c A X => f0_spilled_e_ok X (r := q.1) (h' := q.2) hf0)
def f0_overPlace_j170 (k : Nat) (x2 : Int32) (x3 : Int32) (x4 : Int32) (x8 : Int32) (x9 : Int32) (x11 : Int32) (x12 : Int32) (x13 : Int32) (h : Hp) : Re :=
  (f5_heap k x2 x3 x4 x8 x13 h).bind fun c1 => if x11 = 0 then (some ((x12 - x13) + x9, c1.2)) else (some ((x12 - x13) + 0, c1.2))
set_option maxRecDepth 20000 in
set_option maxHeartbeats 4000000 in
theorem f0_overPlace_j170_ok {k : Nat} (hE : IW E) (hk : SR E k) (X : XC E RX0 cX0_overPlace 14 (some .int) A p s m args meth c) {x2 : Int32} {x3 : Int32} {x4 : Int32} {x8 : Int32} {x9 : Int32} {x11 : Int32} {x12 : Int32} {x13 : Int32} {h : Hp} (hf0 : f0_overPlace_j170 k x2 x3 x4 x8 x9 x11 x12 x13 h = some (r, h')) : VM E 14 A p l e 2 s m args below meth c (Qi E A r h') 170 [(1, .ref (eA E k)), (2, .int x2), (3, .int x3), (4, .int x4), (8, .int x8), (9, .int x9), (11, .int x11), (12, .int x12), (13, .int x13)] [] h := by
  unfold f0_overPlace_j170 at hf0
  have hf1 := hf0
  refine V_aload_n X 0 rfl dX0_overPlace_170 ?_
  refine V_iload_n X 1 rfl dX0_overPlace_171 ?_
  refine V_iload_n X 2 rfl dX0_overPlace_172 ?_
  refine V_iload X 3 rfl dX0_overPlace_173 ?_
  refine V_iload X 4 rfl dX0_overPlace_175 ?_
  refine V_iload X 8 rfl dX0_overPlace_177 ?_
  obtain ⟨c1, e_c1, hf3⟩ := obd hf1
  refine V_callVv X hk.1 rfl rfl (f5_heap_ok hk e_c1) ys_X5_heap yw_X5_heap ml_X0_59 rfl rfl ⟨Nat.le_of_ble_eq_true rfl, Nat.le_of_ble_eq_true rfl⟩ ⟨Nat.zero_le _, Nat.zero_le _⟩ (Nat.le_of_ble_eq_true rfl) dX0_overPlace_179 ?_
  refine V_iload X 7 rfl dX0_overPlace_182 ?_
  refine V_iload X 8 rfl dX0_overPlace_184 ?_
  refine V_isub X dX0_overPlace_186 ?_
  refine V_iload X 6 rfl dX0_overPlace_187 ?_
  refine V_if_eq X (tgt := 196) (by decide) dX0_overPlace_189 (fun q189 => ?_) (fun q189 => ?_)
  · have hf4 := ift hf3 q189
    refine V_iload X 5 rfl dX0_overPlace_196 ?_
    refine V_iadd X dX0_overPlace_198 ?_
    exact V_iret X rfl hf4 dX0_overPlace_199
  · have hf4 := ife hf3 q189
    refine V_iconst X (v := 0) (by decide) dX0_overPlace_192 ?_
    refine V_goto X (tgt := 198) (by decide) dX0_overPlace_193 ?_
    refine V_iadd X dX0_overPlace_198 ?_
    exact V_iret X rfl hf4 dX0_overPlace_199
def f0_overPlace_j140 (k : Nat) (x2 : Int32) (x3 : Int32) (x4 : Int32) (x8 : Int32) (x9 : Int32) (x11 : Int32) (y0 : Int32) (h : Hp) : Re :=
  (f0_remembered 6 x4 h).bind fun c1 => if (if y0 < 99 then y0 else 99) = c1.1 then (f0_overPlace_j170 k x2 x3 x4 x8 x9 x11 y0 (if y0 < 99 then y0 else 99) c1.2) else ((some (hu c1.2 5 2 1)).bind fun h4 => f0_overPlace_j170 k x2 x3 x4 x8 x9 x11 y0 (if y0 < 99 then y0 else 99) h4)
set_option maxRecDepth 20000 in
set_option maxHeartbeats 4000000 in
theorem f0_overPlace_j140_ok {k : Nat} (hE : IW E) (hk : SR E k) (X : XC E RX0 cX0_overPlace 14 (some .int) A p s m args meth c) {x2 : Int32} {x3 : Int32} {x4 : Int32} {x8 : Int32} {x9 : Int32} {x11 : Int32} {y0 : Int32} {h : Hp} (hf0 : f0_overPlace_j140 k x2 x3 x4 x8 x9 x11 y0 h = some (r, h')) : VM E 14 A p l e 2 s m args below meth c (Qi E A r h') 140 [(0, .ref (eA E 5)), (1, .ref (eA E k)), (2, .int x2), (3, .int x3), (4, .int x4), (8, .int x8), (9, .int x9), (11, .int x11)] [.int y0] h := by
  unfold f0_overPlace_j140 at hf0
  have hf1 := hf0
  refine V_istore X (by decide) rfl dX0_overPlace_140 ?_
  refine V_bipush X (v := 99) (by decide) dX0_overPlace_142 ?_
  refine V_iload X 0 rfl dX0_overPlace_144 ?_
  refine V_mmin X mm_X0_54 mm_min_st mm_ini mm_min_co (by decide) (by decide) ⟨Nat.zero_le _, Nat.zero_le _⟩ dX0_overPlace_146 ?_
  refine V_istore X (by decide) rfl dX0_overPlace_149 ?_
  refine V_iload X 0 rfl dX0_overPlace_151 ?_
  refine V_aload_n X 2 rfl dX0_overPlace_153 ?_
  refine G_X0_0_9 hE X dX0_overPlace_154 ?_
  refine V_iload X 6 rfl dX0_overPlace_157 ?_
  obtain ⟨c1, e_c1, hf3⟩ := obd hf1
  refine V_callSi X (f0_remembered_ok (AR_6 hE) e_c1) ys_X0_remembered yw_X0_remembered ml_X0_46 rfl rfl ⟨Nat.le_of_ble_eq_true rfl, Nat.le_of_ble_eq_true rfl⟩ ⟨Nat.zero_le _, Nat.zero_le _⟩ (Nat.le_of_ble_eq_true rfl) dX0_overPlace_159 ?_
  refine V_icmp_eq X (tgt := 170) (by decide) dX0_overPlace_162 (fun q162 => ?_) (fun q162 => ?_)
  · have hf4 := ift hf3 q162
    exact V_sub [3, 4, 5, 6, 7, 8, 9, 1, 0] rfl (f0_overPlace_j170_ok hE hk X hf4)
  · have hf4 := ife hf3 q162
    refine V_aload_n X 2 rfl dX0_overPlace_165 ?_
    refine V_iconst X (v := 1) (by decide) dX0_overPlace_166 ?_
    refine P_X0_2_18 hE X (by decide) (by decide) dX0_overPlace_167 ?_
    have hf6 := obs hf4
    exact V_sub [3, 4, 5, 6, 7, 8, 9, 1, 0] rfl (f0_overPlace_j170_ok hE hk X hf6)
def f0_overPlace_j123 (k : Nat) (x2 : Int32) (x3 : Int32) (x4 : Int32) (x8 : Int32) (x9 : Int32) (x10 : Int32) (y0 : Int32) (h : Hp) : Re :=
  if y0 = 0 then (f0_overPlace_j140 k x2 x3 x4 x8 x9 y0 x10 h) else (f0_overPlace_j140 k x2 x3 x4 x8 x9 y0 (x10 + x9) h)
set_option maxRecDepth 20000 in
set_option maxHeartbeats 4000000 in
theorem f0_overPlace_j123_ok {k : Nat} (hE : IW E) (hk : SR E k) (X : XC E RX0 cX0_overPlace 14 (some .int) A p s m args meth c) {x2 : Int32} {x3 : Int32} {x4 : Int32} {x8 : Int32} {x9 : Int32} {x10 : Int32} {y0 : Int32} {h : Hp} (hf0 : f0_overPlace_j123 k x2 x3 x4 x8 x9 x10 y0 h = some (r, h')) : VM E 14 A p l e 2 s m args below meth c (Qi E A r h') 123 [(0, .ref (eA E 5)), (1, .ref (eA E k)), (2, .int x2), (3, .int x3), (4, .int x4), (8, .int x8), (9, .int x9), (10, .int x10)] [.int y0] h := by
  unfold f0_overPlace_j123 at hf0
  have hf1 := hf0
  refine V_istore X (by decide) rfl dX0_overPlace_123 ?_
  refine V_iload X 0 rfl dX0_overPlace_125 ?_
  refine V_if_eq X (tgt := 138) (by decide) dX0_overPlace_127 (fun q127 => ?_) (fun q127 => ?_)
  · have hf2 := ift hf1 q127
    refine V_iload X 8 rfl dX0_overPlace_138 ?_
    exact V_sub [1, 2, 3, 4, 5, 6, 7, 0] rfl (f0_overPlace_j140_ok hE hk X hf2)
  · have hf2 := ife hf1 q127
    refine V_iload X 8 rfl dX0_overPlace_130 ?_
    refine V_iload X 7 rfl dX0_overPlace_132 ?_
    refine V_iadd X dX0_overPlace_134 ?_
    refine V_goto X (tgt := 140) (by decide) dX0_overPlace_135 ?_
    exact V_sub [1, 2, 3, 4, 5, 6, 7, 0] rfl (f0_overPlace_j140_ok hE hk X hf2)
def f0_overPlace_j104 (k : Nat) (x2 : Int32) (x3 : Int32) (x4 : Int32) (x6 : Int32) (x8 : Int32) (x9 : Int32) (x10 : Int32) (h : Hp) : Re :=
  (f0_remembered 7 x6 h).bind fun c1 => if x8 = c1.1 then (f0_overPlace_j123 k x2 x3 x4 x8 x9 x10 1 c1.2) else (f0_overPlace_j123 k x2 x3 x4 x8 x9 x10 0 c1.2)
set_option maxRecDepth 20000 in
set_option maxHeartbeats 4000000 in
theorem f0_overPlace_j104_ok {k : Nat} (hE : IW E) (hk : SR E k) (X : XC E RX0 cX0_overPlace 14 (some .int) A p s m args meth c) {x2 : Int32} {x3 : Int32} {x4 : Int32} {x6 : Int32} {x8 : Int32} {x9 : Int32} {x10 : Int32} {h : Hp} (hf0 : f0_overPlace_j104 k x2 x3 x4 x6 x8 x9 x10 h = some (r, h')) : VM E 14 A p l e 2 s m args below meth c (Qi E A r h') 104 [(0, .ref (eA E 5)), (1, .ref (eA E k)), (2, .int x2), (3, .int x3), (4, .int x4), (6, .int x6), (8, .int x8), (9, .int x9), (10, .int x10)] [] h := by
  unfold f0_overPlace_j104 at hf0
  have hf1 := hf0
  refine V_iload X 6 rfl dX0_overPlace_104 ?_
  refine V_aload_n X 0 rfl dX0_overPlace_106 ?_
  refine G_X0_1_15 hE X dX0_overPlace_107 ?_
  refine V_iload X 5 rfl dX0_overPlace_110 ?_
  obtain ⟨c1, e_c1, hf3⟩ := obd hf1
  refine V_callSi X (f0_remembered_ok (AR_7 hE) e_c1) ys_X0_remembered yw_X0_remembered ml_X0_46 rfl rfl ⟨Nat.le_of_ble_eq_true rfl, Nat.le_of_ble_eq_true rfl⟩ ⟨Nat.zero_le _, Nat.zero_le _⟩ (Nat.le_of_ble_eq_true rfl) dX0_overPlace_112 ?_
  refine V_icmp_ne X (tgt := 122) (by decide) dX0_overPlace_115 (fun q115 => ?_) (fun q115 => ?_)
  · have hf4 := ife hf3 q115
    refine V_iconst X (v := 0) (by decide) dX0_overPlace_122 ?_
    exact V_sub [0, 1, 2, 3, 4, 6, 7, 8] rfl (f0_overPlace_j123_ok hE hk X hf4)
  · have hf4 := ift hf3 q115
    refine V_iconst X (v := 1) (by decide) dX0_overPlace_118 ?_
    refine V_goto X (tgt := 123) (by decide) dX0_overPlace_119 ?_
    exact V_sub [0, 1, 2, 3, 4, 6, 7, 8] rfl (f0_overPlace_j123_ok hE hk X hf4)
def f0_overPlace_j26 (k : Nat) (x2 : Int32) (x3 : Int32) (x4 : Int32) (y0 : Int32) (h : Hp) : Re :=
  (f5_setting k 1 h).bind fun c1 => (f0_remembered 7 x4 c1.2).bind fun c3 => (f0_remembered 6 y0 c3.2).bind fun c5 => (f0_spilled c5.1 c1.1 c5.2).bind fun c7 => (f0_remembered 6 x4 c7.2).bind fun c9 => (f0_remembered 6 x4 c9.2).bind fun c11 => (f0_spilled c11.1 c1.1 c11.2).bind fun c13 => if c3.1 = 0 then ((f0_remembered 7 y0 c13.2).bind fun c16 => f0_overPlace_j104 k x2 x3 x4 y0 c16.1 c7.1 (c9.1 - c13.1) c16.2) else (f0_overPlace_j104 k x2 x3 x4 y0 c3.1 c7.1 (c9.1 - c13.1) c13.2)
set_option maxRecDepth 20000 in
set_option maxHeartbeats 4000000 in
theorem f0_overPlace_j26_ok {k : Nat} (hE : IW E) (hk : SR E k) (X : XC E RX0 cX0_overPlace 14 (some .int) A p s m args meth c) {x2 : Int32} {x3 : Int32} {x4 : Int32} {y0 : Int32} {h : Hp} (hf0 : f0_overPlace_j26 k x2 x3 x4 y0 h = some (r, h')) : VM E 14 A p l e 2 s m args below meth c (Qi E A r h') 26 [(0, .ref (eA E 5)), (1, .ref (eA E k)), (2, .int x2), (3, .int x3), (4, .int x4)] [.int y0] h := by
  unfold f0_overPlace_j26 at hf0
  have hf1 := hf0
  refine V_istore X (by decide) rfl dX0_overPlace_26 ?_
  refine V_aload_n X 2 rfl dX0_overPlace_28 ?_
  refine V_iconst X (v := 1) (by decide) dX0_overPlace_29 ?_
  obtain ⟨c1, e_c1, hf3⟩ := obd hf1
  refine V_callVi X hk.1 rfl rfl (f5_setting_ok hk e_c1) ys_X5_setting yw_X5_setting ml_X0_43 rfl rfl ⟨Nat.le_of_ble_eq_true rfl, Nat.le_of_ble_eq_true rfl⟩ ⟨Nat.zero_le _, Nat.zero_le _⟩ (Nat.le_of_ble_eq_true rfl) dX0_overPlace_30 ?_
  refine V_istore X (by decide) rfl dX0_overPlace_33 ?_
  refine V_aload_n X 2 rfl dX0_overPlace_35 ?_
  refine G_X0_1_15 hE X dX0_overPlace_36 ?_
  refine V_iload X 6 rfl dX0_overPlace_39 ?_
  obtain ⟨c3, e_c3, hf5⟩ := obd hf3
  refine V_callSi X (f0_remembered_ok (AR_7 hE) e_c3) ys_X0_remembered yw_X0_remembered ml_X0_46 rfl rfl ⟨Nat.le_of_ble_eq_true rfl, Nat.le_of_ble_eq_true rfl⟩ ⟨Nat.zero_le _, Nat.zero_le _⟩ (Nat.le_of_ble_eq_true rfl) dX0_overPlace_41 ?_
  refine V_istore X (by decide) rfl dX0_overPlace_44 ?_
  refine V_aload_n X 3 rfl dX0_overPlace_46 ?_
  refine G_X0_0_9 hE X dX0_overPlace_47 ?_
  refine V_iload X 2 rfl dX0_overPlace_50 ?_
  obtain ⟨c5, e_c5, hf7⟩ := obd hf5
  refine V_callSi X (f0_remembered_ok (AR_6 hE) e_c5) ys_X0_remembered yw_X0_remembered ml_X0_46 rfl rfl ⟨Nat.le_of_ble_eq_true rfl, Nat.le_of_ble_eq_true rfl⟩ ⟨Nat.zero_le _, Nat.zero_le _⟩ (Nat.le_of_ble_eq_true rfl) dX0_overPlace_52 ?_
  refine V_iload X 1 rfl dX0_overPlace_55 ?_
  obtain ⟨c7, e_c7, hf9⟩ := obd hf7
  refine V_callSi X (f0_spilled_ok e_c7) ys_X0_spilled yw_X0_spilled ml_X0_50 rfl rfl ⟨Nat.le_of_ble_eq_true rfl, Nat.le_of_ble_eq_true rfl⟩ ⟨Nat.zero_le _, Nat.zero_le _⟩ (Nat.le_of_ble_eq_true rfl) dX0_overPlace_57 ?_
  refine V_istore X (by decide) rfl dX0_overPlace_60 ?_
  refine V_aload_n X 4 rfl dX0_overPlace_62 ?_
  refine G_X0_0_9 hE X dX0_overPlace_63 ?_
  refine V_iload X 8 rfl dX0_overPlace_66 ?_
  obtain ⟨c9, e_c9, hf11⟩ := obd hf9
  refine V_callSi X (f0_remembered_ok (AR_6 hE) e_c9) ys_X0_remembered yw_X0_remembered ml_X0_46 rfl rfl ⟨Nat.le_of_ble_eq_true rfl, Nat.le_of_ble_eq_true rfl⟩ ⟨Nat.zero_le _, Nat.zero_le _⟩ (Nat.le_of_ble_eq_true rfl) dX0_overPlace_68 ?_
  refine V_aload_n X 4 rfl dX0_overPlace_71 ?_
  refine G_X0_0_9 hE X dX0_overPlace_72 ?_
  refine V_iload X 8 rfl dX0_overPlace_75 ?_
  obtain ⟨c11, e_c11, hf13⟩ := obd hf11
  refine V_callSi X (f0_remembered_ok (AR_6 hE) e_c11) ys_X0_remembered yw_X0_remembered ml_X0_46 rfl rfl ⟨Nat.le_of_ble_eq_true rfl, Nat.le_of_ble_eq_true rfl⟩ ⟨Nat.zero_le _, Nat.zero_le _⟩ (Nat.le_of_ble_eq_true rfl) dX0_overPlace_77 ?_
  refine V_iload X 2 rfl dX0_overPlace_80 ?_
  obtain ⟨c13, e_c13, hf15⟩ := obd hf13
  refine V_callSi X (f0_spilled_ok e_c13) ys_X0_spilled yw_X0_spilled ml_X0_50 rfl rfl ⟨Nat.le_of_ble_eq_true rfl, Nat.le_of_ble_eq_true rfl⟩ ⟨Nat.zero_le _, Nat.zero_le _⟩ (Nat.le_of_ble_eq_true rfl) dX0_overPlace_82 ?_
  refine V_isub X dX0_overPlace_85 ?_
  refine V_istore X (by decide) rfl dX0_overPlace_86 ?_
  refine V_iload X 2 rfl dX0_overPlace_88 ?_
  refine V_if_ne X (tgt := 104) (by decide) dX0_overPlace_90 (fun q90 => ?_) (fun q90 => ?_)
  · have hf16 := ife hf15 q90
    exact V_sub [5, 6, 7, 8, 9, 4, 2, 1, 0] rfl (f0_overPlace_j104_ok hE hk X hf16)
  · have hf16 := ift hf15 q90
    refine V_aload_n X 5 rfl dX0_overPlace_93 ?_
    refine G_X0_1_15 hE X dX0_overPlace_94 ?_
    refine V_iload X 4 rfl dX0_overPlace_97 ?_
    obtain ⟨c16, e_c16, hf18⟩ := obd hf16
    refine V_callSi X (f0_remembered_ok (AR_7 hE) e_c16) ys_X0_remembered yw_X0_remembered ml_X0_46 rfl rfl ⟨Nat.le_of_ble_eq_true rfl, Nat.le_of_ble_eq_true rfl⟩ ⟨Nat.zero_le _, Nat.zero_le _⟩ (Nat.le_of_ble_eq_true rfl) dX0_overPlace_99 ?_
    refine V_istore X (by decide) rfl dX0_overPlace_102 ?_
    exact V_sub [5, 6, 7, 8, 9, 4, 0, 2, 1] rfl (f0_overPlace_j104_ok hE hk X hf18)
def f0_overPlace_e (k : Nat) (x2 : Int32) (x3 : Int32) (x4 : Int32) (x5 : Int32) (h : Hp) : Re :=
  if x5 = 1 then (f0_overPlace_j26 k x2 x3 x4 ((x4 + 1) - (x4 + 1) / 8 * 8) h) else (f0_overPlace_j26 k x2 x3 x4 (((x4 + 8) - 1) - ((x4 + 8) - 1) / 8 * 8) h)
set_option maxRecDepth 20000 in
set_option maxHeartbeats 4000000 in
theorem f0_overPlace_e_ok {k : Nat} (hE : IW E) (hk : SR E k) (X : XC E RX0 cX0_overPlace 14 (some .int) A p s m args meth c) {x2 : Int32} {x3 : Int32} {x4 : Int32} {x5 : Int32} {h : Hp} (hf0 : f0_overPlace_e k x2 x3 x4 x5 h = some (r, h')) : VM E 14 A p l e 2 s m args below meth c (Qi E A r h') 0 [(0, .ref (eA E 5)), (1, .ref (eA E k)), (2, .int x2), (3, .int x3), (4, .int x4), (5, .int x5)] [] h := by
  unfold f0_overPlace_e at hf0
  have hf1 := hf0
  refine V_iload X 5 rfl dX0_overPlace_0 ?_
  refine V_iconst X (v := 1) (by decide) dX0_overPlace_2 ?_
  refine V_icmp_ne X (tgt := 16) (by decide) dX0_overPlace_3 (fun q3 => ?_) (fun q3 => ?_)
  · have hf2 := ife hf1 q3
    refine V_iload X 4 rfl dX0_overPlace_16 ?_
    refine V_bipush X (v := 8) (by decide) dX0_overPlace_18 ?_
    refine V_iadd X dX0_overPlace_20 ?_
    refine V_iconst X (v := 1) (by decide) dX0_overPlace_21 ?_
    refine V_isub X dX0_overPlace_22 ?_
    refine V_bipush X (v := 8) (by decide) dX0_overPlace_23 ?_
    refine V_irem X (by decide) dX0_overPlace_25 ?_
    exact V_sub [0, 1, 2, 3, 4] rfl (f0_overPlace_j26_ok hE hk X hf2)
  · have hf2 := ift hf1 q3
    refine V_iload X 4 rfl dX0_overPlace_6 ?_
    refine V_iconst X (v := 1) (by decide) dX0_overPlace_8 ?_
    refine V_iadd X dX0_overPlace_9 ?_
    refine V_bipush X (v := 8) (by decide) dX0_overPlace_10 ?_
    refine V_irem X (by decide) dX0_overPlace_12 ?_
    refine V_goto X (tgt := 26) (by decide) dX0_overPlace_13 ?_
    exact V_sub [0, 1, 2, 3, 4] rfl (f0_overPlace_j26_ok hE hk X hf2)
def f0_overPlace (k : Nat) (x2 : Int32) (x3 : Int32) (x4 : Int32) (x5 : Int32) (h : Hp) : Re := f0_overPlace_e k x2 x3 x4 x5 h
theorem f0_overPlace_ok {k : Nat} (hE : IW E) (hk : SR E k) {x2 : Int32} {x3 : Int32} {x4 : Int32} {x5 : Int32} {h : Hp} {q : Int32 × Hp} (hf0 : f0_overPlace k x2 x3 x4 x5 h = some q) : SMi l E 2 yX0_overPlace cX0_overPlace 14 (some .int) [.ref (eA E 5), .ref (eA E k), .int x2, .int x3, .int x4, .int x5] h q.1 q.2 :=
  SMi.of (by decide +kernel) (Nat.le_of_ble_eq_true rfl) (fun p e s m args below meth c A X => f0_overPlace_e_ok hE hk X (r := q.1) (h' := q.2) hf0)
end DM
