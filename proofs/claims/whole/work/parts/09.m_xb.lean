section DM
variable {E : EN} {A : Nat → Prop} {p : Program} {l : Launch} {e : Env} {s : State} {m : MethodId} {args : Array Value} {below : List Frame} {meth : Method} {c : Code} {r : Int32} {h' : Hp}
def f5_dropPatterns_B2 (k : Nat) (k2 : Int32 → Hp → Re) (x1 : Int32) (h : Hp) : Re :=
  if 5 ≤ x1 then (some (0, h)) else ((f5_lay k (3 + x1) (-1) h).bind fun c2 => k2 (x1 + 1) c2.2)
set_option maxRecDepth 20000 in
set_option maxHeartbeats 4000000 in
theorem f5_dropPatterns_B2_ok {k : Nat} (hk : SR E k) (X : XC E RX5 cX5_dropPatterns 2 none A p s m args meth c) {k2 : Int32 → Hp → Re} (hk2 : ∀ (x1 : Int32) (h : Hp), k2 x1 h = some (r, h') → VM E 2 A p l e 1 s m args below meth c (Qv E A h') 2 [(0, .ref (eA E k)), (1, .int x1)] [] h) {x1 : Int32} {h : Hp} (hf0 : f5_dropPatterns_B2 k k2 x1 h = some (r, h')) : VM E 2 A p l e 1 s m args below meth c (Qv E A h') 2 [(0, .ref (eA E k)), (1, .int x1)] [] h := by
  unfold f5_dropPatterns_B2 at hf0
  have hf1 := hf0
  refine V_iload_n X 1 rfl dX5_dropPatterns_2 ?_
  refine V_iconst X (v := 5) (by decide) dX5_dropPatterns_3 ?_
  refine V_icmp_ge X (tgt := 21) (by decide) dX5_dropPatterns_4 (fun q4 => ?_) (fun q4 => ?_)
  · have hf2 := ift hf1 q4
    exact V_vret X rfl hf2 dX5_dropPatterns_21
  · have hf2 := ife hf1 q4
    refine V_aload_n X 0 rfl dX5_dropPatterns_7 ?_
    refine V_iconst X (v := 3) (by decide) dX5_dropPatterns_8 ?_
    refine V_iload_n X 1 rfl dX5_dropPatterns_9 ?_
    refine V_iadd X dX5_dropPatterns_10 ?_
    refine V_iconst X (v := -1) (by decide) dX5_dropPatterns_11 ?_
    obtain ⟨c2, e_c2, hf4⟩ := obd hf2
    refine V_callVv X hk.1 rfl rfl (f5_lay_ok hk e_c2) ys_X5_lay yw_X5_lay ml_X5_15 rfl rfl ⟨Nat.le_of_ble_eq_true rfl, Nat.le_of_ble_eq_true rfl⟩ ⟨Nat.zero_le _, Nat.zero_le _⟩ (Nat.le_of_ble_eq_true rfl) dX5_dropPatterns_12 ?_
    refine V_iinc X (v := _ + 1) 1 rfl (by rfl) (by decide) rfl dX5_dropPatterns_15 ?_
    refine V_goto X (tgt := 2) (by decide) dX5_dropPatterns_18 ?_
    exact V_sub [1, 0] rfl (hk2 _ _ hf4)
def f5_dropPatterns_L2 (k : Nat) : Nat → Int32 → Hp → Re
  | 0 => fun _ _ => none
  | n + 1 => f5_dropPatterns_B2 k (f5_dropPatterns_L2 k n)
theorem f5_dropPatterns_L2_s (k : Nat) (n : Nat) (x1 : Int32) (h : Hp) : f5_dropPatterns_L2 k (n + 1) x1 h = f5_dropPatterns_B2 k (f5_dropPatterns_L2 k n) x1 h := rfl
theorem f5_dropPatterns_L2_ok {k : Nat} (hk : SR E k) (X : XC E RX5 cX5_dropPatterns 2 none A p s m args meth c) : ∀ (n : Nat) (x1 : Int32) (h : Hp), f5_dropPatterns_L2 k n x1 h = some (r, h') → VM E 2 A p l e 1 s m args below meth c (Qv E A h') 2 [(0, .ref (eA E k)), (1, .int x1)] [] h := by
  intro n
  induction n with
  | zero =>
    intro x1 h q
    have q : (none : Re) = some (r, h') := q
    cases q
  | succ n ih =>
    intro x1 h q
    exact f5_dropPatterns_B2_ok hk X ih q
def f5_dropPatterns_e (k : Nat) (h : Hp) : Re :=
  f5_dropPatterns_L2 k FU 0 h
set_option maxRecDepth 20000 in
set_option maxHeartbeats 4000000 in
theorem f5_dropPatterns_e_ok {k : Nat} (hk : SR E k) (X : XC E RX5 cX5_dropPatterns 2 none A p s m args meth c) {h : Hp} (hf0 : f5_dropPatterns_e k  h = some (r, h')) : VM E 2 A p l e 1 s m args below meth c (Qv E A h') 0 [(0, .ref (eA E k))] [] h := by
  unfold f5_dropPatterns_e at hf0
  have hf1 := hf0
  refine V_iconst X (v := 0) (by decide) dX5_dropPatterns_0 ?_
  refine V_istore_n X (by decide) rfl dX5_dropPatterns_1 ?_
  exact V_sub [1, 0] rfl (f5_dropPatterns_L2_ok hk X FU _ _ hf1)
def f5_dropPatterns (k : Nat) (h : Hp) : Re := f5_dropPatterns_e k  h
theorem f5_dropPatterns_ok {k : Nat} (hk : SR E k) {h : Hp} {q : Int32 × Hp} (hf0 : f5_dropPatterns k  h = some q) : SMv l E 1 yX5_dropPatterns cX5_dropPatterns 2 [.ref (eA E k)] h q.2 :=
  SMv.of (by decide +kernel) (Nat.le_of_ble_eq_true rfl) (fun p e s m args below meth c A X => f5_dropPatterns_e_ok hk X (r := q.1) (h' := q.2) hf0)
def f1_beginAnew_e (h : Hp) : Re :=
  (f5_lay 1 20 0 h).bind fun c1 => (f5_lay 1 19 0 c1.2).bind fun c3 => (f5_dropPatterns 1  c3.2).bind fun c5 => (f5_raise 1 21 1 c5.2).bind fun c7 => some (0, c7.2)
set_option maxRecDepth 20000 in
set_option maxHeartbeats 4000000 in
theorem f1_beginAnew_e_ok (hE : IW E) (X : XC E RX1 cX1_beginAnew 1 none A p s m args meth c) {h : Hp} (hf0 : f1_beginAnew_e  h = some (r, h')) : VM E 1 A p l e 2 s m args below meth c (Qv E A h') 0 [(0, .ref (eA E 1))] [] h := by
  unfold f1_beginAnew_e at hf0
  have hf1 := hf0
  refine V_aload_n X 0 rfl dX1_beginAnew_0 ?_
  refine V_bipush X (v := 20) (by decide) dX1_beginAnew_1 ?_
  refine V_iconst X (v := 0) (by decide) dX1_beginAnew_3 ?_
  obtain ⟨c1, e_c1, hf3⟩ := obd hf1
  refine V_callVv X (SR_1 hE).1 rfl rfl (f5_lay_ok (SR_1 hE) e_c1) ys_X5_lay yw_X5_lay ml_X1_25 rfl rfl ⟨Nat.le_of_ble_eq_true rfl, Nat.le_of_ble_eq_true rfl⟩ ⟨Nat.zero_le _, Nat.zero_le _⟩ (Nat.le_of_ble_eq_true rfl) dX1_beginAnew_4 ?_
  refine V_aload_n X 0 rfl dX1_beginAnew_7 ?_
  refine V_bipush X (v := 19) (by decide) dX1_beginAnew_8 ?_
  refine V_iconst X (v := 0) (by decide) dX1_beginAnew_10 ?_
  obtain ⟨c3, e_c3, hf5⟩ := obd hf3
  refine V_callVv X (SR_1 hE).1 rfl rfl (f5_lay_ok (SR_1 hE) e_c3) ys_X5_lay yw_X5_lay ml_X1_25 rfl rfl ⟨Nat.le_of_ble_eq_true rfl, Nat.le_of_ble_eq_true rfl⟩ ⟨Nat.zero_le _, Nat.zero_le _⟩ (Nat.le_of_ble_eq_true rfl) dX1_beginAnew_11 ?_
  refine V_aload_n X 0 rfl dX1_beginAnew_14 ?_
  obtain ⟨c5, e_c5, hf7⟩ := obd hf5
  refine V_callVv X (SR_1 hE).1 rfl rfl (f5_dropPatterns_ok (SR_1 hE) e_c5) ys_X5_dropPatterns yw_X5_dropPatterns ml_X1_110 rfl rfl ⟨Nat.le_of_ble_eq_true rfl, Nat.le_of_ble_eq_true rfl⟩ ⟨Nat.zero_le _, Nat.zero_le _⟩ (Nat.le_of_ble_eq_true rfl) dX1_beginAnew_15 ?_
  refine V_aload_n X 0 rfl dX1_beginAnew_18 ?_
  refine V_bipush X (v := 21) (by decide) dX1_beginAnew_19 ?_
  refine V_iconst X (v := 1) (by decide) dX1_beginAnew_21 ?_
  obtain ⟨c7, e_c7, hf9⟩ := obd hf7
  refine V_callVv X (SR_1 hE).1 rfl rfl (f5_raise_ok (SR_1 hE) e_c7) ys_X5_raise yw_X5_raise ml_X1_82 rfl rfl ⟨Nat.le_of_ble_eq_true rfl, Nat.le_of_ble_eq_true rfl⟩ ⟨Nat.zero_le _, Nat.zero_le _⟩ (Nat.le_of_ble_eq_true rfl) dX1_beginAnew_22 ?_
  exact V_vret X rfl hf9 dX1_beginAnew_25
def f1_beginAnew (h : Hp) : Re := f1_beginAnew_e  h
theorem f1_beginAnew_ok (hE : IW E) {h : Hp} {q : Int32 × Hp} (hf0 : f1_beginAnew  h = some q) : SMv l E 2 yX1_beginAnew cX1_beginAnew 1 [.ref (eA E 1)] h q.2 :=
  SMv.of (by decide +kernel) (Nat.le_of_ble_eq_true rfl) (fun p e s m args below meth c A X => f1_beginAnew_e_ok hE X (r := q.1) (h' := q.2) hf0)
def f1_sweepQuarter_B35 (k27 : Int32 → Int32 → Int32 → Hp → Re) (k35 : Int32 → Int32 → Int32 → Int32 → Hp → Re) (x1 : Int32) (x2 : Int32) (x3 : Int32) (x4 : Int32) (h : Hp) : Re :=
  if 8 ≤ x4 then (k27 x1 x2 (x3 + 1) h) else ((f5_grains 1 x2 x3 x4 h).bind fun c2 => (f5_raise 1 23 c2.1 c2.2).bind fun c4 => (f5_heap 1 x2 x3 x4 0 0 c4.2).bind fun c6 => k35 x1 x2 x3 (x4 + 1) c6.2)
set_option maxRecDepth 20000 in
set_option maxHeartbeats 4000000 in
theorem f1_sweepQuarter_B35_ok (hE : IW E) (X : XC E RX1 cX1_sweepQuarter 5 (some .int) A p s m args meth c) {k27 : Int32 → Int32 → Int32 → Hp → Re} {k35 : Int32 → Int32 → Int32 → Int32 → Hp → Re} (hk27 : ∀ (x1 : Int32) (x2 : Int32) (x3 : Int32) (h : Hp), k27 x1 x2 x3 h = some (r, h') → VM E 5 A p l e 3 s m args below meth c (Qi E A r h') 27 [(0, .ref (eA E 1)), (1, .int x1), (2, .int x2), (3, .int x3)] [] h) (hk35 : ∀ (x1 : Int32) (x2 : Int32) (x3 : Int32) (x4 : Int32) (h : Hp), k35 x1 x2 x3 x4 h = some (r, h') → VM E 5 A p l e 3 s m args below meth c (Qi E A r h') 35 [(0, .ref (eA E 1)), (1, .int x1), (2, .int x2), (3, .int x3), (4, .int x4)] [] h) {x1 : Int32} {x2 : Int32} {x3 : Int32} {x4 : Int32} {h : Hp} (hf0 : f1_sweepQuarter_B35 k27 k35 x1 x2 x3 x4 h = some (r, h')) : VM E 5 A p l e 3 s m args below meth c (Qi E A r h') 35 [(0, .ref (eA E 1)), (1, .int x1), (2, .int x2), (3, .int x3), (4, .int x4)] [] h := by
  unfold f1_sweepQuarter_B35 at hf0
  have hf1 := hf0
  refine V_iload X 4 rfl dX1_sweepQuarter_35 ?_
  refine V_bipush X (v := 8) (by decide) dX1_sweepQuarter_37 ?_
  refine V_icmp_ge X (tgt := 72) (by decide) dX1_sweepQuarter_39 (fun q39 => ?_) (fun q39 => ?_)
  · have hf2 := ift hf1 q39
    refine V_iinc X (v := _ + 1) 3 rfl (by rfl) (by decide) rfl dX1_sweepQuarter_72 ?_
    refine V_goto X (tgt := 27) (by decide) dX1_sweepQuarter_75 ?_
    exact V_sub [1, 2, 3, 0] rfl (hk27 _ _ _ _ hf2)
  · have hf2 := ife hf1 q39
    refine V_aload_n X 0 rfl dX1_sweepQuarter_42 ?_
    refine V_bipush X (v := 23) (by decide) dX1_sweepQuarter_43 ?_
    refine V_aload_n X 0 rfl dX1_sweepQuarter_45 ?_
    refine V_iload_n X 2 rfl dX1_sweepQuarter_46 ?_
    refine V_iload_n X 3 rfl dX1_sweepQuarter_47 ?_
    refine V_iload X 4 rfl dX1_sweepQuarter_48 ?_
    obtain ⟨c2, e_c2, hf4⟩ := obd hf2
    refine V_callVi X (SR_1 hE).1 rfl rfl (f5_grains_ok (SR_1 hE) e_c2) ys_X5_grains yw_X5_grains ml_X1_75 rfl rfl ⟨Nat.le_of_ble_eq_true rfl, Nat.le_of_ble_eq_true rfl⟩ ⟨Nat.zero_le _, Nat.zero_le _⟩ (Nat.le_of_ble_eq_true rfl) dX1_sweepQuarter_50 ?_
    obtain ⟨c4, e_c4, hf6⟩ := obd hf4
    refine V_callVv X (SR_1 hE).1 rfl rfl (f5_raise_ok (SR_1 hE) e_c4) ys_X5_raise yw_X5_raise ml_X1_82 rfl rfl ⟨Nat.le_of_ble_eq_true rfl, Nat.le_of_ble_eq_true rfl⟩ ⟨Nat.zero_le _, Nat.zero_le _⟩ (Nat.le_of_ble_eq_true rfl) dX1_sweepQuarter_53 ?_
    refine V_aload_n X 0 rfl dX1_sweepQuarter_56 ?_
    refine V_iload_n X 2 rfl dX1_sweepQuarter_57 ?_
    refine V_iload_n X 3 rfl dX1_sweepQuarter_58 ?_
    refine V_iload X 4 rfl dX1_sweepQuarter_59 ?_
    refine V_iconst X (v := 0) (by decide) dX1_sweepQuarter_61 ?_
    refine V_iconst X (v := 0) (by decide) dX1_sweepQuarter_62 ?_
    obtain ⟨c6, e_c6, hf8⟩ := obd hf6
    refine V_callVv X (SR_1 hE).1 rfl rfl (f5_heap_ok (SR_1 hE) e_c6) ys_X5_heap yw_X5_heap ml_X1_78 rfl rfl ⟨Nat.le_of_ble_eq_true rfl, Nat.le_of_ble_eq_true rfl⟩ ⟨Nat.zero_le _, Nat.zero_le _⟩ (Nat.le_of_ble_eq_true rfl) dX1_sweepQuarter_63 ?_
    refine V_iinc X (v := _ + 1) 4 rfl (by rfl) (by decide) rfl dX1_sweepQuarter_66 ?_
    refine V_goto X (tgt := 35) (by decide) dX1_sweepQuarter_69 ?_
    exact V_sub [1, 2, 3, 4, 0] rfl (hk35 _ _ _ _ _ hf8)
def f1_sweepQuarter_L35 (k27 : Int32 → Int32 → Int32 → Hp → Re) : Nat → Int32 → Int32 → Int32 → Int32 → Hp → Re
  | 0 => fun _ _ _ _ _ => none
  | n + 1 => f1_sweepQuarter_B35 k27 (f1_sweepQuarter_L35 k27 n)
theorem f1_sweepQuarter_L35_s (k27 : Int32 → Int32 → Int32 → Hp → Re) (n : Nat) (x1 : Int32) (x2 : Int32) (x3 : Int32) (x4 : Int32) (h : Hp) : f1_sweepQuarter_L35 k27 (n + 1) x1 x2 x3 x4 h = f1_sweepQuarter_B35 k27 (f1_sweepQuarter_L35 k27 n) x1 x2 x3 x4 h := rfl
theorem f1_sweepQuarter_L35_ok (hE : IW E) (X : XC E RX1 cX1_sweepQuarter 5 (some .int) A p s m args meth c) {k27 : Int32 → Int32 → Int32 → Hp → Re} (hk27 : ∀ (x1 : Int32) (x2 : Int32) (x3 : Int32) (h : Hp), k27 x1 x2 x3 h = some (r, h') → VM E 5 A p l e 3 s m args below meth c (Qi E A r h') 27 [(0, .ref (eA E 1)), (1, .int x1), (2, .int x2), (3, .int x3)] [] h) : ∀ (n : Nat) (x1 : Int32) (x2 : Int32) (x3 : Int32) (x4 : Int32) (h : Hp), f1_sweepQuarter_L35 k27 n x1 x2 x3 x4 h = some (r, h') → VM E 5 A p l e 3 s m args below meth c (Qi E A r h') 35 [(0, .ref (eA E 1)), (1, .int x1), (2, .int x2), (3, .int x3), (4, .int x4)] [] h := by
  intro n
  induction n with
  | zero =>
    intro x1 x2 x3 x4 h q
    have q : (none : Re) = some (r, h') := q
    cases q
  | succ n ih =>
    intro x1 x2 x3 x4 h q
    exact f1_sweepQuarter_B35_ok hE X hk27 ih q
def f1_sweepQuarter_B27 (k27 : Int32 → Int32 → Int32 → Hp → Re) (x1 : Int32) (x2 : Int32) (x3 : Int32) (h : Hp) : Re :=
  if 5 ≤ x3 then ((f5_lay 1 20 (x1 + 1) h).bind fun c2 => if (x1 + 1) < 4 then (some (x2, c2.2)) else ((f1_beginAnew  c2.2).bind fun c5 => some (x2, c5.2))) else (f1_sweepQuarter_L35 k27 FU x1 x2 x3 0 h)
set_option maxRecDepth 20000 in
set_option maxHeartbeats 4000000 in
theorem f1_sweepQuarter_B27_ok (hE : IW E) (X : XC E RX1 cX1_sweepQuarter 5 (some .int) A p s m args meth c) {k27 : Int32 → Int32 → Int32 → Hp → Re} (hk27 : ∀ (x1 : Int32) (x2 : Int32) (x3 : Int32) (h : Hp), k27 x1 x2 x3 h = some (r, h') → VM E 5 A p l e 3 s m args below meth c (Qi E A r h') 27 [(0, .ref (eA E 1)), (1, .int x1), (2, .int x2), (3, .int x3)] [] h) {x1 : Int32} {x2 : Int32} {x3 : Int32} {h : Hp} (hf0 : f1_sweepQuarter_B27 k27 x1 x2 x3 h = some (r, h')) : VM E 5 A p l e 3 s m args below meth c (Qi E A r h') 27 [(0, .ref (eA E 1)), (1, .int x1), (2, .int x2), (3, .int x3)] [] h := by
  unfold f1_sweepQuarter_B27 at hf0
  have hf1 := hf0
  refine V_iload_n X 3 rfl dX1_sweepQuarter_27 ?_
  refine V_iconst X (v := 5) (by decide) dX1_sweepQuarter_28 ?_
  refine V_icmp_ge X (tgt := 78) (by decide) dX1_sweepQuarter_29 (fun q29 => ?_) (fun q29 => ?_)
  · have hf2 := ift hf1 q29
    refine V_aload_n X 0 rfl dX1_sweepQuarter_78 ?_
    refine V_bipush X (v := 20) (by decide) dX1_sweepQuarter_79 ?_
    refine V_iload_n X 1 rfl dX1_sweepQuarter_81 ?_
    refine V_iconst X (v := 1) (by decide) dX1_sweepQuarter_82 ?_
    refine V_iadd X dX1_sweepQuarter_83 ?_
    obtain ⟨c2, e_c2, hf4⟩ := obd hf2
    refine V_callVv X (SR_1 hE).1 rfl rfl (f5_lay_ok (SR_1 hE) e_c2) ys_X5_lay yw_X5_lay ml_X1_25 rfl rfl ⟨Nat.le_of_ble_eq_true rfl, Nat.le_of_ble_eq_true rfl⟩ ⟨Nat.zero_le _, Nat.zero_le _⟩ (Nat.le_of_ble_eq_true rfl) dX1_sweepQuarter_84 ?_
    refine V_iload_n X 1 rfl dX1_sweepQuarter_87 ?_
    refine V_iconst X (v := 1) (by decide) dX1_sweepQuarter_88 ?_
    refine V_iadd X dX1_sweepQuarter_89 ?_
    refine V_iconst X (v := 4) (by decide) dX1_sweepQuarter_90 ?_
    refine V_icmp_lt X (tgt := 98) (by decide) dX1_sweepQuarter_91 (fun q91 => ?_) (fun q91 => ?_)
    · have hf5 := ift hf4 q91
      refine V_iload_n X 2 rfl dX1_sweepQuarter_98 ?_
      exact V_iret X rfl hf5 dX1_sweepQuarter_99
    · have hf5 := ife hf4 q91
      refine V_aload_n X 0 rfl dX1_sweepQuarter_94 ?_
      obtain ⟨c5, e_c5, hf7⟩ := obd hf5
      refine V_callSv X (f1_beginAnew_ok hE e_c5) ys_X1_beginAnew yw_X1_beginAnew ml_X1_106 rfl rfl ⟨Nat.le_of_ble_eq_true rfl, Nat.le_of_ble_eq_true rfl⟩ ⟨Nat.zero_le _, Nat.zero_le _⟩ (Nat.le_of_ble_eq_true rfl) dX1_sweepQuarter_95 ?_
      refine V_iload_n X 2 rfl dX1_sweepQuarter_98 ?_
      exact V_iret X rfl hf7 dX1_sweepQuarter_99
  · have hf2 := ife hf1 q29
    refine V_iconst X (v := 0) (by decide) dX1_sweepQuarter_32 ?_
    refine V_istore X (by decide) rfl dX1_sweepQuarter_33 ?_
    exact V_sub [1, 2, 3, 4, 0] rfl (f1_sweepQuarter_L35_ok hE X hk27 FU _ _ _ _ _ hf2)
def f1_sweepQuarter_L27 : Nat → Int32 → Int32 → Int32 → Hp → Re
  | 0 => fun _ _ _ _ => none
  | n + 1 => f1_sweepQuarter_B27 (f1_sweepQuarter_L27 n)
theorem f1_sweepQuarter_L27_s (n : Nat) (x1 : Int32) (x2 : Int32) (x3 : Int32) (h : Hp) : f1_sweepQuarter_L27 (n + 1) x1 x2 x3 h = f1_sweepQuarter_B27 (f1_sweepQuarter_L27 n) x1 x2 x3 h := rfl
theorem f1_sweepQuarter_L27_ok (hE : IW E) (X : XC E RX1 cX1_sweepQuarter 5 (some .int) A p s m args meth c) : ∀ (n : Nat) (x1 : Int32) (x2 : Int32) (x3 : Int32) (h : Hp), f1_sweepQuarter_L27 n x1 x2 x3 h = some (r, h') → VM E 5 A p l e 3 s m args below meth c (Qi E A r h') 27 [(0, .ref (eA E 1)), (1, .int x1), (2, .int x2), (3, .int x3)] [] h := by
  intro n
  induction n with
  | zero =>
    intro x1 x2 x3 h q
    have q : (none : Re) = some (r, h') := q
    cases q
  | succ n ih =>
    intro x1 x2 x3 h q
    exact f1_sweepQuarter_B27_ok hE X ih q
def f1_sweepQuarter_e (h : Hp) : Re :=
  (f5_number 1 19 h).bind fun c1 => if 5 ≤ c1.1 then ((f5_number 1 20 c1.2).bind fun c4 => (f1_quarterOfTurn c4.1 c4.2).bind fun c6 => f1_sweepQuarter_L27 FU c4.1 c6.1 0 c6.2) else (some ((-5), c1.2))
set_option maxRecDepth 20000 in
set_option maxHeartbeats 4000000 in
theorem f1_sweepQuarter_e_ok (hE : IW E) (X : XC E RX1 cX1_sweepQuarter 5 (some .int) A p s m args meth c) {h : Hp} (hf0 : f1_sweepQuarter_e  h = some (r, h')) : VM E 5 A p l e 3 s m args below meth c (Qi E A r h') 0 [(0, .ref (eA E 1))] [] h := by
  unfold f1_sweepQuarter_e at hf0
  have hf1 := hf0
  refine V_aload_n X 0 rfl dX1_sweepQuarter_0 ?_
  refine V_bipush X (v := 19) (by decide) dX1_sweepQuarter_1 ?_
  obtain ⟨c1, e_c1, hf3⟩ := obd hf1
  refine V_callVi X (SR_1 hE).1 rfl rfl (f5_number_ok (SR_1 hE) e_c1) ys_X5_number yw_X5_number ml_X1_94 rfl rfl ⟨Nat.le_of_ble_eq_true rfl, Nat.le_of_ble_eq_true rfl⟩ ⟨Nat.zero_le _, Nat.zero_le _⟩ (Nat.le_of_ble_eq_true rfl) dX1_sweepQuarter_3 ?_
  refine V_iconst X (v := 5) (by decide) dX1_sweepQuarter_6 ?_
  refine V_icmp_ge X (tgt := 13) (by decide) dX1_sweepQuarter_7 (fun q7 => ?_) (fun q7 => ?_)
  · have hf4 := ift hf3 q7
    refine V_aload_n X 0 rfl dX1_sweepQuarter_13 ?_
    refine V_bipush X (v := 20) (by decide) dX1_sweepQuarter_14 ?_
    obtain ⟨c4, e_c4, hf6⟩ := obd hf4
    refine V_callVi X (SR_1 hE).1 rfl rfl (f5_number_ok (SR_1 hE) e_c4) ys_X5_number yw_X5_number ml_X1_94 rfl rfl ⟨Nat.le_of_ble_eq_true rfl, Nat.le_of_ble_eq_true rfl⟩ ⟨Nat.zero_le _, Nat.zero_le _⟩ (Nat.le_of_ble_eq_true rfl) dX1_sweepQuarter_16 ?_
    refine V_istore_n X (by decide) rfl dX1_sweepQuarter_19 ?_
    refine V_iload_n X 0 rfl dX1_sweepQuarter_20 ?_
    obtain ⟨c6, e_c6, hf8⟩ := obd hf6
    refine V_callSi X (f1_quarterOfTurn_ok e_c6) ys_X1_quarterOfTurn yw_X1_quarterOfTurn ml_X1_103 rfl rfl ⟨Nat.le_of_ble_eq_true rfl, Nat.le_of_ble_eq_true rfl⟩ ⟨Nat.zero_le _, Nat.zero_le _⟩ (Nat.le_of_ble_eq_true rfl) dX1_sweepQuarter_21 ?_
    refine V_istore_n X (by decide) rfl dX1_sweepQuarter_24 ?_
    refine V_iconst X (v := 0) (by decide) dX1_sweepQuarter_25 ?_
    refine V_istore_n X (by decide) rfl dX1_sweepQuarter_26 ?_
    exact V_sub [3, 2, 1, 0] rfl (f1_sweepQuarter_L27_ok hE X FU _ _ _ _ hf8)
  · have hf4 := ife hf3 q7
    refine V_bipush X (v := -5) (by decide) dX1_sweepQuarter_10 ?_
    exact V_iret X rfl hf4 dX1_sweepQuarter_12
def f1_sweepQuarter (h : Hp) : Re := f1_sweepQuarter_e  h
theorem f1_sweepQuarter_ok (hE : IW E) {h : Hp} {q : Int32 × Hp} (hf0 : f1_sweepQuarter  h = some q) : SMi l E 3 yX1_sweepQuarter cX1_sweepQuarter 5 (some .int) [.ref (eA E 1)] h q.1 q.2 :=
  SMi.of (by decide +kernel) (Nat.le_of_ble_eq_true rfl) (fun p e s m args below meth c A X => f1_sweepQuarter_e_ok hE X (r := q.1) (h' := q.2) hf0)
def f2_undoable_e (h : Hp) : Re :=
  some (h 8 2, h)
set_option maxRecDepth 20000 in
set_option maxHeartbeats 4000000 in
theorem f2_undoable_e_ok (hE : IW E) (X : XC E RX2 cX2_undoable 1 (some .int) A p s m args meth c) {h : Hp} (hf0 : f2_undoable_e  h = some (r, h')) : VM E 1 A p l e 0 s m args below meth c (Qi E A r h') 0 [(0, .ref (eA E 8))] [] h := by
  unfold f2_undoable_e at hf0
  have hf1 := hf0
  refine V_aload_n X 0 rfl dX2_undoable_0 ?_
  refine G_X2_2_17 hE X dX2_undoable_1 ?_
  exact V_iret X rfl hf1 dX2_undoable_4
def f2_undoable (h : Hp) : Re := f2_undoable_e  h
theorem f2_undoable_ok (hE : IW E) {h : Hp} {q : Int32 × Hp} (hf0 : f2_undoable  h = some q) : SMi l E 0 yX2_undoable cX2_undoable 1 (some .int) [.ref (eA E 8)] h q.1 q.2 :=
  SMi.of (by decide +kernel) (Nat.le_of_ble_eq_true rfl) (fun p e s m args below meth c A X => f2_undoable_e_ok hE X (r := q.1) (h' := q.2) hf0)
def f2_circleRow_e (x1 : Int32) (h : Hp) : Re :=
  some ((((h 8 1) + x1) - ((h 8 1) + x1) / 7 * 7) * 344, h)
set_option maxRecDepth 20000 in
set_option maxHeartbeats 4000000 in
theorem f2_circleRow_e_ok (hE : IW E) (X : XC E RX2 cX2_circleRow 2 (some .int) A p s m args meth c) {x1 : Int32} {h : Hp} (hf0 : f2_circleRow_e x1 h = some (r, h')) : VM E 2 A p l e 0 s m args below meth c (Qi E A r h') 0 [(0, .ref (eA E 8)), (1, .int x1)] [] h := by
  unfold f2_circleRow_e at hf0
  have hf1 := hf0
  refine V_aload_n X 0 rfl dX2_circleRow_0 ?_
  refine G_X2_1_29 hE X dX2_circleRow_1 ?_
  refine V_iload_n X 1 rfl dX2_circleRow_4 ?_
  refine V_iadd X dX2_circleRow_5 ?_
  refine V_bipush X (v := 7) (by decide) dX2_circleRow_6 ?_
  refine V_irem X (by decide) dX2_circleRow_8 ?_
  refine V_sipush X (v := 344) (by decide) dX2_circleRow_9 ?_
  refine V_imul X dX2_circleRow_12 ?_
  exact V_iret X rfl hf1 dX2_circleRow_13
def f2_circleRow (x1 : Int32) (h : Hp) : Re := f2_circleRow_e x1 h
theorem f2_circleRow_ok (hE : IW E) {x1 : Int32} {h : Hp} {q : Int32 × Hp} (hf0 : f2_circleRow x1 h = some q) : SMi l E 0 yX2_circleRow cX2_circleRow 2 (some .int) [.ref (eA E 8), .int x1] h q.1 q.2 :=
  SMi.of (by decide +kernel) (Nat.le_of_ble_eq_true rfl) (fun p e s m args below meth c A X => f2_circleRow_e_ok hE X (r := q.1) (h' := q.2) hf0)
def f5_copyInto_e (k : Nat) (x2 : Int32) (h : Hp) : Re :=
  if x2 < 0 then (some (0, h)) else (if (3096 - 344) < x2 then (some (0, h)) else (if cpB 0 x2 344 344 3096 = true then (some (hf h 9 (va_cpy (h (k + 1)) (h 9) (Int32.toNatClampNeg 0) (Int32.toNatClampNeg x2) (Int32.toNatClampNeg 344)))).bind fun h4 => some (0, h4) else none))
set_option maxRecDepth 20000 in
set_option maxHeartbeats 4000000 in
theorem f5_copyInto_e_ok {k : Nat} (hE : IW E) (hk : SR E k) (X : XC E RX5 cX5_copyInto 3 none A p s m args meth c) {x2 : Int32} {h : Hp} (hf0 : f5_copyInto_e k x2 h = some (r, h')) : VM E 3 A p l e 1 s m args below meth c (Qv E A h') 0 [(0, .ref (eA E k)), (1, .ref (eA E 9)), (2, .int x2)] [] h := by
  unfold f5_copyInto_e at hf0
  have hf1 := hf0
  refine V_iload_n X 2 rfl dX5_copyInto_0 ?_
  refine V_if_lt X (tgt := 27) (by decide) dX5_copyInto_1 (fun q1 => ?_) (fun q1 => ?_)
  · have hf2 := ift hf1 q1
    exact V_vret X rfl hf2 dX5_copyInto_27
  · have hf2 := ife hf1 q1
    refine V_iload_n X 2 rfl dX5_copyInto_4 ?_
    refine V_aload_n X 1 rfl dX5_copyInto_5 ?_
    refine V_alen (j := 0) (v := 3096) X (AR_9 hE) rfl (by decide) dX5_copyInto_6 ?_
    refine V_sipush X (v := 344) (by decide) dX5_copyInto_7 ?_
    refine V_isub X dX5_copyInto_10 ?_
    refine V_icmp_gt X (tgt := 27) (by decide) dX5_copyInto_11 (fun q11 => ?_) (fun q11 => ?_)
    · have hf3 := ift hf2 q11
      exact V_vret X rfl hf3 dX5_copyInto_27
    · have hf3 := ife hf2 q11
      refine V_aload_n X 0 rfl dX5_copyInto_14 ?_
      refine G_X5_0_11 hk X dX5_copyInto_15 ?_
      refine V_iconst X (v := 0) (by decide) dX5_copyInto_18 ?_
      refine V_aload_n X 1 rfl dX5_copyInto_19 ?_
      refine V_iload_n X 2 rfl dX5_copyInto_20 ?_
      refine V_sipush X (v := 344) (by decide) dX5_copyInto_21 ?_
      obtain ⟨g103, hf103⟩ := ogd hf3
      obtain ⟨ga, gb, gc, gd, ge⟩ := cpB_of g103
      refine V_copyi X hk.2 (AR_9 hE) cp_X5_26 cp_nat cp_stat cp_ini ga gb gc gd ge (by decide) (by decide) dX5_copyInto_24 ?_
      have hf6 := obs hf103
      exact V_vret X rfl hf6 dX5_copyInto_27
def f5_copyInto (k : Nat) (x2 : Int32) (h : Hp) : Re := f5_copyInto_e k x2 h
theorem f5_copyInto_ok {k : Nat} (hE : IW E) (hk : SR E k) {x2 : Int32} {h : Hp} {q : Int32 × Hp} (hf0 : f5_copyInto k x2 h = some q) : SMv l E 1 yX5_copyInto cX5_copyInto 3 [.ref (eA E k), .ref (eA E 9), .int x2] h q.2 :=
  SMv.of (by decide +kernel) (Nat.le_of_ble_eq_true rfl) (fun p e s m args below meth c A X => f5_copyInto_e_ok hE hk X (r := q.1) (h' := q.2) hf0)
def f2_stage_e (h : Hp) : Re :=
  (f2_circleRow (h 8 2) h).bind fun c1 => (f5_copyInto 1 c1.1 c1.2).bind fun c3 => some (0, c3.2)
set_option maxRecDepth 20000 in
set_option maxHeartbeats 4000000 in
theorem f2_stage_e_ok (hE : IW E) (X : XC E RX2 cX2_stage 2 none A p s m args meth c) {h : Hp} (hf0 : f2_stage_e  h = some (r, h')) : VM E 2 A p l e 2 s m args below meth c (Qv E A h') 0 [(0, .ref (eA E 8)), (1, .ref (eA E 1))] [] h := by
  unfold f2_stage_e at hf0
  have hf1 := hf0
  refine V_aload_n X 1 rfl dX2_stage_0 ?_
  refine V_aload_n X 0 rfl dX2_stage_1 ?_
  refine G_X2_0_13 hE X dX2_stage_2 ?_
  refine V_aload_n X 0 rfl dX2_stage_5 ?_
  refine V_aload_n X 0 rfl dX2_stage_6 ?_
  refine G_X2_2_17 hE X dX2_stage_7 ?_
  obtain ⟨c1, e_c1, hf3⟩ := obd hf1
  refine V_callVi X (OB_8 hE) rfl rfl (f2_circleRow_ok hE e_c1) ys_X2_circleRow yw_X2_circleRow ml_X2_21 rfl rfl ⟨Nat.le_of_ble_eq_true rfl, Nat.le_of_ble_eq_true rfl⟩ ⟨Nat.zero_le _, Nat.zero_le _⟩ (Nat.le_of_ble_eq_true rfl) dX2_stage_10 ?_
  obtain ⟨c3, e_c3, hf5⟩ := obd hf3
  refine V_callVv X (SR_1 hE).1 rfl rfl (f5_copyInto_ok hE (SR_1 hE) e_c3) ys_X5_copyInto yw_X5_copyInto ml_X2_25 rfl rfl ⟨Nat.le_of_ble_eq_true rfl, Nat.le_of_ble_eq_true rfl⟩ ⟨Nat.zero_le _, Nat.zero_le _⟩ (Nat.le_of_ble_eq_true rfl) dX2_stage_13 ?_
  exact V_vret X rfl hf5 dX2_stage_16
def f2_stage (h : Hp) : Re := f2_stage_e  h
theorem f2_stage_ok (hE : IW E) {h : Hp} {q : Int32 × Hp} (hf0 : f2_stage  h = some q) : SMv l E 2 yX2_stage cX2_stage 2 [.ref (eA E 8), .ref (eA E 1)] h q.2 :=
  SMv.of (by decide +kernel) (Nat.le_of_ble_eq_true rfl) (fun p e s m args below meth c A X => f2_stage_e_ok hE X (r := q.1) (h' := q.2) hf0)
def f2_recordUnlessError_e (x1 : Int32) (h : Hp) : Re :=
  if 0 ≤ x1 then (if 6 ≤ (h 8 2) then ((some (hu h 8 1 (((h 8 1) + 1) - ((h 8 1) + 1) / 7 * 7))).bind fun h3 => some (x1, h3)) else ((some (hu h 8 2 ((h 8 2) + 1))).bind fun h5 => some (x1, h5))) else (some (x1, h))
set_option maxRecDepth 20000 in
set_option maxHeartbeats 4000000 in
theorem f2_recordUnlessError_e_ok (hE : IW E) (X : XC E RX2 cX2_recordUnlessError 2 (some .int) A p s m args meth c) {x1 : Int32} {h : Hp} (hf0 : f2_recordUnlessError_e x1 h = some (r, h')) : VM E 2 A p l e 0 s m args below meth c (Qi E A r h') 0 [(0, .ref (eA E 8)), (1, .int x1)] [] h := by
  unfold f2_recordUnlessError_e at hf0
  have hf1 := hf0
  refine V_iload_n X 1 rfl dX2_recordUnlessError_0 ?_
  refine V_if_ge X (tgt := 6) (by decide) dX2_recordUnlessError_1 (fun q1 => ?_) (fun q1 => ?_)
  · have hf2 := ift hf1 q1
    refine V_aload_n X 0 rfl dX2_recordUnlessError_6 ?_
    refine G_X2_2_17 hE X dX2_recordUnlessError_7 ?_
    refine V_bipush X (v := 6) (by decide) dX2_recordUnlessError_10 ?_
    refine V_icmp_ge X (tgt := 28) (by decide) dX2_recordUnlessError_12 (fun q12 => ?_) (fun q12 => ?_)
    · have hf3 := ift hf2 q12
      refine V_aload_n X 0 rfl dX2_recordUnlessError_28 ?_
      refine V_aload_n X 0 rfl dX2_recordUnlessError_29 ?_
      refine G_X2_1_29 hE X dX2_recordUnlessError_30 ?_
      refine V_iconst X (v := 1) (by decide) dX2_recordUnlessError_33 ?_
      refine V_iadd X dX2_recordUnlessError_34 ?_
      refine V_bipush X (v := 7) (by decide) dX2_recordUnlessError_35 ?_
      refine V_irem X (by decide) dX2_recordUnlessError_37 ?_
      refine P_X2_1_29 hE X dX2_recordUnlessError_38 ?_
      have hf5 := obs hf3
      refine V_iload_n X 1 rfl dX2_recordUnlessError_41 ?_
      exact V_iret X rfl hf5 dX2_recordUnlessError_42
    · have hf3 := ife hf2 q12
      refine V_aload_n X 0 rfl dX2_recordUnlessError_15 ?_
      refine V_dup X rfl dX2_recordUnlessError_16 ?_
      refine G_X2_2_17 hE X dX2_recordUnlessError_17 ?_
      refine V_iconst X (v := 1) (by decide) dX2_recordUnlessError_20 ?_
      refine V_iadd X dX2_recordUnlessError_21 ?_
      refine P_X2_2_17 hE X dX2_recordUnlessError_22 ?_
      have hf7 := obs hf3
      refine V_goto X (tgt := 41) (by decide) dX2_recordUnlessError_25 ?_
      refine V_iload_n X 1 rfl dX2_recordUnlessError_41 ?_
      exact V_iret X rfl hf7 dX2_recordUnlessError_42
  · have hf2 := ife hf1 q1
    refine V_iload_n X 1 rfl dX2_recordUnlessError_4 ?_
    exact V_iret X rfl hf2 dX2_recordUnlessError_5
def f2_recordUnlessError (x1 : Int32) (h : Hp) : Re := f2_recordUnlessError_e x1 h
theorem f2_recordUnlessError_ok (hE : IW E) {x1 : Int32} {h : Hp} {q : Int32 × Hp} (hf0 : f2_recordUnlessError x1 h = some q) : SMi l E 0 yX2_recordUnlessError cX2_recordUnlessError 2 (some .int) [.ref (eA E 8), .int x1] h q.1 q.2 :=
  SMi.of (by decide +kernel) (Nat.le_of_ble_eq_true rfl) (fun p e s m args below meth c A X => f2_recordUnlessError_e_ok hE X (r := q.1) (h' := q.2) hf0)
def f5_copyOutOf_e (k : Nat) (x2 : Int32) (h : Hp) : Re :=
  if x2 < 0 then (some (0, h)) else (if (3096 - 344) < x2 then (some (0, h)) else (if cpB x2 0 344 3096 344 = true then (some (hf h (k + 1) (va_cpy (h 9) (h (k + 1)) (Int32.toNatClampNeg x2) (Int32.toNatClampNeg 0) (Int32.toNatClampNeg 344)))).bind fun h4 => some (0, h4) else none))
set_option maxRecDepth 20000 in
set_option maxHeartbeats 4000000 in
theorem f5_copyOutOf_e_ok {k : Nat} (hE : IW E) (hk : SR E k) (X : XC E RX5 cX5_copyOutOf 3 none A p s m args meth c) {x2 : Int32} {h : Hp} (hf0 : f5_copyOutOf_e k x2 h = some (r, h')) : VM E 3 A p l e 1 s m args below meth c (Qv E A h') 0 [(0, .ref (eA E k)), (1, .ref (eA E 9)), (2, .int x2)] [] h := by
  unfold f5_copyOutOf_e at hf0
  have hf1 := hf0
  refine V_iload_n X 2 rfl dX5_copyOutOf_0 ?_
  refine V_if_lt X (tgt := 27) (by decide) dX5_copyOutOf_1 (fun q1 => ?_) (fun q1 => ?_)
  · have hf2 := ift hf1 q1
    exact V_vret X rfl hf2 dX5_copyOutOf_27
  · have hf2 := ife hf1 q1
    refine V_iload_n X 2 rfl dX5_copyOutOf_4 ?_
    refine V_aload_n X 1 rfl dX5_copyOutOf_5 ?_
    refine V_alen (j := 0) (v := 3096) X (AR_9 hE) rfl (by decide) dX5_copyOutOf_6 ?_
    refine V_sipush X (v := 344) (by decide) dX5_copyOutOf_7 ?_
    refine V_isub X dX5_copyOutOf_10 ?_
    refine V_icmp_gt X (tgt := 27) (by decide) dX5_copyOutOf_11 (fun q11 => ?_) (fun q11 => ?_)
    · have hf3 := ift hf2 q11
      exact V_vret X rfl hf3 dX5_copyOutOf_27
    · have hf3 := ife hf2 q11
      refine V_aload_n X 1 rfl dX5_copyOutOf_14 ?_
      refine V_iload_n X 2 rfl dX5_copyOutOf_15 ?_
      refine V_aload_n X 0 rfl dX5_copyOutOf_16 ?_
      refine G_X5_0_11 hk X dX5_copyOutOf_17 ?_
      refine V_iconst X (v := 0) (by decide) dX5_copyOutOf_20 ?_
      refine V_sipush X (v := 344) (by decide) dX5_copyOutOf_21 ?_
      obtain ⟨g103, hf103⟩ := ogd hf3
      obtain ⟨ga, gb, gc, gd, ge⟩ := cpB_of g103
      refine V_copyi X (AR_9 hE) hk.2 cp_X5_26 cp_nat cp_stat cp_ini ga gb gc gd ge (by decide) (by decide) dX5_copyOutOf_24 ?_
      have hf6 := obs hf103
      exact V_vret X rfl hf6 dX5_copyOutOf_27
def f5_copyOutOf (k : Nat) (x2 : Int32) (h : Hp) : Re := f5_copyOutOf_e k x2 h
theorem f5_copyOutOf_ok {k : Nat} (hE : IW E) (hk : SR E k) {x2 : Int32} {h : Hp} {q : Int32 × Hp} (hf0 : f5_copyOutOf k x2 h = some q) : SMv l E 1 yX5_copyOutOf cX5_copyOutOf 3 [.ref (eA E k), .ref (eA E 9), .int x2] h q.2 :=
  SMv.of (by decide +kernel) (Nat.le_of_ble_eq_true rfl) (fun p e s m args below meth c A X => f5_copyOutOf_e_ok hE hk X (r := q.1) (h' := q.2) hf0)
def f2_goBack_e (h : Hp) : Re :=
  if (h 8 2) = 0 then (some ((-5), h)) else ((some (hu h 8 2 ((h 8 2) - 1))).bind fun h2 => (f2_circleRow (h2 8 2) h2).bind fun c4 => (f5_copyOutOf 1 c4.1 c4.2).bind fun c6 => some (c6.2 8 2, c6.2))
set_option maxRecDepth 20000 in
set_option maxHeartbeats 4000000 in
theorem f2_goBack_e_ok (hE : IW E) (X : XC E RX2 cX2_goBack 2 (some .int) A p s m args meth c) {h : Hp} (hf0 : f2_goBack_e  h = some (r, h')) : VM E 2 A p l e 2 s m args below meth c (Qi E A r h') 0 [(0, .ref (eA E 8)), (1, .ref (eA E 1))] [] h := by
  unfold f2_goBack_e at hf0
  have hf1 := hf0
  refine V_aload_n X 0 rfl dX2_goBack_0 ?_
  refine G_X2_2_17 hE X dX2_goBack_1 ?_
  refine V_if_ne X (tgt := 10) (by decide) dX2_goBack_4 (fun q4 => ?_) (fun q4 => ?_)
  · have hf2 := ife hf1 q4
    refine V_aload_n X 0 rfl dX2_goBack_10 ?_
    refine V_dup X rfl dX2_goBack_11 ?_
    refine G_X2_2_17 hE X dX2_goBack_12 ?_
    refine V_iconst X (v := 1) (by decide) dX2_goBack_15 ?_
    refine V_isub X dX2_goBack_16 ?_
    refine P_X2_2_17 hE X dX2_goBack_17 ?_
    have hf4 := obs hf2
    refine V_aload_n X 1 rfl dX2_goBack_20 ?_
    refine V_aload_n X 0 rfl dX2_goBack_21 ?_
    refine G_X2_0_13 hE X dX2_goBack_22 ?_
    refine V_aload_n X 0 rfl dX2_goBack_25 ?_
    refine V_aload_n X 0 rfl dX2_goBack_26 ?_
    refine G_X2_2_17 hE X dX2_goBack_27 ?_
    obtain ⟨c4, e_c4, hf6⟩ := obd hf4
    refine V_callVi X (OB_8 hE) rfl rfl (f2_circleRow_ok hE e_c4) ys_X2_circleRow yw_X2_circleRow ml_X2_21 rfl rfl ⟨Nat.le_of_ble_eq_true rfl, Nat.le_of_ble_eq_true rfl⟩ ⟨Nat.zero_le _, Nat.zero_le _⟩ (Nat.le_of_ble_eq_true rfl) dX2_goBack_30 ?_
    obtain ⟨c6, e_c6, hf8⟩ := obd hf6
    refine V_callVv X (SR_1 hE).1 rfl rfl (f5_copyOutOf_ok hE (SR_1 hE) e_c6) ys_X5_copyOutOf yw_X5_copyOutOf ml_X2_32 rfl rfl ⟨Nat.le_of_ble_eq_true rfl, Nat.le_of_ble_eq_true rfl⟩ ⟨Nat.zero_le _, Nat.zero_le _⟩ (Nat.le_of_ble_eq_true rfl) dX2_goBack_33 ?_
    refine V_aload_n X 0 rfl dX2_goBack_36 ?_
    refine G_X2_2_17 hE X dX2_goBack_37 ?_
    exact V_iret X rfl hf8 dX2_goBack_40
  · have hf2 := ift hf1 q4
    refine V_bipush X (v := -5) (by decide) dX2_goBack_7 ?_
    exact V_iret X rfl hf2 dX2_goBack_9
def f2_goBack (h : Hp) : Re := f2_goBack_e  h
theorem f2_goBack_ok (hE : IW E) {h : Hp} {q : Int32 × Hp} (hf0 : f2_goBack  h = some q) : SMi l E 2 yX2_goBack cX2_goBack 2 (some .int) [.ref (eA E 8), .ref (eA E 1)] h q.1 q.2 :=
  SMi.of (by decide +kernel) (Nat.le_of_ble_eq_true rfl) (fun p e s m args below meth c A X => f2_goBack_e_ok hE X (r := q.1) (h' := q.2) hf0)
def f2_isSlot_e (x0 : Int32) (h : Hp) : Re :=
  if x0 < 0 then (rz 0 h) else (if 2 ≤ x0 then (rz 0 h) else (rz 1 h))
set_option maxRecDepth 20000 in
set_option maxHeartbeats 4000000 in
theorem f2_isSlot_e_ok (X : XC E RX2 cX2_isSlot 1 (some .boolean) A p s m args meth c) {x0 : Int32} {h : Hp} (hf0 : f2_isSlot_e x0 h = some (r, h')) : VM E 1 A p l e 0 s m args below meth c (Qi E A r h') 0 [(0, .int x0)] [] h := by
  unfold f2_isSlot_e at hf0
  have hf1 := hf0
  refine V_iload_n X 0 rfl dX2_isSlot_0 ?_
  refine V_if_lt X (tgt := 13) (by decide) dX2_isSlot_1 (fun q1 => ?_) (fun q1 => ?_)
  · have hf2 := ift hf1 q1
    refine V_iconst X (v := 0) (by decide) dX2_isSlot_13 ?_
    exact V_zret X rfl hf2 dX2_isSlot_14
  · have hf2 := ife hf1 q1
    refine V_iload_n X 0 rfl dX2_isSlot_4 ?_
    refine V_iconst X (v := 2) (by decide) dX2_isSlot_5 ?_
    refine V_icmp_ge X (tgt := 13) (by decide) dX2_isSlot_6 (fun q6 => ?_) (fun q6 => ?_)
    · have hf3 := ift hf2 q6
      refine V_iconst X (v := 0) (by decide) dX2_isSlot_13 ?_
      exact V_zret X rfl hf3 dX2_isSlot_14
    · have hf3 := ife hf2 q6
      refine V_iconst X (v := 1) (by decide) dX2_isSlot_9 ?_
      refine V_goto X (tgt := 14) (by decide) dX2_isSlot_10 ?_
      exact V_zret X rfl hf3 dX2_isSlot_14
def f2_isSlot (x0 : Int32) (h : Hp) : Re := f2_isSlot_e x0 h
theorem f2_isSlot_ok {x0 : Int32} {h : Hp} {q : Int32 × Hp} (hf0 : f2_isSlot x0 h = some q) : SMi l E 0 yX2_isSlot cX2_isSlot 1 (some .boolean) [.int x0] h q.1 q.2 :=
  SMi.of (by decide +kernel) (Nat.le_of_ble_eq_true rfl) (fun p e s m args below meth c A X => f2_isSlot_e_ok X (r := q.1) (h' := q.2) hf0)
def f2_isSaved_e (x1 : Int32) (h : Hp) : Re :=
  if (((h 8 3) >>> (x1 &&& 31)) &&& 1) = 1 then (rz 1 h) else (rz 0 h)
set_option maxRecDepth 20000 in
set_option maxHeartbeats 4000000 in
theorem f2_isSaved_e_ok (hE : IW E) (X : XC E RX2 cX2_isSaved 2 (some .boolean) A p s m args meth c) {x1 : Int32} {h : Hp} (hf0 : f2_isSaved_e x1 h = some (r, h')) : VM E 2 A p l e 0 s m args below meth c (Qi E A r h') 0 [(0, .ref (eA E 8)), (1, .int x1)] [] h := by
  unfold f2_isSaved_e at hf0
  have hf1 := hf0
  refine V_aload_n X 0 rfl dX2_isSaved_0 ?_
  refine G_X2_3_35 hE X dX2_isSaved_1 ?_
  refine V_iload_n X 1 rfl dX2_isSaved_4 ?_
  refine V_ishr X dX2_isSaved_5 ?_
  refine V_iconst X (v := 1) (by decide) dX2_isSaved_6 ?_
  refine V_iand X dX2_isSaved_7 ?_
  refine V_iconst X (v := 1) (by decide) dX2_isSaved_8 ?_
  refine V_icmp_ne X (tgt := 16) (by decide) dX2_isSaved_9 (fun q9 => ?_) (fun q9 => ?_)
  · have hf2 := ife hf1 q9
    refine V_iconst X (v := 0) (by decide) dX2_isSaved_16 ?_
    exact V_zret X rfl hf2 dX2_isSaved_17
  · have hf2 := ift hf1 q9
    refine V_iconst X (v := 1) (by decide) dX2_isSaved_12 ?_
    refine V_goto X (tgt := 17) (by decide) dX2_isSaved_13 ?_
    exact V_zret X rfl hf2 dX2_isSaved_17
def f2_isSaved (x1 : Int32) (h : Hp) : Re := f2_isSaved_e x1 h
theorem f2_isSaved_ok (hE : IW E) {x1 : Int32} {h : Hp} {q : Int32 × Hp} (hf0 : f2_isSaved x1 h = some q) : SMi l E 0 yX2_isSaved cX2_isSaved 2 (some .boolean) [.ref (eA E 8), .int x1] h q.1 q.2 :=
  SMi.of (by decide +kernel) (Nat.le_of_ble_eq_true rfl) (fun p e s m args below meth c A X => f2_isSaved_e_ok hE X (r := q.1) (h' := q.2) hf0)
def f2_slotRow_e (x0 : Int32) (h : Hp) : Re :=
  some ((7 + x0) * 344, h)
set_option maxRecDepth 20000 in
set_option maxHeartbeats 4000000 in
theorem f2_slotRow_e_ok (X : XC E RX2 cX2_slotRow 1 (some .int) A p s m args meth c) {x0 : Int32} {h : Hp} (hf0 : f2_slotRow_e x0 h = some (r, h')) : VM E 1 A p l e 0 s m args below meth c (Qi E A r h') 0 [(0, .int x0)] [] h := by
  unfold f2_slotRow_e at hf0
  have hf1 := hf0
  refine V_bipush X (v := 7) (by decide) dX2_slotRow_0 ?_
  refine V_iload_n X 0 rfl dX2_slotRow_2 ?_
  refine V_iadd X dX2_slotRow_3 ?_
  refine V_sipush X (v := 344) (by decide) dX2_slotRow_4 ?_
  refine V_imul X dX2_slotRow_7 ?_
  exact V_iret X rfl hf1 dX2_slotRow_8
def f2_slotRow (x0 : Int32) (h : Hp) : Re := f2_slotRow_e x0 h
theorem f2_slotRow_ok {x0 : Int32} {h : Hp} {q : Int32 × Hp} (hf0 : f2_slotRow x0 h = some q) : SMi l E 0 yX2_slotRow cX2_slotRow 1 (some .int) [.int x0] h q.1 q.2 :=
  SMi.of (by decide +kernel) (Nat.le_of_ble_eq_true rfl) (fun p e s m args below meth c A X => f2_slotRow_e_ok X (r := q.1) (h' := q.2) hf0)
def f2_keepInSlot_e (x1 : Int32) (h : Hp) : Re :=
  (f2_slotRow x1 h).bind fun c1 => (f5_copyInto 1 c1.1 c1.2).bind fun c3 => (some (hu c3.2 8 3 ((c3.2 8 3) ||| ((1 : Int32) <<< (x1 &&& 31))))).bind fun h5 => some (0, h5)
set_option maxRecDepth 20000 in
set_option maxHeartbeats 4000000 in
theorem f2_keepInSlot_e_ok (hE : IW E) (X : XC E RX2 cX2_keepInSlot 3 none A p s m args meth c) {x1 : Int32} {h : Hp} (hf0 : f2_keepInSlot_e x1 h = some (r, h')) : VM E 3 A p l e 2 s m args below meth c (Qv E A h') 0 [(0, .ref (eA E 8)), (1, .int x1), (2, .ref (eA E 1))] [] h := by
  unfold f2_keepInSlot_e at hf0
  have hf1 := hf0
  refine V_aload_n X 2 rfl dX2_keepInSlot_0 ?_
  refine V_aload_n X 0 rfl dX2_keepInSlot_1 ?_
  refine G_X2_0_13 hE X dX2_keepInSlot_2 ?_
  refine V_iload_n X 1 rfl dX2_keepInSlot_5 ?_
  obtain ⟨c1, e_c1, hf3⟩ := obd hf1
  refine V_callSi X (f2_slotRow_ok e_c1) ys_X2_slotRow yw_X2_slotRow ml_X2_38 rfl rfl ⟨Nat.le_of_ble_eq_true rfl, Nat.le_of_ble_eq_true rfl⟩ ⟨Nat.zero_le _, Nat.zero_le _⟩ (Nat.le_of_ble_eq_true rfl) dX2_keepInSlot_6 ?_
  obtain ⟨c3, e_c3, hf5⟩ := obd hf3
  refine V_callVv X (SR_1 hE).1 rfl rfl (f5_copyInto_ok hE (SR_1 hE) e_c3) ys_X5_copyInto yw_X5_copyInto ml_X2_25 rfl rfl ⟨Nat.le_of_ble_eq_true rfl, Nat.le_of_ble_eq_true rfl⟩ ⟨Nat.zero_le _, Nat.zero_le _⟩ (Nat.le_of_ble_eq_true rfl) dX2_keepInSlot_9 ?_
  refine V_aload_n X 0 rfl dX2_keepInSlot_12 ?_
  refine V_dup X rfl dX2_keepInSlot_13 ?_
  refine G_X2_3_35 hE X dX2_keepInSlot_14 ?_
  refine V_iconst X (v := 1) (by decide) dX2_keepInSlot_17 ?_
  refine V_iload_n X 1 rfl dX2_keepInSlot_18 ?_
  refine V_ishl X dX2_keepInSlot_19 ?_
  refine V_ior X dX2_keepInSlot_20 ?_
  refine P_X2_3_35 hE X dX2_keepInSlot_21 ?_
  have hf7 := obs hf5
  exact V_vret X rfl hf7 dX2_keepInSlot_24
def f2_keepInSlot (x1 : Int32) (h : Hp) : Re := f2_keepInSlot_e x1 h
theorem f2_keepInSlot_ok (hE : IW E) {x1 : Int32} {h : Hp} {q : Int32 × Hp} (hf0 : f2_keepInSlot x1 h = some q) : SMv l E 2 yX2_keepInSlot cX2_keepInSlot 3 [.ref (eA E 8), .int x1, .ref (eA E 1)] h q.2 :=
  SMv.of (by decide +kernel) (Nat.le_of_ble_eq_true rfl) (fun p e s m args below meth c A X => f2_keepInSlot_e_ok hE X (r := q.1) (h' := q.2) hf0)
def f2_bringFromSlot_e (x1 : Int32) (h : Hp) : Re :=
  (f2_slotRow x1 h).bind fun c1 => (f5_copyOutOf 1 c1.1 c1.2).bind fun c3 => some (0, c3.2)
set_option maxRecDepth 20000 in
set_option maxHeartbeats 4000000 in
theorem f2_bringFromSlot_e_ok (hE : IW E) (X : XC E RX2 cX2_bringFromSlot 3 none A p s m args meth c) {x1 : Int32} {h : Hp} (hf0 : f2_bringFromSlot_e x1 h = some (r, h')) : VM E 3 A p l e 2 s m args below meth c (Qv E A h') 0 [(0, .ref (eA E 8)), (1, .int x1), (2, .ref (eA E 1))] [] h := by
  unfold f2_bringFromSlot_e at hf0
  have hf1 := hf0
  refine V_aload_n X 2 rfl dX2_bringFromSlot_0 ?_
  refine V_aload_n X 0 rfl dX2_bringFromSlot_1 ?_
  refine G_X2_0_13 hE X dX2_bringFromSlot_2 ?_
  refine V_iload_n X 1 rfl dX2_bringFromSlot_5 ?_
  obtain ⟨c1, e_c1, hf3⟩ := obd hf1
  refine V_callSi X (f2_slotRow_ok e_c1) ys_X2_slotRow yw_X2_slotRow ml_X2_38 rfl rfl ⟨Nat.le_of_ble_eq_true rfl, Nat.le_of_ble_eq_true rfl⟩ ⟨Nat.zero_le _, Nat.zero_le _⟩ (Nat.le_of_ble_eq_true rfl) dX2_bringFromSlot_6 ?_
  obtain ⟨c3, e_c3, hf5⟩ := obd hf3
  refine V_callVv X (SR_1 hE).1 rfl rfl (f5_copyOutOf_ok hE (SR_1 hE) e_c3) ys_X5_copyOutOf yw_X5_copyOutOf ml_X2_32 rfl rfl ⟨Nat.le_of_ble_eq_true rfl, Nat.le_of_ble_eq_true rfl⟩ ⟨Nat.zero_le _, Nat.zero_le _⟩ (Nat.le_of_ble_eq_true rfl) dX2_bringFromSlot_9 ?_
  exact V_vret X rfl hf5 dX2_bringFromSlot_12
def f2_bringFromSlot (x1 : Int32) (h : Hp) : Re := f2_bringFromSlot_e x1 h
theorem f2_bringFromSlot_ok (hE : IW E) {x1 : Int32} {h : Hp} {q : Int32 × Hp} (hf0 : f2_bringFromSlot x1 h = some q) : SMv l E 2 yX2_bringFromSlot cX2_bringFromSlot 3 [.ref (eA E 8), .int x1, .ref (eA E 1)] h q.2 :=
  SMv.of (by decide +kernel) (Nat.le_of_ble_eq_true rfl) (fun p e s m args below meth c A X => f2_bringFromSlot_e_ok hE X (r := q.1) (h' := q.2) hf0)
def f4_sign_e (x1 : Int32) (h : Hp) : Re :=
  if x1 < 0 then (some (0, h)) else (if (h 10 1) ≤ x1 then (some (0, h)) else (if 80 ≤ x1 then (some (0, h)) else (if inB x1 80 = true then some (h 11 (Int32.toNatClampNeg x1), h) else none)))
set_option maxRecDepth 20000 in
set_option maxHeartbeats 4000000 in
theorem f4_sign_e_ok (hE : IW E) (X : XC E RX4 cX4_sign 2 (some .int) A p s m args meth c) {x1 : Int32} {h : Hp} (hf0 : f4_sign_e x1 h = some (r, h')) : VM E 2 A p l e 0 s m args below meth c (Qi E A r h') 0 [(0, .ref (eA E 10)), (1, .int x1)] [] h := by
  unfold f4_sign_e at hf0
  have hf1 := hf0
  refine V_iload_n X 1 rfl dX4_sign_0 ?_
  refine V_if_lt X (tgt := 30) (by decide) dX4_sign_1 (fun q1 => ?_) (fun q1 => ?_)
  · have hf2 := ift hf1 q1
    refine V_iconst X (v := 0) (by decide) dX4_sign_30 ?_
    exact V_iret X rfl hf2 dX4_sign_31
  · have hf2 := ife hf1 q1
    refine V_iload_n X 1 rfl dX4_sign_4 ?_
    refine V_aload_n X 0 rfl dX4_sign_5 ?_
    refine G_X4_1_15 hE X dX4_sign_6 ?_
    refine V_icmp_ge X (tgt := 30) (by decide) dX4_sign_9 (fun q9 => ?_) (fun q9 => ?_)
    · have hf3 := ift hf2 q9
      refine V_iconst X (v := 0) (by decide) dX4_sign_30 ?_
      exact V_iret X rfl hf3 dX4_sign_31
    · have hf3 := ife hf2 q9
      refine V_iload_n X 1 rfl dX4_sign_12 ?_
      refine V_aload_n X 0 rfl dX4_sign_13 ?_
      refine G_X4_0_11 hE X dX4_sign_14 ?_
      refine V_alen (j := 0) (v := 80) X (AR_11 hE) rfl (by decide) dX4_sign_17 ?_
      refine V_icmp_ge X (tgt := 30) (by decide) dX4_sign_18 (fun q18 => ?_) (fun q18 => ?_)
      · have hf4 := ift hf3 q18
        refine V_iconst X (v := 0) (by decide) dX4_sign_30 ?_
        exact V_iret X rfl hf4 dX4_sign_31
      · have hf4 := ife hf3 q18
        refine V_aload_n X 0 rfl dX4_sign_21 ?_
        refine G_X4_0_11 hE X dX4_sign_22 ?_
        refine V_iload_n X 1 rfl dX4_sign_25 ?_
        obtain ⟨g104, hf104⟩ := ogd hf4
        refine V_iald X (AR_11 hE) g104 dX4_sign_26 ?_
        refine V_goto X (tgt := 31) (by decide) dX4_sign_27 ?_
        exact V_iret X rfl hf104 dX4_sign_31
def f4_sign (x1 : Int32) (h : Hp) : Re := f4_sign_e x1 h
theorem f4_sign_ok (hE : IW E) {x1 : Int32} {h : Hp} {q : Int32 × Hp} (hf0 : f4_sign x1 h = some q) : SMi l E 0 yX4_sign cX4_sign 2 (some .int) [.ref (eA E 10), .int x1] h q.1 q.2 :=
  SMi.of (by decide +kernel) (Nat.le_of_ble_eq_true rfl) (fun p e s m args below meth c A X => f4_sign_e_ok hE X (r := q.1) (h' := q.2) hf0)
def f3_isDigit_e (x0 : Int32) (h : Hp) : Re :=
  if x0 < 48 then (rz 0 h) else (if 57 < x0 then (rz 0 h) else (rz 1 h))
set_option maxRecDepth 20000 in
set_option maxHeartbeats 4000000 in
theorem f3_isDigit_e_ok (X : XC E RX3 cX3_isDigit 1 (some .boolean) A p s m args meth c) {x0 : Int32} {h : Hp} (hf0 : f3_isDigit_e x0 h = some (r, h')) : VM E 1 A p l e 0 s m args below meth c (Qi E A r h') 0 [(0, .int x0)] [] h := by
  unfold f3_isDigit_e at hf0
  have hf1 := hf0
  refine V_iload_n X 0 rfl dX3_isDigit_0 ?_
  refine V_bipush X (v := 48) (by decide) dX3_isDigit_1 ?_
  refine V_icmp_lt X (tgt := 16) (by decide) dX3_isDigit_3 (fun q3 => ?_) (fun q3 => ?_)
  · have hf2 := ift hf1 q3
    refine V_iconst X (v := 0) (by decide) dX3_isDigit_16 ?_
    exact V_zret X rfl hf2 dX3_isDigit_17
  · have hf2 := ife hf1 q3
    refine V_iload_n X 0 rfl dX3_isDigit_6 ?_
    refine V_bipush X (v := 57) (by decide) dX3_isDigit_7 ?_
    refine V_icmp_gt X (tgt := 16) (by decide) dX3_isDigit_9 (fun q9 => ?_) (fun q9 => ?_)
    · have hf3 := ift hf2 q9
      refine V_iconst X (v := 0) (by decide) dX3_isDigit_16 ?_
      exact V_zret X rfl hf3 dX3_isDigit_17
    · have hf3 := ife hf2 q9
      refine V_iconst X (v := 1) (by decide) dX3_isDigit_12 ?_
      refine V_goto X (tgt := 17) (by decide) dX3_isDigit_13 ?_
      exact V_zret X rfl hf3 dX3_isDigit_17
def f3_isDigit (x0 : Int32) (h : Hp) : Re := f3_isDigit_e x0 h
theorem f3_isDigit_ok {x0 : Int32} {h : Hp} {q : Int32 × Hp} (hf0 : f3_isDigit x0 h = some q) : SMi l E 0 yX3_isDigit cX3_isDigit 1 (some .boolean) [.int x0] h q.1 q.2 :=
  SMi.of (by decide +kernel) (Nat.le_of_ble_eq_true rfl) (fun p e s m args below meth c A X => f3_isDigit_e_ok X (r := q.1) (h' := q.2) hf0)
def f3_fits_j52 (x1 : Int32) (h : Hp) : Re :=
  (f3_isDigit x1 h).bind fun c1 => rz c1.1 c1.2
set_option maxRecDepth 20000 in
set_option maxHeartbeats 4000000 in
theorem f3_fits_j52_ok (X : XC E RX3 cX3_fits 2 (some .boolean) A p s m args meth c) {x1 : Int32} {h : Hp} (hf0 : f3_fits_j52 x1 h = some (r, h')) : VM E 2 A p l e 1 s m args below meth c (Qi E A r h') 52 [(1, .int x1)] [] h := by
  unfold f3_fits_j52 at hf0
  have hf1 := hf0
  refine V_iload_n X 0 rfl dX3_fits_52 ?_
  obtain ⟨c1, e_c1, hf3⟩ := obd hf1
  refine V_callSi X (f3_isDigit_ok e_c1) ys_X3_isDigit yw_X3_isDigit ml_X3_58 rfl rfl ⟨Nat.le_of_ble_eq_true rfl, Nat.le_of_ble_eq_true rfl⟩ ⟨Nat.zero_le _, Nat.zero_le _⟩ (Nat.le_of_ble_eq_true rfl) dX3_fits_53 ?_
  exact V_zret X rfl hf3 dX3_fits_56
def f3_fits_e (x0 : Int32) (x1 : Int32) (h : Hp) : Re :=
  if x0 = 67 then (if x1 < 49 then (rz 0 h) else (if 54 < x1 then (rz 0 h) else (rz 1 h))) else if x0 = 68 then (f3_fits_j52 x1 h) else if x0 = 78 then (f3_fits_j52 x1 h) else if x0 = 79 then (if x1 < 48 then (rz 0 h) else (if 54 < x1 then (rz 0 h) else (rz 1 h))) else if x0 = 83 then (if x1 = 43 then (rz 1 h) else (if x1 = 45 then (rz 1 h) else (rz 0 h))) else (if x1 = x0 then (rz 1 h) else (rz 0 h))
set_option maxRecDepth 20000 in
set_option maxHeartbeats 4000000 in
theorem f3_fits_e_ok (X : XC E RX3 cX3_fits 2 (some .boolean) A p s m args meth c) {x0 : Int32} {x1 : Int32} {h : Hp} (hf0 : f3_fits_e x0 x1 h = some (r, h')) : VM E 2 A p l e 1 s m args below meth c (Qi E A r h') 0 [(0, .int x0), (1, .int x1)] [] h := by
  unfold f3_fits_e at hf0
  have hf1 := hf0
  refine V_iload_n X 0 rfl dX3_fits_0 ?_
  rcases oif hf1 with ⟨q1_0, hf1_0⟩ | ⟨q1_0, hf1_0⟩
  · refine V_lookup X (tgt := 57) (off := 56) (by decide) (by rw [q1_0]; decide) (by decide) dX3_fits_1 ?_
    have hf3 := hf1_0
    refine V_iload_n X 1 rfl dX3_fits_57 ?_
    refine V_bipush X (v := 49) (by decide) dX3_fits_58 ?_
    refine V_icmp_lt X (tgt := 73) (by decide) dX3_fits_60 (fun q60 => ?_) (fun q60 => ?_)
    · have hf4 := ift hf3 q60
      refine V_iconst X (v := 0) (by decide) dX3_fits_73 ?_
      exact V_zret X rfl hf4 dX3_fits_74
    · have hf4 := ife hf3 q60
      refine V_iload_n X 1 rfl dX3_fits_63 ?_
      refine V_bipush X (v := 54) (by decide) dX3_fits_64 ?_
      refine V_icmp_gt X (tgt := 73) (by decide) dX3_fits_66 (fun q66 => ?_) (fun q66 => ?_)
      · have hf5 := ift hf4 q66
        refine V_iconst X (v := 0) (by decide) dX3_fits_73 ?_
        exact V_zret X rfl hf5 dX3_fits_74
      · have hf5 := ife hf4 q66
        refine V_iconst X (v := 1) (by decide) dX3_fits_69 ?_
        refine V_goto X (tgt := 74) (by decide) dX3_fits_70 ?_
        exact V_zret X rfl hf5 dX3_fits_74
  rcases oif hf1_0 with ⟨q1_1, hf1_1⟩ | ⟨q1_1, hf1_1⟩
  · refine V_lookup X (tgt := 52) (off := 51) (by decide) (by rw [q1_1]; decide) (by decide) dX3_fits_1 ?_
    have hf6 := hf1_1
    exact V_sub [1] rfl (f3_fits_j52_ok X hf6)
  rcases oif hf1_1 with ⟨q1_2, hf1_2⟩ | ⟨q1_2, hf1_2⟩
  · refine V_lookup X (tgt := 52) (off := 51) (by decide) (by rw [q1_2]; decide) (by decide) dX3_fits_1 ?_
    have hf7 := hf1_2
    exact V_sub [1] rfl (f3_fits_j52_ok X hf7)
  rcases oif hf1_2 with ⟨q1_3, hf1_3⟩ | ⟨q1_3, hf1_3⟩
  · refine V_lookup X (tgt := 75) (off := 74) (by decide) (by rw [q1_3]; decide) (by decide) dX3_fits_1 ?_
    have hf8 := hf1_3
    refine V_iload_n X 1 rfl dX3_fits_75 ?_
    refine V_bipush X (v := 48) (by decide) dX3_fits_76 ?_
    refine V_icmp_lt X (tgt := 91) (by decide) dX3_fits_78 (fun q78 => ?_) (fun q78 => ?_)
    · have hf9 := ift hf8 q78
      refine V_iconst X (v := 0) (by decide) dX3_fits_91 ?_
      exact V_zret X rfl hf9 dX3_fits_92
    · have hf9 := ife hf8 q78
      refine V_iload_n X 1 rfl dX3_fits_81 ?_
      refine V_bipush X (v := 54) (by decide) dX3_fits_82 ?_
      refine V_icmp_gt X (tgt := 91) (by decide) dX3_fits_84 (fun q84 => ?_) (fun q84 => ?_)
      · have hf10 := ift hf9 q84
        refine V_iconst X (v := 0) (by decide) dX3_fits_91 ?_
        exact V_zret X rfl hf10 dX3_fits_92
      · have hf10 := ife hf9 q84
        refine V_iconst X (v := 1) (by decide) dX3_fits_87 ?_
        refine V_goto X (tgt := 92) (by decide) dX3_fits_88 ?_
        exact V_zret X rfl hf10 dX3_fits_92
  rcases oif hf1_3 with ⟨q1_4, hf1_4⟩ | ⟨q1_4, hf1_4⟩
  · refine V_lookup X (tgt := 93) (off := 92) (by decide) (by rw [q1_4]; decide) (by decide) dX3_fits_1 ?_
    have hf11 := hf1_4
    refine V_iload_n X 1 rfl dX3_fits_93 ?_
    refine V_bipush X (v := 43) (by decide) dX3_fits_94 ?_
    refine V_icmp_eq X (tgt := 105) (by decide) dX3_fits_96 (fun q96 => ?_) (fun q96 => ?_)
    · have hf12 := ift hf11 q96
      refine V_iconst X (v := 1) (by decide) dX3_fits_105 ?_
      refine V_goto X (tgt := 110) (by decide) dX3_fits_106 ?_
      exact V_zret X rfl hf12 dX3_fits_110
    · have hf12 := ife hf11 q96
      refine V_iload_n X 1 rfl dX3_fits_99 ?_
      refine V_bipush X (v := 45) (by decide) dX3_fits_100 ?_
      refine V_icmp_ne X (tgt := 109) (by decide) dX3_fits_102 (fun q102 => ?_) (fun q102 => ?_)
      · have hf13 := ife hf12 q102
        refine V_iconst X (v := 0) (by decide) dX3_fits_109 ?_
        exact V_zret X rfl hf13 dX3_fits_110
      · have hf13 := ift hf12 q102
        refine V_iconst X (v := 1) (by decide) dX3_fits_105 ?_
        refine V_goto X (tgt := 110) (by decide) dX3_fits_106 ?_
        exact V_zret X rfl hf13 dX3_fits_110
  · skip
    refine V_lookup X (tgt := 111) (off := 110) (by decide) (by show Op.lookupswitch.offset [(67, 56), (68, 51), (78, 51), (79, 74), (83, 92)] 110 _ = _; rw [lv_osw q1_0 (show (67 : Int32).toInt = 67 by decide), lv_osw q1_1 (show (68 : Int32).toInt = 68 by decide), lv_osw q1_2 (show (78 : Int32).toInt = 78 by decide), lv_osw q1_3 (show (79 : Int32).toInt = 79 by decide), lv_osw q1_4 (show (83 : Int32).toInt = 83 by decide)]; rfl) (by decide) dX3_fits_1 ?_
    have hf14 := hf1_4
    refine V_iload_n X 1 rfl dX3_fits_111 ?_
    refine V_iload_n X 0 rfl dX3_fits_112 ?_
    refine V_icmp_ne X (tgt := 120) (by decide) dX3_fits_113 (fun q113 => ?_) (fun q113 => ?_)
    · have hf15 := ife hf14 q113
      refine V_iconst X (v := 0) (by decide) dX3_fits_120 ?_
      exact V_zret X rfl hf15 dX3_fits_121
    · have hf15 := ift hf14 q113
      refine V_iconst X (v := 1) (by decide) dX3_fits_116 ?_
      refine V_goto X (tgt := 121) (by decide) dX3_fits_117 ?_
      exact V_zret X rfl hf15 dX3_fits_121
def f3_fits (x0 : Int32) (x1 : Int32) (h : Hp) : Re := f3_fits_e x0 x1 h
theorem f3_fits_ok {x0 : Int32} {x1 : Int32} {h : Hp} {q : Int32 × Hp} (hf0 : f3_fits x0 x1 h = some q) : SMi l E 1 yX3_fits cX3_fits 2 (some .boolean) [.int x0, .int x1] h q.1 q.2 :=
  SMi.of (by decide +kernel) (Nat.le_of_ble_eq_true rfl) (fun p e s m args below meth c A X => f3_fits_e_ok X (r := q.1) (h' := q.2) hf0)
def f3_hasSecondDigit_e (x1 : Int32) (h : Hp) : Re :=
  (f4_sign x1 h).bind fun c1 => if c1.1 = 48 then (rz 0 c1.2) else ((f4_sign (x1 + 1) c1.2).bind fun c4 => (f3_isDigit c4.1 c4.2).bind fun c6 => if c6.1 = 0 then (rz 0 c6.2) else (rz 1 c6.2))
set_option maxRecDepth 20000 in
set_option maxHeartbeats 4000000 in
theorem f3_hasSecondDigit_e_ok (hE : IW E) (X : XC E RX3 cX3_hasSecondDigit 2 (some .boolean) A p s m args meth c) {x1 : Int32} {h : Hp} (hf0 : f3_hasSecondDigit_e x1 h = some (r, h')) : VM E 2 A p l e 1 s m args below meth c (Qi E A r h') 0 [(0, .ref (eA E 10)), (1, .int x1)] [] h := by
  unfold f3_hasSecondDigit_e at hf0
  have hf1 := hf0
  refine V_aload_n X 0 rfl dX3_hasSecondDigit_0 ?_
  refine V_iload_n X 1 rfl dX3_hasSecondDigit_1 ?_
  obtain ⟨c1, e_c1, hf3⟩ := obd hf1
  refine V_callVi X (OB_10 hE) rfl rfl (f4_sign_ok hE e_c1) ys_X4_sign yw_X4_sign ml_X3_11 rfl rfl ⟨Nat.le_of_ble_eq_true rfl, Nat.le_of_ble_eq_true rfl⟩ ⟨Nat.zero_le _, Nat.zero_le _⟩ (Nat.le_of_ble_eq_true rfl) dX3_hasSecondDigit_2 ?_
  refine V_bipush X (v := 48) (by decide) dX3_hasSecondDigit_5 ?_
  refine V_icmp_eq X (tgt := 27) (by decide) dX3_hasSecondDigit_7 (fun q7 => ?_) (fun q7 => ?_)
  · have hf4 := ift hf3 q7
    refine V_iconst X (v := 0) (by decide) dX3_hasSecondDigit_27 ?_
    exact V_zret X rfl hf4 dX3_hasSecondDigit_28
  · have hf4 := ife hf3 q7
    refine V_aload_n X 0 rfl dX3_hasSecondDigit_10 ?_
    refine V_iload_n X 1 rfl dX3_hasSecondDigit_11 ?_
    refine V_iconst X (v := 1) (by decide) dX3_hasSecondDigit_12 ?_
    refine V_iadd X dX3_hasSecondDigit_13 ?_
    obtain ⟨c4, e_c4, hf6⟩ := obd hf4
    refine V_callVi X (OB_10 hE) rfl rfl (f4_sign_ok hE e_c4) ys_X4_sign yw_X4_sign ml_X3_11 rfl rfl ⟨Nat.le_of_ble_eq_true rfl, Nat.le_of_ble_eq_true rfl⟩ ⟨Nat.zero_le _, Nat.zero_le _⟩ (Nat.le_of_ble_eq_true rfl) dX3_hasSecondDigit_14 ?_
    obtain ⟨c6, e_c6, hf8⟩ := obd hf6
    refine V_callSi X (f3_isDigit_ok e_c6) ys_X3_isDigit yw_X3_isDigit ml_X3_58 rfl rfl ⟨Nat.le_of_ble_eq_true rfl, Nat.le_of_ble_eq_true rfl⟩ ⟨Nat.zero_le _, Nat.zero_le _⟩ (Nat.le_of_ble_eq_true rfl) dX3_hasSecondDigit_17 ?_
    refine V_if_eq X (tgt := 27) (by decide) dX3_hasSecondDigit_20 (fun q20 => ?_) (fun q20 => ?_)
    · have hf9 := ift hf8 q20
      refine V_iconst X (v := 0) (by decide) dX3_hasSecondDigit_27 ?_
      exact V_zret X rfl hf9 dX3_hasSecondDigit_28
    · have hf9 := ife hf8 q20
      refine V_iconst X (v := 1) (by decide) dX3_hasSecondDigit_23 ?_
      refine V_goto X (tgt := 28) (by decide) dX3_hasSecondDigit_24 ?_
      exact V_zret X rfl hf9 dX3_hasSecondDigit_28
def f3_hasSecondDigit (x1 : Int32) (h : Hp) : Re := f3_hasSecondDigit_e x1 h
theorem f3_hasSecondDigit_ok (hE : IW E) {x1 : Int32} {h : Hp} {q : Int32 × Hp} (hf0 : f3_hasSecondDigit x1 h = some q) : SMi l E 1 yX3_hasSecondDigit cX3_hasSecondDigit 2 (some .boolean) [.ref (eA E 10), .int x1] h q.1 q.2 :=
  SMi.of (by decide +kernel) (Nat.le_of_ble_eq_true rfl) (fun p e s m args below meth c A X => f3_hasSecondDigit_e_ok hE X (r := q.1) (h' := q.2) hf0)
def f4_length_e (h : Hp) : Re :=
  some (h 10 1, h)
set_option maxRecDepth 20000 in
set_option maxHeartbeats 4000000 in
theorem f4_length_e_ok (hE : IW E) (X : XC E RX4 cX4_length 1 (some .int) A p s m args meth c) {h : Hp} (hf0 : f4_length_e  h = some (r, h')) : VM E 1 A p l e 0 s m args below meth c (Qi E A r h') 0 [(0, .ref (eA E 10))] [] h := by
  unfold f4_length_e at hf0
  have hf1 := hf0
  refine V_aload_n X 0 rfl dX4_length_0 ?_
  refine G_X4_1_15 hE X dX4_length_1 ?_
  exact V_iret X rfl hf1 dX4_length_4
def f4_length (h : Hp) : Re := f4_length_e  h
theorem f4_length_ok (hE : IW E) {h : Hp} {q : Int32 × Hp} (hf0 : f4_length  h = some q) : SMi l E 0 yX4_length cX4_length 1 (some .int) [.ref (eA E 10)] h q.1 q.2 :=
  SMi.of (by decide +kernel) (Nat.le_of_ble_eq_true rfl) (fun p e s m args below meth c A X => f4_length_e_ok hE X (r := q.1) (h' := q.2) hf0)
def f3_beginsAt_e (x1 : Int32) (h : Hp) : Re :=
  if x1 = 0 then (rz 1 h) else ((f4_sign (x1 - 1) h).bind fun c2 => if c2.1 = 59 then (rz 1 c2.2) else (rz 0 c2.2))
set_option maxRecDepth 20000 in
set_option maxHeartbeats 4000000 in
theorem f3_beginsAt_e_ok (hE : IW E) (X : XC E RX3 cX3_beginsAt 2 (some .boolean) A p s m args meth c) {x1 : Int32} {h : Hp} (hf0 : f3_beginsAt_e x1 h = some (r, h')) : VM E 2 A p l e 1 s m args below meth c (Qi E A r h') 0 [(0, .ref (eA E 10)), (1, .int x1)] [] h := by
  unfold f3_beginsAt_e at hf0
  have hf1 := hf0
  refine V_iload_n X 1 rfl dX3_beginsAt_0 ?_
  refine V_if_eq X (tgt := 16) (by decide) dX3_beginsAt_1 (fun q1 => ?_) (fun q1 => ?_)
  · have hf2 := ift hf1 q1
    refine V_iconst X (v := 1) (by decide) dX3_beginsAt_16 ?_
    refine V_goto X (tgt := 21) (by decide) dX3_beginsAt_17 ?_
    exact V_zret X rfl hf2 dX3_beginsAt_21
  · have hf2 := ife hf1 q1
    refine V_aload_n X 0 rfl dX3_beginsAt_4 ?_
    refine V_iload_n X 1 rfl dX3_beginsAt_5 ?_
    refine V_iconst X (v := 1) (by decide) dX3_beginsAt_6 ?_
    refine V_isub X dX3_beginsAt_7 ?_
    obtain ⟨c2, e_c2, hf4⟩ := obd hf2
    refine V_callVi X (OB_10 hE) rfl rfl (f4_sign_ok hE e_c2) ys_X4_sign yw_X4_sign ml_X3_11 rfl rfl ⟨Nat.le_of_ble_eq_true rfl, Nat.le_of_ble_eq_true rfl⟩ ⟨Nat.zero_le _, Nat.zero_le _⟩ (Nat.le_of_ble_eq_true rfl) dX3_beginsAt_8 ?_
    refine V_bipush X (v := 59) (by decide) dX3_beginsAt_11 ?_
    refine V_icmp_ne X (tgt := 20) (by decide) dX3_beginsAt_13 (fun q13 => ?_) (fun q13 => ?_)
    · have hf5 := ife hf4 q13
      refine V_iconst X (v := 0) (by decide) dX3_beginsAt_20 ?_
      exact V_zret X rfl hf5 dX3_beginsAt_21
    · have hf5 := ift hf4 q13
      refine V_iconst X (v := 1) (by decide) dX3_beginsAt_16 ?_
      refine V_goto X (tgt := 21) (by decide) dX3_beginsAt_17 ?_
      exact V_zret X rfl hf5 dX3_beginsAt_21
def f3_beginsAt (x1 : Int32) (h : Hp) : Re := f3_beginsAt_e x1 h
theorem f3_beginsAt_ok (hE : IW E) {x1 : Int32} {h : Hp} {q : Int32 × Hp} (hf0 : f3_beginsAt x1 h = some q) : SMi l E 1 yX3_beginsAt cX3_beginsAt 2 (some .boolean) [.ref (eA E 10), .int x1] h q.1 q.2 :=
  SMi.of (by decide +kernel) (Nat.le_of_ble_eq_true rfl) (fun p e s m args below meth c A X => f3_beginsAt_e_ok hE X (r := q.1) (h' := q.2) hf0)
def f3_digit_e (x1 : Int32) (h : Hp) : Re :=
  (f4_sign x1 h).bind fun c1 => some (c1.1 - 48, c1.2)
set_option maxRecDepth 20000 in
set_option maxHeartbeats 4000000 in
theorem f3_digit_e_ok (hE : IW E) (X : XC E RX3 cX3_digit 2 (some .int) A p s m args meth c) {x1 : Int32} {h : Hp} (hf0 : f3_digit_e x1 h = some (r, h')) : VM E 2 A p l e 1 s m args below meth c (Qi E A r h') 0 [(0, .ref (eA E 10)), (1, .int x1)] [] h := by
  unfold f3_digit_e at hf0
  have hf1 := hf0
  refine V_aload_n X 0 rfl dX3_digit_0 ?_
  refine V_iload_n X 1 rfl dX3_digit_1 ?_
  obtain ⟨c1, e_c1, hf3⟩ := obd hf1
  refine V_callVi X (OB_10 hE) rfl rfl (f4_sign_ok hE e_c1) ys_X4_sign yw_X4_sign ml_X3_11 rfl rfl ⟨Nat.le_of_ble_eq_true rfl, Nat.le_of_ble_eq_true rfl⟩ ⟨Nat.zero_le _, Nat.zero_le _⟩ (Nat.le_of_ble_eq_true rfl) dX3_digit_2 ?_
  refine V_bipush X (v := 48) (by decide) dX3_digit_5 ?_
  refine V_isub X dX3_digit_7 ?_
  exact V_iret X rfl hf3 dX3_digit_8
def f3_digit (x1 : Int32) (h : Hp) : Re := f3_digit_e x1 h
theorem f3_digit_ok (hE : IW E) {x1 : Int32} {h : Hp} {q : Int32 × Hp} (hf0 : f3_digit x1 h = some q) : SMi l E 1 yX3_digit cX3_digit 2 (some .int) [.ref (eA E 10), .int x1] h q.1 q.2 :=
  SMi.of (by decide +kernel) (Nat.le_of_ble_eq_true rfl) (fun p e s m args below meth c A X => f3_digit_e_ok hE X (r := q.1) (h' := q.2) hf0)
def f3_numberAt_e (x1 : Int32) (h : Hp) : Re :=
  (f3_digit x1 h).bind fun c1 => (f3_hasSecondDigit x1 c1.2).bind fun c3 => if c3.1 = 0 then (some (c1.1, c3.2)) else ((f3_digit (x1 + 1) c3.2).bind fun c6 => some ((c1.1 * 10) + c6.1, c6.2))
set_option maxRecDepth 20000 in
set_option maxHeartbeats 4000000 in
theorem f3_numberAt_e_ok (hE : IW E) (X : XC E RX3 cX3_numberAt 3 (some .int) A p s m args meth c) {x1 : Int32} {h : Hp} (hf0 : f3_numberAt_e x1 h = some (r, h')) : VM E 3 A p l e 2 s m args below meth c (Qi E A r h') 0 [(0, .ref (eA E 10)), (1, .int x1)] [] h := by
  unfold f3_numberAt_e at hf0
  have hf1 := hf0
  refine V_aload_n X 0 rfl dX3_numberAt_0 ?_
  refine V_iload_n X 1 rfl dX3_numberAt_1 ?_
  obtain ⟨c1, e_c1, hf3⟩ := obd hf1
  refine V_callSi X (f3_digit_ok hE e_c1) ys_X3_digit yw_X3_digit ml_X3_62 rfl rfl ⟨Nat.le_of_ble_eq_true rfl, Nat.le_of_ble_eq_true rfl⟩ ⟨Nat.zero_le _, Nat.zero_le _⟩ (Nat.le_of_ble_eq_true rfl) dX3_numberAt_2 ?_
  refine V_istore_n X (by decide) rfl dX3_numberAt_5 ?_
  refine V_aload_n X 1 rfl dX3_numberAt_6 ?_
  refine V_iload_n X 2 rfl dX3_numberAt_7 ?_
  obtain ⟨c3, e_c3, hf5⟩ := obd hf3
  refine V_callSi X (f3_hasSecondDigit_ok hE e_c3) ys_X3_hasSecondDigit yw_X3_hasSecondDigit ml_X3_39 rfl rfl ⟨Nat.le_of_ble_eq_true rfl, Nat.le_of_ble_eq_true rfl⟩ ⟨Nat.zero_le _, Nat.zero_le _⟩ (Nat.le_of_ble_eq_true rfl) dX3_numberAt_8 ?_
  refine V_if_eq X (tgt := 29) (by decide) dX3_numberAt_11 (fun q11 => ?_) (fun q11 => ?_)
  · have hf6 := ift hf5 q11
    refine V_iload_n X 0 rfl dX3_numberAt_29 ?_
    exact V_iret X rfl hf6 dX3_numberAt_30
  · have hf6 := ife hf5 q11
    refine V_iload_n X 0 rfl dX3_numberAt_14 ?_
    refine V_bipush X (v := 10) (by decide) dX3_numberAt_15 ?_
    refine V_imul X dX3_numberAt_17 ?_
    refine V_aload_n X 1 rfl dX3_numberAt_18 ?_
    refine V_iload_n X 2 rfl dX3_numberAt_19 ?_
    refine V_iconst X (v := 1) (by decide) dX3_numberAt_20 ?_
    refine V_iadd X dX3_numberAt_21 ?_
    obtain ⟨c6, e_c6, hf8⟩ := obd hf6
    refine V_callSi X (f3_digit_ok hE e_c6) ys_X3_digit yw_X3_digit ml_X3_62 rfl rfl ⟨Nat.le_of_ble_eq_true rfl, Nat.le_of_ble_eq_true rfl⟩ ⟨Nat.zero_le _, Nat.zero_le _⟩ (Nat.le_of_ble_eq_true rfl) dX3_numberAt_22 ?_
    refine V_iadd X dX3_numberAt_25 ?_
    refine V_goto X (tgt := 30) (by decide) dX3_numberAt_26 ?_
    exact V_iret X rfl hf8 dX3_numberAt_30
def f3_numberAt (x1 : Int32) (h : Hp) : Re := f3_numberAt_e x1 h
theorem f3_numberAt_ok (hE : IW E) {x1 : Int32} {h : Hp} {q : Int32 × Hp} (hf0 : f3_numberAt x1 h = some q) : SMi l E 2 yX3_numberAt cX3_numberAt 3 (some .int) [.ref (eA E 10), .int x1] h q.1 q.2 :=
  SMi.of (by decide +kernel) (Nat.le_of_ble_eq_true rfl) (fun p e s m args below meth c A X => f3_numberAt_e_ok hE X (r := q.1) (h' := q.2) hf0)
def f3_colourRow_B5 (k5 : Int32 → Int32 → Int32 → Hp → Re) (x1 : Int32) (x2 : Int32) (x3 : Int32) (h : Hp) : Re :=
  if x3 < 0 then (some (x2, h)) else ((f3_digit (x1 + x3) h).bind fun c2 => k5 x1 ((x2 <<< (3 &&& 31)) ||| c2.1) (x3 + (-1)) c2.2)
set_option maxRecDepth 20000 in
set_option maxHeartbeats 4000000 in
theorem f3_colourRow_B5_ok (hE : IW E) (X : XC E RX3 cX3_colourRow 4 (some .int) A p s m args meth c) {k5 : Int32 → Int32 → Int32 → Hp → Re} (hk5 : ∀ (x1 : Int32) (x2 : Int32) (x3 : Int32) (h : Hp), k5 x1 x2 x3 h = some (r, h') → VM E 4 A p l e 2 s m args below meth c (Qi E A r h') 5 [(0, .ref (eA E 10)), (1, .int x1), (2, .int x2), (3, .int x3)] [] h) {x1 : Int32} {x2 : Int32} {x3 : Int32} {h : Hp} (hf0 : f3_colourRow_B5 k5 x1 x2 x3 h = some (r, h')) : VM E 4 A p l e 2 s m args below meth c (Qi E A r h') 5 [(0, .ref (eA E 10)), (1, .int x1), (2, .int x2), (3, .int x3)] [] h := by
  unfold f3_colourRow_B5 at hf0
  have hf1 := hf0
  refine V_iload_n X 3 rfl dX3_colourRow_5 ?_
  refine V_if_lt X (tgt := 27) (by decide) dX3_colourRow_6 (fun q6 => ?_) (fun q6 => ?_)
  · have hf2 := ift hf1 q6
    refine V_iload_n X 2 rfl dX3_colourRow_27 ?_
    exact V_iret X rfl hf2 dX3_colourRow_28
  · have hf2 := ife hf1 q6
    refine V_iload_n X 2 rfl dX3_colourRow_9 ?_
    refine V_iconst X (v := 3) (by decide) dX3_colourRow_10 ?_
    refine V_ishl X dX3_colourRow_11 ?_
    refine V_aload_n X 0 rfl dX3_colourRow_12 ?_
    refine V_iload_n X 1 rfl dX3_colourRow_13 ?_
    refine V_iload_n X 3 rfl dX3_colourRow_14 ?_
    refine V_iadd X dX3_colourRow_15 ?_
    obtain ⟨c2, e_c2, hf4⟩ := obd hf2
    refine V_callSi X (f3_digit_ok hE e_c2) ys_X3_digit yw_X3_digit ml_X3_62 rfl rfl ⟨Nat.le_of_ble_eq_true rfl, Nat.le_of_ble_eq_true rfl⟩ ⟨Nat.zero_le _, Nat.zero_le _⟩ (Nat.le_of_ble_eq_true rfl) dX3_colourRow_16 ?_
    refine V_ior X dX3_colourRow_19 ?_
    refine V_istore_n X (by decide) rfl dX3_colourRow_20 ?_
    refine V_iinc X (v := _ + (-1)) 3 rfl (by rfl) (by decide) rfl dX3_colourRow_21 ?_
    refine V_goto X (tgt := 5) (by decide) dX3_colourRow_24 ?_
    exact V_sub [2, 3, 1, 0] rfl (hk5 _ _ _ _ hf4)
def f3_colourRow_L5 : Nat → Int32 → Int32 → Int32 → Hp → Re
  | 0 => fun _ _ _ _ => none
  | n + 1 => f3_colourRow_B5 (f3_colourRow_L5 n)
theorem f3_colourRow_L5_s (n : Nat) (x1 : Int32) (x2 : Int32) (x3 : Int32) (h : Hp) : f3_colourRow_L5 (n + 1) x1 x2 x3 h = f3_colourRow_B5 (f3_colourRow_L5 n) x1 x2 x3 h := rfl
theorem f3_colourRow_L5_ok (hE : IW E) (X : XC E RX3 cX3_colourRow 4 (some .int) A p s m args meth c) : ∀ (n : Nat) (x1 : Int32) (x2 : Int32) (x3 : Int32) (h : Hp), f3_colourRow_L5 n x1 x2 x3 h = some (r, h') → VM E 4 A p l e 2 s m args below meth c (Qi E A r h') 5 [(0, .ref (eA E 10)), (1, .int x1), (2, .int x2), (3, .int x3)] [] h := by
  intro n
  induction n with
  | zero =>
    intro x1 x2 x3 h q
    have q : (none : Re) = some (r, h') := q
    cases q
  | succ n ih =>
    intro x1 x2 x3 h q
    exact f3_colourRow_B5_ok hE X ih q
def f3_colourRow_e (x1 : Int32) (h : Hp) : Re :=
  f3_colourRow_L5 FU x1 0 7 h
set_option maxRecDepth 20000 in
set_option maxHeartbeats 4000000 in
theorem f3_colourRow_e_ok (hE : IW E) (X : XC E RX3 cX3_colourRow 4 (some .int) A p s m args meth c) {x1 : Int32} {h : Hp} (hf0 : f3_colourRow_e x1 h = some (r, h')) : VM E 4 A p l e 2 s m args below meth c (Qi E A r h') 0 [(0, .ref (eA E 10)), (1, .int x1)] [] h := by
  unfold f3_colourRow_e at hf0
  have hf1 := hf0
  refine V_iconst X (v := 0) (by decide) dX3_colourRow_0 ?_
  refine V_istore_n X (by decide) rfl dX3_colourRow_1 ?_
  refine V_bipush X (v := 7) (by decide) dX3_colourRow_2 ?_
  refine V_istore_n X (by decide) rfl dX3_colourRow_4 ?_
  exact V_sub [2, 3, 1, 0] rfl (f3_colourRow_L5_ok hE X FU _ _ _ _ hf1)
def f3_colourRow (x1 : Int32) (h : Hp) : Re := f3_colourRow_e x1 h
theorem f3_colourRow_ok (hE : IW E) {x1 : Int32} {h : Hp} {q : Int32 × Hp} (hf0 : f3_colourRow x1 h = some q) : SMi l E 2 yX3_colourRow cX3_colourRow 4 (some .int) [.ref (eA E 10), .int x1] h q.1 q.2 :=
  SMi.of (by decide +kernel) (Nat.le_of_ble_eq_true rfl) (fun p e s m args below meth c A X => f3_colourRow_e_ok hE X (r := q.1) (h' := q.2) hf0)
def f3_obey_j157 (y0 : Int32) (y1 : Int32) (h : Hp) : Re :=
  (f7_bit y0 h).bind fun c1 => (f1_blow y1 c1.1 c1.2).bind fun c3 => some (c3.1, c3.2)
set_option maxRecDepth 20000 in
set_option maxHeartbeats 4000000 in
theorem f3_obey_j157_ok (hE : IW E) (X : XC E RX3 cX3_obey 7 (some .int) A p s m args meth c) {y0 : Int32} {y1 : Int32} {h : Hp} (hf0 : f3_obey_j157 y0 y1 h = some (r, h')) : VM E 7 A p l e 6 s m args below meth c (Qi E A r h') 157 [] [.int y0, .int y1, .ref (eA E 5), .ref (eA E 1)] h := by
  unfold f3_obey_j157 at hf0
  have hf1 := hf0
  obtain ⟨c1, e_c1, hf3⟩ := obd hf1
  refine V_callSNi X (f7_bit_ok e_c1) ys_X7_bit yw_X7_bit nl_X3_89 rfl rfl ⟨Nat.le_of_ble_eq_true rfl, Nat.le_of_ble_eq_true rfl⟩ ⟨Nat.zero_le _, Nat.zero_le _⟩ (Nat.le_of_ble_eq_true rfl) dX3_obey_157 ?_
  obtain ⟨c3, e_c3, hf5⟩ := obd hf3
  refine V_callSi X (f1_blow_ok hE e_c3) ys_X1_blow yw_X1_blow ml_X3_93 rfl rfl ⟨Nat.le_of_ble_eq_true rfl, Nat.le_of_ble_eq_true rfl⟩ ⟨Nat.zero_le _, Nat.zero_le _⟩ (Nat.le_of_ble_eq_true rfl) dX3_obey_160 ?_
  exact V_iret X rfl hf5 dX3_obey_163
def f3_obey_e (x1 : Int32) (h : Hp) : Re :=
  (f3_digit (x1 + 1) h).bind fun c1 => (f3_digit (x1 + 2) c1.2).bind fun c3 => (f3_digit (x1 + 3) c3.2).bind fun c5 => (f4_sign x1 c5.2).bind fun c7 => if c7.1 = 98 then ((f4_sign (x1 + 2) c7.2).bind fun c11 => if c11.1 = 45 then (f3_obey_j157 1 c1.1 c11.2) else (f3_obey_j157 0 c1.1 c11.2)) else if c7.1 = 104 then ((f1_takeFunnel c1.1 c3.1 c7.2).bind fun c15 => some (c15.1, c15.2)) else if c7.1 = 112 then ((f3_numberAt (x1 + 5) c7.2).bind fun c18 => (f1_pourGrains c1.1 c3.1 c5.1 c18.1 c18.2).bind fun c20 => some (c20.1, c20.2)) else if c7.1 = 115 then ((f1_scrapeBare c1.1 c3.1 c5.1 c7.2).bind fun c23 => some (c23.1, c23.2)) else if c7.1 = 116 then ((f3_colourRow (x1 + 3) c7.2).bind fun c26 => (f1_layPattern c1.1 c26.1 c26.2).bind fun c28 => some (c28.1, c28.2)) else ((f1_closeRing  c7.2).bind fun c31 => some (c31.1, c31.2))
set_option maxRecDepth 20000 in
set_option maxHeartbeats 4000000 in
theorem f3_obey_e_ok (hE : IW E) (X : XC E RX3 cX3_obey 7 (some .int) A p s m args meth c) {x1 : Int32} {h : Hp} (hf0 : f3_obey_e x1 h = some (r, h')) : VM E 7 A p l e 6 s m args below meth c (Qi E A r h') 0 [(0, .ref (eA E 10)), (1, .int x1), (2, .ref (eA E 1)), (3, .ref (eA E 5))] [] h := by
  unfold f3_obey_e at hf0
  have hf1 := hf0
  refine V_aload_n X 0 rfl dX3_obey_0 ?_
  refine V_iload_n X 1 rfl dX3_obey_1 ?_
  refine V_iconst X (v := 1) (by decide) dX3_obey_2 ?_
  refine V_iadd X dX3_obey_3 ?_
  obtain ⟨c1, e_c1, hf3⟩ := obd hf1
  refine V_callSi X (f3_digit_ok hE e_c1) ys_X3_digit yw_X3_digit ml_X3_62 rfl rfl ⟨Nat.le_of_ble_eq_true rfl, Nat.le_of_ble_eq_true rfl⟩ ⟨Nat.zero_le _, Nat.zero_le _⟩ (Nat.le_of_ble_eq_true rfl) dX3_obey_4 ?_
  refine V_istore X (by decide) rfl dX3_obey_7 ?_
  refine V_aload_n X 1 rfl dX3_obey_9 ?_
  refine V_iload_n X 2 rfl dX3_obey_10 ?_
  refine V_iconst X (v := 2) (by decide) dX3_obey_11 ?_
  refine V_iadd X dX3_obey_12 ?_
  obtain ⟨c3, e_c3, hf5⟩ := obd hf3
  refine V_callSi X (f3_digit_ok hE e_c3) ys_X3_digit yw_X3_digit ml_X3_62 rfl rfl ⟨Nat.le_of_ble_eq_true rfl, Nat.le_of_ble_eq_true rfl⟩ ⟨Nat.zero_le _, Nat.zero_le _⟩ (Nat.le_of_ble_eq_true rfl) dX3_obey_13 ?_
  refine V_istore X (by decide) rfl dX3_obey_16 ?_
  refine V_aload_n X 2 rfl dX3_obey_18 ?_
  refine V_iload_n X 3 rfl dX3_obey_19 ?_
  refine V_iconst X (v := 3) (by decide) dX3_obey_20 ?_
  refine V_iadd X dX3_obey_21 ?_
  obtain ⟨c5, e_c5, hf7⟩ := obd hf5
  refine V_callSi X (f3_digit_ok hE e_c5) ys_X3_digit yw_X3_digit ml_X3_62 rfl rfl ⟨Nat.le_of_ble_eq_true rfl, Nat.le_of_ble_eq_true rfl⟩ ⟨Nat.zero_le _, Nat.zero_le _⟩ (Nat.le_of_ble_eq_true rfl) dX3_obey_22 ?_
  refine V_istore X (by decide) rfl dX3_obey_25 ?_
  refine V_aload_n X 3 rfl dX3_obey_27 ?_
  refine V_iload_n X 4 rfl dX3_obey_28 ?_
  obtain ⟨c7, e_c7, hf9⟩ := obd hf7
  refine V_callVi X (OB_10 hE) rfl rfl (f4_sign_ok hE e_c7) ys_X4_sign yw_X4_sign ml_X3_11 rfl rfl ⟨Nat.le_of_ble_eq_true rfl, Nat.le_of_ble_eq_true rfl⟩ ⟨Nat.zero_le _, Nat.zero_le _⟩ (Nat.le_of_ble_eq_true rfl) dX3_obey_29 ?_
  rcases oif hf9 with ⟨q32_0, hf32_0⟩ | ⟨q32_0, hf32_0⟩
  · refine V_lookup X (tgt := 136) (off := 104) (by decide) (by rw [q32_0]; decide) (by decide) dX3_obey_32 ?_
    have hf11 := hf32_0
    refine V_aload_n X 5 rfl dX3_obey_136 ?_
    refine V_aload_n X 6 rfl dX3_obey_137 ?_
    refine V_iload X 2 rfl dX3_obey_138 ?_
    refine V_aload_n X 3 rfl dX3_obey_140 ?_
    refine V_iload_n X 4 rfl dX3_obey_141 ?_
    refine V_iconst X (v := 2) (by decide) dX3_obey_142 ?_
    refine V_iadd X dX3_obey_143 ?_
    obtain ⟨c11, e_c11, hf13⟩ := obd hf11
    refine V_callVi X (OB_10 hE) rfl rfl (f4_sign_ok hE e_c11) ys_X4_sign yw_X4_sign ml_X3_11 rfl rfl ⟨Nat.le_of_ble_eq_true rfl, Nat.le_of_ble_eq_true rfl⟩ ⟨Nat.zero_le _, Nat.zero_le _⟩ (Nat.le_of_ble_eq_true rfl) dX3_obey_144 ?_
    refine V_bipush X (v := 45) (by decide) dX3_obey_147 ?_
    refine V_icmp_ne X (tgt := 156) (by decide) dX3_obey_149 (fun q149 => ?_) (fun q149 => ?_)
    · have hf14 := ife hf13 q149
      refine V_iconst X (v := 0) (by decide) dX3_obey_156 ?_
      exact V_sub [] rfl (f3_obey_j157_ok hE X hf14)
    · have hf14 := ift hf13 q149
      refine V_iconst X (v := 1) (by decide) dX3_obey_152 ?_
      refine V_goto X (tgt := 157) (by decide) dX3_obey_153 ?_
      exact V_sub [] rfl (f3_obey_j157_ok hE X hf14)
  rcases oif hf32_0 with ⟨q32_1, hf32_1⟩ | ⟨q32_1, hf32_1⟩
  · refine V_lookup X (tgt := 84) (off := 52) (by decide) (by rw [q32_1]; decide) (by decide) dX3_obey_32 ?_
    have hf15 := hf32_1
    refine V_aload_n X 5 rfl dX3_obey_84 ?_
    refine V_iload X 2 rfl dX3_obey_85 ?_
    refine V_iload X 1 rfl dX3_obey_87 ?_
    obtain ⟨c15, e_c15, hf17⟩ := obd hf15
    refine V_callSi X (f1_takeFunnel_ok hE e_c15) ys_X1_takeFunnel yw_X1_takeFunnel ml_X3_66 rfl rfl ⟨Nat.le_of_ble_eq_true rfl, Nat.le_of_ble_eq_true rfl⟩ ⟨Nat.zero_le _, Nat.zero_le _⟩ (Nat.le_of_ble_eq_true rfl) dX3_obey_89 ?_
    exact V_iret X rfl hf17 dX3_obey_92
  rcases oif hf32_1 with ⟨q32_2, hf32_2⟩ | ⟨q32_2, hf32_2⟩
  · refine V_lookup X (tgt := 93) (off := 61) (by decide) (by rw [q32_2]; decide) (by decide) dX3_obey_32 ?_
    have hf18 := hf32_2
    refine V_aload_n X 5 rfl dX3_obey_93 ?_
    refine V_iload X 2 rfl dX3_obey_94 ?_
    refine V_iload X 1 rfl dX3_obey_96 ?_
    refine V_iload X 0 rfl dX3_obey_98 ?_
    refine V_aload_n X 3 rfl dX3_obey_100 ?_
    refine V_iload_n X 4 rfl dX3_obey_101 ?_
    refine V_iconst X (v := 5) (by decide) dX3_obey_102 ?_
    refine V_iadd X dX3_obey_103 ?_
    obtain ⟨c18, e_c18, hf20⟩ := obd hf18
    refine V_callSi X (f3_numberAt_ok hE e_c18) ys_X3_numberAt yw_X3_numberAt ml_X3_72 rfl rfl ⟨Nat.le_of_ble_eq_true rfl, Nat.le_of_ble_eq_true rfl⟩ ⟨Nat.zero_le _, Nat.zero_le _⟩ (Nat.le_of_ble_eq_true rfl) dX3_obey_104 ?_
    obtain ⟨c20, e_c20, hf22⟩ := obd hf20
    refine V_callSi X (f1_pourGrains_ok hE e_c20) ys_X1_pourGrains yw_X1_pourGrains ml_X3_75 rfl rfl ⟨Nat.le_of_ble_eq_true rfl, Nat.le_of_ble_eq_true rfl⟩ ⟨Nat.zero_le _, Nat.zero_le _⟩ (Nat.le_of_ble_eq_true rfl) dX3_obey_107 ?_
    exact V_iret X rfl hf22 dX3_obey_110
  rcases oif hf32_2 with ⟨q32_3, hf32_3⟩ | ⟨q32_3, hf32_3⟩
  · refine V_lookup X (tgt := 111) (off := 79) (by decide) (by rw [q32_3]; decide) (by decide) dX3_obey_32 ?_
    have hf23 := hf32_3
    refine V_aload_n X 5 rfl dX3_obey_111 ?_
    refine V_iload X 2 rfl dX3_obey_112 ?_
    refine V_iload X 1 rfl dX3_obey_114 ?_
    refine V_iload X 0 rfl dX3_obey_116 ?_
    obtain ⟨c23, e_c23, hf25⟩ := obd hf23
    refine V_callSi X (f1_scrapeBare_ok hE e_c23) ys_X1_scrapeBare yw_X1_scrapeBare ml_X3_79 rfl rfl ⟨Nat.le_of_ble_eq_true rfl, Nat.le_of_ble_eq_true rfl⟩ ⟨Nat.zero_le _, Nat.zero_le _⟩ (Nat.le_of_ble_eq_true rfl) dX3_obey_118 ?_
    exact V_iret X rfl hf25 dX3_obey_121
  rcases oif hf32_3 with ⟨q32_4, hf32_4⟩ | ⟨q32_4, hf32_4⟩
  · refine V_lookup X (tgt := 122) (off := 90) (by decide) (by rw [q32_4]; decide) (by decide) dX3_obey_32 ?_
    have hf26 := hf32_4
    refine V_aload_n X 5 rfl dX3_obey_122 ?_
    refine V_iload X 2 rfl dX3_obey_123 ?_
    refine V_aload_n X 3 rfl dX3_obey_125 ?_
    refine V_iload_n X 4 rfl dX3_obey_126 ?_
    refine V_iconst X (v := 3) (by decide) dX3_obey_127 ?_
    refine V_iadd X dX3_obey_128 ?_
    obtain ⟨c26, e_c26, hf28⟩ := obd hf26
    refine V_callSi X (f3_colourRow_ok hE e_c26) ys_X3_colourRow yw_X3_colourRow ml_X3_83 rfl rfl ⟨Nat.le_of_ble_eq_true rfl, Nat.le_of_ble_eq_true rfl⟩ ⟨Nat.zero_le _, Nat.zero_le _⟩ (Nat.le_of_ble_eq_true rfl) dX3_obey_129 ?_
    obtain ⟨c28, e_c28, hf30⟩ := obd hf28
    refine V_callSi X (f1_layPattern_ok hE e_c28) ys_X1_layPattern yw_X1_layPattern ml_X3_86 rfl rfl ⟨Nat.le_of_ble_eq_true rfl, Nat.le_of_ble_eq_true rfl⟩ ⟨Nat.zero_le _, Nat.zero_le _⟩ (Nat.le_of_ble_eq_true rfl) dX3_obey_132 ?_
    exact V_iret X rfl hf30 dX3_obey_135
  · skip
    refine V_lookup X (tgt := 164) (off := 132) (by decide) (by show Op.lookupswitch.offset [(98, 104), (104, 52), (112, 61), (115, 79), (116, 90)] 132 _ = _; rw [lv_osw q32_0 (show (98 : Int32).toInt = 98 by decide), lv_osw q32_1 (show (104 : Int32).toInt = 104 by decide), lv_osw q32_2 (show (112 : Int32).toInt = 112 by decide), lv_osw q32_3 (show (115 : Int32).toInt = 115 by decide), lv_osw q32_4 (show (116 : Int32).toInt = 116 by decide)]; rfl) (by decide) dX3_obey_32 ?_
    have hf31 := hf32_4
    refine V_aload_n X 5 rfl dX3_obey_164 ?_
    obtain ⟨c31, e_c31, hf33⟩ := obd hf31
    refine V_callSi X (f1_closeRing_ok hE e_c31) ys_X1_closeRing yw_X1_closeRing ml_X3_97 rfl rfl ⟨Nat.le_of_ble_eq_true rfl, Nat.le_of_ble_eq_true rfl⟩ ⟨Nat.zero_le _, Nat.zero_le _⟩ (Nat.le_of_ble_eq_true rfl) dX3_obey_165 ?_
    exact V_iret X rfl hf33 dX3_obey_168
def f3_obey (x1 : Int32) (h : Hp) : Re := f3_obey_e x1 h
theorem f3_obey_ok (hE : IW E) {x1 : Int32} {h : Hp} {q : Int32 × Hp} (hf0 : f3_obey x1 h = some q) : SMi l E 6 yX3_obey cX3_obey 7 (some .int) [.ref (eA E 10), .int x1, .ref (eA E 1), .ref (eA E 5)] h q.1 q.2 :=
  SMi.of (by decide +kernel) (Nat.le_of_ble_eq_true rfl) (fun p e s m args below meth c A X => f3_obey_e_ok hE X (r := q.1) (h' := q.2) hf0)
def f4_empty_e (h : Hp) : Re :=
  (some (hu h 10 1 0)).bind fun h1 => some (0, h1)
set_option maxRecDepth 20000 in
set_option maxHeartbeats 4000000 in
theorem f4_empty_e_ok (hE : IW E) (X : XC E RX4 cX4_empty 1 none A p s m args meth c) {h : Hp} (hf0 : f4_empty_e  h = some (r, h')) : VM E 1 A p l e 0 s m args below meth c (Qv E A h') 0 [(0, .ref (eA E 10))] [] h := by
  unfold f4_empty_e at hf0
  have hf1 := hf0
  refine V_aload_n X 0 rfl dX4_empty_0 ?_
  refine V_iconst X (v := 0) (by decide) dX4_empty_1 ?_
  refine P_X4_1_15 hE X dX4_empty_2 ?_
  have hf3 := obs hf1
  exact V_vret X rfl hf3 dX4_empty_5
def f4_empty (h : Hp) : Re := f4_empty_e  h
theorem f4_empty_ok (hE : IW E) {h : Hp} {q : Int32 × Hp} (hf0 : f4_empty  h = some q) : SMv l E 0 yX4_empty cX4_empty 1 [.ref (eA E 10)] h q.2 :=
  SMv.of (by decide +kernel) (Nat.le_of_ble_eq_true rfl) (fun p e s m args below meth c A X => f4_empty_e_ok hE X (r := q.1) (h' := q.2) hf0)
def f4_amountOf_B5 (k5 : Int64 → Int32 → Hp → Re) (x2 : Int64) (x4 : Int32) (h : Hp) : Re :=
  if 8 ≤ x4 then (some (x4, h)) else (if (lg_cmp x2 0) = 0 then (some (x4, h)) else (if (lg_cmp (x2 &&& 255) 33) < 0 then (some (0, h)) else (if (lg_cmp (x2 &&& 255) 126) ≤ 0 then ((some ((x2.toUInt64 >>> ((8 : Int32).toInt64.toUInt64 &&& Int64.toUInt64 63)).toInt64)).bind fun z5 => k5 z5 (x4 + 1) h) else (some (0, h)))))
set_option maxRecDepth 20000 in
set_option maxHeartbeats 4000000 in
theorem f4_amountOf_B5_ok (X : XC E RX4 cX4_amountOf 7 (some .int) A p s m args meth c) {k5 : Int64 → Int32 → Hp → Re} (hk5 : ∀ (x2 : Int64) (x4 : Int32) (h : Hp), k5 x2 x4 h = some (r, h') → VM E 7 A p l e 0 s m args below meth c (Qi E A r h') 5 [(2, .long x2), (4, .int x4)] [] h) {x2 : Int64} {x4 : Int32} {h : Hp} (hf0 : f4_amountOf_B5 k5 x2 x4 h = some (r, h')) : VM E 7 A p l e 0 s m args below meth c (Qi E A r h') 5 [(2, .long x2), (4, .int x4)] [] h := by
  unfold f4_amountOf_B5 at hf0
  have hf1 := hf0
  refine V_iload X 1 rfl dX4_amountOf_5 ?_
  refine V_bipush X (v := 8) (by decide) dX4_amountOf_7 ?_
  refine V_icmp_ge X (tgt := 56) (by decide) dX4_amountOf_9 (fun q9 => ?_) (fun q9 => ?_)
  · have hf2 := ift hf1 q9
    refine V_iload X 1 rfl dX4_amountOf_56 ?_
    exact V_iret X rfl hf2 dX4_amountOf_58
  · have hf2 := ife hf1 q9
    refine V_lload_n X 0 rfl dX4_amountOf_12 ?_
    refine V_lconst X (v := 0) (by decide) dX4_amountOf_13 ?_
    refine V_lcmp X dX4_amountOf_14 ?_
    refine V_if_eq X (tgt := 56) (by decide) dX4_amountOf_15 (fun q15 => ?_) (fun q15 => ?_)
    · have hf3 := ift hf2 q15
      refine V_iload X 1 rfl dX4_amountOf_56 ?_
      exact V_iret X rfl hf3 dX4_amountOf_58
    · have hf3 := ife hf2 q15
      refine V_lload_n X 0 rfl dX4_amountOf_18 ?_
      refine V_ldc2 X kc_X4_23 dX4_amountOf_19 ?_
      refine V_land X dX4_amountOf_22 ?_
      refine V_lstore X (by decide) rfl dX4_amountOf_23 ?_
      refine V_lload X 0 rfl dX4_amountOf_25 ?_
      refine V_ldc2 X kc_X4_29 dX4_amountOf_27 ?_
      refine V_lcmp X dX4_amountOf_30 ?_
      refine V_if_lt X (tgt := 43) (by decide) dX4_amountOf_31 (fun q31 => ?_) (fun q31 => ?_)
      · have hf4 := ift hf3 q31
        refine V_iconst X (v := 0) (by decide) dX4_amountOf_43 ?_
        exact V_iret X rfl hf4 dX4_amountOf_44
      · have hf4 := ife hf3 q31
        refine V_lload X 0 rfl dX4_amountOf_34 ?_
        refine V_ldc2 X kc_X4_31 dX4_amountOf_36 ?_
        refine V_lcmp X dX4_amountOf_39 ?_
        refine V_if_le X (tgt := 45) (by decide) dX4_amountOf_40 (fun q40 => ?_) (fun q40 => ?_)
        · have hf5 := ift hf4 q40
          refine V_lload_n X 1 rfl dX4_amountOf_45 ?_
          refine V_bipush X (v := 8) (by decide) dX4_amountOf_46 ?_
          refine V_lushr X dX4_amountOf_48 ?_
          refine V_lstore_n X (by decide) rfl dX4_amountOf_49 ?_
          have hf7 := obs hf5
          refine V_iinc X (v := _ + 1) 2 rfl (by rfl) (by decide) rfl dX4_amountOf_50 ?_
          refine V_goto X (tgt := 5) (by decide) dX4_amountOf_53 ?_
          exact V_sub [1, 0] rfl (hk5 _ _ _ hf7)
        · have hf5 := ife hf4 q40
          refine V_iconst X (v := 0) (by decide) dX4_amountOf_43 ?_
          exact V_iret X rfl hf5 dX4_amountOf_44
def f4_amountOf_L5 : Nat → Int64 → Int32 → Hp → Re
  | 0 => fun _ _ _ => none
  | n + 1 => f4_amountOf_B5 (f4_amountOf_L5 n)
theorem f4_amountOf_L5_s (n : Nat) (x2 : Int64) (x4 : Int32) (h : Hp) : f4_amountOf_L5 (n + 1) x2 x4 h = f4_amountOf_B5 (f4_amountOf_L5 n) x2 x4 h := rfl
theorem f4_amountOf_L5_ok (X : XC E RX4 cX4_amountOf 7 (some .int) A p s m args meth c) : ∀ (n : Nat) (x2 : Int64) (x4 : Int32) (h : Hp), f4_amountOf_L5 n x2 x4 h = some (r, h') → VM E 7 A p l e 0 s m args below meth c (Qi E A r h') 5 [(2, .long x2), (4, .int x4)] [] h := by
  intro n
  induction n with
  | zero =>
    intro x2 x4 h q
    have q : (none : Re) = some (r, h') := q
    cases q
  | succ n ih =>
    intro x2 x4 h q
    exact f4_amountOf_B5_ok X ih q
def f4_amountOf_e (x0 : Int64) (h : Hp) : Re :=
  f4_amountOf_L5 FU x0 0 h
set_option maxRecDepth 20000 in
set_option maxHeartbeats 4000000 in
theorem f4_amountOf_e_ok (X : XC E RX4 cX4_amountOf 7 (some .int) A p s m args meth c) {x0 : Int64} {h : Hp} (hf0 : f4_amountOf_e x0 h = some (r, h')) : VM E 7 A p l e 0 s m args below meth c (Qi E A r h') 0 [(0, .long x0)] [] h := by
  unfold f4_amountOf_e at hf0
  have hf1 := hf0
  refine V_lload_n X 0 rfl dX4_amountOf_0 ?_
  refine V_lstore_n X (by decide) rfl dX4_amountOf_1 ?_
  refine V_iconst X (v := 0) (by decide) dX4_amountOf_2 ?_
  refine V_istore X (by decide) rfl dX4_amountOf_3 ?_
  exact V_sub [1, 0] rfl (f4_amountOf_L5_ok X FU _ _ _ hf1)
def f4_amountOf (x0 : Int64) (h : Hp) : Re := f4_amountOf_e x0 h
theorem f4_amountOf_ok {x0 : Int64} {h : Hp} {q : Int32 × Hp} (hf0 : f4_amountOf x0 h = some q) : SMi l E 0 yX4_amountOf cX4_amountOf 7 (some .int) [.long x0] h q.1 q.2 :=
  SMi.of (by decide +kernel) (Nat.le_of_ble_eq_true rfl) (fun p e s m args below meth c A X => f4_amountOf_e_ok X (r := q.1) (h' := q.2) hf0)
def f4_addSign_e (x1 : Int32) (h : Hp) : Re :=
  if (h 10 1) < 0 then (some (0, h)) else (if (h 10 1) < 80 then (if inB (h 10 1) 80 = true then (some (hu h 11 (Int32.toNatClampNeg (h 10 1)) x1)).bind fun h4 => (some (hu h4 10 1 ((h4 10 1) + 1))).bind fun h6 => some (0, h6) else none) else (some (0, h)))
set_option maxRecDepth 20000 in
set_option maxHeartbeats 4000000 in
theorem f4_addSign_e_ok (hE : IW E) (X : XC E RX4 cX4_addSign 2 none A p s m args meth c) {x1 : Int32} {h : Hp} (hf0 : f4_addSign_e x1 h = some (r, h')) : VM E 2 A p l e 0 s m args below meth c (Qv E A h') 0 [(0, .ref (eA E 10)), (1, .int x1)] [] h := by
  unfold f4_addSign_e at hf0
  have hf1 := hf0
  refine V_aload_n X 0 rfl dX4_addSign_0 ?_
  refine G_X4_1_15 hE X dX4_addSign_1 ?_
  refine V_if_lt X (tgt := 19) (by decide) dX4_addSign_4 (fun q4 => ?_) (fun q4 => ?_)
  · have hf2 := ift hf1 q4
    exact V_vret X rfl hf2 dX4_addSign_19
  · have hf2 := ife hf1 q4
    refine V_aload_n X 0 rfl dX4_addSign_7 ?_
    refine G_X4_1_15 hE X dX4_addSign_8 ?_
    refine V_aload_n X 0 rfl dX4_addSign_11 ?_
    refine G_X4_0_11 hE X dX4_addSign_12 ?_
    refine V_alen (j := 0) (v := 80) X (AR_11 hE) rfl (by decide) dX4_addSign_15 ?_
    refine V_icmp_lt X (tgt := 20) (by decide) dX4_addSign_16 (fun q16 => ?_) (fun q16 => ?_)
    · have hf3 := ift hf2 q16
      refine V_aload_n X 0 rfl dX4_addSign_20 ?_
      refine G_X4_0_11 hE X dX4_addSign_21 ?_
      refine V_aload_n X 0 rfl dX4_addSign_24 ?_
      refine G_X4_1_15 hE X dX4_addSign_25 ?_
      refine V_iload_n X 1 rfl dX4_addSign_28 ?_
      obtain ⟨g103, hf103⟩ := ogd hf3
      refine V_iast X (AR_11 hE) g103 dX4_addSign_29 ?_
      have hf6 := obs hf103
      refine V_aload_n X 0 rfl dX4_addSign_30 ?_
      refine V_dup X rfl dX4_addSign_31 ?_
      refine G_X4_1_15 hE X dX4_addSign_32 ?_
      refine V_iconst X (v := 1) (by decide) dX4_addSign_35 ?_
      refine V_iadd X dX4_addSign_36 ?_
      refine P_X4_1_15 hE X dX4_addSign_37 ?_
      have hf8 := obs hf6
      exact V_vret X rfl hf8 dX4_addSign_40
    · have hf3 := ife hf2 q16
      exact V_vret X rfl hf3 dX4_addSign_19
def f4_addSign (x1 : Int32) (h : Hp) : Re := f4_addSign_e x1 h
theorem f4_addSign_ok (hE : IW E) {x1 : Int32} {h : Hp} {q : Int32 × Hp} (hf0 : f4_addSign x1 h = some q) : SMv l E 0 yX4_addSign cX4_addSign 2 [.ref (eA E 10), .int x1] h q.2 :=
  SMv.of (by decide +kernel) (Nat.le_of_ble_eq_true rfl) (fun p e s m args below meth c A X => f4_addSign_e_ok hE X (r := q.1) (h' := q.2) hf0)
def f4_append_B31 (k31 : Int64 → Int32 → Hp → Re) (x1 : Int64) (x4 : Int32) (h : Hp) : Re :=
  if x4 < 0 then (some (h 10 1, h)) else ((f4_addSign ((((x1.toUInt64 >>> ((8 * x4 : Int32).toInt64.toUInt64 &&& Int64.toUInt64 63)).toInt64) &&& 255).toInt32) h).bind fun c2 => k31 x1 (x4 + (-1)) c2.2)
set_option maxRecDepth 20000 in
set_option maxHeartbeats 4000000 in
theorem f4_append_B31_ok (hE : IW E) (X : XC E RX4 cX4_append 5 (some .int) A p s m args meth c) {k31 : Int64 → Int32 → Hp → Re} (hk31 : ∀ (x1 : Int64) (x4 : Int32) (h : Hp), k31 x1 x4 h = some (r, h') → VM E 5 A p l e 1 s m args below meth c (Qi E A r h') 31 [(0, .ref (eA E 10)), (1, .long x1), (4, .int x4)] [] h) {x1 : Int64} {x4 : Int32} {h : Hp} (hf0 : f4_append_B31 k31 x1 x4 h = some (r, h')) : VM E 5 A p l e 1 s m args below meth c (Qi E A r h') 31 [(0, .ref (eA E 10)), (1, .long x1), (4, .int x4)] [] h := by
  unfold f4_append_B31 at hf0
  have hf1 := hf0
  refine V_iload X 2 rfl dX4_append_31 ?_
  refine V_if_lt X (tgt := 58) (by decide) dX4_append_33 (fun q33 => ?_) (fun q33 => ?_)
  · have hf2 := ift hf1 q33
    refine V_aload_n X 0 rfl dX4_append_58 ?_
    refine G_X4_1_15 hE X dX4_append_59 ?_
    exact V_iret X rfl hf2 dX4_append_62
  · have hf2 := ife hf1 q33
    refine V_aload_n X 0 rfl dX4_append_36 ?_
    refine V_lload_n X 1 rfl dX4_append_37 ?_
    refine V_bipush X (v := 8) (by decide) dX4_append_38 ?_
    refine V_iload X 2 rfl dX4_append_40 ?_
    refine V_imul X dX4_append_42 ?_
    refine V_lushr X dX4_append_43 ?_
    refine V_ldc2 X kc_X4_23 dX4_append_44 ?_
    refine V_land X dX4_append_47 ?_
    refine V_l2i X dX4_append_48 ?_
    obtain ⟨c2, e_c2, hf4⟩ := obd hf2
    refine V_callVv X (OB_10 hE) rfl rfl (f4_addSign_ok hE e_c2) ys_X4_addSign yw_X4_addSign ml_X4_25 rfl rfl ⟨Nat.le_of_ble_eq_true rfl, Nat.le_of_ble_eq_true rfl⟩ ⟨Nat.zero_le _, Nat.zero_le _⟩ (Nat.le_of_ble_eq_true rfl) dX4_append_49 ?_
    refine V_iinc X (v := _ + (-1)) 2 rfl (by rfl) (by decide) rfl dX4_append_52 ?_
    refine V_goto X (tgt := 31) (by decide) dX4_append_55 ?_
    exact V_sub [1, 2, 0] rfl (hk31 _ _ _ hf4)
def f4_append_L31 : Nat → Int64 → Int32 → Hp → Re
  | 0 => fun _ _ _ => none
  | n + 1 => f4_append_B31 (f4_append_L31 n)
theorem f4_append_L31_s (n : Nat) (x1 : Int64) (x4 : Int32) (h : Hp) : f4_append_L31 (n + 1) x1 x4 h = f4_append_B31 (f4_append_L31 n) x1 x4 h := rfl
theorem f4_append_L31_ok (hE : IW E) (X : XC E RX4 cX4_append 5 (some .int) A p s m args meth c) : ∀ (n : Nat) (x1 : Int64) (x4 : Int32) (h : Hp), f4_append_L31 n x1 x4 h = some (r, h') → VM E 5 A p l e 1 s m args below meth c (Qi E A r h') 31 [(0, .ref (eA E 10)), (1, .long x1), (4, .int x4)] [] h := by
  intro n
  induction n with
  | zero =>
    intro x1 x4 h q
    have q : (none : Re) = some (r, h') := q
    cases q
  | succ n ih =>
    intro x1 x4 h q
    exact f4_append_B31_ok hE X ih q
def f4_append_e (x1 : Int64) (h : Hp) : Re :=
  (f4_amountOf x1 h).bind fun c1 => if c1.1 = 0 then (some ((-2), c1.2)) else (if ((c1.2 10 1) + c1.1) ≤ 80 then (f4_append_L31 FU x1 (c1.1 - 1) c1.2) else (some ((-4), c1.2)))
set_option maxRecDepth 20000 in
set_option maxHeartbeats 4000000 in
theorem f4_append_e_ok (hE : IW E) (X : XC E RX4 cX4_append 5 (some .int) A p s m args meth c) {x1 : Int64} {h : Hp} (hf0 : f4_append_e x1 h = some (r, h')) : VM E 5 A p l e 1 s m args below meth c (Qi E A r h') 0 [(0, .ref (eA E 10)), (1, .long x1)] [] h := by
  unfold f4_append_e at hf0
  have hf1 := hf0
  refine V_lload_n X 1 rfl dX4_append_0 ?_
  obtain ⟨c1, e_c1, hf3⟩ := obd hf1
  refine V_callSi X (f4_amountOf_ok e_c1) ys_X4_amountOf yw_X4_amountOf ml_X4_19 rfl rfl ⟨Nat.le_of_ble_eq_true rfl, Nat.le_of_ble_eq_true rfl⟩ ⟨Nat.zero_le _, Nat.zero_le _⟩ (Nat.le_of_ble_eq_true rfl) dX4_append_1 ?_
  refine V_istore_n X (by decide) rfl dX4_append_4 ?_
  refine V_iload_n X 0 rfl dX4_append_5 ?_
  refine V_if_ne X (tgt := 12) (by decide) dX4_append_6 (fun q6 => ?_) (fun q6 => ?_)
  · have hf4 := ife hf3 q6
    refine V_aload_n X 1 rfl dX4_append_12 ?_
    refine G_X4_1_15 hE X dX4_append_13 ?_
    refine V_iload_n X 0 rfl dX4_append_16 ?_
    refine V_iadd X dX4_append_17 ?_
    refine V_bipush X (v := 80) (by decide) dX4_append_18 ?_
    refine V_icmp_le X (tgt := 26) (by decide) dX4_append_20 (fun q20 => ?_) (fun q20 => ?_)
    · have hf5 := ift hf4 q20
      refine V_iload_n X 0 rfl dX4_append_26 ?_
      refine V_iconst X (v := 1) (by decide) dX4_append_27 ?_
      refine V_isub X dX4_append_28 ?_
      refine V_istore X (by decide) rfl dX4_append_29 ?_
      exact V_sub [2, 3, 0] rfl (f4_append_L31_ok hE X FU _ _ _ hf5)
    · have hf5 := ife hf4 q20
      refine V_bipush X (v := -4) (by decide) dX4_append_23 ?_
      exact V_iret X rfl hf5 dX4_append_25
  · have hf4 := ift hf3 q6
    refine V_bipush X (v := -2) (by decide) dX4_append_9 ?_
    exact V_iret X rfl hf4 dX4_append_11
def f4_append (x1 : Int64) (h : Hp) : Re := f4_append_e x1 h
theorem f4_append_ok (hE : IW E) {x1 : Int64} {h : Hp} {q : Int32 × Hp} (hf0 : f4_append x1 h = some q) : SMi l E 1 yX4_append cX4_append 5 (some .int) [.ref (eA E 10), .long x1] h q.1 q.2 :=
  SMi.of (by decide +kernel) (Nat.le_of_ble_eq_true rfl) (fun p e s m args below meth c A X => f4_append_e_ok hE X (r := q.1) (h' := q.2) hf0)
def f5_copyFrom_e (k : Nat) (k2 : Nat) (h : Hp) : Re :=
  if cpB 0 0 344 344 344 = true then (some (hf h (k + 1) (va_cpy (h (k2 + 1)) (h (k + 1)) (Int32.toNatClampNeg 0) (Int32.toNatClampNeg 0) (Int32.toNatClampNeg 344)))).bind fun h2 => some (0, h2) else none
set_option maxRecDepth 20000 in
set_option maxHeartbeats 4000000 in
theorem f5_copyFrom_e_ok {k : Nat} {k2 : Nat} (hk : SR E k) (hk2 : SR E k2) (X : XC E RX5 cX5_copyFrom 2 none A p s m args meth c) {h : Hp} (hf0 : f5_copyFrom_e k k2  h = some (r, h')) : VM E 2 A p l e 1 s m args below meth c (Qv E A h') 0 [(0, .ref (eA E k)), (1, .ref (eA E k2))] [] h := by
  unfold f5_copyFrom_e at hf0
  have hf1 := hf0
  refine V_aload_n X 1 rfl dX5_copyFrom_0 ?_
  refine G_X5_0_11 hk2 X dX5_copyFrom_1 ?_
  refine V_iconst X (v := 0) (by decide) dX5_copyFrom_4 ?_
  refine V_aload_n X 0 rfl dX5_copyFrom_5 ?_
  refine G_X5_0_11 hk X dX5_copyFrom_6 ?_
  refine V_iconst X (v := 0) (by decide) dX5_copyFrom_9 ?_
  refine V_sipush X (v := 344) (by decide) dX5_copyFrom_10 ?_
  obtain ⟨g101, hf101⟩ := ogd hf1
  obtain ⟨ga, gb, gc, gd, ge⟩ := cpB_of g101
  refine V_copyi X hk2.2 hk.2 cp_X5_26 cp_nat cp_stat cp_ini ga gb gc gd ge (by decide) (by decide) dX5_copyFrom_13 ?_
  have hf4 := obs hf101
  exact V_vret X rfl hf4 dX5_copyFrom_16
def f5_copyFrom (k : Nat) (k2 : Nat) (h : Hp) : Re := f5_copyFrom_e k k2  h
theorem f5_copyFrom_ok {k : Nat} {k2 : Nat} (hk : SR E k) (hk2 : SR E k2) {h : Hp} {q : Int32 × Hp} (hf0 : f5_copyFrom k k2  h = some q) : SMv l E 1 yX5_copyFrom cX5_copyFrom 2 [.ref (eA E k), .ref (eA E k2)] h q.2 :=
  SMv.of (by decide +kernel) (Nat.le_of_ble_eq_true rfl) (fun p e s m args below meth c A X => f5_copyFrom_e_ok hk hk2 X (r := q.1) (h' := q.2) hf0)
def f5_isSwept_B2 (k : Nat) (k2 : Int32 → Int32 → Hp → Re) (x1 : Int32) (x2 : Int32) (h : Hp) : Re :=
  if 4 ≤ x2 then (rz 0 h) else ((f5_number k 20 h).bind fun c2 => if c2.1 ≤ x2 then (rz 0 c2.2) else ((f1_quarterOfTurn x2 c2.2).bind fun c5 => if c5.1 = x1 then (rz 1 c5.2) else (k2 x1 (x2 + 1) c5.2)))
set_option maxRecDepth 20000 in
set_option maxHeartbeats 4000000 in
theorem f5_isSwept_B2_ok {k : Nat} (hk : SR E k) (X : XC E RX5 cX5_isSwept 3 (some .boolean) A p s m args meth c) {k2 : Int32 → Int32 → Hp → Re} (hk2 : ∀ (x1 : Int32) (x2 : Int32) (h : Hp), k2 x1 x2 h = some (r, h') → VM E 3 A p l e 1 s m args below meth c (Qi E A r h') 2 [(0, .ref (eA E k)), (1, .int x1), (2, .int x2)] [] h) {x1 : Int32} {x2 : Int32} {h : Hp} (hf0 : f5_isSwept_B2 k k2 x1 x2 h = some (r, h')) : VM E 3 A p l e 1 s m args below meth c (Qi E A r h') 2 [(0, .ref (eA E k)), (1, .int x1), (2, .int x2)] [] h := by
  unfold f5_isSwept_B2 at hf0
  have hf1 := hf0
  refine V_iload_n X 2 rfl dX5_isSwept_2 ?_
  refine V_iconst X (v := 4) (by decide) dX5_isSwept_3 ?_
  refine V_icmp_ge X (tgt := 33) (by decide) dX5_isSwept_4 (fun q4 => ?_) (fun q4 => ?_)
  · have hf2 := ift hf1 q4
    refine V_iconst X (v := 0) (by decide) dX5_isSwept_33 ?_
    exact V_zret X rfl hf2 dX5_isSwept_34
  · have hf2 := ife hf1 q4
    refine V_iload_n X 2 rfl dX5_isSwept_7 ?_
    refine V_aload_n X 0 rfl dX5_isSwept_8 ?_
    refine V_bipush X (v := 20) (by decide) dX5_isSwept_9 ?_
    obtain ⟨c2, e_c2, hf4⟩ := obd hf2
    refine V_callVi X hk.1 rfl rfl (f5_number_ok hk e_c2) ys_X5_number yw_X5_number ml_X5_22 rfl rfl ⟨Nat.le_of_ble_eq_true rfl, Nat.le_of_ble_eq_true rfl⟩ ⟨Nat.zero_le _, Nat.zero_le _⟩ (Nat.le_of_ble_eq_true rfl) dX5_isSwept_11 ?_
    refine V_icmp_ge X (tgt := 33) (by decide) dX5_isSwept_14 (fun q14 => ?_) (fun q14 => ?_)
    · have hf5 := ift hf4 q14
      refine V_iconst X (v := 0) (by decide) dX5_isSwept_33 ?_
      exact V_zret X rfl hf5 dX5_isSwept_34
    · have hf5 := ife hf4 q14
      refine V_iload_n X 2 rfl dX5_isSwept_17 ?_
      obtain ⟨c5, e_c5, hf7⟩ := obd hf5
      refine V_callSi X (f1_quarterOfTurn_ok e_c5) ys_X1_quarterOfTurn yw_X1_quarterOfTurn ml_X5_35 rfl rfl ⟨Nat.le_of_ble_eq_true rfl, Nat.le_of_ble_eq_true rfl⟩ ⟨Nat.zero_le _, Nat.zero_le _⟩ (Nat.le_of_ble_eq_true rfl) dX5_isSwept_18 ?_
      refine V_iload_n X 1 rfl dX5_isSwept_21 ?_
      refine V_icmp_ne X (tgt := 27) (by decide) dX5_isSwept_22 (fun q22 => ?_) (fun q22 => ?_)
      · have hf8 := ife hf7 q22
        refine V_iinc X (v := _ + 1) 2 rfl (by rfl) (by decide) rfl dX5_isSwept_27 ?_
        refine V_goto X (tgt := 2) (by decide) dX5_isSwept_30 ?_
        exact V_sub [1, 2, 0] rfl (hk2 _ _ _ hf8)
      · have hf8 := ift hf7 q22
        refine V_iconst X (v := 1) (by decide) dX5_isSwept_25 ?_
        exact V_zret X rfl hf8 dX5_isSwept_26
def f5_isSwept_L2 (k : Nat) : Nat → Int32 → Int32 → Hp → Re
  | 0 => fun _ _ _ => none
  | n + 1 => f5_isSwept_B2 k (f5_isSwept_L2 k n)
theorem f5_isSwept_L2_s (k : Nat) (n : Nat) (x1 : Int32) (x2 : Int32) (h : Hp) : f5_isSwept_L2 k (n + 1) x1 x2 h = f5_isSwept_B2 k (f5_isSwept_L2 k n) x1 x2 h := rfl
theorem f5_isSwept_L2_ok {k : Nat} (hk : SR E k) (X : XC E RX5 cX5_isSwept 3 (some .boolean) A p s m args meth c) : ∀ (n : Nat) (x1 : Int32) (x2 : Int32) (h : Hp), f5_isSwept_L2 k n x1 x2 h = some (r, h') → VM E 3 A p l e 1 s m args below meth c (Qi E A r h') 2 [(0, .ref (eA E k)), (1, .int x1), (2, .int x2)] [] h := by
  intro n
  induction n with
  | zero =>
    intro x1 x2 h q
    have q : (none : Re) = some (r, h') := q
    cases q
  | succ n ih =>
    intro x1 x2 h q
    exact f5_isSwept_B2_ok hk X ih q
def f5_isSwept_e (k : Nat) (x1 : Int32) (h : Hp) : Re :=
  f5_isSwept_L2 k FU x1 0 h
set_option maxRecDepth 20000 in
set_option maxHeartbeats 4000000 in
theorem f5_isSwept_e_ok {k : Nat} (hk : SR E k) (X : XC E RX5 cX5_isSwept 3 (some .boolean) A p s m args meth c) {x1 : Int32} {h : Hp} (hf0 : f5_isSwept_e k x1 h = some (r, h')) : VM E 3 A p l e 1 s m args below meth c (Qi E A r h') 0 [(0, .ref (eA E k)), (1, .int x1)] [] h := by
  unfold f5_isSwept_e at hf0
  have hf1 := hf0
  refine V_iconst X (v := 0) (by decide) dX5_isSwept_0 ?_
  refine V_istore_n X (by decide) rfl dX5_isSwept_1 ?_
  exact V_sub [1, 2, 0] rfl (f5_isSwept_L2_ok hk X FU _ _ _ hf1)
def f5_isSwept (k : Nat) (x1 : Int32) (h : Hp) : Re := f5_isSwept_e k x1 h
theorem f5_isSwept_ok {k : Nat} (hk : SR E k) {x1 : Int32} {h : Hp} {q : Int32 × Hp} (hf0 : f5_isSwept k x1 h = some q) : SMi l E 1 yX5_isSwept cX5_isSwept 3 (some .boolean) [.ref (eA E k), .int x1] h q.1 q.2 :=
  SMi.of (by decide +kernel) (Nat.le_of_ble_eq_true rfl) (fun p e s m args below meth c A X => f5_isSwept_e_ok hk X (r := q.1) (h' := q.2) hf0)
def f5_isMirrored_e (k : Nat) (x1 : Int32) (h : Hp) : Re :=
  (f5_patternPlace k x1 0 h).bind fun c1 => if c1.1 = 0 then (rz 0 c1.2) else (rz 1 c1.2)
set_option maxRecDepth 20000 in
set_option maxHeartbeats 4000000 in
theorem f5_isMirrored_e_ok {k : Nat} (hk : SR E k) (X : XC E RX5 cX5_isMirrored 2 (some .boolean) A p s m args meth c) {x1 : Int32} {h : Hp} (hf0 : f5_isMirrored_e k x1 h = some (r, h')) : VM E 2 A p l e 2 s m args below meth c (Qi E A r h') 0 [(0, .ref (eA E k)), (1, .int x1)] [] h := by
  unfold f5_isMirrored_e at hf0
  have hf1 := hf0
  refine V_aload_n X 0 rfl dX5_isMirrored_0 ?_
  refine V_iload_n X 1 rfl dX5_isMirrored_1 ?_
  refine V_iconst X (v := 0) (by decide) dX5_isMirrored_2 ?_
  obtain ⟨c1, e_c1, hf3⟩ := obd hf1
  refine V_callVi X hk.1 rfl rfl (f5_patternPlace_ok hk e_c1) ys_X5_patternPlace yw_X5_patternPlace ml_X5_40 rfl rfl ⟨Nat.le_of_ble_eq_true rfl, Nat.le_of_ble_eq_true rfl⟩ ⟨Nat.zero_le _, Nat.zero_le _⟩ (Nat.le_of_ble_eq_true rfl) dX5_isMirrored_3 ?_
  refine V_if_eq X (tgt := 13) (by decide) dX5_isMirrored_6 (fun q6 => ?_) (fun q6 => ?_)
  · have hf4 := ift hf3 q6
    refine V_iconst X (v := 0) (by decide) dX5_isMirrored_13 ?_
    exact V_zret X rfl hf4 dX5_isMirrored_14
  · have hf4 := ife hf3 q6
    refine V_iconst X (v := 1) (by decide) dX5_isMirrored_9 ?_
    refine V_goto X (tgt := 14) (by decide) dX5_isMirrored_10 ?_
    exact V_zret X rfl hf4 dX5_isMirrored_14
def f5_isMirrored (k : Nat) (x1 : Int32) (h : Hp) : Re := f5_isMirrored_e k x1 h
theorem f5_isMirrored_ok {k : Nat} (hk : SR E k) {x1 : Int32} {h : Hp} {q : Int32 × Hp} (hf0 : f5_isMirrored k x1 h = some q) : SMi l E 2 yX5_isMirrored cX5_isMirrored 2 (some .boolean) [.ref (eA E k), .int x1] h q.1 q.2 :=
  SMi.of (by decide +kernel) (Nat.le_of_ble_eq_true rfl) (fun p e s m args below meth c A X => f5_isMirrored_e_ok hk X (r := q.1) (h' := q.2) hf0)
def f5_missing_j42 (k : Nat) (y0 : Int32) (h : Hp) : Re :=
  (f5_setting k 0 h).bind fun c1 => some (if 0 < (c1.1 - y0) then (c1.1 - y0) else 0, c1.2)
set_option maxRecDepth 20000 in
set_option maxHeartbeats 4000000 in
theorem f5_missing_j42_ok {k : Nat} (hk : SR E k) (X : XC E RX5 cX5_missing 6 (some .int) A p s m args meth c) {y0 : Int32} {h : Hp} (hf0 : f5_missing_j42 k y0 h = some (r, h')) : VM E 6 A p l e 3 s m args below meth c (Qi E A r h') 42 [(0, .ref (eA E k))] [.int y0] h := by
  unfold f5_missing_j42 at hf0
  have hf1 := hf0
  refine V_istore X (by decide) rfl dX5_missing_42 ?_
  refine V_iconst X (v := 0) (by decide) dX5_missing_44 ?_
  refine V_aload_n X 1 rfl dX5_missing_45 ?_
  refine V_iconst X (v := 0) (by decide) dX5_missing_46 ?_
  obtain ⟨c1, e_c1, hf3⟩ := obd hf1
  refine V_callVi X hk.1 rfl rfl (f5_setting_ok hk e_c1) ys_X5_setting yw_X5_setting ml_X5_54 rfl rfl ⟨Nat.le_of_ble_eq_true rfl, Nat.le_of_ble_eq_true rfl⟩ ⟨Nat.zero_le _, Nat.zero_le _⟩ (Nat.le_of_ble_eq_true rfl) dX5_missing_47 ?_
  refine V_iload X 0 rfl dX5_missing_50 ?_
  refine V_isub X dX5_missing_52 ?_
  refine V_mmax X mm_X5_61 mm_max_st mm_ini mm_max_co (by decide) (by decide) ⟨Nat.zero_le _, Nat.zero_le _⟩ dX5_missing_53 ?_
  exact V_iret X rfl hf3 dX5_missing_56
def f5_missing_e (k : Nat) (x1 : Int32) (x2 : Int32) (x3 : Int32) (h : Hp) : Re :=
  (f5_wanted k x1 x2 x3 h).bind fun c1 => (f7_isColour c1.1 c1.2).bind fun c3 => if c3.1 = 0 then (some (0, c3.2)) else ((f5_colour k x1 x2 x3 c3.2).bind fun c6 => if c6.1 = c1.1 then ((f5_grains k x1 x2 x3 c6.2).bind fun c9 => f5_missing_j42 k c9.1 c9.2) else (f5_missing_j42 k 0 c6.2))
set_option maxRecDepth 20000 in
set_option maxHeartbeats 4000000 in
theorem f5_missing_e_ok {k : Nat} (hk : SR E k) (X : XC E RX5 cX5_missing 6 (some .int) A p s m args meth c) {x1 : Int32} {x2 : Int32} {x3 : Int32} {h : Hp} (hf0 : f5_missing_e k x1 x2 x3 h = some (r, h')) : VM E 6 A p l e 3 s m args below meth c (Qi E A r h') 0 [(0, .ref (eA E k)), (1, .int x1), (2, .int x2), (3, .int x3)] [] h := by
  unfold f5_missing_e at hf0
  have hf1 := hf0
  refine V_aload_n X 0 rfl dX5_missing_0 ?_
  refine V_iload_n X 1 rfl dX5_missing_1 ?_
  refine V_iload_n X 2 rfl dX5_missing_2 ?_
  refine V_iload_n X 3 rfl dX5_missing_3 ?_
  obtain ⟨c1, e_c1, hf3⟩ := obd hf1
  refine V_callVi X hk.1 rfl rfl (f5_wanted_ok hk e_c1) ys_X5_wanted yw_X5_wanted ml_X5_44 rfl rfl ⟨Nat.le_of_ble_eq_true rfl, Nat.le_of_ble_eq_true rfl⟩ ⟨Nat.zero_le _, Nat.zero_le _⟩ (Nat.le_of_ble_eq_true rfl) dX5_missing_4 ?_
  refine V_istore X (by decide) rfl dX5_missing_7 ?_
  refine V_iload X 0 rfl dX5_missing_9 ?_
  obtain ⟨c3, e_c3, hf5⟩ := obd hf3
  refine V_callSNi X (f7_isColour_ok e_c3) ys_X7_isColour yw_X7_isColour nl_X5_57 rfl rfl ⟨Nat.le_of_ble_eq_true rfl, Nat.le_of_ble_eq_true rfl⟩ ⟨Nat.zero_le _, Nat.zero_le _⟩ (Nat.le_of_ble_eq_true rfl) dX5_missing_11 ?_
  refine V_if_ne X (tgt := 19) (by decide) dX5_missing_14 (fun q14 => ?_) (fun q14 => ?_)
  · have hf6 := ife hf5 q14
    refine V_aload_n X 1 rfl dX5_missing_19 ?_
    refine V_iload_n X 2 rfl dX5_missing_20 ?_
    refine V_iload_n X 3 rfl dX5_missing_21 ?_
    refine V_iload_n X 4 rfl dX5_missing_22 ?_
    obtain ⟨c6, e_c6, hf8⟩ := obd hf6
    refine V_callVi X hk.1 rfl rfl (f5_colour_ok hk e_c6) ys_X5_colour yw_X5_colour ml_X5_51 rfl rfl ⟨Nat.le_of_ble_eq_true rfl, Nat.le_of_ble_eq_true rfl⟩ ⟨Nat.zero_le _, Nat.zero_le _⟩ (Nat.le_of_ble_eq_true rfl) dX5_missing_23 ?_
    refine V_iload X 0 rfl dX5_missing_26 ?_
    refine V_icmp_ne X (tgt := 41) (by decide) dX5_missing_28 (fun q28 => ?_) (fun q28 => ?_)
    · have hf9 := ife hf8 q28
      refine V_iconst X (v := 0) (by decide) dX5_missing_41 ?_
      exact V_sub [1] rfl (f5_missing_j42_ok hk X hf9)
    · have hf9 := ift hf8 q28
      refine V_aload_n X 1 rfl dX5_missing_31 ?_
      refine V_iload_n X 2 rfl dX5_missing_32 ?_
      refine V_iload_n X 3 rfl dX5_missing_33 ?_
      refine V_iload_n X 4 rfl dX5_missing_34 ?_
      obtain ⟨c9, e_c9, hf11⟩ := obd hf9
      refine V_callVi X hk.1 rfl rfl (f5_grains_ok hk e_c9) ys_X5_grains yw_X5_grains ml_X5_48 rfl rfl ⟨Nat.le_of_ble_eq_true rfl, Nat.le_of_ble_eq_true rfl⟩ ⟨Nat.zero_le _, Nat.zero_le _⟩ (Nat.le_of_ble_eq_true rfl) dX5_missing_35 ?_
      refine V_goto X (tgt := 42) (by decide) dX5_missing_38 ?_
      exact V_sub [1] rfl (f5_missing_j42_ok hk X hf11)
  · have hf6 := ift hf5 q14
    refine V_iconst X (v := 0) (by decide) dX5_missing_17 ?_
    exact V_iret X rfl hf6 dX5_missing_18
def f5_missing (k : Nat) (x1 : Int32) (x2 : Int32) (x3 : Int32) (h : Hp) : Re := f5_missing_e k x1 x2 x3 h
theorem f5_missing_ok {k : Nat} (hk : SR E k) {x1 : Int32} {x2 : Int32} {x3 : Int32} {h : Hp} {q : Int32 × Hp} (hf0 : f5_missing k x1 x2 x3 h = some q) : SMi l E 3 yX5_missing cX5_missing 6 (some .int) [.ref (eA E k), .int x1, .int x2, .int x3] h q.1 q.2 :=
  SMi.of (by decide +kernel) (Nat.le_of_ble_eq_true rfl) (fun p e s m args below meth c A X => f5_missing_e_ok hk X (r := q.1) (h' := q.2) hf0)
def f6_matches_e (x0 : Int32) (x1 : Int32) (h : Hp) : Re :=
  if x0 = (-1) then (rz 1 h) else (if x0 = x1 then (rz 1 h) else (rz 0 h))
set_option maxRecDepth 20000 in
set_option maxHeartbeats 4000000 in
theorem f6_matches_e_ok (X : XC E RX6 cX6_matches 2 (some .boolean) A p s m args meth c) {x0 : Int32} {x1 : Int32} {h : Hp} (hf0 : f6_matches_e x0 x1 h = some (r, h')) : VM E 2 A p l e 0 s m args below meth c (Qi E A r h') 0 [(0, .int x0), (1, .int x1)] [] h := by
  unfold f6_matches_e at hf0
  have hf1 := hf0
  refine V_iload_n X 0 rfl dX6_matches_0 ?_
  refine V_iconst X (v := -1) (by decide) dX6_matches_1 ?_
  refine V_icmp_eq X (tgt := 10) (by decide) dX6_matches_2 (fun q2 => ?_) (fun q2 => ?_)
  · have hf2 := ift hf1 q2
    refine V_iconst X (v := 1) (by decide) dX6_matches_10 ?_
    refine V_goto X (tgt := 15) (by decide) dX6_matches_11 ?_
    exact V_zret X rfl hf2 dX6_matches_15
  · have hf2 := ife hf1 q2
    refine V_iload_n X 0 rfl dX6_matches_5 ?_
    refine V_iload_n X 1 rfl dX6_matches_6 ?_
    refine V_icmp_ne X (tgt := 14) (by decide) dX6_matches_7 (fun q7 => ?_) (fun q7 => ?_)
    · have hf3 := ife hf2 q7
      refine V_iconst X (v := 0) (by decide) dX6_matches_14 ?_
      exact V_zret X rfl hf3 dX6_matches_15
    · have hf3 := ift hf2 q7
      refine V_iconst X (v := 1) (by decide) dX6_matches_10 ?_
      refine V_goto X (tgt := 15) (by decide) dX6_matches_11 ?_
      exact V_zret X rfl hf3 dX6_matches_15
def f6_matches (x0 : Int32) (x1 : Int32) (h : Hp) : Re := f6_matches_e x0 x1 h
theorem f6_matches_ok {x0 : Int32} {x1 : Int32} {h : Hp} {q : Int32 × Hp} (hf0 : f6_matches x0 x1 h = some q) : SMi l E 0 yX6_matches cX6_matches 2 (some .boolean) [.int x0, .int x1] h q.1 q.2 :=
  SMi.of (by decide +kernel) (Nat.le_of_ble_eq_true rfl) (fun p e s m args below meth c A X => f6_matches_e_ok X (r := q.1) (h' := q.2) hf0)
def f6_measured_j111 (y0 : Int32) (h : Hp) : Re :=
  (f7_bit y0 h).bind fun c1 => some (c1.1, c1.2)
set_option maxRecDepth 20000 in
set_option maxHeartbeats 4000000 in
theorem f6_measured_j111_ok (hE : IW E) (X : XC E RX6 cX6_measured 9 (some .int) A p s m args meth c) {y0 : Int32} {h : Hp} (hf0 : f6_measured_j111 y0 h = some (r, h')) : VM E 9 A p l e 4 s m args below meth c (Qi E A r h') 111 [] [.int y0] h := by
  unfold f6_measured_j111 at hf0
  have hf1 := hf0
  obtain ⟨c1, e_c1, hf3⟩ := obd hf1
  refine V_callSNi X (f7_bit_ok e_c1) ys_X7_bit yw_X7_bit nl_X6_35 rfl rfl ⟨Nat.le_of_ble_eq_true rfl, Nat.le_of_ble_eq_true rfl⟩ ⟨Nat.zero_le _, Nat.zero_le _⟩ (Nat.le_of_ble_eq_true rfl) dX6_measured_111 ?_
  exact V_iret X rfl hf3 dX6_measured_114
def f6_measured_j132 (y0 : Int32) (h : Hp) : Re :=
  (f7_bit y0 h).bind fun c1 => some (c1.1, c1.2)
set_option maxRecDepth 20000 in
set_option maxHeartbeats 4000000 in
theorem f6_measured_j132_ok (hE : IW E) (X : XC E RX6 cX6_measured 9 (some .int) A p s m args meth c) {y0 : Int32} {h : Hp} (hf0 : f6_measured_j132 y0 h = some (r, h')) : VM E 9 A p l e 4 s m args below meth c (Qi E A r h') 132 [] [.int y0] h := by
  unfold f6_measured_j132 at hf0
  have hf1 := hf0
  obtain ⟨c1, e_c1, hf3⟩ := obd hf1
  refine V_callSNi X (f7_bit_ok e_c1) ys_X7_bit yw_X7_bit nl_X6_35 rfl rfl ⟨Nat.le_of_ble_eq_true rfl, Nat.le_of_ble_eq_true rfl⟩ ⟨Nat.zero_le _, Nat.zero_le _⟩ (Nat.le_of_ble_eq_true rfl) dX6_measured_132 ?_
  exact V_iret X rfl hf3 dX6_measured_135
def f6_measured_j131 (h : Hp) : Re :=
  f6_measured_j132 0 h
set_option maxRecDepth 20000 in
set_option maxHeartbeats 4000000 in
theorem f6_measured_j131_ok (hE : IW E) (X : XC E RX6 cX6_measured 9 (some .int) A p s m args meth c) {h : Hp} (hf0 : f6_measured_j131  h = some (r, h')) : VM E 9 A p l e 4 s m args below meth c (Qi E A r h') 131 [] [] h := by
  unfold f6_measured_j131 at hf0
  have hf1 := hf0
  refine V_iconst X (v := 0) (by decide) dX6_measured_131 ?_
  exact V_sub [] rfl (f6_measured_j132_ok hE X hf1)
def f6_measured_j147 (y0 : Int32) (h : Hp) : Re :=
  (f7_bit y0 h).bind fun c1 => some (c1.1, c1.2)
set_option maxRecDepth 20000 in
set_option maxHeartbeats 4000000 in
theorem f6_measured_j147_ok (hE : IW E) (X : XC E RX6 cX6_measured 9 (some .int) A p s m args meth c) {y0 : Int32} {h : Hp} (hf0 : f6_measured_j147 y0 h = some (r, h')) : VM E 9 A p l e 4 s m args below meth c (Qi E A r h') 147 [] [.int y0] h := by
  unfold f6_measured_j147 at hf0
  have hf1 := hf0
  obtain ⟨c1, e_c1, hf3⟩ := obd hf1
  refine V_callSNi X (f7_bit_ok e_c1) ys_X7_bit yw_X7_bit nl_X6_35 rfl rfl ⟨Nat.le_of_ble_eq_true rfl, Nat.le_of_ble_eq_true rfl⟩ ⟨Nat.zero_le _, Nat.zero_le _⟩ (Nat.le_of_ble_eq_true rfl) dX6_measured_147 ?_
  exact V_iret X rfl hf3 dX6_measured_150
def f6_measured_e (x1 : Int32) (x2 : Int32) (x3 : Int32) (x4 : Int32) (x5 : Int32) (h : Hp) : Re :=
  (f5_colour 1 x3 x4 x5 h).bind fun c1 => (f5_wanted 1 x3 x4 x5 c1.2).bind fun c3 => (f5_isRight 1 x3 x4 x5 c3.2).bind fun c5 => if x1 = 0 then ((f6_matches x2 c1.1 c5.2).bind fun c9 => if c9.1 = 0 then (some (0, c9.2)) else ((f5_grains 1 x3 x4 x5 c9.2).bind fun c12 => some (c12.1, c12.2))) else if x1 = 1 then ((f7_bit c5.1 c5.2).bind fun c15 => some (c15.1, c15.2)) else if x1 = 2 then (if c5.1 = 0 then (f6_measured_j111 1 c5.2) else (f6_measured_j111 0 c5.2)) else if x1 = 3 then (if c3.1 = (-6) then (f6_measured_j131  c5.2) else (if c5.1 = 0 then (f6_measured_j132 1 c5.2) else (f6_measured_j131  c5.2))) else if x1 = 4 then (if c3.1 = x2 then (f6_measured_j147 1 c5.2) else (f6_measured_j147 0 c5.2)) else if x1 = 5 then ((f6_matches x2 c3.1 c5.2).bind fun c25 => if c25.1 = 0 then (some (0, c25.2)) else ((f5_missing 1 x3 x4 x5 c25.2).bind fun c28 => some (c28.1, c28.2))) else (some (0, c5.2))
set_option maxRecDepth 20000 in
set_option maxHeartbeats 4000000 in
theorem f6_measured_e_ok (hE : IW E) (X : XC E RX6 cX6_measured 9 (some .int) A p s m args meth c) {x1 : Int32} {x2 : Int32} {x3 : Int32} {x4 : Int32} {x5 : Int32} {h : Hp} (hf0 : f6_measured_e x1 x2 x3 x4 x5 h = some (r, h')) : VM E 9 A p l e 4 s m args below meth c (Qi E A r h') 0 [(0, .ref (eA E 1)), (1, .int x1), (2, .int x2), (3, .int x3), (4, .int x4), (5, .int x5)] [] h := by
  unfold f6_measured_e at hf0
  have hf1 := hf0
  refine V_aload_n X 0 rfl dX6_measured_0 ?_
  refine V_iload_n X 3 rfl dX6_measured_1 ?_
  refine V_iload X 4 rfl dX6_measured_2 ?_
  refine V_iload X 5 rfl dX6_measured_4 ?_
  obtain ⟨c1, e_c1, hf3⟩ := obd hf1
  refine V_callVi X (SR_1 hE).1 rfl rfl (f5_colour_ok (SR_1 hE) e_c1) ys_X5_colour yw_X5_colour ml_X6_19 rfl rfl ⟨Nat.le_of_ble_eq_true rfl, Nat.le_of_ble_eq_true rfl⟩ ⟨Nat.zero_le _, Nat.zero_le _⟩ (Nat.le_of_ble_eq_true rfl) dX6_measured_6 ?_
  refine V_istore X (by decide) rfl dX6_measured_9 ?_
  refine V_aload_n X 1 rfl dX6_measured_11 ?_
  refine V_iload_n X 4 rfl dX6_measured_12 ?_
  refine V_iload X 5 rfl dX6_measured_13 ?_
  refine V_iload X 6 rfl dX6_measured_15 ?_
  obtain ⟨c3, e_c3, hf5⟩ := obd hf3
  refine V_callVi X (SR_1 hE).1 rfl rfl (f5_wanted_ok (SR_1 hE) e_c3) ys_X5_wanted yw_X5_wanted ml_X6_25 rfl rfl ⟨Nat.le_of_ble_eq_true rfl, Nat.le_of_ble_eq_true rfl⟩ ⟨Nat.zero_le _, Nat.zero_le _⟩ (Nat.le_of_ble_eq_true rfl) dX6_measured_17 ?_
  refine V_istore X (by decide) rfl dX6_measured_20 ?_
  refine V_aload_n X 2 rfl dX6_measured_22 ?_
  refine V_iload_n X 5 rfl dX6_measured_23 ?_
  refine V_iload X 6 rfl dX6_measured_24 ?_
  refine V_iload X 7 rfl dX6_measured_26 ?_
  obtain ⟨c5, e_c5, hf7⟩ := obd hf5
  refine V_callVi X (SR_1 hE).1 rfl rfl (f5_isRight_ok (SR_1 hE) e_c5) ys_X5_isRight yw_X5_isRight ml_X6_28 rfl rfl ⟨Nat.le_of_ble_eq_true rfl, Nat.le_of_ble_eq_true rfl⟩ ⟨Nat.zero_le _, Nat.zero_le _⟩ (Nat.le_of_ble_eq_true rfl) dX6_measured_28 ?_
  refine V_istore X (by decide) rfl dX6_measured_31 ?_
  refine V_iload_n X 4 rfl dX6_measured_33 ?_
  rcases oif hf7 with ⟨q34_0, hf34_0⟩ | ⟨q34_0, hf34_0⟩
  · refine V_table X (tgt := 72) (off := 38) (by rw [q34_0]; decide) (by decide) (by decide) dX6_measured_34 ?_
    have hf9 := hf34_0
    refine V_iload_n X 5 rfl dX6_measured_72 ?_
    refine V_iload X 2 rfl dX6_measured_73 ?_
    obtain ⟨c9, e_c9, hf11⟩ := obd hf9
    refine V_callSi X (f6_matches_ok e_c9) ys_X6_matches yw_X6_matches ml_X6_9 rfl rfl ⟨Nat.le_of_ble_eq_true rfl, Nat.le_of_ble_eq_true rfl⟩ ⟨Nat.zero_le _, Nat.zero_le _⟩ (Nat.le_of_ble_eq_true rfl) dX6_measured_75 ?_
    refine V_if_eq X (tgt := 93) (by decide) dX6_measured_78 (fun q78 => ?_) (fun q78 => ?_)
    · have hf12 := ift hf11 q78
      refine V_iconst X (v := 0) (by decide) dX6_measured_93 ?_
      exact V_iret X rfl hf12 dX6_measured_94
    · have hf12 := ife hf11 q78
      refine V_aload_n X 3 rfl dX6_measured_81 ?_
      refine V_iload_n X 6 rfl dX6_measured_82 ?_
      refine V_iload X 7 rfl dX6_measured_83 ?_
      refine V_iload X 8 rfl dX6_measured_85 ?_
      obtain ⟨c12, e_c12, hf14⟩ := obd hf12
      refine V_callVi X (SR_1 hE).1 rfl rfl (f5_grains_ok (SR_1 hE) e_c12) ys_X5_grains yw_X5_grains ml_X6_32 rfl rfl ⟨Nat.le_of_ble_eq_true rfl, Nat.le_of_ble_eq_true rfl⟩ ⟨Nat.zero_le _, Nat.zero_le _⟩ (Nat.le_of_ble_eq_true rfl) dX6_measured_87 ?_
      refine V_goto X (tgt := 94) (by decide) dX6_measured_90 ?_
      exact V_iret X rfl hf14 dX6_measured_94
  rcases oif hf34_0 with ⟨q34_1, hf34_1⟩ | ⟨q34_1, hf34_1⟩
  · refine V_table X (tgt := 95) (off := 61) (by rw [q34_1]; decide) (by decide) (by decide) dX6_measured_34 ?_
    have hf15 := hf34_1
    refine V_iload X 0 rfl dX6_measured_95 ?_
    obtain ⟨c15, e_c15, hf17⟩ := obd hf15
    refine V_callSNi X (f7_bit_ok e_c15) ys_X7_bit yw_X7_bit nl_X6_35 rfl rfl ⟨Nat.le_of_ble_eq_true rfl, Nat.le_of_ble_eq_true rfl⟩ ⟨Nat.zero_le _, Nat.zero_le _⟩ (Nat.le_of_ble_eq_true rfl) dX6_measured_97 ?_
    exact V_iret X rfl hf17 dX6_measured_100
  rcases oif hf34_1 with ⟨q34_2, hf34_2⟩ | ⟨q34_2, hf34_2⟩
  · refine V_table X (tgt := 101) (off := 67) (by rw [q34_2]; decide) (by decide) (by decide) dX6_measured_34 ?_
    have hf18 := hf34_2
    refine V_iload X 0 rfl dX6_measured_101 ?_
    refine V_if_ne X (tgt := 110) (by decide) dX6_measured_103 (fun q103 => ?_) (fun q103 => ?_)
    · have hf19 := ife hf18 q103
      refine V_iconst X (v := 0) (by decide) dX6_measured_110 ?_
      exact V_sub [] rfl (f6_measured_j111_ok hE X hf19)
    · have hf19 := ift hf18 q103
      refine V_iconst X (v := 1) (by decide) dX6_measured_106 ?_
      refine V_goto X (tgt := 111) (by decide) dX6_measured_107 ?_
      exact V_sub [] rfl (f6_measured_j111_ok hE X hf19)
  rcases oif hf34_2 with ⟨q34_3, hf34_3⟩ | ⟨q34_3, hf34_3⟩
  · refine V_table X (tgt := 115) (off := 81) (by rw [q34_3]; decide) (by decide) (by decide) dX6_measured_34 ?_
    have hf20 := hf34_3
    refine V_iload X 1 rfl dX6_measured_115 ?_
    refine V_bipush X (v := -6) (by decide) dX6_measured_117 ?_
    refine V_icmp_eq X (tgt := 131) (by decide) dX6_measured_119 (fun q119 => ?_) (fun q119 => ?_)
    · have hf21 := ift hf20 q119
      exact V_sub [] rfl (f6_measured_j131_ok hE X hf21)
    · have hf21 := ife hf20 q119
      refine V_iload X 0 rfl dX6_measured_122 ?_
      refine V_if_ne X (tgt := 131) (by decide) dX6_measured_124 (fun q124 => ?_) (fun q124 => ?_)
      · have hf22 := ife hf21 q124
        exact V_sub [] rfl (f6_measured_j131_ok hE X hf22)
      · have hf22 := ift hf21 q124
        refine V_iconst X (v := 1) (by decide) dX6_measured_127 ?_
        refine V_goto X (tgt := 132) (by decide) dX6_measured_128 ?_
        exact V_sub [] rfl (f6_measured_j132_ok hE X hf22)
  rcases oif hf34_3 with ⟨q34_4, hf34_4⟩ | ⟨q34_4, hf34_4⟩
  · refine V_table X (tgt := 136) (off := 102) (by rw [q34_4]; decide) (by decide) (by decide) dX6_measured_34 ?_
    have hf23 := hf34_4
    refine V_iload X 1 rfl dX6_measured_136 ?_
    refine V_iload_n X 5 rfl dX6_measured_138 ?_
    refine V_icmp_ne X (tgt := 146) (by decide) dX6_measured_139 (fun q139 => ?_) (fun q139 => ?_)
    · have hf24 := ife hf23 q139
      refine V_iconst X (v := 0) (by decide) dX6_measured_146 ?_
      exact V_sub [] rfl (f6_measured_j147_ok hE X hf24)
    · have hf24 := ift hf23 q139
      refine V_iconst X (v := 1) (by decide) dX6_measured_142 ?_
      refine V_goto X (tgt := 147) (by decide) dX6_measured_143 ?_
      exact V_sub [] rfl (f6_measured_j147_ok hE X hf24)
  rcases oif hf34_4 with ⟨q34_5, hf34_5⟩ | ⟨q34_5, hf34_5⟩
  · refine V_table X (tgt := 151) (off := 117) (by rw [q34_5]; decide) (by decide) (by decide) dX6_measured_34 ?_
    have hf25 := hf34_5
    refine V_iload_n X 5 rfl dX6_measured_151 ?_
    refine V_iload X 1 rfl dX6_measured_152 ?_
    obtain ⟨c25, e_c25, hf27⟩ := obd hf25
    refine V_callSi X (f6_matches_ok e_c25) ys_X6_matches yw_X6_matches ml_X6_9 rfl rfl ⟨Nat.le_of_ble_eq_true rfl, Nat.le_of_ble_eq_true rfl⟩ ⟨Nat.zero_le _, Nat.zero_le _⟩ (Nat.le_of_ble_eq_true rfl) dX6_measured_154 ?_
    refine V_if_eq X (tgt := 172) (by decide) dX6_measured_157 (fun q157 => ?_) (fun q157 => ?_)
    · have hf28 := ift hf27 q157
      refine V_iconst X (v := 0) (by decide) dX6_measured_172 ?_
      exact V_iret X rfl hf28 dX6_measured_173
    · have hf28 := ife hf27 q157
      refine V_aload_n X 3 rfl dX6_measured_160 ?_
      refine V_iload_n X 6 rfl dX6_measured_161 ?_
      refine V_iload X 7 rfl dX6_measured_162 ?_
      refine V_iload X 8 rfl dX6_measured_164 ?_
      obtain ⟨c28, e_c28, hf30⟩ := obd hf28
      refine V_callVi X (SR_1 hE).1 rfl rfl (f5_missing_ok (SR_1 hE) e_c28) ys_X5_missing yw_X5_missing ml_X6_39 rfl rfl ⟨Nat.le_of_ble_eq_true rfl, Nat.le_of_ble_eq_true rfl⟩ ⟨Nat.zero_le _, Nat.zero_le _⟩ (Nat.le_of_ble_eq_true rfl) dX6_measured_166 ?_
      refine V_goto X (tgt := 173) (by decide) dX6_measured_169 ?_
      exact V_iret X rfl hf30 dX6_measured_173
  · skip
    refine V_table X (tgt := 174) (off := 140) (tsel_out (by have z0 := lv_neT q34_0 (show (0 : Int32).toInt = 0 by decide); have z1 := lv_neT q34_1 (show (1 : Int32).toInt = 1 by decide); have z2 := lv_neT q34_2 (show (2 : Int32).toInt = 2 by decide); have z3 := lv_neT q34_3 (show (3 : Int32).toInt = 3 by decide); have z4 := lv_neT q34_4 (show (4 : Int32).toInt = 4 by decide); have z5 := lv_neT q34_5 (show (5 : Int32).toInt = 5 by decide); omega)) (by decide) (by decide) dX6_measured_34 ?_
    have hf31 := hf34_5
    refine V_iconst X (v := 0) (by decide) dX6_measured_174 ?_
    exact V_iret X rfl hf31 dX6_measured_175
def f6_measured (x1 : Int32) (x2 : Int32) (x3 : Int32) (x4 : Int32) (x5 : Int32) (h : Hp) : Re := f6_measured_e x1 x2 x3 x4 x5 h
theorem f6_measured_ok (hE : IW E) {x1 : Int32} {x2 : Int32} {x3 : Int32} {x4 : Int32} {x5 : Int32} {h : Hp} {q : Int32 × Hp} (hf0 : f6_measured x1 x2 x3 x4 x5 h = some q) : SMi l E 4 yX6_measured cX6_measured 9 (some .int) [.ref (eA E 1), .int x1, .int x2, .int x3, .int x4, .int x5] h q.1 q.2 :=
  SMi.of (by decide +kernel) (Nat.le_of_ble_eq_true rfl) (fun p e s m args below meth c A X => f6_measured_e_ok hE X (r := q.1) (h' := q.2) hf0)
def f6_tally_B49 (k6 : Int32 → Int32 → Int32 → Int32 → Int32 → Int32 → Hp → Re) (k28 : Int32 → Int32 → Int32 → Int32 → Int32 → Int32 → Int32 → Hp → Re) (k49 : Int32 → Int32 → Int32 → Int32 → Int32 → Int32 → Int32 → Int32 → Hp → Re) (x1 : Int32) (x2 : Int32) (x3 : Int32) (x4 : Int32) (x5 : Int32) (x6 : Int32) (x7 : Int32) (x8 : Int32) (h : Hp) : Re :=
  if 8 ≤ x8 then (k28 x1 x2 x3 x4 x5 x6 (x7 + 1) h) else ((f6_measured x1 x2 x7 x6 x8 h).bind fun c2 => k49 x1 x2 x3 x4 (x5 + c2.1) x6 x7 (x8 + 1) c2.2)
set_option maxRecDepth 20000 in
set_option maxHeartbeats 4000000 in
theorem f6_tally_B49_ok (hE : IW E) (X : XC E RX6 cX6_tally 9 (some .int) A p s m args meth c) {k6 : Int32 → Int32 → Int32 → Int32 → Int32 → Int32 → Hp → Re} {k28 : Int32 → Int32 → Int32 → Int32 → Int32 → Int32 → Int32 → Hp → Re} {k49 : Int32 → Int32 → Int32 → Int32 → Int32 → Int32 → Int32 → Int32 → Hp → Re} (hk6 : ∀ (x1 : Int32) (x2 : Int32) (x3 : Int32) (x4 : Int32) (x5 : Int32) (x6 : Int32) (h : Hp), k6 x1 x2 x3 x4 x5 x6 h = some (r, h') → VM E 9 A p l e 5 s m args below meth c (Qi E A r h') 6 [(0, .ref (eA E 1)), (1, .int x1), (2, .int x2), (3, .int x3), (4, .int x4), (5, .int x5), (6, .int x6)] [] h) (hk28 : ∀ (x1 : Int32) (x2 : Int32) (x3 : Int32) (x4 : Int32) (x5 : Int32) (x6 : Int32) (x7 : Int32) (h : Hp), k28 x1 x2 x3 x4 x5 x6 x7 h = some (r, h') → VM E 9 A p l e 5 s m args below meth c (Qi E A r h') 28 [(0, .ref (eA E 1)), (1, .int x1), (2, .int x2), (3, .int x3), (4, .int x4), (5, .int x5), (6, .int x6), (7, .int x7)] [] h) (hk49 : ∀ (x1 : Int32) (x2 : Int32) (x3 : Int32) (x4 : Int32) (x5 : Int32) (x6 : Int32) (x7 : Int32) (x8 : Int32) (h : Hp), k49 x1 x2 x3 x4 x5 x6 x7 x8 h = some (r, h') → VM E 9 A p l e 5 s m args below meth c (Qi E A r h') 49 [(0, .ref (eA E 1)), (1, .int x1), (2, .int x2), (3, .int x3), (4, .int x4), (5, .int x5), (6, .int x6), (7, .int x7), (8, .int x8)] [] h) {x1 : Int32} {x2 : Int32} {x3 : Int32} {x4 : Int32} {x5 : Int32} {x6 : Int32} {x7 : Int32} {x8 : Int32} {h : Hp} (hf0 : f6_tally_B49 k6 k28 k49 x1 x2 x3 x4 x5 x6 x7 x8 h = some (r, h')) : VM E 9 A p l e 5 s m args below meth c (Qi E A r h') 49 [(0, .ref (eA E 1)), (1, .int x1), (2, .int x2), (3, .int x3), (4, .int x4), (5, .int x5), (6, .int x6), (7, .int x7), (8, .int x8)] [] h := by
  unfold f6_tally_B49 at hf0
  have hf1 := hf0
  refine V_iload X 8 rfl dX6_tally_49 ?_
  refine V_bipush X (v := 8) (by decide) dX6_tally_51 ?_
  refine V_icmp_ge X (tgt := 79) (by decide) dX6_tally_53 (fun q53 => ?_) (fun q53 => ?_)
  · have hf2 := ift hf1 q53
    refine V_iinc X (v := _ + 1) 7 rfl (by rfl) (by decide) rfl dX6_tally_79 ?_
    refine V_goto X (tgt := 28) (by decide) dX6_tally_82 ?_
    exact V_sub [1, 2, 3, 4, 5, 6, 7, 0] rfl (hk28 _ _ _ _ _ _ _ _ hf2)
  · have hf2 := ife hf1 q53
    refine V_iload X 5 rfl dX6_tally_56 ?_
    refine V_aload_n X 0 rfl dX6_tally_58 ?_
    refine V_iload_n X 1 rfl dX6_tally_59 ?_
    refine V_iload_n X 2 rfl dX6_tally_60 ?_
    refine V_iload X 7 rfl dX6_tally_61 ?_
    refine V_iload X 6 rfl dX6_tally_63 ?_
    refine V_iload X 8 rfl dX6_tally_65 ?_
    obtain ⟨c2, e_c2, hf4⟩ := obd hf2
    refine V_callSi X (f6_measured_ok hE e_c2) ys_X6_measured yw_X6_measured ml_X6_15 rfl rfl ⟨Nat.le_of_ble_eq_true rfl, Nat.le_of_ble_eq_true rfl⟩ ⟨Nat.zero_le _, Nat.zero_le _⟩ (Nat.le_of_ble_eq_true rfl) dX6_tally_67 ?_
    refine V_iadd X dX6_tally_70 ?_
    refine V_istore X (by decide) rfl dX6_tally_71 ?_
    refine V_iinc X (v := _ + 1) 8 rfl (by rfl) (by decide) rfl dX6_tally_73 ?_
    refine V_goto X (tgt := 49) (by decide) dX6_tally_76 ?_
    exact V_sub [2, 3, 4, 5, 6, 1, 7, 8, 0] rfl (hk49 _ _ _ _ _ _ _ _ _ hf4)
def f6_tally_L49 (k6 : Int32 → Int32 → Int32 → Int32 → Int32 → Int32 → Hp → Re) (k28 : Int32 → Int32 → Int32 → Int32 → Int32 → Int32 → Int32 → Hp → Re) : Nat → Int32 → Int32 → Int32 → Int32 → Int32 → Int32 → Int32 → Int32 → Hp → Re
  | 0 => fun _ _ _ _ _ _ _ _ _ => none
  | n + 1 => f6_tally_B49 k6 k28 (f6_tally_L49 k6 k28 n)
theorem f6_tally_L49_s (k6 : Int32 → Int32 → Int32 → Int32 → Int32 → Int32 → Hp → Re) (k28 : Int32 → Int32 → Int32 → Int32 → Int32 → Int32 → Int32 → Hp → Re) (n : Nat) (x1 : Int32) (x2 : Int32) (x3 : Int32) (x4 : Int32) (x5 : Int32) (x6 : Int32) (x7 : Int32) (x8 : Int32) (h : Hp) : f6_tally_L49 k6 k28 (n + 1) x1 x2 x3 x4 x5 x6 x7 x8 h = f6_tally_B49 k6 k28 (f6_tally_L49 k6 k28 n) x1 x2 x3 x4 x5 x6 x7 x8 h := rfl
theorem f6_tally_L49_ok (hE : IW E) (X : XC E RX6 cX6_tally 9 (some .int) A p s m args meth c) {k6 : Int32 → Int32 → Int32 → Int32 → Int32 → Int32 → Hp → Re} {k28 : Int32 → Int32 → Int32 → Int32 → Int32 → Int32 → Int32 → Hp → Re} (hk6 : ∀ (x1 : Int32) (x2 : Int32) (x3 : Int32) (x4 : Int32) (x5 : Int32) (x6 : Int32) (h : Hp), k6 x1 x2 x3 x4 x5 x6 h = some (r, h') → VM E 9 A p l e 5 s m args below meth c (Qi E A r h') 6 [(0, .ref (eA E 1)), (1, .int x1), (2, .int x2), (3, .int x3), (4, .int x4), (5, .int x5), (6, .int x6)] [] h) (hk28 : ∀ (x1 : Int32) (x2 : Int32) (x3 : Int32) (x4 : Int32) (x5 : Int32) (x6 : Int32) (x7 : Int32) (h : Hp), k28 x1 x2 x3 x4 x5 x6 x7 h = some (r, h') → VM E 9 A p l e 5 s m args below meth c (Qi E A r h') 28 [(0, .ref (eA E 1)), (1, .int x1), (2, .int x2), (3, .int x3), (4, .int x4), (5, .int x5), (6, .int x6), (7, .int x7)] [] h) : ∀ (n : Nat) (x1 : Int32) (x2 : Int32) (x3 : Int32) (x4 : Int32) (x5 : Int32) (x6 : Int32) (x7 : Int32) (x8 : Int32) (h : Hp), f6_tally_L49 k6 k28 n x1 x2 x3 x4 x5 x6 x7 x8 h = some (r, h') → VM E 9 A p l e 5 s m args below meth c (Qi E A r h') 49 [(0, .ref (eA E 1)), (1, .int x1), (2, .int x2), (3, .int x3), (4, .int x4), (5, .int x5), (6, .int x6), (7, .int x7), (8, .int x8)] [] h := by
  intro n
  induction n with
  | zero =>
    intro x1 x2 x3 x4 x5 x6 x7 x8 h q
    have q : (none : Re) = some (r, h') := q
    cases q
  | succ n ih =>
    intro x1 x2 x3 x4 x5 x6 x7 x8 h q
    exact f6_tally_B49_ok hE X hk6 hk28 ih q
def f6_tally_B28 (k6 : Int32 → Int32 → Int32 → Int32 → Int32 → Int32 → Hp → Re) (k28 : Int32 → Int32 → Int32 → Int32 → Int32 → Int32 → Int32 → Hp → Re) (x1 : Int32) (x2 : Int32) (x3 : Int32) (x4 : Int32) (x5 : Int32) (x6 : Int32) (x7 : Int32) (h : Hp) : Re :=
  if 4 ≤ x7 then (k6 x1 x2 x3 x4 x5 (x6 + 1) h) else ((f6_matches x3 x7 h).bind fun c2 => if c2.1 = 0 then (k28 x1 x2 x3 x4 x5 x6 (x7 + 1) c2.2) else (f6_tally_L49 k6 k28 FU x1 x2 x3 x4 x5 x6 x7 0 c2.2))
set_option maxRecDepth 20000 in
set_option maxHeartbeats 4000000 in
theorem f6_tally_B28_ok (hE : IW E) (X : XC E RX6 cX6_tally 9 (some .int) A p s m args meth c) {k6 : Int32 → Int32 → Int32 → Int32 → Int32 → Int32 → Hp → Re} {k28 : Int32 → Int32 → Int32 → Int32 → Int32 → Int32 → Int32 → Hp → Re} (hk6 : ∀ (x1 : Int32) (x2 : Int32) (x3 : Int32) (x4 : Int32) (x5 : Int32) (x6 : Int32) (h : Hp), k6 x1 x2 x3 x4 x5 x6 h = some (r, h') → VM E 9 A p l e 5 s m args below meth c (Qi E A r h') 6 [(0, .ref (eA E 1)), (1, .int x1), (2, .int x2), (3, .int x3), (4, .int x4), (5, .int x5), (6, .int x6)] [] h) (hk28 : ∀ (x1 : Int32) (x2 : Int32) (x3 : Int32) (x4 : Int32) (x5 : Int32) (x6 : Int32) (x7 : Int32) (h : Hp), k28 x1 x2 x3 x4 x5 x6 x7 h = some (r, h') → VM E 9 A p l e 5 s m args below meth c (Qi E A r h') 28 [(0, .ref (eA E 1)), (1, .int x1), (2, .int x2), (3, .int x3), (4, .int x4), (5, .int x5), (6, .int x6), (7, .int x7)] [] h) {x1 : Int32} {x2 : Int32} {x3 : Int32} {x4 : Int32} {x5 : Int32} {x6 : Int32} {x7 : Int32} {h : Hp} (hf0 : f6_tally_B28 k6 k28 x1 x2 x3 x4 x5 x6 x7 h = some (r, h')) : VM E 9 A p l e 5 s m args below meth c (Qi E A r h') 28 [(0, .ref (eA E 1)), (1, .int x1), (2, .int x2), (3, .int x3), (4, .int x4), (5, .int x5), (6, .int x6), (7, .int x7)] [] h := by
  unfold f6_tally_B28 at hf0
  have hf1 := hf0
  refine V_iload X 7 rfl dX6_tally_28 ?_
  refine V_iconst X (v := 4) (by decide) dX6_tally_30 ?_
  refine V_icmp_ge X (tgt := 85) (by decide) dX6_tally_31 (fun q31 => ?_) (fun q31 => ?_)
  · have hf2 := ift hf1 q31
    refine V_iinc X (v := _ + 1) 6 rfl (by rfl) (by decide) rfl dX6_tally_85 ?_
    refine V_goto X (tgt := 6) (by decide) dX6_tally_88 ?_
    exact V_sub [1, 2, 3, 4, 5, 6, 0] rfl (hk6 _ _ _ _ _ _ _ hf2)
  · have hf2 := ife hf1 q31
    refine V_iload_n X 3 rfl dX6_tally_34 ?_
    refine V_iload X 7 rfl dX6_tally_35 ?_
    obtain ⟨c2, e_c2, hf4⟩ := obd hf2
    refine V_callSi X (f6_matches_ok e_c2) ys_X6_matches yw_X6_matches ml_X6_9 rfl rfl ⟨Nat.le_of_ble_eq_true rfl, Nat.le_of_ble_eq_true rfl⟩ ⟨Nat.zero_le _, Nat.zero_le _⟩ (Nat.le_of_ble_eq_true rfl) dX6_tally_37 ?_
    refine V_if_ne X (tgt := 46) (by decide) dX6_tally_40 (fun q40 => ?_) (fun q40 => ?_)
    · have hf5 := ife hf4 q40
      refine V_iconst X (v := 0) (by decide) dX6_tally_46 ?_
      refine V_istore X (by decide) rfl dX6_tally_47 ?_
      exact V_sub [1, 2, 3, 4, 5, 6, 7, 8, 0] rfl (f6_tally_L49_ok hE X hk6 hk28 FU _ _ _ _ _ _ _ _ _ hf5)
    · have hf5 := ift hf4 q40
      refine V_goto X (tgt := 79) (by decide) dX6_tally_43 ?_
      refine V_iinc X (v := _ + 1) 7 rfl (by rfl) (by decide) rfl dX6_tally_79 ?_
      refine V_goto X (tgt := 28) (by decide) dX6_tally_82 ?_
      exact V_sub [1, 2, 3, 4, 5, 6, 7, 0] rfl (hk28 _ _ _ _ _ _ _ _ hf5)
def f6_tally_L28 (k6 : Int32 → Int32 → Int32 → Int32 → Int32 → Int32 → Hp → Re) : Nat → Int32 → Int32 → Int32 → Int32 → Int32 → Int32 → Int32 → Hp → Re
  | 0 => fun _ _ _ _ _ _ _ _ => none
  | n + 1 => f6_tally_B28 k6 (f6_tally_L28 k6 n)
theorem f6_tally_L28_s (k6 : Int32 → Int32 → Int32 → Int32 → Int32 → Int32 → Hp → Re) (n : Nat) (x1 : Int32) (x2 : Int32) (x3 : Int32) (x4 : Int32) (x5 : Int32) (x6 : Int32) (x7 : Int32) (h : Hp) : f6_tally_L28 k6 (n + 1) x1 x2 x3 x4 x5 x6 x7 h = f6_tally_B28 k6 (f6_tally_L28 k6 n) x1 x2 x3 x4 x5 x6 x7 h := rfl
theorem f6_tally_L28_ok (hE : IW E) (X : XC E RX6 cX6_tally 9 (some .int) A p s m args meth c) {k6 : Int32 → Int32 → Int32 → Int32 → Int32 → Int32 → Hp → Re} (hk6 : ∀ (x1 : Int32) (x2 : Int32) (x3 : Int32) (x4 : Int32) (x5 : Int32) (x6 : Int32) (h : Hp), k6 x1 x2 x3 x4 x5 x6 h = some (r, h') → VM E 9 A p l e 5 s m args below meth c (Qi E A r h') 6 [(0, .ref (eA E 1)), (1, .int x1), (2, .int x2), (3, .int x3), (4, .int x4), (5, .int x5), (6, .int x6)] [] h) : ∀ (n : Nat) (x1 : Int32) (x2 : Int32) (x3 : Int32) (x4 : Int32) (x5 : Int32) (x6 : Int32) (x7 : Int32) (h : Hp), f6_tally_L28 k6 n x1 x2 x3 x4 x5 x6 x7 h = some (r, h') → VM E 9 A p l e 5 s m args below meth c (Qi E A r h') 28 [(0, .ref (eA E 1)), (1, .int x1), (2, .int x2), (3, .int x3), (4, .int x4), (5, .int x5), (6, .int x6), (7, .int x7)] [] h := by
  intro n
  induction n with
  | zero =>
    intro x1 x2 x3 x4 x5 x6 x7 h q
    have q : (none : Re) = some (r, h') := q
    cases q
  | succ n ih =>
    intro x1 x2 x3 x4 x5 x6 x7 h q
    exact f6_tally_B28_ok hE X hk6 ih q
def f6_tally_B6 (k6 : Int32 → Int32 → Int32 → Int32 → Int32 → Int32 → Hp → Re) (x1 : Int32) (x2 : Int32) (x3 : Int32) (x4 : Int32) (x5 : Int32) (x6 : Int32) (h : Hp) : Re :=
  if 5 ≤ x6 then (some (x5, h)) else ((f6_matches x4 x6 h).bind fun c2 => if c2.1 = 0 then (k6 x1 x2 x3 x4 x5 (x6 + 1) c2.2) else (f6_tally_L28 k6 FU x1 x2 x3 x4 x5 x6 0 c2.2))
set_option maxRecDepth 20000 in
set_option maxHeartbeats 4000000 in
theorem f6_tally_B6_ok (hE : IW E) (X : XC E RX6 cX6_tally 9 (some .int) A p s m args meth c) {k6 : Int32 → Int32 → Int32 → Int32 → Int32 → Int32 → Hp → Re} (hk6 : ∀ (x1 : Int32) (x2 : Int32) (x3 : Int32) (x4 : Int32) (x5 : Int32) (x6 : Int32) (h : Hp), k6 x1 x2 x3 x4 x5 x6 h = some (r, h') → VM E 9 A p l e 5 s m args below meth c (Qi E A r h') 6 [(0, .ref (eA E 1)), (1, .int x1), (2, .int x2), (3, .int x3), (4, .int x4), (5, .int x5), (6, .int x6)] [] h) {x1 : Int32} {x2 : Int32} {x3 : Int32} {x4 : Int32} {x5 : Int32} {x6 : Int32} {h : Hp} (hf0 : f6_tally_B6 k6 x1 x2 x3 x4 x5 x6 h = some (r, h')) : VM E 9 A p l e 5 s m args below meth c (Qi E A r h') 6 [(0, .ref (eA E 1)), (1, .int x1), (2, .int x2), (3, .int x3), (4, .int x4), (5, .int x5), (6, .int x6)] [] h := by
  unfold f6_tally_B6 at hf0
  have hf1 := hf0
  refine V_iload X 6 rfl dX6_tally_6 ?_
  refine V_iconst X (v := 5) (by decide) dX6_tally_8 ?_
  refine V_icmp_ge X (tgt := 91) (by decide) dX6_tally_9 (fun q9 => ?_) (fun q9 => ?_)
  · have hf2 := ift hf1 q9
    refine V_iload X 5 rfl dX6_tally_91 ?_
    exact V_iret X rfl hf2 dX6_tally_93
  · have hf2 := ife hf1 q9
    refine V_iload X 4 rfl dX6_tally_12 ?_
    refine V_iload X 6 rfl dX6_tally_14 ?_
    obtain ⟨c2, e_c2, hf4⟩ := obd hf2
    refine V_callSi X (f6_matches_ok e_c2) ys_X6_matches yw_X6_matches ml_X6_9 rfl rfl ⟨Nat.le_of_ble_eq_true rfl, Nat.le_of_ble_eq_true rfl⟩ ⟨Nat.zero_le _, Nat.zero_le _⟩ (Nat.le_of_ble_eq_true rfl) dX6_tally_16 ?_
    refine V_if_ne X (tgt := 25) (by decide) dX6_tally_19 (fun q19 => ?_) (fun q19 => ?_)
    · have hf5 := ife hf4 q19
      refine V_iconst X (v := 0) (by decide) dX6_tally_25 ?_
      refine V_istore X (by decide) rfl dX6_tally_26 ?_
      exact V_sub [1, 2, 3, 4, 5, 6, 7, 0] rfl (f6_tally_L28_ok hE X hk6 FU _ _ _ _ _ _ _ _ hf5)
    · have hf5 := ift hf4 q19
      refine V_goto X (tgt := 85) (by decide) dX6_tally_22 ?_
      refine V_iinc X (v := _ + 1) 6 rfl (by rfl) (by decide) rfl dX6_tally_85 ?_
      refine V_goto X (tgt := 6) (by decide) dX6_tally_88 ?_
      exact V_sub [1, 2, 3, 4, 5, 6, 0] rfl (hk6 _ _ _ _ _ _ _ hf5)
def f6_tally_L6 : Nat → Int32 → Int32 → Int32 → Int32 → Int32 → Int32 → Hp → Re
  | 0 => fun _ _ _ _ _ _ _ => none
  | n + 1 => f6_tally_B6 (f6_tally_L6 n)
theorem f6_tally_L6_s (n : Nat) (x1 : Int32) (x2 : Int32) (x3 : Int32) (x4 : Int32) (x5 : Int32) (x6 : Int32) (h : Hp) : f6_tally_L6 (n + 1) x1 x2 x3 x4 x5 x6 h = f6_tally_B6 (f6_tally_L6 n) x1 x2 x3 x4 x5 x6 h := rfl
theorem f6_tally_L6_ok (hE : IW E) (X : XC E RX6 cX6_tally 9 (some .int) A p s m args meth c) : ∀ (n : Nat) (x1 : Int32) (x2 : Int32) (x3 : Int32) (x4 : Int32) (x5 : Int32) (x6 : Int32) (h : Hp), f6_tally_L6 n x1 x2 x3 x4 x5 x6 h = some (r, h') → VM E 9 A p l e 5 s m args below meth c (Qi E A r h') 6 [(0, .ref (eA E 1)), (1, .int x1), (2, .int x2), (3, .int x3), (4, .int x4), (5, .int x5), (6, .int x6)] [] h := by
  intro n
  induction n with
  | zero =>
    intro x1 x2 x3 x4 x5 x6 h q
    have q : (none : Re) = some (r, h') := q
    cases q
  | succ n ih =>
    intro x1 x2 x3 x4 x5 x6 h q
    exact f6_tally_B6_ok hE X ih q
def f6_tally_e (x1 : Int32) (x2 : Int32) (x3 : Int32) (x4 : Int32) (h : Hp) : Re :=
  f6_tally_L6 FU x1 x2 x3 x4 0 0 h
set_option maxRecDepth 20000 in
set_option maxHeartbeats 4000000 in
theorem f6_tally_e_ok (hE : IW E) (X : XC E RX6 cX6_tally 9 (some .int) A p s m args meth c) {x1 : Int32} {x2 : Int32} {x3 : Int32} {x4 : Int32} {h : Hp} (hf0 : f6_tally_e x1 x2 x3 x4 h = some (r, h')) : VM E 9 A p l e 5 s m args below meth c (Qi E A r h') 0 [(0, .ref (eA E 1)), (1, .int x1), (2, .int x2), (3, .int x3), (4, .int x4)] [] h := by
  unfold f6_tally_e at hf0
  have hf1 := hf0
  refine V_iconst X (v := 0) (by decide) dX6_tally_0 ?_
  refine V_istore X (by decide) rfl dX6_tally_1 ?_
  refine V_iconst X (v := 0) (by decide) dX6_tally_3 ?_
  refine V_istore X (by decide) rfl dX6_tally_4 ?_
  exact V_sub [2, 3, 4, 5, 6, 1, 0] rfl (f6_tally_L6_ok hE X FU _ _ _ _ _ _ _ hf1)
def f6_tally (x1 : Int32) (x2 : Int32) (x3 : Int32) (x4 : Int32) (h : Hp) : Re := f6_tally_e x1 x2 x3 x4 h
theorem f6_tally_ok (hE : IW E) {x1 : Int32} {x2 : Int32} {x3 : Int32} {x4 : Int32} {h : Hp} {q : Int32 × Hp} (hf0 : f6_tally x1 x2 x3 x4 h = some q) : SMi l E 5 yX6_tally cX6_tally 9 (some .int) [.ref (eA E 1), .int x1, .int x2, .int x3, .int x4] h q.1 q.2 :=
  SMi.of (by decide +kernel) (Nat.le_of_ble_eq_true rfl) (fun p e s m args below meth c A X => f6_tally_e_ok hE X (r := q.1) (h' := q.2) hf0)
def f6_wholeRings_B4 (k4 : Int32 → Int32 → Hp → Re) (x1 : Int32) (x2 : Int32) (h : Hp) : Re :=
  if 5 ≤ x2 then (some (x1, h)) else ((f6_isWhole x2 h).bind fun c2 => if c2.1 = 0 then (k4 x1 (x2 + 1) c2.2) else ((some (x1 ||| ((1 : Int32) <<< (x2 &&& 31)) : Int32)).bind fun z5 => k4 z5 (x2 + 1) c2.2))
set_option maxRecDepth 20000 in
set_option maxHeartbeats 4000000 in
theorem f6_wholeRings_B4_ok (hE : IW E) (X : XC E RX6 cX6_wholeRings 3 (some .int) A p s m args meth c) {k4 : Int32 → Int32 → Hp → Re} (hk4 : ∀ (x1 : Int32) (x2 : Int32) (h : Hp), k4 x1 x2 h = some (r, h') → VM E 3 A p l e 5 s m args below meth c (Qi E A r h') 4 [(0, .ref (eA E 1)), (1, .int x1), (2, .int x2)] [] h) {x1 : Int32} {x2 : Int32} {h : Hp} (hf0 : f6_wholeRings_B4 k4 x1 x2 h = some (r, h')) : VM E 3 A p l e 5 s m args below meth c (Qi E A r h') 4 [(0, .ref (eA E 1)), (1, .int x1), (2, .int x2)] [] h := by
  unfold f6_wholeRings_B4 at hf0
  have hf1 := hf0
  refine V_iload_n X 2 rfl dX6_wholeRings_4 ?_
  refine V_iconst X (v := 5) (by decide) dX6_wholeRings_5 ?_
  refine V_icmp_ge X (tgt := 29) (by decide) dX6_wholeRings_6 (fun q6 => ?_) (fun q6 => ?_)
  · have hf2 := ift hf1 q6
    refine V_iload_n X 1 rfl dX6_wholeRings_29 ?_
    exact V_iret X rfl hf2 dX6_wholeRings_30
  · have hf2 := ife hf1 q6
    refine V_aload_n X 0 rfl dX6_wholeRings_9 ?_
    refine V_iload_n X 2 rfl dX6_wholeRings_10 ?_
    obtain ⟨c2, e_c2, hf4⟩ := obd hf2
    refine V_callSi X (f6_isWhole_ok hE e_c2) ys_X6_isWhole yw_X6_isWhole ml_X6_42 rfl rfl ⟨Nat.le_of_ble_eq_true rfl, Nat.le_of_ble_eq_true rfl⟩ ⟨Nat.zero_le _, Nat.zero_le _⟩ (Nat.le_of_ble_eq_true rfl) dX6_wholeRings_11 ?_
    refine V_if_eq X (tgt := 23) (by decide) dX6_wholeRings_14 (fun q14 => ?_) (fun q14 => ?_)
    · have hf5 := ift hf4 q14
      refine V_iinc X (v := _ + 1) 2 rfl (by rfl) (by decide) rfl dX6_wholeRings_23 ?_
      refine V_goto X (tgt := 4) (by decide) dX6_wholeRings_26 ?_
      exact V_sub [1, 2, 0] rfl (hk4 _ _ _ hf5)
    · have hf5 := ife hf4 q14
      refine V_iload_n X 1 rfl dX6_wholeRings_17 ?_
      refine V_iconst X (v := 1) (by decide) dX6_wholeRings_18 ?_
      refine V_iload_n X 2 rfl dX6_wholeRings_19 ?_
      refine V_ishl X dX6_wholeRings_20 ?_
      refine V_ior X dX6_wholeRings_21 ?_
      refine V_istore_n X (by decide) rfl dX6_wholeRings_22 ?_
      have hf7 := obs hf5
      refine V_iinc X (v := _ + 1) 2 rfl (by rfl) (by decide) rfl dX6_wholeRings_23 ?_
      refine V_goto X (tgt := 4) (by decide) dX6_wholeRings_26 ?_
      exact V_sub [2, 1, 0] rfl (hk4 _ _ _ hf7)
def f6_wholeRings_L4 : Nat → Int32 → Int32 → Hp → Re
  | 0 => fun _ _ _ => none
  | n + 1 => f6_wholeRings_B4 (f6_wholeRings_L4 n)
theorem f6_wholeRings_L4_s (n : Nat) (x1 : Int32) (x2 : Int32) (h : Hp) : f6_wholeRings_L4 (n + 1) x1 x2 h = f6_wholeRings_B4 (f6_wholeRings_L4 n) x1 x2 h := rfl
theorem f6_wholeRings_L4_ok (hE : IW E) (X : XC E RX6 cX6_wholeRings 3 (some .int) A p s m args meth c) : ∀ (n : Nat) (x1 : Int32) (x2 : Int32) (h : Hp), f6_wholeRings_L4 n x1 x2 h = some (r, h') → VM E 3 A p l e 5 s m args below meth c (Qi E A r h') 4 [(0, .ref (eA E 1)), (1, .int x1), (2, .int x2)] [] h := by
  intro n
  induction n with
  | zero =>
    intro x1 x2 h q
    have q : (none : Re) = some (r, h') := q
    cases q
  | succ n ih =>
    intro x1 x2 h q
    exact f6_wholeRings_B4_ok hE X ih q
def f6_wholeRings_e (h : Hp) : Re :=
  f6_wholeRings_L4 FU 0 0 h
set_option maxRecDepth 20000 in
set_option maxHeartbeats 4000000 in
theorem f6_wholeRings_e_ok (hE : IW E) (X : XC E RX6 cX6_wholeRings 3 (some .int) A p s m args meth c) {h : Hp} (hf0 : f6_wholeRings_e  h = some (r, h')) : VM E 3 A p l e 5 s m args below meth c (Qi E A r h') 0 [(0, .ref (eA E 1))] [] h := by
  unfold f6_wholeRings_e at hf0
  have hf1 := hf0
  refine V_iconst X (v := 0) (by decide) dX6_wholeRings_0 ?_
  refine V_istore_n X (by decide) rfl dX6_wholeRings_1 ?_
  refine V_iconst X (v := 0) (by decide) dX6_wholeRings_2 ?_
  refine V_istore_n X (by decide) rfl dX6_wholeRings_3 ?_
  exact V_sub [2, 1, 0] rfl (f6_wholeRings_L4_ok hE X FU _ _ _ hf1)
def f6_wholeRings (h : Hp) : Re := f6_wholeRings_e  h
theorem f6_wholeRings_ok (hE : IW E) {h : Hp} {q : Int32 × Hp} (hf0 : f6_wholeRings  h = some q) : SMi l E 5 yX6_wholeRings cX6_wholeRings 3 (some .int) [.ref (eA E 1)] h q.1 q.2 :=
  SMi.of (by decide +kernel) (Nat.le_of_ble_eq_true rfl) (fun p e s m args below meth c A X => f6_wholeRings_e_ok hE X (r := q.1) (h' := q.2) hf0)
def f6_isUnlike_B11 (k11 : Int32 → Int32 → Int32 → Int32 → Hp → Re) (x1 : Int32) (x2 : Int32) (x3 : Int32) (x4 : Int32) (h : Hp) : Re :=
  if 4 ≤ x4 then (rz 0 h) else ((f5_patternPlace 1 x4 x2 h).bind fun c2 => (f5_colour 1 x4 x1 c2.1 c2.2).bind fun c4 => if c4.1 = x3 then (k11 x1 x2 x3 (x4 + 1) c4.2) else (rz 1 c4.2))
set_option maxRecDepth 20000 in
set_option maxHeartbeats 4000000 in
theorem f6_isUnlike_B11_ok (hE : IW E) (X : XC E RX6 cX6_isUnlike 5 (some .boolean) A p s m args meth c) {k11 : Int32 → Int32 → Int32 → Int32 → Hp → Re} (hk11 : ∀ (x1 : Int32) (x2 : Int32) (x3 : Int32) (x4 : Int32) (h : Hp), k11 x1 x2 x3 x4 h = some (r, h') → VM E 5 A p l e 2 s m args below meth c (Qi E A r h') 11 [(0, .ref (eA E 1)), (1, .int x1), (2, .int x2), (3, .int x3), (4, .int x4)] [] h) {x1 : Int32} {x2 : Int32} {x3 : Int32} {x4 : Int32} {h : Hp} (hf0 : f6_isUnlike_B11 k11 x1 x2 x3 x4 h = some (r, h')) : VM E 5 A p l e 2 s m args below meth c (Qi E A r h') 11 [(0, .ref (eA E 1)), (1, .int x1), (2, .int x2), (3, .int x3), (4, .int x4)] [] h := by
  unfold f6_isUnlike_B11 at hf0
  have hf1 := hf0
  refine V_iload X 4 rfl dX6_isUnlike_11 ?_
  refine V_iconst X (v := 4) (by decide) dX6_isUnlike_13 ?_
  refine V_icmp_ge X (tgt := 43) (by decide) dX6_isUnlike_14 (fun q14 => ?_) (fun q14 => ?_)
  · have hf2 := ift hf1 q14
    refine V_iconst X (v := 0) (by decide) dX6_isUnlike_43 ?_
    exact V_zret X rfl hf2 dX6_isUnlike_44
  · have hf2 := ife hf1 q14
    refine V_aload_n X 0 rfl dX6_isUnlike_17 ?_
    refine V_iload X 4 rfl dX6_isUnlike_18 ?_
    refine V_iload_n X 1 rfl dX6_isUnlike_20 ?_
    refine V_aload_n X 0 rfl dX6_isUnlike_21 ?_
    refine V_iload X 4 rfl dX6_isUnlike_22 ?_
    refine V_iload_n X 2 rfl dX6_isUnlike_24 ?_
    obtain ⟨c2, e_c2, hf4⟩ := obd hf2
    refine V_callVi X (SR_1 hE).1 rfl rfl (f5_patternPlace_ok (SR_1 hE) e_c2) ys_X5_patternPlace yw_X5_patternPlace ml_X6_50 rfl rfl ⟨Nat.le_of_ble_eq_true rfl, Nat.le_of_ble_eq_true rfl⟩ ⟨Nat.zero_le _, Nat.zero_le _⟩ (Nat.le_of_ble_eq_true rfl) dX6_isUnlike_25 ?_
    obtain ⟨c4, e_c4, hf6⟩ := obd hf4
    refine V_callVi X (SR_1 hE).1 rfl rfl (f5_colour_ok (SR_1 hE) e_c4) ys_X5_colour yw_X5_colour ml_X6_19 rfl rfl ⟨Nat.le_of_ble_eq_true rfl, Nat.le_of_ble_eq_true rfl⟩ ⟨Nat.zero_le _, Nat.zero_le _⟩ (Nat.le_of_ble_eq_true rfl) dX6_isUnlike_28 ?_
    refine V_iload_n X 3 rfl dX6_isUnlike_31 ?_
    refine V_icmp_eq X (tgt := 37) (by decide) dX6_isUnlike_32 (fun q32 => ?_) (fun q32 => ?_)
    · have hf7 := ift hf6 q32
      refine V_iinc X (v := _ + 1) 4 rfl (by rfl) (by decide) rfl dX6_isUnlike_37 ?_
      refine V_goto X (tgt := 11) (by decide) dX6_isUnlike_40 ?_
      exact V_sub [1, 2, 3, 4, 0] rfl (hk11 _ _ _ _ _ hf7)
    · have hf7 := ife hf6 q32
      refine V_iconst X (v := 1) (by decide) dX6_isUnlike_35 ?_
      exact V_zret X rfl hf7 dX6_isUnlike_36
def f6_isUnlike_L11 : Nat → Int32 → Int32 → Int32 → Int32 → Hp → Re
  | 0 => fun _ _ _ _ _ => none
  | n + 1 => f6_isUnlike_B11 (f6_isUnlike_L11 n)
theorem f6_isUnlike_L11_s (n : Nat) (x1 : Int32) (x2 : Int32) (x3 : Int32) (x4 : Int32) (h : Hp) : f6_isUnlike_L11 (n + 1) x1 x2 x3 x4 h = f6_isUnlike_B11 (f6_isUnlike_L11 n) x1 x2 x3 x4 h := rfl
theorem f6_isUnlike_L11_ok (hE : IW E) (X : XC E RX6 cX6_isUnlike 5 (some .boolean) A p s m args meth c) : ∀ (n : Nat) (x1 : Int32) (x2 : Int32) (x3 : Int32) (x4 : Int32) (h : Hp), f6_isUnlike_L11 n x1 x2 x3 x4 h = some (r, h') → VM E 5 A p l e 2 s m args below meth c (Qi E A r h') 11 [(0, .ref (eA E 1)), (1, .int x1), (2, .int x2), (3, .int x3), (4, .int x4)] [] h := by
  intro n
  induction n with
  | zero =>
    intro x1 x2 x3 x4 h q
    have q : (none : Re) = some (r, h') := q
    cases q
  | succ n ih =>
    intro x1 x2 x3 x4 h q
    exact f6_isUnlike_B11_ok hE X ih q
def f6_isUnlike_e (x1 : Int32) (x2 : Int32) (h : Hp) : Re :=
  (f5_colour 1 0 x1 x2 h).bind fun c1 => f6_isUnlike_L11 FU x1 x2 c1.1 1 c1.2
set_option maxRecDepth 20000 in
set_option maxHeartbeats 4000000 in
theorem f6_isUnlike_e_ok (hE : IW E) (X : XC E RX6 cX6_isUnlike 5 (some .boolean) A p s m args meth c) {x1 : Int32} {x2 : Int32} {h : Hp} (hf0 : f6_isUnlike_e x1 x2 h = some (r, h')) : VM E 5 A p l e 2 s m args below meth c (Qi E A r h') 0 [(0, .ref (eA E 1)), (1, .int x1), (2, .int x2)] [] h := by
  unfold f6_isUnlike_e at hf0
  have hf1 := hf0
  refine V_aload_n X 0 rfl dX6_isUnlike_0 ?_
  refine V_iconst X (v := 0) (by decide) dX6_isUnlike_1 ?_
  refine V_iload_n X 1 rfl dX6_isUnlike_2 ?_
  refine V_iload_n X 2 rfl dX6_isUnlike_3 ?_
  obtain ⟨c1, e_c1, hf3⟩ := obd hf1
  refine V_callVi X (SR_1 hE).1 rfl rfl (f5_colour_ok (SR_1 hE) e_c1) ys_X5_colour yw_X5_colour ml_X6_19 rfl rfl ⟨Nat.le_of_ble_eq_true rfl, Nat.le_of_ble_eq_true rfl⟩ ⟨Nat.zero_le _, Nat.zero_le _⟩ (Nat.le_of_ble_eq_true rfl) dX6_isUnlike_4 ?_
  refine V_istore_n X (by decide) rfl dX6_isUnlike_7 ?_
  refine V_iconst X (v := 1) (by decide) dX6_isUnlike_8 ?_
  refine V_istore X (by decide) rfl dX6_isUnlike_9 ?_
  exact V_sub [2, 3, 4, 1, 0] rfl (f6_isUnlike_L11_ok hE X FU _ _ _ _ _ hf3)
def f6_isUnlike (x1 : Int32) (x2 : Int32) (h : Hp) : Re := f6_isUnlike_e x1 x2 h
theorem f6_isUnlike_ok (hE : IW E) {x1 : Int32} {x2 : Int32} {h : Hp} {q : Int32 × Hp} (hf0 : f6_isUnlike x1 x2 h = some q) : SMi l E 2 yX6_isUnlike cX6_isUnlike 5 (some .boolean) [.ref (eA E 1), .int x1, .int x2] h q.1 q.2 :=
  SMi.of (by decide +kernel) (Nat.le_of_ble_eq_true rfl) (fun p e s m args below meth c A X => f6_isUnlike_e_ok hE X (r := q.1) (h' := q.2) hf0)
end DM
