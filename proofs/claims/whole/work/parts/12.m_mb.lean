section DM
variable {E : EN} {A : Nat → Prop} {p : Program} {l : Launch} {e : Env} {s : State} {m : MethodId} {args : Array Value} {below : List Frame} {meth : Method} {c : Code} {r : Int32} {h' : Hp}
def f8_pattern_e (x1 : Int32) (x2 : Int32) (h : Hp) : Re :=
  (f8_hold  h).bind fun c1 => (f8_patterns x1 x2 c1.2).bind fun c3 => (f8_recorded c3.1 c3.2).bind fun c5 => some (c5.1, c5.2)
set_option maxRecDepth 20000 in
set_option maxHeartbeats 4000000 in
theorem f8_pattern_e_ok (hE : IW E) (X : XC E RX8 cX8_pattern 3 (some .int) A p s m args meth c) {x1 : Int32} {x2 : Int32} {h : Hp} (hf0 : f8_pattern_e x1 x2 h = some (r, h')) : VM E 3 A p l e 3 s m args below meth c (Qi E A r h') 0 [(0, .ref (eA E 12)), (1, .int x1), (2, .int x2)] [] h := by
  unfold f8_pattern_e at hf0
  have hf1 := hf0
  refine V_aload_n X 0 rfl dX8_pattern_0 ?_
  obtain ⟨c1, e_c1, hf3⟩ := obd hf1
  refine V_callVv X (OB_12 hE) rfl rfl (f8_hold_ok hE e_c1) ys_X8_hold yw_X8_hold ml_X8_98 rfl rfl ⟨Nat.le_of_ble_eq_true rfl, Nat.le_of_ble_eq_true rfl⟩ ⟨Nat.zero_le _, Nat.zero_le _⟩ (Nat.le_of_ble_eq_true rfl) dX8_pattern_1 ?_
  refine V_aload_n X 0 rfl dX8_pattern_4 ?_
  refine V_aload_n X 0 rfl dX8_pattern_5 ?_
  refine V_iload_n X 1 rfl dX8_pattern_6 ?_
  refine V_iload_n X 2 rfl dX8_pattern_7 ?_
  obtain ⟨c3, e_c3, hf5⟩ := obd hf3
  refine V_callVi X (OB_12 hE) rfl rfl (f8_patterns_ok hE e_c3) ys_X8_patterns yw_X8_patterns ml_X8_104 rfl rfl ⟨Nat.le_of_ble_eq_true rfl, Nat.le_of_ble_eq_true rfl⟩ ⟨Nat.zero_le _, Nat.zero_le _⟩ (Nat.le_of_ble_eq_true rfl) dX8_pattern_8 ?_
  obtain ⟨c5, e_c5, hf7⟩ := obd hf5
  refine V_callVi X (OB_12 hE) rfl rfl (f8_recorded_ok hE e_c5) ys_X8_recorded yw_X8_recorded ml_X8_101 rfl rfl ⟨Nat.le_of_ble_eq_true rfl, Nat.le_of_ble_eq_true rfl⟩ ⟨Nat.zero_le _, Nat.zero_le _⟩ (Nat.le_of_ble_eq_true rfl) dX8_pattern_11 ?_
  exact V_iret X rfl hf7 dX8_pattern_14
def f8_pattern (x1 : Int32) (x2 : Int32) (h : Hp) : Re := f8_pattern_e x1 x2 h
theorem f8_pattern_ok (hE : IW E) {x1 : Int32} {x2 : Int32} {h : Hp} {q : Int32 × Hp} (hf0 : f8_pattern x1 x2 h = some q) : SMi l E 3 yX8_pattern cX8_pattern 3 (some .int) [.ref (eA E 12), .int x1, .int x2] h q.1 q.2 :=
  SMi.of (by decide +kernel) (Nat.le_of_ble_eq_true rfl) (fun p e s m args below meth c A X => f8_pattern_e_ok hE X (r := q.1) (h' := q.2) hf0)
def f8_take_e (x1 : Int32) (x2 : Int32) (h : Hp) : Re :=
  (f8_hold  h).bind fun c1 => (f8_takes x1 x2 c1.2).bind fun c3 => (f8_recorded c3.1 c3.2).bind fun c5 => some (c5.1, c5.2)
set_option maxRecDepth 20000 in
set_option maxHeartbeats 4000000 in
theorem f8_take_e_ok (hE : IW E) (X : XC E RX8 cX8_take 3 (some .int) A p s m args meth c) {x1 : Int32} {x2 : Int32} {h : Hp} (hf0 : f8_take_e x1 x2 h = some (r, h')) : VM E 3 A p l e 3 s m args below meth c (Qi E A r h') 0 [(0, .ref (eA E 12)), (1, .int x1), (2, .int x2)] [] h := by
  unfold f8_take_e at hf0
  have hf1 := hf0
  refine V_aload_n X 0 rfl dX8_take_0 ?_
  obtain ⟨c1, e_c1, hf3⟩ := obd hf1
  refine V_callVv X (OB_12 hE) rfl rfl (f8_hold_ok hE e_c1) ys_X8_hold yw_X8_hold ml_X8_98 rfl rfl ⟨Nat.le_of_ble_eq_true rfl, Nat.le_of_ble_eq_true rfl⟩ ⟨Nat.zero_le _, Nat.zero_le _⟩ (Nat.le_of_ble_eq_true rfl) dX8_take_1 ?_
  refine V_aload_n X 0 rfl dX8_take_4 ?_
  refine V_aload_n X 0 rfl dX8_take_5 ?_
  refine V_iload_n X 1 rfl dX8_take_6 ?_
  refine V_iload_n X 2 rfl dX8_take_7 ?_
  obtain ⟨c3, e_c3, hf5⟩ := obd hf3
  refine V_callVi X (OB_12 hE) rfl rfl (f8_takes_ok hE e_c3) ys_X8_takes yw_X8_takes ml_X8_107 rfl rfl ⟨Nat.le_of_ble_eq_true rfl, Nat.le_of_ble_eq_true rfl⟩ ⟨Nat.zero_le _, Nat.zero_le _⟩ (Nat.le_of_ble_eq_true rfl) dX8_take_8 ?_
  obtain ⟨c5, e_c5, hf7⟩ := obd hf5
  refine V_callVi X (OB_12 hE) rfl rfl (f8_recorded_ok hE e_c5) ys_X8_recorded yw_X8_recorded ml_X8_101 rfl rfl ⟨Nat.le_of_ble_eq_true rfl, Nat.le_of_ble_eq_true rfl⟩ ⟨Nat.zero_le _, Nat.zero_le _⟩ (Nat.le_of_ble_eq_true rfl) dX8_take_11 ?_
  exact V_iret X rfl hf7 dX8_take_14
def f8_take (x1 : Int32) (x2 : Int32) (h : Hp) : Re := f8_take_e x1 x2 h
theorem f8_take_ok (hE : IW E) {x1 : Int32} {x2 : Int32} {h : Hp} {q : Int32 × Hp} (hf0 : f8_take x1 x2 h = some q) : SMi l E 3 yX8_take cX8_take 3 (some .int) [.ref (eA E 12), .int x1, .int x2] h q.1 q.2 :=
  SMi.of (by decide +kernel) (Nat.le_of_ble_eq_true rfl) (fun p e s m args below meth c A X => f8_take_e_ok hE X (r := q.1) (h' := q.2) hf0)
def f8_fill_j61 (x1 : Int32) (y0 : Int32) (y1 : Int32) (h : Hp) : Re :=
  if inB y1 383 = true then (some (hu h 13 (Int32.toNatClampNeg y1) y0)).bind fun h2 => if inB (11 + x1) 383 = true then (f8_recorded (h2 13 (Int32.toNatClampNeg (11 + x1))) h2).bind fun c5 => some (c5.1, c5.2) else none else none
set_option maxRecDepth 20000 in
set_option maxHeartbeats 4000000 in
theorem f8_fill_j61_ok (hE : IW E) (X : XC E RX8 cX8_fill 4 (some .int) A p s m args meth c) {x1 : Int32} {y0 : Int32} {y1 : Int32} {h : Hp} (hf0 : f8_fill_j61 x1 y0 y1 h = some (r, h')) : VM E 4 A p l e 2 s m args below meth c (Qi E A r h') 61 [(0, .ref (eA E 12)), (1, .int x1)] [.int y0, .int y1, .ref (eA E 13)] h := by
  unfold f8_fill_j61 at hf0
  have hf1 := hf0
  obtain ⟨g101, hf101⟩ := ogd hf1
  refine V_iast X (AR_13 hE) g101 dX8_fill_61 ?_
  have hf4 := obs hf101
  refine V_aload_n X 0 rfl dX8_fill_62 ?_
  refine V_aload_n X 0 rfl dX8_fill_63 ?_
  refine G_X8_0_7 hE X dX8_fill_64 ?_
  refine V_bipush X (v := 11) (by decide) dX8_fill_67 ?_
  refine V_iload_n X 1 rfl dX8_fill_69 ?_
  refine V_iadd X dX8_fill_70 ?_
  obtain ⟨g104, hf104⟩ := ogd hf4
  refine V_iald X (AR_13 hE) g104 dX8_fill_71 ?_
  obtain ⟨c5, e_c5, hf7⟩ := obd hf104
  refine V_callVi X (OB_12 hE) rfl rfl (f8_recorded_ok hE e_c5) ys_X8_recorded yw_X8_recorded ml_X8_101 rfl rfl ⟨Nat.le_of_ble_eq_true rfl, Nat.le_of_ble_eq_true rfl⟩ ⟨Nat.zero_le _, Nat.zero_le _⟩ (Nat.le_of_ble_eq_true rfl) dX8_fill_72 ?_
  exact V_iret X rfl hf7 dX8_fill_75
def f8_fill_e (x1 : Int32) (x2 : Int32) (h : Hp) : Re :=
  (f8_isColour x1 h).bind fun c1 => if c1.1 = 0 then (some ((-1), c1.2)) else ((f8_in x2 1 9999 c1.2).bind fun c4 => if c4.1 = 0 then (some ((-2), c4.2)) else ((f8_hold  c4.2).bind fun c7 => if inB (11 + x1) 383 = true then (some ((c7.2 13 (Int32.toNatClampNeg (11 + x1))) + x2 : Int32)).bind fun z10 => if z10 ≤ 9999 then (f8_fill_j61 x1 z10 (11 + x1) c7.2) else (f8_fill_j61 x1 9999 (11 + x1) c7.2) else none))
set_option maxRecDepth 20000 in
set_option maxHeartbeats 4000000 in
theorem f8_fill_e_ok (hE : IW E) (X : XC E RX8 cX8_fill 4 (some .int) A p s m args meth c) {x1 : Int32} {x2 : Int32} {h : Hp} (hf0 : f8_fill_e x1 x2 h = some (r, h')) : VM E 4 A p l e 2 s m args below meth c (Qi E A r h') 0 [(0, .ref (eA E 12)), (1, .int x1), (2, .int x2)] [] h := by
  unfold f8_fill_e at hf0
  have hf1 := hf0
  refine V_iload_n X 1 rfl dX8_fill_0 ?_
  obtain ⟨c1, e_c1, hf3⟩ := obd hf1
  refine V_callSi X (f8_isColour_ok e_c1) ys_X8_isColour yw_X8_isColour ml_X8_110 rfl rfl ⟨Nat.le_of_ble_eq_true rfl, Nat.le_of_ble_eq_true rfl⟩ ⟨Nat.zero_le _, Nat.zero_le _⟩ (Nat.le_of_ble_eq_true rfl) dX8_fill_1 ?_
  refine V_if_ne X (tgt := 9) (by decide) dX8_fill_4 (fun q4 => ?_) (fun q4 => ?_)
  · have hf4 := ife hf3 q4
    refine V_iload_n X 2 rfl dX8_fill_9 ?_
    refine V_iconst X (v := 1) (by decide) dX8_fill_10 ?_
    refine V_sipush X (v := 9999) (by decide) dX8_fill_11 ?_
    obtain ⟨c4, e_c4, hf6⟩ := obd hf4
    refine V_callSi X (f8_in_ok e_c4) ys_X8_in yw_X8_in ml_X8_39 rfl rfl ⟨Nat.le_of_ble_eq_true rfl, Nat.le_of_ble_eq_true rfl⟩ ⟨Nat.zero_le _, Nat.zero_le _⟩ (Nat.le_of_ble_eq_true rfl) dX8_fill_14 ?_
    refine V_if_ne X (tgt := 23) (by decide) dX8_fill_17 (fun q17 => ?_) (fun q17 => ?_)
    · have hf7 := ife hf6 q17
      refine V_aload_n X 0 rfl dX8_fill_23 ?_
      obtain ⟨c7, e_c7, hf9⟩ := obd hf7
      refine V_callVv X (OB_12 hE) rfl rfl (f8_hold_ok hE e_c7) ys_X8_hold yw_X8_hold ml_X8_98 rfl rfl ⟨Nat.le_of_ble_eq_true rfl, Nat.le_of_ble_eq_true rfl⟩ ⟨Nat.zero_le _, Nat.zero_le _⟩ (Nat.le_of_ble_eq_true rfl) dX8_fill_24 ?_
      refine V_aload_n X 0 rfl dX8_fill_27 ?_
      refine G_X8_0_7 hE X dX8_fill_28 ?_
      refine V_bipush X (v := 11) (by decide) dX8_fill_31 ?_
      refine V_iload_n X 1 rfl dX8_fill_33 ?_
      refine V_iadd X dX8_fill_34 ?_
      obtain ⟨g109, hf109⟩ := ogd hf9
      refine V_iald X (AR_13 hE) g109 dX8_fill_35 ?_
      refine V_iload_n X 2 rfl dX8_fill_36 ?_
      refine V_iadd X dX8_fill_37 ?_
      refine V_istore_n X (by decide) rfl dX8_fill_38 ?_
      have hf12 := obs hf109
      refine V_aload_n X 1 rfl dX8_fill_39 ?_
      refine G_X8_0_7 hE X dX8_fill_40 ?_
      refine V_bipush X (v := 11) (by decide) dX8_fill_43 ?_
      refine V_iload_n X 2 rfl dX8_fill_45 ?_
      refine V_iadd X dX8_fill_46 ?_
      refine V_iload_n X 0 rfl dX8_fill_47 ?_
      refine V_sipush X (v := 9999) (by decide) dX8_fill_48 ?_
      refine V_icmp_le X (tgt := 60) (by decide) dX8_fill_51 (fun q51 => ?_) (fun q51 => ?_)
      · have hf13 := ift hf12 q51
        refine V_iload_n X 0 rfl dX8_fill_60 ?_
        exact V_sub [1, 2] rfl (f8_fill_j61_ok hE X hf13)
      · have hf13 := ife hf12 q51
        refine V_sipush X (v := 9999) (by decide) dX8_fill_54 ?_
        refine V_goto X (tgt := 61) (by decide) dX8_fill_57 ?_
        exact V_sub [1, 2] rfl (f8_fill_j61_ok hE X hf13)
    · have hf7 := ift hf6 q17
      refine V_bipush X (v := -2) (by decide) dX8_fill_20 ?_
      exact V_iret X rfl hf7 dX8_fill_22
  · have hf4 := ift hf3 q4
    refine V_iconst X (v := -1) (by decide) dX8_fill_7 ?_
    exact V_iret X rfl hf4 dX8_fill_8
def f8_fill (x1 : Int32) (x2 : Int32) (h : Hp) : Re := f8_fill_e x1 x2 h
theorem f8_fill_ok (hE : IW E) {x1 : Int32} {x2 : Int32} {h : Hp} {q : Int32 × Hp} (hf0 : f8_fill x1 x2 h = some q) : SMi l E 2 yX8_fill cX8_fill 4 (some .int) [.ref (eA E 12), .int x1, .int x2] h q.1 q.2 :=
  SMi.of (by decide +kernel) (Nat.le_of_ble_eq_true rfl) (fun p e s m args below meth c A X => f8_fill_e_ok hE X (r := q.1) (h' := q.2) hf0)
def f8_pour_e (x1 : Int32) (x2 : Int32) (x3 : Int32) (x4 : Int32) (h : Hp) : Re :=
  (f8_hold  h).bind fun c1 => (f8_pours x1 x2 x3 x4 c1.2).bind fun c3 => (f8_recorded c3.1 c3.2).bind fun c5 => some (c5.1, c5.2)
set_option maxRecDepth 20000 in
set_option maxHeartbeats 4000000 in
theorem f8_pour_e_ok (hE : IW E) (X : XC E RX8 cX8_pour 5 (some .int) A p s m args meth c) {x1 : Int32} {x2 : Int32} {x3 : Int32} {x4 : Int32} {h : Hp} (hf0 : f8_pour_e x1 x2 x3 x4 h = some (r, h')) : VM E 5 A p l e 4 s m args below meth c (Qi E A r h') 0 [(0, .ref (eA E 12)), (1, .int x1), (2, .int x2), (3, .int x3), (4, .int x4)] [] h := by
  unfold f8_pour_e at hf0
  have hf1 := hf0
  refine V_aload_n X 0 rfl dX8_pour_0 ?_
  obtain ⟨c1, e_c1, hf3⟩ := obd hf1
  refine V_callVv X (OB_12 hE) rfl rfl (f8_hold_ok hE e_c1) ys_X8_hold yw_X8_hold ml_X8_98 rfl rfl ⟨Nat.le_of_ble_eq_true rfl, Nat.le_of_ble_eq_true rfl⟩ ⟨Nat.zero_le _, Nat.zero_le _⟩ (Nat.le_of_ble_eq_true rfl) dX8_pour_1 ?_
  refine V_aload_n X 0 rfl dX8_pour_4 ?_
  refine V_aload_n X 0 rfl dX8_pour_5 ?_
  refine V_iload_n X 1 rfl dX8_pour_6 ?_
  refine V_iload_n X 2 rfl dX8_pour_7 ?_
  refine V_iload_n X 3 rfl dX8_pour_8 ?_
  refine V_iload X 4 rfl dX8_pour_9 ?_
  obtain ⟨c3, e_c3, hf5⟩ := obd hf3
  refine V_callVi X (OB_12 hE) rfl rfl (f8_pours_ok hE e_c3) ys_X8_pours yw_X8_pours ml_X8_113 rfl rfl ⟨Nat.le_of_ble_eq_true rfl, Nat.le_of_ble_eq_true rfl⟩ ⟨Nat.zero_le _, Nat.zero_le _⟩ (Nat.le_of_ble_eq_true rfl) dX8_pour_11 ?_
  obtain ⟨c5, e_c5, hf7⟩ := obd hf5
  refine V_callVi X (OB_12 hE) rfl rfl (f8_recorded_ok hE e_c5) ys_X8_recorded yw_X8_recorded ml_X8_101 rfl rfl ⟨Nat.le_of_ble_eq_true rfl, Nat.le_of_ble_eq_true rfl⟩ ⟨Nat.zero_le _, Nat.zero_le _⟩ (Nat.le_of_ble_eq_true rfl) dX8_pour_14 ?_
  exact V_iret X rfl hf7 dX8_pour_17
def f8_pour (x1 : Int32) (x2 : Int32) (x3 : Int32) (x4 : Int32) (h : Hp) : Re := f8_pour_e x1 x2 x3 x4 h
theorem f8_pour_ok (hE : IW E) {x1 : Int32} {x2 : Int32} {x3 : Int32} {x4 : Int32} {h : Hp} {q : Int32 × Hp} (hf0 : f8_pour x1 x2 x3 x4 h = some q) : SMi l E 4 yX8_pour cX8_pour 5 (some .int) [.ref (eA E 12), .int x1, .int x2, .int x3, .int x4] h q.1 q.2 :=
  SMi.of (by decide +kernel) (Nat.le_of_ble_eq_true rfl) (fun p e s m args below meth c A X => f8_pour_e_ok hE X (r := q.1) (h' := q.2) hf0)
def f8_scrape_e (x1 : Int32) (x2 : Int32) (x3 : Int32) (h : Hp) : Re :=
  (f8_hold  h).bind fun c1 => (f8_scrapes x1 x2 x3 c1.2).bind fun c3 => (f8_recorded c3.1 c3.2).bind fun c5 => some (c5.1, c5.2)
set_option maxRecDepth 20000 in
set_option maxHeartbeats 4000000 in
theorem f8_scrape_e_ok (hE : IW E) (X : XC E RX8 cX8_scrape 4 (some .int) A p s m args meth c) {x1 : Int32} {x2 : Int32} {x3 : Int32} {h : Hp} (hf0 : f8_scrape_e x1 x2 x3 h = some (r, h')) : VM E 4 A p l e 4 s m args below meth c (Qi E A r h') 0 [(0, .ref (eA E 12)), (1, .int x1), (2, .int x2), (3, .int x3)] [] h := by
  unfold f8_scrape_e at hf0
  have hf1 := hf0
  refine V_aload_n X 0 rfl dX8_scrape_0 ?_
  obtain ⟨c1, e_c1, hf3⟩ := obd hf1
  refine V_callVv X (OB_12 hE) rfl rfl (f8_hold_ok hE e_c1) ys_X8_hold yw_X8_hold ml_X8_98 rfl rfl ⟨Nat.le_of_ble_eq_true rfl, Nat.le_of_ble_eq_true rfl⟩ ⟨Nat.zero_le _, Nat.zero_le _⟩ (Nat.le_of_ble_eq_true rfl) dX8_scrape_1 ?_
  refine V_aload_n X 0 rfl dX8_scrape_4 ?_
  refine V_aload_n X 0 rfl dX8_scrape_5 ?_
  refine V_iload_n X 1 rfl dX8_scrape_6 ?_
  refine V_iload_n X 2 rfl dX8_scrape_7 ?_
  refine V_iload_n X 3 rfl dX8_scrape_8 ?_
  obtain ⟨c3, e_c3, hf5⟩ := obd hf3
  refine V_callVi X (OB_12 hE) rfl rfl (f8_scrapes_ok hE e_c3) ys_X8_scrapes yw_X8_scrapes ml_X8_117 rfl rfl ⟨Nat.le_of_ble_eq_true rfl, Nat.le_of_ble_eq_true rfl⟩ ⟨Nat.zero_le _, Nat.zero_le _⟩ (Nat.le_of_ble_eq_true rfl) dX8_scrape_9 ?_
  obtain ⟨c5, e_c5, hf7⟩ := obd hf5
  refine V_callVi X (OB_12 hE) rfl rfl (f8_recorded_ok hE e_c5) ys_X8_recorded yw_X8_recorded ml_X8_101 rfl rfl ⟨Nat.le_of_ble_eq_true rfl, Nat.le_of_ble_eq_true rfl⟩ ⟨Nat.zero_le _, Nat.zero_le _⟩ (Nat.le_of_ble_eq_true rfl) dX8_scrape_12 ?_
  exact V_iret X rfl hf7 dX8_scrape_15
def f8_scrape (x1 : Int32) (x2 : Int32) (x3 : Int32) (h : Hp) : Re := f8_scrape_e x1 x2 x3 h
theorem f8_scrape_ok (hE : IW E) {x1 : Int32} {x2 : Int32} {x3 : Int32} {h : Hp} {q : Int32 × Hp} (hf0 : f8_scrape x1 x2 x3 h = some q) : SMi l E 4 yX8_scrape cX8_scrape 4 (some .int) [.ref (eA E 12), .int x1, .int x2, .int x3] h q.1 q.2 :=
  SMi.of (by decide +kernel) (Nat.le_of_ble_eq_true rfl) (fun p e s m args below meth c A X => f8_scrape_e_ok hE X (r := q.1) (h' := q.2) hf0)
def f8_breathe_e (x1 : Int32) (x2 : Int32) (h : Hp) : Re :=
  (f8_hold  h).bind fun c1 => (f8_breathes x1 x2 c1.2).bind fun c3 => (f8_recorded c3.1 c3.2).bind fun c5 => some (c5.1, c5.2)
set_option maxRecDepth 20000 in
set_option maxHeartbeats 4000000 in
theorem f8_breathe_e_ok (hE : IW E) (X : XC E RX8 cX8_breathe 3 (some .int) A p s m args meth c) {x1 : Int32} {x2 : Int32} {h : Hp} (hf0 : f8_breathe_e x1 x2 h = some (r, h')) : VM E 3 A p l e 3 s m args below meth c (Qi E A r h') 0 [(0, .ref (eA E 12)), (1, .int x1), (2, .int x2)] [] h := by
  unfold f8_breathe_e at hf0
  have hf1 := hf0
  refine V_aload_n X 0 rfl dX8_breathe_0 ?_
  obtain ⟨c1, e_c1, hf3⟩ := obd hf1
  refine V_callVv X (OB_12 hE) rfl rfl (f8_hold_ok hE e_c1) ys_X8_hold yw_X8_hold ml_X8_98 rfl rfl ⟨Nat.le_of_ble_eq_true rfl, Nat.le_of_ble_eq_true rfl⟩ ⟨Nat.zero_le _, Nat.zero_le _⟩ (Nat.le_of_ble_eq_true rfl) dX8_breathe_1 ?_
  refine V_aload_n X 0 rfl dX8_breathe_4 ?_
  refine V_aload_n X 0 rfl dX8_breathe_5 ?_
  refine V_iload_n X 1 rfl dX8_breathe_6 ?_
  refine V_iload_n X 2 rfl dX8_breathe_7 ?_
  obtain ⟨c3, e_c3, hf5⟩ := obd hf3
  refine V_callVi X (OB_12 hE) rfl rfl (f8_breathes_ok hE e_c3) ys_X8_breathes yw_X8_breathes ml_X8_120 rfl rfl ⟨Nat.le_of_ble_eq_true rfl, Nat.le_of_ble_eq_true rfl⟩ ⟨Nat.zero_le _, Nat.zero_le _⟩ (Nat.le_of_ble_eq_true rfl) dX8_breathe_8 ?_
  obtain ⟨c5, e_c5, hf7⟩ := obd hf5
  refine V_callVi X (OB_12 hE) rfl rfl (f8_recorded_ok hE e_c5) ys_X8_recorded yw_X8_recorded ml_X8_101 rfl rfl ⟨Nat.le_of_ble_eq_true rfl, Nat.le_of_ble_eq_true rfl⟩ ⟨Nat.zero_le _, Nat.zero_le _⟩ (Nat.le_of_ble_eq_true rfl) dX8_breathe_11 ?_
  exact V_iret X rfl hf7 dX8_breathe_14
def f8_breathe (x1 : Int32) (x2 : Int32) (h : Hp) : Re := f8_breathe_e x1 x2 h
theorem f8_breathe_ok (hE : IW E) {x1 : Int32} {x2 : Int32} {h : Hp} {q : Int32 × Hp} (hf0 : f8_breathe x1 x2 h = some q) : SMi l E 3 yX8_breathe cX8_breathe 3 (some .int) [.ref (eA E 12), .int x1, .int x2] h q.1 q.2 :=
  SMi.of (by decide +kernel) (Nat.le_of_ble_eq_true rfl) (fun p e s m args below meth c A X => f8_breathe_e_ok hE X (r := q.1) (h' := q.2) hf0)
def f8_close_e (h : Hp) : Re :=
  (f8_hold  h).bind fun c1 => (f8_closes  c1.2).bind fun c3 => (f8_recorded c3.1 c3.2).bind fun c5 => some (c5.1, c5.2)
set_option maxRecDepth 20000 in
set_option maxHeartbeats 4000000 in
theorem f8_close_e_ok (hE : IW E) (X : XC E RX8 cX8_close 1 (some .int) A p s m args meth c) {h : Hp} (hf0 : f8_close_e  h = some (r, h')) : VM E 1 A p l e 6 s m args below meth c (Qi E A r h') 0 [(0, .ref (eA E 12))] [] h := by
  unfold f8_close_e at hf0
  have hf1 := hf0
  refine V_aload_n X 0 rfl dX8_close_0 ?_
  obtain ⟨c1, e_c1, hf3⟩ := obd hf1
  refine V_callVv X (OB_12 hE) rfl rfl (f8_hold_ok hE e_c1) ys_X8_hold yw_X8_hold ml_X8_98 rfl rfl ⟨Nat.le_of_ble_eq_true rfl, Nat.le_of_ble_eq_true rfl⟩ ⟨Nat.zero_le _, Nat.zero_le _⟩ (Nat.le_of_ble_eq_true rfl) dX8_close_1 ?_
  refine V_aload_n X 0 rfl dX8_close_4 ?_
  refine V_aload_n X 0 rfl dX8_close_5 ?_
  obtain ⟨c3, e_c3, hf5⟩ := obd hf3
  refine V_callVi X (OB_12 hE) rfl rfl (f8_closes_ok hE e_c3) ys_X8_closes yw_X8_closes ml_X8_123 rfl rfl ⟨Nat.le_of_ble_eq_true rfl, Nat.le_of_ble_eq_true rfl⟩ ⟨Nat.zero_le _, Nat.zero_le _⟩ (Nat.le_of_ble_eq_true rfl) dX8_close_6 ?_
  obtain ⟨c5, e_c5, hf7⟩ := obd hf5
  refine V_callVi X (OB_12 hE) rfl rfl (f8_recorded_ok hE e_c5) ys_X8_recorded yw_X8_recorded ml_X8_101 rfl rfl ⟨Nat.le_of_ble_eq_true rfl, Nat.le_of_ble_eq_true rfl⟩ ⟨Nat.zero_le _, Nat.zero_le _⟩ (Nat.le_of_ble_eq_true rfl) dX8_close_9 ?_
  exact V_iret X rfl hf7 dX8_close_12
def f8_close (h : Hp) : Re := f8_close_e  h
theorem f8_close_ok (hE : IW E) {h : Hp} {q : Int32 × Hp} (hf0 : f8_close  h = some q) : SMi l E 6 yX8_close cX8_close 1 (some .int) [.ref (eA E 12)] h q.1 q.2 :=
  SMi.of (by decide +kernel) (Nat.le_of_ble_eq_true rfl) (fun p e s m args below meth c A X => f8_close_e_ok hE X (r := q.1) (h' := q.2) hf0)
def f8_sweep_e (h : Hp) : Re :=
  (f8_hold  h).bind fun c1 => (f8_sweeps  c1.2).bind fun c3 => (f8_recorded c3.1 c3.2).bind fun c5 => some (c5.1, c5.2)
set_option maxRecDepth 20000 in
set_option maxHeartbeats 4000000 in
theorem f8_sweep_e_ok (hE : IW E) (X : XC E RX8 cX8_sweep 1 (some .int) A p s m args meth c) {h : Hp} (hf0 : f8_sweep_e  h = some (r, h')) : VM E 1 A p l e 2 s m args below meth c (Qi E A r h') 0 [(0, .ref (eA E 12))] [] h := by
  unfold f8_sweep_e at hf0
  have hf1 := hf0
  refine V_aload_n X 0 rfl dX8_sweep_0 ?_
  obtain ⟨c1, e_c1, hf3⟩ := obd hf1
  refine V_callVv X (OB_12 hE) rfl rfl (f8_hold_ok hE e_c1) ys_X8_hold yw_X8_hold ml_X8_98 rfl rfl ⟨Nat.le_of_ble_eq_true rfl, Nat.le_of_ble_eq_true rfl⟩ ⟨Nat.zero_le _, Nat.zero_le _⟩ (Nat.le_of_ble_eq_true rfl) dX8_sweep_1 ?_
  refine V_aload_n X 0 rfl dX8_sweep_4 ?_
  refine V_aload_n X 0 rfl dX8_sweep_5 ?_
  obtain ⟨c3, e_c3, hf5⟩ := obd hf3
  refine V_callVi X (OB_12 hE) rfl rfl (f8_sweeps_ok hE e_c3) ys_X8_sweeps yw_X8_sweeps ml_X8_127 rfl rfl ⟨Nat.le_of_ble_eq_true rfl, Nat.le_of_ble_eq_true rfl⟩ ⟨Nat.zero_le _, Nat.zero_le _⟩ (Nat.le_of_ble_eq_true rfl) dX8_sweep_6 ?_
  obtain ⟨c5, e_c5, hf7⟩ := obd hf5
  refine V_callVi X (OB_12 hE) rfl rfl (f8_recorded_ok hE e_c5) ys_X8_recorded yw_X8_recorded ml_X8_101 rfl rfl ⟨Nat.le_of_ble_eq_true rfl, Nat.le_of_ble_eq_true rfl⟩ ⟨Nat.zero_le _, Nat.zero_le _⟩ (Nat.le_of_ble_eq_true rfl) dX8_sweep_9 ?_
  exact V_iret X rfl hf7 dX8_sweep_12
def f8_sweep (h : Hp) : Re := f8_sweep_e  h
theorem f8_sweep_ok (hE : IW E) {h : Hp} {q : Int32 × Hp} (hf0 : f8_sweep  h = some q) : SMi l E 2 yX8_sweep cX8_sweep 1 (some .int) [.ref (eA E 12)] h q.1 q.2 :=
  SMi.of (by decide +kernel) (Nat.le_of_ble_eq_true rfl) (fun p e s m args below meth c A X => f8_sweep_e_ok hE X (r := q.1) (h' := q.2) hf0)
def f8_at_j48 (x1 : Int32) (x2 : Int32) (x3 : Int32) (x4 : Int32) (h : Hp) : Re :=
  (f8_p x1 x2 x3 h).bind fun c1 => if inB (c1.1 + x4) 383 = true then some (c1.2 13 (Int32.toNatClampNeg (c1.1 + x4)), c1.2) else none
set_option maxRecDepth 20000 in
set_option maxHeartbeats 4000000 in
theorem f8_at_j48_ok (hE : IW E) (X : XC E RX8 cX8_at 5 (some .int) A p s m args meth c) {x1 : Int32} {x2 : Int32} {x3 : Int32} {x4 : Int32} {h : Hp} (hf0 : f8_at_j48 x1 x2 x3 x4 h = some (r, h')) : VM E 5 A p l e 4 s m args below meth c (Qi E A r h') 48 [(0, .ref (eA E 12)), (1, .int x1), (2, .int x2), (3, .int x3), (4, .int x4)] [] h := by
  unfold f8_at_j48 at hf0
  have hf1 := hf0
  refine V_aload_n X 0 rfl dX8_at_48 ?_
  refine G_X8_0_7 hE X dX8_at_49 ?_
  refine V_iload_n X 1 rfl dX8_at_52 ?_
  refine V_iload_n X 2 rfl dX8_at_53 ?_
  refine V_iload_n X 3 rfl dX8_at_54 ?_
  obtain ⟨c1, e_c1, hf3⟩ := obd hf1
  refine V_callSi X (f8_p_ok e_c1) ys_X8_p yw_X8_p ml_X8_61 rfl rfl ⟨Nat.le_of_ble_eq_true rfl, Nat.le_of_ble_eq_true rfl⟩ ⟨Nat.zero_le _, Nat.zero_le _⟩ (Nat.le_of_ble_eq_true rfl) dX8_at_55 ?_
  refine V_iload X 4 rfl dX8_at_58 ?_
  refine V_iadd X dX8_at_60 ?_
  obtain ⟨g103, hf103⟩ := ogd hf3
  refine V_iald X (AR_13 hE) g103 dX8_at_61 ?_
  exact V_iret X rfl hf103 dX8_at_62
def f8_at_e (x1 : Int32) (x2 : Int32) (x3 : Int32) (x4 : Int32) (h : Hp) : Re :=
  (f8_isPlace x1 x2 x3 h).bind fun c1 => if c1.1 = 0 then (some ((-1), c1.2)) else (if x4 = 0 then (f8_at_j48 x1 x2 x3 x4 c1.2) else if x4 = 1 then (f8_at_j48 x1 x2 x3 x4 c1.2) else if x4 = 2 then ((f8_wanted x1 x2 x3 c1.2).bind fun c8 => some (c8.1, c8.2)) else if x4 = 3 then ((f8_isRight x1 x2 x3 c1.2).bind fun c11 => if c11.1 = 0 then (some (0, c11.2)) else (some (1, c11.2))) else if x4 = 4 then ((f8_mirrored x1 x3 c1.2).bind fun c15 => some (c15.1, c15.2)) else (some ((-2), c1.2)))
set_option maxRecDepth 20000 in
set_option maxHeartbeats 4000000 in
theorem f8_at_e_ok (hE : IW E) (X : XC E RX8 cX8_at 5 (some .int) A p s m args meth c) {x1 : Int32} {x2 : Int32} {x3 : Int32} {x4 : Int32} {h : Hp} (hf0 : f8_at_e x1 x2 x3 x4 h = some (r, h')) : VM E 5 A p l e 4 s m args below meth c (Qi E A r h') 0 [(0, .ref (eA E 12)), (1, .int x1), (2, .int x2), (3, .int x3), (4, .int x4)] [] h := by
  unfold f8_at_e at hf0
  have hf1 := hf0
  refine V_iload_n X 1 rfl dX8_at_0 ?_
  refine V_iload_n X 2 rfl dX8_at_1 ?_
  refine V_iload_n X 3 rfl dX8_at_2 ?_
  obtain ⟨c1, e_c1, hf3⟩ := obd hf1
  refine V_callSi X (f8_isPlace_ok e_c1) ys_X8_isPlace yw_X8_isPlace ml_X8_79 rfl rfl ⟨Nat.le_of_ble_eq_true rfl, Nat.le_of_ble_eq_true rfl⟩ ⟨Nat.zero_le _, Nat.zero_le _⟩ (Nat.le_of_ble_eq_true rfl) dX8_at_3 ?_
  refine V_if_ne X (tgt := 11) (by decide) dX8_at_6 (fun q6 => ?_) (fun q6 => ?_)
  · have hf4 := ife hf3 q6
    refine V_iload X 4 rfl dX8_at_11 ?_
    rcases oif hf4 with ⟨q13_0, hf13_0⟩ | ⟨q13_0, hf13_0⟩
    · refine V_table X (tgt := 48) (off := 35) (by rw [q13_0]; decide) (by decide) (by decide) dX8_at_13 ?_
      have hf6 := hf13_0
      exact V_sub [0, 1, 2, 3, 4] rfl (f8_at_j48_ok hE X hf6)
    rcases oif hf13_0 with ⟨q13_1, hf13_1⟩ | ⟨q13_1, hf13_1⟩
    · refine V_table X (tgt := 48) (off := 35) (by rw [q13_1]; decide) (by decide) (by decide) dX8_at_13 ?_
      have hf7 := hf13_1
      exact V_sub [0, 1, 2, 3, 4] rfl (f8_at_j48_ok hE X hf7)
    rcases oif hf13_1 with ⟨q13_2, hf13_2⟩ | ⟨q13_2, hf13_2⟩
    · refine V_table X (tgt := 63) (off := 50) (by rw [q13_2]; decide) (by decide) (by decide) dX8_at_13 ?_
      have hf8 := hf13_2
      refine V_aload_n X 0 rfl dX8_at_63 ?_
      refine V_iload_n X 1 rfl dX8_at_64 ?_
      refine V_iload_n X 2 rfl dX8_at_65 ?_
      refine V_iload_n X 3 rfl dX8_at_66 ?_
      obtain ⟨c8, e_c8, hf10⟩ := obd hf8
      refine V_callVi X (OB_12 hE) rfl rfl (f8_wanted_ok hE e_c8) ys_X8_wanted yw_X8_wanted ml_X8_65 rfl rfl ⟨Nat.le_of_ble_eq_true rfl, Nat.le_of_ble_eq_true rfl⟩ ⟨Nat.zero_le _, Nat.zero_le _⟩ (Nat.le_of_ble_eq_true rfl) dX8_at_67 ?_
      exact V_iret X rfl hf10 dX8_at_70
    rcases oif hf13_2 with ⟨q13_3, hf13_3⟩ | ⟨q13_3, hf13_3⟩
    · refine V_table X (tgt := 71) (off := 58) (by rw [q13_3]; decide) (by decide) (by decide) dX8_at_13 ?_
      have hf11 := hf13_3
      refine V_aload_n X 0 rfl dX8_at_71 ?_
      refine V_iload_n X 1 rfl dX8_at_72 ?_
      refine V_iload_n X 2 rfl dX8_at_73 ?_
      refine V_iload_n X 3 rfl dX8_at_74 ?_
      obtain ⟨c11, e_c11, hf13⟩ := obd hf11
      refine V_callVi X (OB_12 hE) rfl rfl (f8_isRight_ok hE e_c11) ys_X8_isRight yw_X8_isRight ml_X8_68 rfl rfl ⟨Nat.le_of_ble_eq_true rfl, Nat.le_of_ble_eq_true rfl⟩ ⟨Nat.zero_le _, Nat.zero_le _⟩ (Nat.le_of_ble_eq_true rfl) dX8_at_75 ?_
      refine V_if_eq X (tgt := 85) (by decide) dX8_at_78 (fun q78 => ?_) (fun q78 => ?_)
      · have hf14 := ift hf13 q78
        refine V_iconst X (v := 0) (by decide) dX8_at_85 ?_
        exact V_iret X rfl hf14 dX8_at_86
      · have hf14 := ife hf13 q78
        refine V_iconst X (v := 1) (by decide) dX8_at_81 ?_
        refine V_goto X (tgt := 86) (by decide) dX8_at_82 ?_
        exact V_iret X rfl hf14 dX8_at_86
    rcases oif hf13_3 with ⟨q13_4, hf13_4⟩ | ⟨q13_4, hf13_4⟩
    · refine V_table X (tgt := 87) (off := 74) (by rw [q13_4]; decide) (by decide) (by decide) dX8_at_13 ?_
      have hf15 := hf13_4
      refine V_aload_n X 0 rfl dX8_at_87 ?_
      refine V_iload_n X 1 rfl dX8_at_88 ?_
      refine V_iload_n X 3 rfl dX8_at_89 ?_
      obtain ⟨c15, e_c15, hf17⟩ := obd hf15
      refine V_callVi X (OB_12 hE) rfl rfl (f8_mirrored_ok hE e_c15) ys_X8_mirrored yw_X8_mirrored ml_X8_57 rfl rfl ⟨Nat.le_of_ble_eq_true rfl, Nat.le_of_ble_eq_true rfl⟩ ⟨Nat.zero_le _, Nat.zero_le _⟩ (Nat.le_of_ble_eq_true rfl) dX8_at_90 ?_
      exact V_iret X rfl hf17 dX8_at_93
    · skip
      refine V_table X (tgt := 94) (off := 81) (tsel_out (by have z0 := lv_neT q13_0 (show (0 : Int32).toInt = 0 by decide); have z1 := lv_neT q13_1 (show (1 : Int32).toInt = 1 by decide); have z2 := lv_neT q13_2 (show (2 : Int32).toInt = 2 by decide); have z3 := lv_neT q13_3 (show (3 : Int32).toInt = 3 by decide); have z4 := lv_neT q13_4 (show (4 : Int32).toInt = 4 by decide); omega)) (by decide) (by decide) dX8_at_13 ?_
      have hf18 := hf13_4
      refine V_bipush X (v := -2) (by decide) dX8_at_94 ?_
      exact V_iret X rfl hf18 dX8_at_96
  · have hf4 := ift hf3 q6
    refine V_iconst X (v := -1) (by decide) dX8_at_9 ?_
    exact V_iret X rfl hf4 dX8_at_10
def f8_at (x1 : Int32) (x2 : Int32) (x3 : Int32) (x4 : Int32) (h : Hp) : Re := f8_at_e x1 x2 x3 x4 h
theorem f8_at_ok (hE : IW E) {x1 : Int32} {x2 : Int32} {x3 : Int32} {x4 : Int32} {h : Hp} {q : Int32 × Hp} (hf0 : f8_at x1 x2 x3 x4 h = some q) : SMi l E 4 yX8_at cX8_at 5 (some .int) [.ref (eA E 12), .int x1, .int x2, .int x3, .int x4] h q.1 q.2 :=
  SMi.of (by decide +kernel) (Nat.le_of_ble_eq_true rfl) (fun p e s m args below meth c A X => f8_at_e_ok hE X (r := q.1) (h' := q.2) hf0)
def f8_unlike_B33 (k4 : Int32 → Int32 → Int32 → Hp → Re) (k33 : Int32 → Int32 → Int32 → Int32 → Int32 → Hp → Re) (x1 : Int32) (x2 : Int32) (x3 : Int32) (x4 : Int32) (x5 : Int32) (h : Hp) : Re :=
  if 4 ≤ x5 then (k4 x1 x2 (x3 + 1) h) else ((f8_mirrored x5 x3 h).bind fun c2 => (f8_p x5 x1 c2.1 c2.2).bind fun c4 => if inB (c4.1 + 0) 383 = true then if (c4.2 13 (Int32.toNatClampNeg (c4.1 + 0))) = x4 then (k33 x1 (x2 ||| 0) x3 x4 (x5 + 1) c4.2) else ((some (x2 ||| ((1 : Int32) <<< (x3 &&& 31)) : Int32)).bind fun z8 => k33 x1 z8 x3 x4 (x5 + 1) c4.2) else none)
set_option maxRecDepth 20000 in
set_option maxHeartbeats 4000000 in
theorem f8_unlike_B33_ok (hE : IW E) (X : XC E RX8 cX8_unlike 6 (some .int) A p s m args meth c) {k4 : Int32 → Int32 → Int32 → Hp → Re} {k33 : Int32 → Int32 → Int32 → Int32 → Int32 → Hp → Re} (hk4 : ∀ (x1 : Int32) (x2 : Int32) (x3 : Int32) (h : Hp), k4 x1 x2 x3 h = some (r, h') → VM E 6 A p l e 2 s m args below meth c (Qi E A r h') 4 [(0, .ref (eA E 12)), (1, .int x1), (2, .int x2), (3, .int x3)] [] h) (hk33 : ∀ (x1 : Int32) (x2 : Int32) (x3 : Int32) (x4 : Int32) (x5 : Int32) (h : Hp), k33 x1 x2 x3 x4 x5 h = some (r, h') → VM E 6 A p l e 2 s m args below meth c (Qi E A r h') 33 [(0, .ref (eA E 12)), (1, .int x1), (2, .int x2), (3, .int x3), (4, .int x4), (5, .int x5)] [] h) {x1 : Int32} {x2 : Int32} {x3 : Int32} {x4 : Int32} {x5 : Int32} {h : Hp} (hf0 : f8_unlike_B33 k4 k33 x1 x2 x3 x4 x5 h = some (r, h')) : VM E 6 A p l e 2 s m args below meth c (Qi E A r h') 33 [(0, .ref (eA E 12)), (1, .int x1), (2, .int x2), (3, .int x3), (4, .int x4), (5, .int x5)] [] h := by
  unfold f8_unlike_B33 at hf0
  have hf1 := hf0
  refine V_iload X 5 rfl dX8_unlike_33 ?_
  refine V_iconst X (v := 4) (by decide) dX8_unlike_35 ?_
  refine V_icmp_ge X (tgt := 80) (by decide) dX8_unlike_36 (fun q36 => ?_) (fun q36 => ?_)
  · have hf2 := ift hf1 q36
    refine V_iinc X (v := _ + 1) 3 rfl (by rfl) (by decide) rfl dX8_unlike_80 ?_
    refine V_goto X (tgt := 4) (by decide) dX8_unlike_83 ?_
    exact V_sub [1, 2, 3, 0] rfl (hk4 _ _ _ _ hf2)
  · have hf2 := ife hf1 q36
    refine V_iload_n X 2 rfl dX8_unlike_39 ?_
    refine V_aload_n X 0 rfl dX8_unlike_40 ?_
    refine G_X8_0_7 hE X dX8_unlike_41 ?_
    refine V_iload X 5 rfl dX8_unlike_44 ?_
    refine V_iload_n X 1 rfl dX8_unlike_46 ?_
    refine V_aload_n X 0 rfl dX8_unlike_47 ?_
    refine V_iload X 5 rfl dX8_unlike_48 ?_
    refine V_iload_n X 3 rfl dX8_unlike_50 ?_
    obtain ⟨c2, e_c2, hf4⟩ := obd hf2
    refine V_callVi X (OB_12 hE) rfl rfl (f8_mirrored_ok hE e_c2) ys_X8_mirrored yw_X8_mirrored ml_X8_57 rfl rfl ⟨Nat.le_of_ble_eq_true rfl, Nat.le_of_ble_eq_true rfl⟩ ⟨Nat.zero_le _, Nat.zero_le _⟩ (Nat.le_of_ble_eq_true rfl) dX8_unlike_51 ?_
    obtain ⟨c4, e_c4, hf6⟩ := obd hf4
    refine V_callSi X (f8_p_ok e_c4) ys_X8_p yw_X8_p ml_X8_61 rfl rfl ⟨Nat.le_of_ble_eq_true rfl, Nat.le_of_ble_eq_true rfl⟩ ⟨Nat.zero_le _, Nat.zero_le _⟩ (Nat.le_of_ble_eq_true rfl) dX8_unlike_54 ?_
    refine V_iconst X (v := 0) (by decide) dX8_unlike_57 ?_
    refine V_iadd X dX8_unlike_58 ?_
    obtain ⟨g106, hf106⟩ := ogd hf6
    refine V_iald X (AR_13 hE) g106 dX8_unlike_59 ?_
    refine V_iload X 4 rfl dX8_unlike_60 ?_
    refine V_icmp_ne X (tgt := 69) (by decide) dX8_unlike_62 (fun q62 => ?_) (fun q62 => ?_)
    · have hf8 := ife hf106 q62
      refine V_iconst X (v := 1) (by decide) dX8_unlike_69 ?_
      refine V_iload_n X 3 rfl dX8_unlike_70 ?_
      refine V_ishl X dX8_unlike_71 ?_
      refine V_ior X dX8_unlike_72 ?_
      refine V_istore_n X (by decide) rfl dX8_unlike_73 ?_
      have hf10 := obs hf8
      refine V_iinc X (v := _ + 1) 5 rfl (by rfl) (by decide) rfl dX8_unlike_74 ?_
      refine V_goto X (tgt := 33) (by decide) dX8_unlike_77 ?_
      exact V_sub [2, 3, 1, 4, 5, 0] rfl (hk33 _ _ _ _ _ _ hf10)
    · have hf8 := ift hf106 q62
      refine V_iconst X (v := 0) (by decide) dX8_unlike_65 ?_
      refine V_goto X (tgt := 72) (by decide) dX8_unlike_66 ?_
      refine V_ior X dX8_unlike_72 ?_
      refine V_istore_n X (by decide) rfl dX8_unlike_73 ?_
      refine V_iinc X (v := _ + 1) 5 rfl (by rfl) (by decide) rfl dX8_unlike_74 ?_
      refine V_goto X (tgt := 33) (by decide) dX8_unlike_77 ?_
      exact V_sub [2, 3, 1, 4, 5, 0] rfl (hk33 _ _ _ _ _ _ hf8)
def f8_unlike_L33 (k4 : Int32 → Int32 → Int32 → Hp → Re) : Nat → Int32 → Int32 → Int32 → Int32 → Int32 → Hp → Re
  | 0 => fun _ _ _ _ _ _ => none
  | n + 1 => f8_unlike_B33 k4 (f8_unlike_L33 k4 n)
theorem f8_unlike_L33_s (k4 : Int32 → Int32 → Int32 → Hp → Re) (n : Nat) (x1 : Int32) (x2 : Int32) (x3 : Int32) (x4 : Int32) (x5 : Int32) (h : Hp) : f8_unlike_L33 k4 (n + 1) x1 x2 x3 x4 x5 h = f8_unlike_B33 k4 (f8_unlike_L33 k4 n) x1 x2 x3 x4 x5 h := rfl
theorem f8_unlike_L33_ok (hE : IW E) (X : XC E RX8 cX8_unlike 6 (some .int) A p s m args meth c) {k4 : Int32 → Int32 → Int32 → Hp → Re} (hk4 : ∀ (x1 : Int32) (x2 : Int32) (x3 : Int32) (h : Hp), k4 x1 x2 x3 h = some (r, h') → VM E 6 A p l e 2 s m args below meth c (Qi E A r h') 4 [(0, .ref (eA E 12)), (1, .int x1), (2, .int x2), (3, .int x3)] [] h) : ∀ (n : Nat) (x1 : Int32) (x2 : Int32) (x3 : Int32) (x4 : Int32) (x5 : Int32) (h : Hp), f8_unlike_L33 k4 n x1 x2 x3 x4 x5 h = some (r, h') → VM E 6 A p l e 2 s m args below meth c (Qi E A r h') 33 [(0, .ref (eA E 12)), (1, .int x1), (2, .int x2), (3, .int x3), (4, .int x4), (5, .int x5)] [] h := by
  intro n
  induction n with
  | zero =>
    intro x1 x2 x3 x4 x5 h q
    have q : (none : Re) = some (r, h') := q
    cases q
  | succ n ih =>
    intro x1 x2 x3 x4 x5 h q
    exact f8_unlike_B33_ok hE X hk4 ih q
def f8_unlike_B4 (k4 : Int32 → Int32 → Int32 → Hp → Re) (x1 : Int32) (x2 : Int32) (x3 : Int32) (h : Hp) : Re :=
  if 8 ≤ x3 then (some (x2, h)) else ((f8_mirrored 0 x3 h).bind fun c2 => (f8_p 0 x1 c2.1 c2.2).bind fun c4 => if inB (c4.1 + 0) 383 = true then (some (c4.2 13 (Int32.toNatClampNeg (c4.1 + 0)) : Int32)).bind fun z7 => f8_unlike_L33 k4 FU x1 x2 x3 z7 1 c4.2 else none)
set_option maxRecDepth 20000 in
set_option maxHeartbeats 4000000 in
theorem f8_unlike_B4_ok (hE : IW E) (X : XC E RX8 cX8_unlike 6 (some .int) A p s m args meth c) {k4 : Int32 → Int32 → Int32 → Hp → Re} (hk4 : ∀ (x1 : Int32) (x2 : Int32) (x3 : Int32) (h : Hp), k4 x1 x2 x3 h = some (r, h') → VM E 6 A p l e 2 s m args below meth c (Qi E A r h') 4 [(0, .ref (eA E 12)), (1, .int x1), (2, .int x2), (3, .int x3)] [] h) {x1 : Int32} {x2 : Int32} {x3 : Int32} {h : Hp} (hf0 : f8_unlike_B4 k4 x1 x2 x3 h = some (r, h')) : VM E 6 A p l e 2 s m args below meth c (Qi E A r h') 4 [(0, .ref (eA E 12)), (1, .int x1), (2, .int x2), (3, .int x3)] [] h := by
  unfold f8_unlike_B4 at hf0
  have hf1 := hf0
  refine V_iload_n X 3 rfl dX8_unlike_4 ?_
  refine V_bipush X (v := 8) (by decide) dX8_unlike_5 ?_
  refine V_icmp_ge X (tgt := 86) (by decide) dX8_unlike_7 (fun q7 => ?_) (fun q7 => ?_)
  · have hf2 := ift hf1 q7
    refine V_iload_n X 2 rfl dX8_unlike_86 ?_
    exact V_iret X rfl hf2 dX8_unlike_87
  · have hf2 := ife hf1 q7
    refine V_aload_n X 0 rfl dX8_unlike_10 ?_
    refine G_X8_0_7 hE X dX8_unlike_11 ?_
    refine V_iconst X (v := 0) (by decide) dX8_unlike_14 ?_
    refine V_iload_n X 1 rfl dX8_unlike_15 ?_
    refine V_aload_n X 0 rfl dX8_unlike_16 ?_
    refine V_iconst X (v := 0) (by decide) dX8_unlike_17 ?_
    refine V_iload_n X 3 rfl dX8_unlike_18 ?_
    obtain ⟨c2, e_c2, hf4⟩ := obd hf2
    refine V_callVi X (OB_12 hE) rfl rfl (f8_mirrored_ok hE e_c2) ys_X8_mirrored yw_X8_mirrored ml_X8_57 rfl rfl ⟨Nat.le_of_ble_eq_true rfl, Nat.le_of_ble_eq_true rfl⟩ ⟨Nat.zero_le _, Nat.zero_le _⟩ (Nat.le_of_ble_eq_true rfl) dX8_unlike_19 ?_
    obtain ⟨c4, e_c4, hf6⟩ := obd hf4
    refine V_callSi X (f8_p_ok e_c4) ys_X8_p yw_X8_p ml_X8_61 rfl rfl ⟨Nat.le_of_ble_eq_true rfl, Nat.le_of_ble_eq_true rfl⟩ ⟨Nat.zero_le _, Nat.zero_le _⟩ (Nat.le_of_ble_eq_true rfl) dX8_unlike_22 ?_
    refine V_iconst X (v := 0) (by decide) dX8_unlike_25 ?_
    refine V_iadd X dX8_unlike_26 ?_
    obtain ⟨g106, hf106⟩ := ogd hf6
    refine V_iald X (AR_13 hE) g106 dX8_unlike_27 ?_
    refine V_istore X (by decide) rfl dX8_unlike_28 ?_
    have hf9 := obs hf106
    refine V_iconst X (v := 1) (by decide) dX8_unlike_30 ?_
    refine V_istore X (by decide) rfl dX8_unlike_31 ?_
    exact V_sub [2, 3, 4, 5, 1, 0] rfl (f8_unlike_L33_ok hE X hk4 FU _ _ _ _ _ _ hf9)
def f8_unlike_L4 : Nat → Int32 → Int32 → Int32 → Hp → Re
  | 0 => fun _ _ _ _ => none
  | n + 1 => f8_unlike_B4 (f8_unlike_L4 n)
theorem f8_unlike_L4_s (n : Nat) (x1 : Int32) (x2 : Int32) (x3 : Int32) (h : Hp) : f8_unlike_L4 (n + 1) x1 x2 x3 h = f8_unlike_B4 (f8_unlike_L4 n) x1 x2 x3 h := rfl
theorem f8_unlike_L4_ok (hE : IW E) (X : XC E RX8 cX8_unlike 6 (some .int) A p s m args meth c) : ∀ (n : Nat) (x1 : Int32) (x2 : Int32) (x3 : Int32) (h : Hp), f8_unlike_L4 n x1 x2 x3 h = some (r, h') → VM E 6 A p l e 2 s m args below meth c (Qi E A r h') 4 [(0, .ref (eA E 12)), (1, .int x1), (2, .int x2), (3, .int x3)] [] h := by
  intro n
  induction n with
  | zero =>
    intro x1 x2 x3 h q
    have q : (none : Re) = some (r, h') := q
    cases q
  | succ n ih =>
    intro x1 x2 x3 h q
    exact f8_unlike_B4_ok hE X ih q
def f8_unlike_e (x1 : Int32) (h : Hp) : Re :=
  f8_unlike_L4 FU x1 0 0 h
set_option maxRecDepth 20000 in
set_option maxHeartbeats 4000000 in
theorem f8_unlike_e_ok (hE : IW E) (X : XC E RX8 cX8_unlike 6 (some .int) A p s m args meth c) {x1 : Int32} {h : Hp} (hf0 : f8_unlike_e x1 h = some (r, h')) : VM E 6 A p l e 2 s m args below meth c (Qi E A r h') 0 [(0, .ref (eA E 12)), (1, .int x1)] [] h := by
  unfold f8_unlike_e at hf0
  have hf1 := hf0
  refine V_iconst X (v := 0) (by decide) dX8_unlike_0 ?_
  refine V_istore_n X (by decide) rfl dX8_unlike_1 ?_
  refine V_iconst X (v := 0) (by decide) dX8_unlike_2 ?_
  refine V_istore_n X (by decide) rfl dX8_unlike_3 ?_
  exact V_sub [2, 3, 1, 0] rfl (f8_unlike_L4_ok hE X FU _ _ _ _ hf1)
def f8_unlike (x1 : Int32) (h : Hp) : Re := f8_unlike_e x1 h
theorem f8_unlike_ok (hE : IW E) {x1 : Int32} {h : Hp} {q : Int32 × Hp} (hf0 : f8_unlike x1 h = some q) : SMi l E 2 yX8_unlike cX8_unlike 6 (some .int) [.ref (eA E 12), .int x1] h q.1 q.2 :=
  SMi.of (by decide +kernel) (Nat.le_of_ble_eq_true rfl) (fun p e s m args below meth c A X => f8_unlike_e_ok hE X (r := q.1) (h' := q.2) hf0)
def f8_ofPlaces_B5 (k5 : Int32 → Int32 → Int32 → Int32 → Hp → Re) (x1 : Int32) (x2 : Int32) (x3 : Int32) (x4 : Int32) (h : Hp) : Re :=
  if 32 ≤ x4 then (some (x3, h)) else ((f8_isRight (x4 / 8) x1 (x4 - x4 / 8 * 8) h).bind fun c2 => if x2 = 4 then (if c2.1 = 0 then (k5 x1 x2 (x3 + 1) (x4 + 1) c2.2) else (k5 x1 x2 (x3 + 0) (x4 + 1) c2.2)) else (if x2 = 5 then ((f8_p (x4 / 8) x1 (x4 - x4 / 8 * 8) c2.2).bind fun c8 => if inB (c8.1 + 1) 383 = true then (some (x3 + (c8.2 13 (Int32.toNatClampNeg (c8.1 + 1))) : Int32)).bind fun z11 => k5 x1 x2 z11 (x4 + 1) c8.2 else none) else ((f8_missing (x4 / 8) x1 (x4 - x4 / 8 * 8) c2.2).bind fun c6 => k5 x1 x2 (x3 + c6.1) (x4 + 1) c6.2)))
set_option maxRecDepth 20000 in
set_option maxHeartbeats 4000000 in
theorem f8_ofPlaces_B5_ok (hE : IW E) (X : XC E RX8 cX8_ofPlaces 6 (some .int) A p s m args meth c) {k5 : Int32 → Int32 → Int32 → Int32 → Hp → Re} (hk5 : ∀ (x1 : Int32) (x2 : Int32) (x3 : Int32) (x4 : Int32) (h : Hp), k5 x1 x2 x3 x4 h = some (r, h') → VM E 6 A p l e 4 s m args below meth c (Qi E A r h') 5 [(0, .ref (eA E 12)), (1, .int x1), (2, .int x2), (3, .int x3), (4, .int x4)] [] h) {x1 : Int32} {x2 : Int32} {x3 : Int32} {x4 : Int32} {h : Hp} (hf0 : f8_ofPlaces_B5 k5 x1 x2 x3 x4 h = some (r, h')) : VM E 6 A p l e 4 s m args below meth c (Qi E A r h') 5 [(0, .ref (eA E 12)), (1, .int x1), (2, .int x2), (3, .int x3), (4, .int x4)] [] h := by
  unfold f8_ofPlaces_B5 at hf0
  have hf1 := hf0
  refine V_iload X 4 rfl dX8_ofPlaces_5 ?_
  refine V_bipush X (v := 32) (by decide) dX8_ofPlaces_7 ?_
  refine V_icmp_ge X (tgt := 100) (by decide) dX8_ofPlaces_9 (fun q9 => ?_) (fun q9 => ?_)
  · have hf2 := ift hf1 q9
    refine V_iload_n X 3 rfl dX8_ofPlaces_100 ?_
    exact V_iret X rfl hf2 dX8_ofPlaces_101
  · have hf2 := ife hf1 q9
    refine V_aload_n X 0 rfl dX8_ofPlaces_12 ?_
    refine V_iload X 4 rfl dX8_ofPlaces_13 ?_
    refine V_bipush X (v := 8) (by decide) dX8_ofPlaces_15 ?_
    refine V_idiv X (by decide) dX8_ofPlaces_17 ?_
    refine V_iload_n X 1 rfl dX8_ofPlaces_18 ?_
    refine V_iload X 4 rfl dX8_ofPlaces_19 ?_
    refine V_bipush X (v := 8) (by decide) dX8_ofPlaces_21 ?_
    refine V_irem X (by decide) dX8_ofPlaces_23 ?_
    obtain ⟨c2, e_c2, hf4⟩ := obd hf2
    refine V_callVi X (OB_12 hE) rfl rfl (f8_isRight_ok hE e_c2) ys_X8_isRight yw_X8_isRight ml_X8_68 rfl rfl ⟨Nat.le_of_ble_eq_true rfl, Nat.le_of_ble_eq_true rfl⟩ ⟨Nat.zero_le _, Nat.zero_le _⟩ (Nat.le_of_ble_eq_true rfl) dX8_ofPlaces_24 ?_
    refine V_istore X (by decide) rfl dX8_ofPlaces_27 ?_
    refine V_iload_n X 4 rfl dX8_ofPlaces_29 ?_
    refine V_iload_n X 3 rfl dX8_ofPlaces_30 ?_
    refine V_iconst X (v := 4) (by decide) dX8_ofPlaces_31 ?_
    refine V_icmp_ne X (tgt := 48) (by decide) dX8_ofPlaces_32 (fun q32 => ?_) (fun q32 => ?_)
    · have hf5 := ife hf4 q32
      refine V_iload_n X 3 rfl dX8_ofPlaces_48 ?_
      refine V_iconst X (v := 5) (by decide) dX8_ofPlaces_49 ?_
      refine V_icmp_ne X (tgt := 77) (by decide) dX8_ofPlaces_50 (fun q50 => ?_) (fun q50 => ?_)
      · have hf6 := ife hf5 q50
        refine V_aload_n X 1 rfl dX8_ofPlaces_77 ?_
        refine V_iload X 5 rfl dX8_ofPlaces_78 ?_
        refine V_bipush X (v := 8) (by decide) dX8_ofPlaces_80 ?_
        refine V_idiv X (by decide) dX8_ofPlaces_82 ?_
        refine V_iload_n X 2 rfl dX8_ofPlaces_83 ?_
        refine V_iload X 5 rfl dX8_ofPlaces_84 ?_
        refine V_bipush X (v := 8) (by decide) dX8_ofPlaces_86 ?_
        refine V_irem X (by decide) dX8_ofPlaces_88 ?_
        obtain ⟨c6, e_c6, hf8⟩ := obd hf6
        refine V_callVi X (OB_12 hE) rfl rfl (f8_missing_ok hE e_c6) ys_X8_missing yw_X8_missing ml_X8_130 rfl rfl ⟨Nat.le_of_ble_eq_true rfl, Nat.le_of_ble_eq_true rfl⟩ ⟨Nat.zero_le _, Nat.zero_le _⟩ (Nat.le_of_ble_eq_true rfl) dX8_ofPlaces_89 ?_
        refine V_iadd X dX8_ofPlaces_92 ?_
        refine V_istore_n X (by decide) rfl dX8_ofPlaces_93 ?_
        refine V_iinc X (v := _ + 1) 5 rfl (by rfl) (by decide) rfl dX8_ofPlaces_94 ?_
        refine V_goto X (tgt := 5) (by decide) dX8_ofPlaces_97 ?_
        exact V_sub [3, 4, 5, 1, 0] rfl (hk5 _ _ _ _ _ hf8)
      · have hf6 := ift hf5 q50
        refine V_aload_n X 1 rfl dX8_ofPlaces_53 ?_
        refine G_X8_0_7 hE X dX8_ofPlaces_54 ?_
        refine V_iload X 5 rfl dX8_ofPlaces_57 ?_
        refine V_bipush X (v := 8) (by decide) dX8_ofPlaces_59 ?_
        refine V_idiv X (by decide) dX8_ofPlaces_61 ?_
        refine V_iload_n X 2 rfl dX8_ofPlaces_62 ?_
        refine V_iload X 5 rfl dX8_ofPlaces_63 ?_
        refine V_bipush X (v := 8) (by decide) dX8_ofPlaces_65 ?_
        refine V_irem X (by decide) dX8_ofPlaces_67 ?_
        obtain ⟨c8, e_c8, hf10⟩ := obd hf6
        refine V_callSi X (f8_p_ok e_c8) ys_X8_p yw_X8_p ml_X8_61 rfl rfl ⟨Nat.le_of_ble_eq_true rfl, Nat.le_of_ble_eq_true rfl⟩ ⟨Nat.zero_le _, Nat.zero_le _⟩ (Nat.le_of_ble_eq_true rfl) dX8_ofPlaces_68 ?_
        refine V_iconst X (v := 1) (by decide) dX8_ofPlaces_71 ?_
        refine V_iadd X dX8_ofPlaces_72 ?_
        obtain ⟨g110, hf110⟩ := ogd hf10
        refine V_iald X (AR_13 hE) g110 dX8_ofPlaces_73 ?_
        refine V_goto X (tgt := 92) (by decide) dX8_ofPlaces_74 ?_
        refine V_iadd X dX8_ofPlaces_92 ?_
        refine V_istore_n X (by decide) rfl dX8_ofPlaces_93 ?_
        have hf13 := obs hf110
        refine V_iinc X (v := _ + 1) 5 rfl (by rfl) (by decide) rfl dX8_ofPlaces_94 ?_
        refine V_goto X (tgt := 5) (by decide) dX8_ofPlaces_97 ?_
        exact V_sub [3, 4, 5, 1, 0] rfl (hk5 _ _ _ _ _ hf13)
    · have hf5 := ift hf4 q32
      refine V_iload X 0 rfl dX8_ofPlaces_35 ?_
      refine V_if_eq X (tgt := 44) (by decide) dX8_ofPlaces_37 (fun q37 => ?_) (fun q37 => ?_)
      · have hf14 := ift hf5 q37
        refine V_iconst X (v := 1) (by decide) dX8_ofPlaces_44 ?_
        refine V_goto X (tgt := 92) (by decide) dX8_ofPlaces_45 ?_
        refine V_iadd X dX8_ofPlaces_92 ?_
        refine V_istore_n X (by decide) rfl dX8_ofPlaces_93 ?_
        refine V_iinc X (v := _ + 1) 5 rfl (by rfl) (by decide) rfl dX8_ofPlaces_94 ?_
        refine V_goto X (tgt := 5) (by decide) dX8_ofPlaces_97 ?_
        exact V_sub [3, 4, 5, 1, 0] rfl (hk5 _ _ _ _ _ hf14)
      · have hf14 := ife hf5 q37
        refine V_iconst X (v := 0) (by decide) dX8_ofPlaces_40 ?_
        refine V_goto X (tgt := 92) (by decide) dX8_ofPlaces_41 ?_
        refine V_iadd X dX8_ofPlaces_92 ?_
        refine V_istore_n X (by decide) rfl dX8_ofPlaces_93 ?_
        refine V_iinc X (v := _ + 1) 5 rfl (by rfl) (by decide) rfl dX8_ofPlaces_94 ?_
        refine V_goto X (tgt := 5) (by decide) dX8_ofPlaces_97 ?_
        exact V_sub [3, 4, 5, 1, 0] rfl (hk5 _ _ _ _ _ hf14)
def f8_ofPlaces_L5 : Nat → Int32 → Int32 → Int32 → Int32 → Hp → Re
  | 0 => fun _ _ _ _ _ => none
  | n + 1 => f8_ofPlaces_B5 (f8_ofPlaces_L5 n)
theorem f8_ofPlaces_L5_s (n : Nat) (x1 : Int32) (x2 : Int32) (x3 : Int32) (x4 : Int32) (h : Hp) : f8_ofPlaces_L5 (n + 1) x1 x2 x3 x4 h = f8_ofPlaces_B5 (f8_ofPlaces_L5 n) x1 x2 x3 x4 h := rfl
theorem f8_ofPlaces_L5_ok (hE : IW E) (X : XC E RX8 cX8_ofPlaces 6 (some .int) A p s m args meth c) : ∀ (n : Nat) (x1 : Int32) (x2 : Int32) (x3 : Int32) (x4 : Int32) (h : Hp), f8_ofPlaces_L5 n x1 x2 x3 x4 h = some (r, h') → VM E 6 A p l e 4 s m args below meth c (Qi E A r h') 5 [(0, .ref (eA E 12)), (1, .int x1), (2, .int x2), (3, .int x3), (4, .int x4)] [] h := by
  intro n
  induction n with
  | zero =>
    intro x1 x2 x3 x4 h q
    have q : (none : Re) = some (r, h') := q
    cases q
  | succ n ih =>
    intro x1 x2 x3 x4 h q
    exact f8_ofPlaces_B5_ok hE X ih q
def f8_ofPlaces_e (x1 : Int32) (x2 : Int32) (h : Hp) : Re :=
  f8_ofPlaces_L5 FU x1 x2 0 0 h
set_option maxRecDepth 20000 in
set_option maxHeartbeats 4000000 in
theorem f8_ofPlaces_e_ok (hE : IW E) (X : XC E RX8 cX8_ofPlaces 6 (some .int) A p s m args meth c) {x1 : Int32} {x2 : Int32} {h : Hp} (hf0 : f8_ofPlaces_e x1 x2 h = some (r, h')) : VM E 6 A p l e 4 s m args below meth c (Qi E A r h') 0 [(0, .ref (eA E 12)), (1, .int x1), (2, .int x2)] [] h := by
  unfold f8_ofPlaces_e at hf0
  have hf1 := hf0
  refine V_iconst X (v := 0) (by decide) dX8_ofPlaces_0 ?_
  refine V_istore_n X (by decide) rfl dX8_ofPlaces_1 ?_
  refine V_iconst X (v := 0) (by decide) dX8_ofPlaces_2 ?_
  refine V_istore X (by decide) rfl dX8_ofPlaces_3 ?_
  exact V_sub [2, 3, 4, 1, 0] rfl (f8_ofPlaces_L5_ok hE X FU _ _ _ _ _ hf1)
def f8_ofPlaces (x1 : Int32) (x2 : Int32) (h : Hp) : Re := f8_ofPlaces_e x1 x2 h
theorem f8_ofPlaces_ok (hE : IW E) {x1 : Int32} {x2 : Int32} {h : Hp} {q : Int32 × Hp} (hf0 : f8_ofPlaces x1 x2 h = some q) : SMi l E 4 yX8_ofPlaces cX8_ofPlaces 6 (some .int) [.ref (eA E 12), .int x1, .int x2] h q.1 q.2 :=
  SMi.of (by decide +kernel) (Nat.le_of_ble_eq_true rfl) (fun p e s m args below meth c A X => f8_ofPlaces_e_ok hE X (r := q.1) (h' := q.2) hf0)
def f8_ofRing_j96 (x1 : Int32) (x2 : Int32) (h : Hp) : Re :=
  (f8_ofPlaces x1 x2 h).bind fun c1 => some (c1.1, c1.2)
set_option maxRecDepth 20000 in
set_option maxHeartbeats 4000000 in
theorem f8_ofRing_j96_ok (hE : IW E) (X : XC E RX8 cX8_ofRing 3 (some .int) A p s m args meth c) {x1 : Int32} {x2 : Int32} {h : Hp} (hf0 : f8_ofRing_j96 x1 x2 h = some (r, h')) : VM E 3 A p l e 5 s m args below meth c (Qi E A r h') 96 [(0, .ref (eA E 12)), (1, .int x1), (2, .int x2)] [] h := by
  unfold f8_ofRing_j96 at hf0
  have hf1 := hf0
  refine V_aload_n X 0 rfl dX8_ofRing_96 ?_
  refine V_iload_n X 1 rfl dX8_ofRing_97 ?_
  refine V_iload_n X 2 rfl dX8_ofRing_98 ?_
  obtain ⟨c1, e_c1, hf3⟩ := obd hf1
  refine V_callVi X (OB_12 hE) rfl rfl (f8_ofPlaces_ok hE e_c1) ys_X8_ofPlaces yw_X8_ofPlaces ml_X8_136 rfl rfl ⟨Nat.le_of_ble_eq_true rfl, Nat.le_of_ble_eq_true rfl⟩ ⟨Nat.zero_le _, Nat.zero_le _⟩ (Nat.le_of_ble_eq_true rfl) dX8_ofRing_99 ?_
  exact V_iret X rfl hf3 dX8_ofRing_102
def f8_ofRing_e (x1 : Int32) (x2 : Int32) (h : Hp) : Re :=
  (f8_isRing x1 h).bind fun c1 => if c1.1 = 0 then (some ((-1), c1.2)) else (if x2 = 0 then ((f8_isOpen x1 c1.2).bind fun c6 => if c6.1 = 0 then (some (1, c6.2)) else (some (0, c6.2))) else if x2 = 1 then (if inB (18 + x1) 383 = true then some (c1.2 13 (Int32.toNatClampNeg (18 + x1)), c1.2) else none) else if x2 = 2 then ((f8_isWhole x1 c1.2).bind fun c12 => if c12.1 = 0 then (some (0, c12.2)) else (some (1, c12.2))) else if x2 = 3 then ((f8_unlike x1 c1.2).bind fun c16 => some (c16.1, c16.2)) else if x2 = 4 then (f8_ofRing_j96 x1 x2 c1.2) else if x2 = 5 then (f8_ofRing_j96 x1 x2 c1.2) else if x2 = 6 then (f8_ofRing_j96 x1 x2 c1.2) else (some ((-2), c1.2)))
set_option maxRecDepth 20000 in
set_option maxHeartbeats 4000000 in
theorem f8_ofRing_e_ok (hE : IW E) (X : XC E RX8 cX8_ofRing 3 (some .int) A p s m args meth c) {x1 : Int32} {x2 : Int32} {h : Hp} (hf0 : f8_ofRing_e x1 x2 h = some (r, h')) : VM E 3 A p l e 5 s m args below meth c (Qi E A r h') 0 [(0, .ref (eA E 12)), (1, .int x1), (2, .int x2)] [] h := by
  unfold f8_ofRing_e at hf0
  have hf1 := hf0
  refine V_iload_n X 1 rfl dX8_ofRing_0 ?_
  obtain ⟨c1, e_c1, hf3⟩ := obd hf1
  refine V_callSi X (f8_isRing_ok e_c1) ys_X8_isRing yw_X8_isRing ml_X8_47 rfl rfl ⟨Nat.le_of_ble_eq_true rfl, Nat.le_of_ble_eq_true rfl⟩ ⟨Nat.zero_le _, Nat.zero_le _⟩ (Nat.le_of_ble_eq_true rfl) dX8_ofRing_1 ?_
  refine V_if_ne X (tgt := 9) (by decide) dX8_ofRing_4 (fun q4 => ?_) (fun q4 => ?_)
  · have hf4 := ife hf3 q4
    refine V_iload_n X 2 rfl dX8_ofRing_9 ?_
    rcases oif hf4 with ⟨q10_0, hf10_0⟩ | ⟨q10_0, hf10_0⟩
    · refine V_table X (tgt := 52) (off := 42) (by rw [q10_0]; decide) (by decide) (by decide) dX8_ofRing_10 ?_
      have hf6 := hf10_0
      refine V_aload_n X 0 rfl dX8_ofRing_52 ?_
      refine V_iload_n X 1 rfl dX8_ofRing_53 ?_
      obtain ⟨c6, e_c6, hf8⟩ := obd hf6
      refine V_callVi X (OB_12 hE) rfl rfl (f8_isOpen_ok hE e_c6) ys_X8_isOpen yw_X8_isOpen ml_X8_72 rfl rfl ⟨Nat.le_of_ble_eq_true rfl, Nat.le_of_ble_eq_true rfl⟩ ⟨Nat.zero_le _, Nat.zero_le _⟩ (Nat.le_of_ble_eq_true rfl) dX8_ofRing_54 ?_
      refine V_if_eq X (tgt := 64) (by decide) dX8_ofRing_57 (fun q57 => ?_) (fun q57 => ?_)
      · have hf9 := ift hf8 q57
        refine V_iconst X (v := 1) (by decide) dX8_ofRing_64 ?_
        exact V_iret X rfl hf9 dX8_ofRing_65
      · have hf9 := ife hf8 q57
        refine V_iconst X (v := 0) (by decide) dX8_ofRing_60 ?_
        refine V_goto X (tgt := 65) (by decide) dX8_ofRing_61 ?_
        exact V_iret X rfl hf9 dX8_ofRing_65
    rcases oif hf10_0 with ⟨q10_1, hf10_1⟩ | ⟨q10_1, hf10_1⟩
    · refine V_table X (tgt := 66) (off := 56) (by rw [q10_1]; decide) (by decide) (by decide) dX8_ofRing_10 ?_
      have hf10 := hf10_1
      refine V_aload_n X 0 rfl dX8_ofRing_66 ?_
      refine G_X8_0_7 hE X dX8_ofRing_67 ?_
      refine V_bipush X (v := 18) (by decide) dX8_ofRing_70 ?_
      refine V_iload_n X 1 rfl dX8_ofRing_72 ?_
      refine V_iadd X dX8_ofRing_73 ?_
      obtain ⟨g110, hf110⟩ := ogd hf10
      refine V_iald X (AR_13 hE) g110 dX8_ofRing_74 ?_
      exact V_iret X rfl hf110 dX8_ofRing_75
    rcases oif hf10_1 with ⟨q10_2, hf10_2⟩ | ⟨q10_2, hf10_2⟩
    · refine V_table X (tgt := 76) (off := 66) (by rw [q10_2]; decide) (by decide) (by decide) dX8_ofRing_10 ?_
      have hf12 := hf10_2
      refine V_aload_n X 0 rfl dX8_ofRing_76 ?_
      refine V_iload_n X 1 rfl dX8_ofRing_77 ?_
      obtain ⟨c12, e_c12, hf14⟩ := obd hf12
      refine V_callVi X (OB_12 hE) rfl rfl (f8_isWhole_ok hE e_c12) ys_X8_isWhole yw_X8_isWhole ml_X8_92 rfl rfl ⟨Nat.le_of_ble_eq_true rfl, Nat.le_of_ble_eq_true rfl⟩ ⟨Nat.zero_le _, Nat.zero_le _⟩ (Nat.le_of_ble_eq_true rfl) dX8_ofRing_78 ?_
      refine V_if_eq X (tgt := 88) (by decide) dX8_ofRing_81 (fun q81 => ?_) (fun q81 => ?_)
      · have hf15 := ift hf14 q81
        refine V_iconst X (v := 0) (by decide) dX8_ofRing_88 ?_
        exact V_iret X rfl hf15 dX8_ofRing_89
      · have hf15 := ife hf14 q81
        refine V_iconst X (v := 1) (by decide) dX8_ofRing_84 ?_
        refine V_goto X (tgt := 89) (by decide) dX8_ofRing_85 ?_
        exact V_iret X rfl hf15 dX8_ofRing_89
    rcases oif hf10_2 with ⟨q10_3, hf10_3⟩ | ⟨q10_3, hf10_3⟩
    · refine V_table X (tgt := 90) (off := 80) (by rw [q10_3]; decide) (by decide) (by decide) dX8_ofRing_10 ?_
      have hf16 := hf10_3
      refine V_aload_n X 0 rfl dX8_ofRing_90 ?_
      refine V_iload_n X 1 rfl dX8_ofRing_91 ?_
      obtain ⟨c16, e_c16, hf18⟩ := obd hf16
      refine V_callVi X (OB_12 hE) rfl rfl (f8_unlike_ok hE e_c16) ys_X8_unlike yw_X8_unlike ml_X8_133 rfl rfl ⟨Nat.le_of_ble_eq_true rfl, Nat.le_of_ble_eq_true rfl⟩ ⟨Nat.zero_le _, Nat.zero_le _⟩ (Nat.le_of_ble_eq_true rfl) dX8_ofRing_92 ?_
      exact V_iret X rfl hf18 dX8_ofRing_95
    rcases oif hf10_3 with ⟨q10_4, hf10_4⟩ | ⟨q10_4, hf10_4⟩
    · refine V_table X (tgt := 96) (off := 86) (by rw [q10_4]; decide) (by decide) (by decide) dX8_ofRing_10 ?_
      have hf19 := hf10_4
      exact V_sub [0, 1, 2] rfl (f8_ofRing_j96_ok hE X hf19)
    rcases oif hf10_4 with ⟨q10_5, hf10_5⟩ | ⟨q10_5, hf10_5⟩
    · refine V_table X (tgt := 96) (off := 86) (by rw [q10_5]; decide) (by decide) (by decide) dX8_ofRing_10 ?_
      have hf20 := hf10_5
      exact V_sub [0, 1, 2] rfl (f8_ofRing_j96_ok hE X hf20)
    rcases oif hf10_5 with ⟨q10_6, hf10_6⟩ | ⟨q10_6, hf10_6⟩
    · refine V_table X (tgt := 96) (off := 86) (by rw [q10_6]; decide) (by decide) (by decide) dX8_ofRing_10 ?_
      have hf21 := hf10_6
      exact V_sub [0, 1, 2] rfl (f8_ofRing_j96_ok hE X hf21)
    · skip
      refine V_table X (tgt := 103) (off := 93) (tsel_out (by have z0 := lv_neT q10_0 (show (0 : Int32).toInt = 0 by decide); have z1 := lv_neT q10_1 (show (1 : Int32).toInt = 1 by decide); have z2 := lv_neT q10_2 (show (2 : Int32).toInt = 2 by decide); have z3 := lv_neT q10_3 (show (3 : Int32).toInt = 3 by decide); have z4 := lv_neT q10_4 (show (4 : Int32).toInt = 4 by decide); have z5 := lv_neT q10_5 (show (5 : Int32).toInt = 5 by decide); have z6 := lv_neT q10_6 (show (6 : Int32).toInt = 6 by decide); omega)) (by decide) (by decide) dX8_ofRing_10 ?_
      have hf22 := hf10_6
      refine V_bipush X (v := -2) (by decide) dX8_ofRing_103 ?_
      exact V_iret X rfl hf22 dX8_ofRing_105
  · have hf4 := ift hf3 q4
    refine V_iconst X (v := -1) (by decide) dX8_ofRing_7 ?_
    exact V_iret X rfl hf4 dX8_ofRing_8
def f8_ofRing (x1 : Int32) (x2 : Int32) (h : Hp) : Re := f8_ofRing_e x1 x2 h
theorem f8_ofRing_ok (hE : IW E) {x1 : Int32} {x2 : Int32} {h : Hp} {q : Int32 × Hp} (hf0 : f8_ofRing x1 x2 h = some q) : SMi l E 5 yX8_ofRing cX8_ofRing 3 (some .int) [.ref (eA E 12), .int x1, .int x2] h q.1 q.2 :=
  SMi.of (by decide +kernel) (Nat.le_of_ble_eq_true rfl) (fun p e s m args below meth c A X => f8_ofRing_e_ok hE X (r := q.1) (h' := q.2) hf0)
def f8_ofPlacesIn_j102 (k5 : Int32 → Int32 → Int32 → Int32 → Hp → Re) (x1 : Int32) (x2 : Int32) (x3 : Int32) (x4 : Int32) (x5 : Int32) (x6 : Int32) (x7 : Int32) (y0 : Int32) (h : Hp) : Re :=
  if x2 = 0 then (if inB (x5 + 1) 383 = true then (some (x3 + (h 13 (Int32.toNatClampNeg (x5 + 1))) : Int32)).bind fun z7 => k5 x1 x2 z7 (x4 + 1) h else none) else (if x2 = 1 then (if x7 = 0 then (k5 x1 x2 (x3 + 0) (x4 + 1) h) else (k5 x1 x2 (x3 + 1) (x4 + 1) h)) else (if x2 = 11 then (if x6 = 0 then (k5 x1 x2 (x3 + 0) (x4 + 1) h) else (k5 x1 x2 (x3 + 1) (x4 + 1) h)) else (k5 x1 x2 (x3 + y0) (x4 + 1) h)))
set_option maxRecDepth 20000 in
set_option maxHeartbeats 4000000 in
theorem f8_ofPlacesIn_j102_ok (hE : IW E) (X : XC E RX8 cX8_ofPlacesIn 9 (some .int) A p s m args meth c) {k5 : Int32 → Int32 → Int32 → Int32 → Hp → Re} (hk5 : ∀ (x1 : Int32) (x2 : Int32) (x3 : Int32) (x4 : Int32) (h : Hp), k5 x1 x2 x3 x4 h = some (r, h') → VM E 9 A p l e 4 s m args below meth c (Qi E A r h') 5 [(0, .ref (eA E 12)), (1, .int x1), (2, .int x2), (3, .int x3), (4, .int x4)] [] h) {x1 : Int32} {x2 : Int32} {x3 : Int32} {x4 : Int32} {x5 : Int32} {x6 : Int32} {x7 : Int32} {y0 : Int32} {h : Hp} (hf0 : f8_ofPlacesIn_j102 k5 x1 x2 x3 x4 x5 x6 x7 y0 h = some (r, h')) : VM E 9 A p l e 4 s m args below meth c (Qi E A r h') 102 [(0, .ref (eA E 12)), (1, .int x1), (2, .int x2), (3, .int x3), (4, .int x4), (5, .int x5), (6, .int x6), (7, .int x7)] [.int y0] h := by
  unfold f8_ofPlacesIn_j102 at hf0
  have hf1 := hf0
  refine V_istore X (by decide) rfl dX8_ofPlacesIn_102 ?_
  refine V_iload_n X 4 rfl dX8_ofPlacesIn_104 ?_
  refine V_iload_n X 3 rfl dX8_ofPlacesIn_105 ?_
  refine V_if_ne X (tgt := 121) (by decide) dX8_ofPlacesIn_106 (fun q106 => ?_) (fun q106 => ?_)
  · have hf2 := ife hf1 q106
    refine V_iload_n X 3 rfl dX8_ofPlacesIn_121 ?_
    refine V_iconst X (v := 1) (by decide) dX8_ofPlacesIn_122 ?_
    refine V_icmp_ne X (tgt := 139) (by decide) dX8_ofPlacesIn_123 (fun q123 => ?_) (fun q123 => ?_)
    · have hf3 := ife hf2 q123
      refine V_iload_n X 3 rfl dX8_ofPlacesIn_139 ?_
      refine V_bipush X (v := 11) (by decide) dX8_ofPlacesIn_140 ?_
      refine V_icmp_ne X (tgt := 158) (by decide) dX8_ofPlacesIn_142 (fun q142 => ?_) (fun q142 => ?_)
      · have hf4 := ife hf3 q142
        refine V_iload X 0 rfl dX8_ofPlacesIn_158 ?_
        refine V_iadd X dX8_ofPlacesIn_160 ?_
        refine V_istore_n X (by decide) rfl dX8_ofPlacesIn_161 ?_
        refine V_iinc X (v := _ + 1) 5 rfl (by rfl) (by decide) rfl dX8_ofPlacesIn_162 ?_
        refine V_goto X (tgt := 5) (by decide) dX8_ofPlacesIn_165 ?_
        exact V_sub [3, 4, 5, 1, 0] rfl (hk5 _ _ _ _ _ hf4)
      · have hf4 := ift hf3 q142
        refine V_iload X 7 rfl dX8_ofPlacesIn_145 ?_
        refine V_if_eq X (tgt := 154) (by decide) dX8_ofPlacesIn_147 (fun q147 => ?_) (fun q147 => ?_)
        · have hf5 := ift hf4 q147
          refine V_iconst X (v := 0) (by decide) dX8_ofPlacesIn_154 ?_
          refine V_goto X (tgt := 160) (by decide) dX8_ofPlacesIn_155 ?_
          refine V_iadd X dX8_ofPlacesIn_160 ?_
          refine V_istore_n X (by decide) rfl dX8_ofPlacesIn_161 ?_
          refine V_iinc X (v := _ + 1) 5 rfl (by rfl) (by decide) rfl dX8_ofPlacesIn_162 ?_
          refine V_goto X (tgt := 5) (by decide) dX8_ofPlacesIn_165 ?_
          exact V_sub [3, 4, 5, 1, 0] rfl (hk5 _ _ _ _ _ hf5)
        · have hf5 := ife hf4 q147
          refine V_iconst X (v := 1) (by decide) dX8_ofPlacesIn_150 ?_
          refine V_goto X (tgt := 160) (by decide) dX8_ofPlacesIn_151 ?_
          refine V_iadd X dX8_ofPlacesIn_160 ?_
          refine V_istore_n X (by decide) rfl dX8_ofPlacesIn_161 ?_
          refine V_iinc X (v := _ + 1) 5 rfl (by rfl) (by decide) rfl dX8_ofPlacesIn_162 ?_
          refine V_goto X (tgt := 5) (by decide) dX8_ofPlacesIn_165 ?_
          exact V_sub [3, 4, 5, 1, 0] rfl (hk5 _ _ _ _ _ hf5)
    · have hf3 := ift hf2 q123
      refine V_iload X 8 rfl dX8_ofPlacesIn_126 ?_
      refine V_if_eq X (tgt := 135) (by decide) dX8_ofPlacesIn_128 (fun q128 => ?_) (fun q128 => ?_)
      · have hf6 := ift hf3 q128
        refine V_iconst X (v := 0) (by decide) dX8_ofPlacesIn_135 ?_
        refine V_goto X (tgt := 160) (by decide) dX8_ofPlacesIn_136 ?_
        refine V_iadd X dX8_ofPlacesIn_160 ?_
        refine V_istore_n X (by decide) rfl dX8_ofPlacesIn_161 ?_
        refine V_iinc X (v := _ + 1) 5 rfl (by rfl) (by decide) rfl dX8_ofPlacesIn_162 ?_
        refine V_goto X (tgt := 5) (by decide) dX8_ofPlacesIn_165 ?_
        exact V_sub [3, 4, 5, 1, 0] rfl (hk5 _ _ _ _ _ hf6)
      · have hf6 := ife hf3 q128
        refine V_iconst X (v := 1) (by decide) dX8_ofPlacesIn_131 ?_
        refine V_goto X (tgt := 160) (by decide) dX8_ofPlacesIn_132 ?_
        refine V_iadd X dX8_ofPlacesIn_160 ?_
        refine V_istore_n X (by decide) rfl dX8_ofPlacesIn_161 ?_
        refine V_iinc X (v := _ + 1) 5 rfl (by rfl) (by decide) rfl dX8_ofPlacesIn_162 ?_
        refine V_goto X (tgt := 5) (by decide) dX8_ofPlacesIn_165 ?_
        exact V_sub [3, 4, 5, 1, 0] rfl (hk5 _ _ _ _ _ hf6)
  · have hf2 := ift hf1 q106
    refine V_aload_n X 1 rfl dX8_ofPlacesIn_109 ?_
    refine G_X8_0_7 hE X dX8_ofPlacesIn_110 ?_
    refine V_iload X 6 rfl dX8_ofPlacesIn_113 ?_
    refine V_iconst X (v := 1) (by decide) dX8_ofPlacesIn_115 ?_
    refine V_iadd X dX8_ofPlacesIn_116 ?_
    obtain ⟨g106, hf106⟩ := ogd hf2
    refine V_iald X (AR_13 hE) g106 dX8_ofPlacesIn_117 ?_
    refine V_goto X (tgt := 160) (by decide) dX8_ofPlacesIn_118 ?_
    refine V_iadd X dX8_ofPlacesIn_160 ?_
    refine V_istore_n X (by decide) rfl dX8_ofPlacesIn_161 ?_
    have hf9 := obs hf106
    refine V_iinc X (v := _ + 1) 5 rfl (by rfl) (by decide) rfl dX8_ofPlacesIn_162 ?_
    refine V_goto X (tgt := 5) (by decide) dX8_ofPlacesIn_165 ?_
    exact V_sub [3, 4, 5, 1, 0] rfl (hk5 _ _ _ _ _ hf9)
def f8_ofPlacesIn_j72 (k5 : Int32 → Int32 → Int32 → Int32 → Hp → Re) (x1 : Int32) (x2 : Int32) (x3 : Int32) (x4 : Int32) (x5 : Int32) (x6 : Int32) (y0 : Int32) (h : Hp) : Re :=
  if inB (x5 + 0) 383 = true then if (h 13 (Int32.toNatClampNeg (x5 + 0))) = (x2 - 4) then (if inB (x5 + 1) 383 = true then f8_ofPlacesIn_j102 k5 x1 x2 x3 x4 x5 x6 y0 (h 13 (Int32.toNatClampNeg (x5 + 1))) h else none) else (f8_ofPlacesIn_j102 k5 x1 x2 x3 x4 x5 x6 y0 0 h) else none
set_option maxRecDepth 20000 in
set_option maxHeartbeats 4000000 in
theorem f8_ofPlacesIn_j72_ok (hE : IW E) (X : XC E RX8 cX8_ofPlacesIn 9 (some .int) A p s m args meth c) {k5 : Int32 → Int32 → Int32 → Int32 → Hp → Re} (hk5 : ∀ (x1 : Int32) (x2 : Int32) (x3 : Int32) (x4 : Int32) (h : Hp), k5 x1 x2 x3 x4 h = some (r, h') → VM E 9 A p l e 4 s m args below meth c (Qi E A r h') 5 [(0, .ref (eA E 12)), (1, .int x1), (2, .int x2), (3, .int x3), (4, .int x4)] [] h) {x1 : Int32} {x2 : Int32} {x3 : Int32} {x4 : Int32} {x5 : Int32} {x6 : Int32} {y0 : Int32} {h : Hp} (hf0 : f8_ofPlacesIn_j72 k5 x1 x2 x3 x4 x5 x6 y0 h = some (r, h')) : VM E 9 A p l e 4 s m args below meth c (Qi E A r h') 72 [(0, .ref (eA E 12)), (1, .int x1), (2, .int x2), (3, .int x3), (4, .int x4), (5, .int x5), (6, .int x6)] [.int y0] h := by
  unfold f8_ofPlacesIn_j72 at hf0
  have hf1 := hf0
  refine V_istore X (by decide) rfl dX8_ofPlacesIn_72 ?_
  refine V_aload_n X 1 rfl dX8_ofPlacesIn_74 ?_
  refine G_X8_0_7 hE X dX8_ofPlacesIn_75 ?_
  refine V_iload X 6 rfl dX8_ofPlacesIn_78 ?_
  refine V_iconst X (v := 0) (by decide) dX8_ofPlacesIn_80 ?_
  refine V_iadd X dX8_ofPlacesIn_81 ?_
  obtain ⟨g101, hf101⟩ := ogd hf1
  refine V_iald X (AR_13 hE) g101 dX8_ofPlacesIn_82 ?_
  refine V_iload_n X 3 rfl dX8_ofPlacesIn_83 ?_
  refine V_iconst X (v := 4) (by decide) dX8_ofPlacesIn_84 ?_
  refine V_isub X dX8_ofPlacesIn_85 ?_
  refine V_icmp_ne X (tgt := 101) (by decide) dX8_ofPlacesIn_86 (fun q86 => ?_) (fun q86 => ?_)
  · have hf3 := ife hf101 q86
    refine V_iconst X (v := 0) (by decide) dX8_ofPlacesIn_101 ?_
    exact V_sub [1, 2, 3, 4, 5, 6, 7, 0] rfl (f8_ofPlacesIn_j102_ok hE X hk5 hf3)
  · have hf3 := ift hf101 q86
    refine V_aload_n X 1 rfl dX8_ofPlacesIn_89 ?_
    refine G_X8_0_7 hE X dX8_ofPlacesIn_90 ?_
    refine V_iload X 6 rfl dX8_ofPlacesIn_93 ?_
    refine V_iconst X (v := 1) (by decide) dX8_ofPlacesIn_95 ?_
    refine V_iadd X dX8_ofPlacesIn_96 ?_
    obtain ⟨g103, hf103⟩ := ogd hf3
    refine V_iald X (AR_13 hE) g103 dX8_ofPlacesIn_97 ?_
    refine V_goto X (tgt := 102) (by decide) dX8_ofPlacesIn_98 ?_
    exact V_sub [1, 2, 3, 4, 5, 6, 7, 0] rfl (f8_ofPlacesIn_j102_ok hE X hk5 hf103)
def f8_ofPlacesIn_j71 (k5 : Int32 → Int32 → Int32 → Int32 → Hp → Re) (x1 : Int32) (x2 : Int32) (x3 : Int32) (x4 : Int32) (x5 : Int32) (x6 : Int32) (h : Hp) : Re :=
  f8_ofPlacesIn_j72 k5 x1 x2 x3 x4 x5 x6 0 h
set_option maxRecDepth 20000 in
set_option maxHeartbeats 4000000 in
theorem f8_ofPlacesIn_j71_ok (hE : IW E) (X : XC E RX8 cX8_ofPlacesIn 9 (some .int) A p s m args meth c) {k5 : Int32 → Int32 → Int32 → Int32 → Hp → Re} (hk5 : ∀ (x1 : Int32) (x2 : Int32) (x3 : Int32) (x4 : Int32) (h : Hp), k5 x1 x2 x3 x4 h = some (r, h') → VM E 9 A p l e 4 s m args below meth c (Qi E A r h') 5 [(0, .ref (eA E 12)), (1, .int x1), (2, .int x2), (3, .int x3), (4, .int x4)] [] h) {x1 : Int32} {x2 : Int32} {x3 : Int32} {x4 : Int32} {x5 : Int32} {x6 : Int32} {h : Hp} (hf0 : f8_ofPlacesIn_j71 k5 x1 x2 x3 x4 x5 x6 h = some (r, h')) : VM E 9 A p l e 4 s m args below meth c (Qi E A r h') 71 [(0, .ref (eA E 12)), (1, .int x1), (2, .int x2), (3, .int x3), (4, .int x4), (5, .int x5), (6, .int x6)] [] h := by
  unfold f8_ofPlacesIn_j71 at hf0
  have hf1 := hf0
  refine V_iconst X (v := 0) (by decide) dX8_ofPlacesIn_71 ?_
  exact V_sub [0, 1, 2, 3, 4, 5, 6] rfl (f8_ofPlacesIn_j72_ok hE X hk5 hf1)
def f8_ofPlacesIn_B5 (k5 : Int32 → Int32 → Int32 → Int32 → Hp → Re) (x1 : Int32) (x2 : Int32) (x3 : Int32) (x4 : Int32) (h : Hp) : Re :=
  if 40 ≤ x4 then (some (x3, h)) else ((f8_p x1 (x4 / 8) (x4 - x4 / 8 * 8) h).bind fun c2 => (f8_isRight x1 (x4 / 8) (x4 - x4 / 8 * 8) c2.2).bind fun c4 => if inB (18 + (x4 / 8)) 383 = true then if (c4.2 13 (Int32.toNatClampNeg (18 + (x4 / 8)))) = 1 then (if c4.1 = 0 then (f8_ofPlacesIn_j72 k5 x1 x2 x3 x4 c2.1 c4.1 1 c4.2) else (f8_ofPlacesIn_j71 k5 x1 x2 x3 x4 c2.1 c4.1 c4.2)) else (f8_ofPlacesIn_j71 k5 x1 x2 x3 x4 c2.1 c4.1 c4.2) else none)
set_option maxRecDepth 20000 in
set_option maxHeartbeats 4000000 in
theorem f8_ofPlacesIn_B5_ok (hE : IW E) (X : XC E RX8 cX8_ofPlacesIn 9 (some .int) A p s m args meth c) {k5 : Int32 → Int32 → Int32 → Int32 → Hp → Re} (hk5 : ∀ (x1 : Int32) (x2 : Int32) (x3 : Int32) (x4 : Int32) (h : Hp), k5 x1 x2 x3 x4 h = some (r, h') → VM E 9 A p l e 4 s m args below meth c (Qi E A r h') 5 [(0, .ref (eA E 12)), (1, .int x1), (2, .int x2), (3, .int x3), (4, .int x4)] [] h) {x1 : Int32} {x2 : Int32} {x3 : Int32} {x4 : Int32} {h : Hp} (hf0 : f8_ofPlacesIn_B5 k5 x1 x2 x3 x4 h = some (r, h')) : VM E 9 A p l e 4 s m args below meth c (Qi E A r h') 5 [(0, .ref (eA E 12)), (1, .int x1), (2, .int x2), (3, .int x3), (4, .int x4)] [] h := by
  unfold f8_ofPlacesIn_B5 at hf0
  have hf1 := hf0
  refine V_iload X 4 rfl dX8_ofPlacesIn_5 ?_
  refine V_bipush X (v := 40) (by decide) dX8_ofPlacesIn_7 ?_
  refine V_icmp_ge X (tgt := 168) (by decide) dX8_ofPlacesIn_9 (fun q9 => ?_) (fun q9 => ?_)
  · have hf2 := ift hf1 q9
    refine V_iload_n X 3 rfl dX8_ofPlacesIn_168 ?_
    exact V_iret X rfl hf2 dX8_ofPlacesIn_169
  · have hf2 := ife hf1 q9
    refine V_iload_n X 1 rfl dX8_ofPlacesIn_12 ?_
    refine V_iload X 4 rfl dX8_ofPlacesIn_13 ?_
    refine V_bipush X (v := 8) (by decide) dX8_ofPlacesIn_15 ?_
    refine V_idiv X (by decide) dX8_ofPlacesIn_17 ?_
    refine V_iload X 4 rfl dX8_ofPlacesIn_18 ?_
    refine V_bipush X (v := 8) (by decide) dX8_ofPlacesIn_20 ?_
    refine V_irem X (by decide) dX8_ofPlacesIn_22 ?_
    obtain ⟨c2, e_c2, hf4⟩ := obd hf2
    refine V_callSi X (f8_p_ok e_c2) ys_X8_p yw_X8_p ml_X8_61 rfl rfl ⟨Nat.le_of_ble_eq_true rfl, Nat.le_of_ble_eq_true rfl⟩ ⟨Nat.zero_le _, Nat.zero_le _⟩ (Nat.le_of_ble_eq_true rfl) dX8_ofPlacesIn_23 ?_
    refine V_istore X (by decide) rfl dX8_ofPlacesIn_26 ?_
    refine V_aload_n X 1 rfl dX8_ofPlacesIn_28 ?_
    refine V_iload_n X 2 rfl dX8_ofPlacesIn_29 ?_
    refine V_iload X 5 rfl dX8_ofPlacesIn_30 ?_
    refine V_bipush X (v := 8) (by decide) dX8_ofPlacesIn_32 ?_
    refine V_idiv X (by decide) dX8_ofPlacesIn_34 ?_
    refine V_iload X 5 rfl dX8_ofPlacesIn_35 ?_
    refine V_bipush X (v := 8) (by decide) dX8_ofPlacesIn_37 ?_
    refine V_irem X (by decide) dX8_ofPlacesIn_39 ?_
    obtain ⟨c4, e_c4, hf6⟩ := obd hf4
    refine V_callVi X (OB_12 hE) rfl rfl (f8_isRight_ok hE e_c4) ys_X8_isRight yw_X8_isRight ml_X8_68 rfl rfl ⟨Nat.le_of_ble_eq_true rfl, Nat.le_of_ble_eq_true rfl⟩ ⟨Nat.zero_le _, Nat.zero_le _⟩ (Nat.le_of_ble_eq_true rfl) dX8_ofPlacesIn_40 ?_
    refine V_istore X (by decide) rfl dX8_ofPlacesIn_43 ?_
    refine V_aload_n X 2 rfl dX8_ofPlacesIn_45 ?_
    refine G_X8_0_7 hE X dX8_ofPlacesIn_46 ?_
    refine V_bipush X (v := 18) (by decide) dX8_ofPlacesIn_49 ?_
    refine V_iload X 6 rfl dX8_ofPlacesIn_51 ?_
    refine V_bipush X (v := 8) (by decide) dX8_ofPlacesIn_53 ?_
    refine V_idiv X (by decide) dX8_ofPlacesIn_55 ?_
    refine V_iadd X dX8_ofPlacesIn_56 ?_
    obtain ⟨g106, hf106⟩ := ogd hf6
    refine V_iald X (AR_13 hE) g106 dX8_ofPlacesIn_57 ?_
    refine V_iconst X (v := 1) (by decide) dX8_ofPlacesIn_58 ?_
    refine V_icmp_ne X (tgt := 71) (by decide) dX8_ofPlacesIn_59 (fun q59 => ?_) (fun q59 => ?_)
    · have hf8 := ife hf106 q59
      exact V_sub [2, 3, 4, 5, 6, 1, 0] rfl (f8_ofPlacesIn_j71_ok hE X hk5 hf8)
    · have hf8 := ift hf106 q59
      refine V_iload X 0 rfl dX8_ofPlacesIn_62 ?_
      refine V_if_ne X (tgt := 71) (by decide) dX8_ofPlacesIn_64 (fun q64 => ?_) (fun q64 => ?_)
      · have hf9 := ife hf8 q64
        exact V_sub [2, 3, 4, 5, 6, 1, 0] rfl (f8_ofPlacesIn_j71_ok hE X hk5 hf9)
      · have hf9 := ift hf8 q64
        refine V_iconst X (v := 1) (by decide) dX8_ofPlacesIn_67 ?_
        refine V_goto X (tgt := 72) (by decide) dX8_ofPlacesIn_68 ?_
        exact V_sub [2, 3, 4, 5, 6, 1, 0] rfl (f8_ofPlacesIn_j72_ok hE X hk5 hf9)
def f8_ofPlacesIn_L5 : Nat → Int32 → Int32 → Int32 → Int32 → Hp → Re
  | 0 => fun _ _ _ _ _ => none
  | n + 1 => f8_ofPlacesIn_B5 (f8_ofPlacesIn_L5 n)
theorem f8_ofPlacesIn_L5_s (n : Nat) (x1 : Int32) (x2 : Int32) (x3 : Int32) (x4 : Int32) (h : Hp) : f8_ofPlacesIn_L5 (n + 1) x1 x2 x3 x4 h = f8_ofPlacesIn_B5 (f8_ofPlacesIn_L5 n) x1 x2 x3 x4 h := rfl
theorem f8_ofPlacesIn_L5_ok (hE : IW E) (X : XC E RX8 cX8_ofPlacesIn 9 (some .int) A p s m args meth c) : ∀ (n : Nat) (x1 : Int32) (x2 : Int32) (x3 : Int32) (x4 : Int32) (h : Hp), f8_ofPlacesIn_L5 n x1 x2 x3 x4 h = some (r, h') → VM E 9 A p l e 4 s m args below meth c (Qi E A r h') 5 [(0, .ref (eA E 12)), (1, .int x1), (2, .int x2), (3, .int x3), (4, .int x4)] [] h := by
  intro n
  induction n with
  | zero =>
    intro x1 x2 x3 x4 h q
    have q : (none : Re) = some (r, h') := q
    cases q
  | succ n ih =>
    intro x1 x2 x3 x4 h q
    exact f8_ofPlacesIn_B5_ok hE X ih q
def f8_ofPlacesIn_e (x1 : Int32) (x2 : Int32) (h : Hp) : Re :=
  f8_ofPlacesIn_L5 FU x1 x2 0 0 h
set_option maxRecDepth 20000 in
set_option maxHeartbeats 4000000 in
theorem f8_ofPlacesIn_e_ok (hE : IW E) (X : XC E RX8 cX8_ofPlacesIn 9 (some .int) A p s m args meth c) {x1 : Int32} {x2 : Int32} {h : Hp} (hf0 : f8_ofPlacesIn_e x1 x2 h = some (r, h')) : VM E 9 A p l e 4 s m args below meth c (Qi E A r h') 0 [(0, .ref (eA E 12)), (1, .int x1), (2, .int x2)] [] h := by
  unfold f8_ofPlacesIn_e at hf0
  have hf1 := hf0
  refine V_iconst X (v := 0) (by decide) dX8_ofPlacesIn_0 ?_
  refine V_istore_n X (by decide) rfl dX8_ofPlacesIn_1 ?_
  refine V_iconst X (v := 0) (by decide) dX8_ofPlacesIn_2 ?_
  refine V_istore X (by decide) rfl dX8_ofPlacesIn_3 ?_
  exact V_sub [2, 3, 4, 1, 0] rfl (f8_ofPlacesIn_L5_ok hE X FU _ _ _ _ _ hf1)
def f8_ofPlacesIn (x1 : Int32) (x2 : Int32) (h : Hp) : Re := f8_ofPlacesIn_e x1 x2 h
theorem f8_ofPlacesIn_ok (hE : IW E) {x1 : Int32} {x2 : Int32} {h : Hp} {q : Int32 × Hp} (hf0 : f8_ofPlacesIn x1 x2 h = some q) : SMi l E 4 yX8_ofPlacesIn cX8_ofPlacesIn 9 (some .int) [.ref (eA E 12), .int x1, .int x2] h q.1 q.2 :=
  SMi.of (by decide +kernel) (Nat.le_of_ble_eq_true rfl) (fun p e s m args below meth c A X => f8_ofPlacesIn_e_ok hE X (r := q.1) (h' := q.2) hf0)
def f8_isSwept_j27 (k4 : Int32 → Int32 → Int32 → Hp → Re) (x1 : Int32) (x3 : Int32) (h : Hp) : Re :=
  k4 x1 1 (x3 + 1) h
set_option maxRecDepth 20000 in
set_option maxHeartbeats 4000000 in
theorem f8_isSwept_j27_ok (hE : IW E) (X : XC E RX8 cX8_isSwept 4 (some .boolean) A p s m args meth c) {k4 : Int32 → Int32 → Int32 → Hp → Re} (hk4 : ∀ (x1 : Int32) (x2 : Int32) (x3 : Int32) (h : Hp), k4 x1 x2 x3 h = some (r, h') → VM E 4 A p l e 1 s m args below meth c (Qi E A r h') 4 [(0, .ref (eA E 12)), (1, .int x1), (2, .int x2), (3, .int x3)] [] h) {x1 : Int32} {x3 : Int32} {h : Hp} (hf0 : f8_isSwept_j27 k4 x1 x3 h = some (r, h')) : VM E 4 A p l e 1 s m args below meth c (Qi E A r h') 27 [(0, .ref (eA E 12)), (1, .int x1), (3, .int x3)] [] h := by
  unfold f8_isSwept_j27 at hf0
  have hf1 := hf0
  refine V_iconst X (v := 1) (by decide) dX8_isSwept_27 ?_
  refine V_goto X (tgt := 32) (by decide) dX8_isSwept_28 ?_
  refine V_istore_n X (by decide) rfl dX8_isSwept_32 ?_
  refine V_iinc X (v := _ + 1) 3 rfl (by rfl) (by decide) rfl dX8_isSwept_33 ?_
  refine V_goto X (tgt := 4) (by decide) dX8_isSwept_36 ?_
  exact V_sub [2, 3, 1, 0] rfl (hk4 _ _ _ _ hf1)
def f8_isSwept_B4 (k4 : Int32 → Int32 → Int32 → Hp → Re) (x1 : Int32) (x2 : Int32) (x3 : Int32) (h : Hp) : Re :=
  if (h 13 (Int32.toNatClampNeg 7)) ≤ x3 then (rz x2 h) else (if x2 = 0 then ((f8_swept x3 h).bind fun c3 => if c3.1 = x1 then (f8_isSwept_j27 k4 x1 x3 c3.2) else (k4 x1 0 (x3 + 1) c3.2)) else (f8_isSwept_j27 k4 x1 x3 h))
set_option maxRecDepth 20000 in
set_option maxHeartbeats 4000000 in
theorem f8_isSwept_B4_ok (hE : IW E) (X : XC E RX8 cX8_isSwept 4 (some .boolean) A p s m args meth c) {k4 : Int32 → Int32 → Int32 → Hp → Re} (hk4 : ∀ (x1 : Int32) (x2 : Int32) (x3 : Int32) (h : Hp), k4 x1 x2 x3 h = some (r, h') → VM E 4 A p l e 1 s m args below meth c (Qi E A r h') 4 [(0, .ref (eA E 12)), (1, .int x1), (2, .int x2), (3, .int x3)] [] h) {x1 : Int32} {x2 : Int32} {x3 : Int32} {h : Hp} (hf0 : f8_isSwept_B4 k4 x1 x2 x3 h = some (r, h')) : VM E 4 A p l e 1 s m args below meth c (Qi E A r h') 4 [(0, .ref (eA E 12)), (1, .int x1), (2, .int x2), (3, .int x3)] [] h := by
  unfold f8_isSwept_B4 at hf0
  have hf1 := hf0
  refine V_iload_n X 3 rfl dX8_isSwept_4 ?_
  refine V_aload_n X 0 rfl dX8_isSwept_5 ?_
  refine G_X8_0_7 hE X dX8_isSwept_6 ?_
  refine V_bipush X (v := 7) (by decide) dX8_isSwept_9 ?_
  refine V_iald X (AR_13 hE) (by decide) dX8_isSwept_11 ?_
  refine V_icmp_ge X (tgt := 39) (by decide) dX8_isSwept_12 (fun q12 => ?_) (fun q12 => ?_)
  · have hf2 := ift hf1 q12
    refine V_iload_n X 2 rfl dX8_isSwept_39 ?_
    exact V_zret X rfl hf2 dX8_isSwept_40
  · have hf2 := ife hf1 q12
    refine V_iload_n X 2 rfl dX8_isSwept_15 ?_
    refine V_if_ne X (tgt := 27) (by decide) dX8_isSwept_16 (fun q16 => ?_) (fun q16 => ?_)
    · have hf3 := ife hf2 q16
      exact V_sub [0, 1, 3] rfl (f8_isSwept_j27_ok hE X hk4 hf3)
    · have hf3 := ift hf2 q16
      refine V_iload_n X 3 rfl dX8_isSwept_19 ?_
      obtain ⟨c3, e_c3, hf5⟩ := obd hf3
      refine V_callSi X (f8_swept_ok e_c3) ys_X8_swept yw_X8_swept ml_X8_95 rfl rfl ⟨Nat.le_of_ble_eq_true rfl, Nat.le_of_ble_eq_true rfl⟩ ⟨Nat.zero_le _, Nat.zero_le _⟩ (Nat.le_of_ble_eq_true rfl) dX8_isSwept_20 ?_
      refine V_iload_n X 1 rfl dX8_isSwept_23 ?_
      refine V_icmp_ne X (tgt := 31) (by decide) dX8_isSwept_24 (fun q24 => ?_) (fun q24 => ?_)
      · have hf6 := ife hf5 q24
        refine V_iconst X (v := 0) (by decide) dX8_isSwept_31 ?_
        refine V_istore_n X (by decide) rfl dX8_isSwept_32 ?_
        refine V_iinc X (v := _ + 1) 3 rfl (by rfl) (by decide) rfl dX8_isSwept_33 ?_
        refine V_goto X (tgt := 4) (by decide) dX8_isSwept_36 ?_
        exact V_sub [2, 3, 1, 0] rfl (hk4 _ _ _ _ hf6)
      · have hf6 := ift hf5 q24
        exact V_sub [0, 1, 3] rfl (f8_isSwept_j27_ok hE X hk4 hf6)
def f8_isSwept_L4 : Nat → Int32 → Int32 → Int32 → Hp → Re
  | 0 => fun _ _ _ _ => none
  | n + 1 => f8_isSwept_B4 (f8_isSwept_L4 n)
theorem f8_isSwept_L4_s (n : Nat) (x1 : Int32) (x2 : Int32) (x3 : Int32) (h : Hp) : f8_isSwept_L4 (n + 1) x1 x2 x3 h = f8_isSwept_B4 (f8_isSwept_L4 n) x1 x2 x3 h := rfl
theorem f8_isSwept_L4_ok (hE : IW E) (X : XC E RX8 cX8_isSwept 4 (some .boolean) A p s m args meth c) : ∀ (n : Nat) (x1 : Int32) (x2 : Int32) (x3 : Int32) (h : Hp), f8_isSwept_L4 n x1 x2 x3 h = some (r, h') → VM E 4 A p l e 1 s m args below meth c (Qi E A r h') 4 [(0, .ref (eA E 12)), (1, .int x1), (2, .int x2), (3, .int x3)] [] h := by
  intro n
  induction n with
  | zero =>
    intro x1 x2 x3 h q
    have q : (none : Re) = some (r, h') := q
    cases q
  | succ n ih =>
    intro x1 x2 x3 h q
    exact f8_isSwept_B4_ok hE X ih q
def f8_isSwept_e (x1 : Int32) (h : Hp) : Re :=
  f8_isSwept_L4 FU x1 0 0 h
set_option maxRecDepth 20000 in
set_option maxHeartbeats 4000000 in
theorem f8_isSwept_e_ok (hE : IW E) (X : XC E RX8 cX8_isSwept 4 (some .boolean) A p s m args meth c) {x1 : Int32} {h : Hp} (hf0 : f8_isSwept_e x1 h = some (r, h')) : VM E 4 A p l e 1 s m args below meth c (Qi E A r h') 0 [(0, .ref (eA E 12)), (1, .int x1)] [] h := by
  unfold f8_isSwept_e at hf0
  have hf1 := hf0
  refine V_iconst X (v := 0) (by decide) dX8_isSwept_0 ?_
  refine V_istore_n X (by decide) rfl dX8_isSwept_1 ?_
  refine V_iconst X (v := 0) (by decide) dX8_isSwept_2 ?_
  refine V_istore_n X (by decide) rfl dX8_isSwept_3 ?_
  exact V_sub [2, 3, 1, 0] rfl (f8_isSwept_L4_ok hE X FU _ _ _ _ hf1)
def f8_isSwept (x1 : Int32) (h : Hp) : Re := f8_isSwept_e x1 h
theorem f8_isSwept_ok (hE : IW E) {x1 : Int32} {h : Hp} {q : Int32 × Hp} (hf0 : f8_isSwept x1 h = some q) : SMi l E 1 yX8_isSwept cX8_isSwept 4 (some .boolean) [.ref (eA E 12), .int x1] h q.1 q.2 :=
  SMi.of (by decide +kernel) (Nat.le_of_ble_eq_true rfl) (fun p e s m args below meth c A X => f8_isSwept_e_ok hE X (r := q.1) (h' := q.2) hf0)
def f8_ofQuarter_j68 (x1 : Int32) (x2 : Int32) (h : Hp) : Re :=
  (f8_ofPlacesIn x1 x2 h).bind fun c1 => some (c1.1, c1.2)
set_option maxRecDepth 20000 in
set_option maxHeartbeats 4000000 in
theorem f8_ofQuarter_j68_ok (hE : IW E) (X : XC E RX8 cX8_ofQuarter 3 (some .int) A p s m args meth c) {x1 : Int32} {x2 : Int32} {h : Hp} (hf0 : f8_ofQuarter_j68 x1 x2 h = some (r, h')) : VM E 3 A p l e 5 s m args below meth c (Qi E A r h') 68 [(0, .ref (eA E 12)), (1, .int x1), (2, .int x2)] [] h := by
  unfold f8_ofQuarter_j68 at hf0
  have hf1 := hf0
  refine V_aload_n X 0 rfl dX8_ofQuarter_68 ?_
  refine V_iload_n X 1 rfl dX8_ofQuarter_69 ?_
  refine V_iload_n X 2 rfl dX8_ofQuarter_70 ?_
  obtain ⟨c1, e_c1, hf3⟩ := obd hf1
  refine V_callVi X (OB_12 hE) rfl rfl (f8_ofPlacesIn_ok hE e_c1) ys_X8_ofPlacesIn yw_X8_ofPlacesIn ml_X8_139 rfl rfl ⟨Nat.le_of_ble_eq_true rfl, Nat.le_of_ble_eq_true rfl⟩ ⟨Nat.zero_le _, Nat.zero_le _⟩ (Nat.le_of_ble_eq_true rfl) dX8_ofQuarter_71 ?_
  exact V_iret X rfl hf3 dX8_ofQuarter_74
def f8_ofQuarter_e (x1 : Int32) (x2 : Int32) (h : Hp) : Re :=
  (f8_isQuarter x1 h).bind fun c1 => if c1.1 = 0 then (some ((-1), c1.2)) else (if x2 = 0 then (f8_ofQuarter_j68 x1 x2 c1.2) else if x2 = 1 then (f8_ofQuarter_j68 x1 x2 c1.2) else if x2 = 2 then (if inB (8 + x1) 383 = true then some (c1.2 13 (Int32.toNatClampNeg (8 + x1)), c1.2) else none) else if x2 = 3 then ((f8_isMirrored x1 c1.2).bind fun c10 => if c10.1 = 0 then (some (0, c10.2)) else (some (1, c10.2))) else if x2 = 4 then ((f8_isSwept x1 c1.2).bind fun c14 => if c14.1 = 0 then (some (0, c14.2)) else (some (1, c14.2))) else if x2 = 5 then (f8_ofQuarter_j68 x1 x2 c1.2) else if x2 = 6 then (f8_ofQuarter_j68 x1 x2 c1.2) else if x2 = 7 then (f8_ofQuarter_j68 x1 x2 c1.2) else if x2 = 8 then (f8_ofQuarter_j68 x1 x2 c1.2) else if x2 = 9 then (f8_ofQuarter_j68 x1 x2 c1.2) else if x2 = 10 then (f8_ofQuarter_j68 x1 x2 c1.2) else (some ((-2), c1.2)))
set_option maxRecDepth 20000 in
set_option maxHeartbeats 4000000 in
theorem f8_ofQuarter_e_ok (hE : IW E) (X : XC E RX8 cX8_ofQuarter 3 (some .int) A p s m args meth c) {x1 : Int32} {x2 : Int32} {h : Hp} (hf0 : f8_ofQuarter_e x1 x2 h = some (r, h')) : VM E 3 A p l e 5 s m args below meth c (Qi E A r h') 0 [(0, .ref (eA E 12)), (1, .int x1), (2, .int x2)] [] h := by
  unfold f8_ofQuarter_e at hf0
  have hf1 := hf0
  refine V_iload_n X 1 rfl dX8_ofQuarter_0 ?_
  obtain ⟨c1, e_c1, hf3⟩ := obd hf1
  refine V_callSi X (f8_isQuarter_ok e_c1) ys_X8_isQuarter yw_X8_isQuarter ml_X8_43 rfl rfl ⟨Nat.le_of_ble_eq_true rfl, Nat.le_of_ble_eq_true rfl⟩ ⟨Nat.zero_le _, Nat.zero_le _⟩ (Nat.le_of_ble_eq_true rfl) dX8_ofQuarter_1 ?_
  refine V_if_ne X (tgt := 9) (by decide) dX8_ofQuarter_4 (fun q4 => ?_) (fun q4 => ?_)
  · have hf4 := ife hf3 q4
    refine V_iload_n X 2 rfl dX8_ofQuarter_9 ?_
    rcases oif hf4 with ⟨q10_0, hf10_0⟩ | ⟨q10_0, hf10_0⟩
    · refine V_table X (tgt := 68) (off := 58) (by rw [q10_0]; decide) (by decide) (by decide) dX8_ofQuarter_10 ?_
      have hf6 := hf10_0
      exact V_sub [0, 1, 2] rfl (f8_ofQuarter_j68_ok hE X hf6)
    rcases oif hf10_0 with ⟨q10_1, hf10_1⟩ | ⟨q10_1, hf10_1⟩
    · refine V_table X (tgt := 68) (off := 58) (by rw [q10_1]; decide) (by decide) (by decide) dX8_ofQuarter_10 ?_
      have hf7 := hf10_1
      exact V_sub [0, 1, 2] rfl (f8_ofQuarter_j68_ok hE X hf7)
    rcases oif hf10_1 with ⟨q10_2, hf10_2⟩ | ⟨q10_2, hf10_2⟩
    · refine V_table X (tgt := 75) (off := 65) (by rw [q10_2]; decide) (by decide) (by decide) dX8_ofQuarter_10 ?_
      have hf8 := hf10_2
      refine V_aload_n X 0 rfl dX8_ofQuarter_75 ?_
      refine G_X8_0_7 hE X dX8_ofQuarter_76 ?_
      refine V_bipush X (v := 8) (by decide) dX8_ofQuarter_79 ?_
      refine V_iload_n X 1 rfl dX8_ofQuarter_81 ?_
      refine V_iadd X dX8_ofQuarter_82 ?_
      obtain ⟨g108, hf108⟩ := ogd hf8
      refine V_iald X (AR_13 hE) g108 dX8_ofQuarter_83 ?_
      exact V_iret X rfl hf108 dX8_ofQuarter_84
    rcases oif hf10_2 with ⟨q10_3, hf10_3⟩ | ⟨q10_3, hf10_3⟩
    · refine V_table X (tgt := 85) (off := 75) (by rw [q10_3]; decide) (by decide) (by decide) dX8_ofQuarter_10 ?_
      have hf10 := hf10_3
      refine V_aload_n X 0 rfl dX8_ofQuarter_85 ?_
      refine V_iload_n X 1 rfl dX8_ofQuarter_86 ?_
      obtain ⟨c10, e_c10, hf12⟩ := obd hf10
      refine V_callVi X (OB_12 hE) rfl rfl (f8_isMirrored_ok hE e_c10) ys_X8_isMirrored yw_X8_isMirrored ml_X8_54 rfl rfl ⟨Nat.le_of_ble_eq_true rfl, Nat.le_of_ble_eq_true rfl⟩ ⟨Nat.zero_le _, Nat.zero_le _⟩ (Nat.le_of_ble_eq_true rfl) dX8_ofQuarter_87 ?_
      refine V_if_eq X (tgt := 97) (by decide) dX8_ofQuarter_90 (fun q90 => ?_) (fun q90 => ?_)
      · have hf13 := ift hf12 q90
        refine V_iconst X (v := 0) (by decide) dX8_ofQuarter_97 ?_
        exact V_iret X rfl hf13 dX8_ofQuarter_98
      · have hf13 := ife hf12 q90
        refine V_iconst X (v := 1) (by decide) dX8_ofQuarter_93 ?_
        refine V_goto X (tgt := 98) (by decide) dX8_ofQuarter_94 ?_
        exact V_iret X rfl hf13 dX8_ofQuarter_98
    rcases oif hf10_3 with ⟨q10_4, hf10_4⟩ | ⟨q10_4, hf10_4⟩
    · refine V_table X (tgt := 99) (off := 89) (by rw [q10_4]; decide) (by decide) (by decide) dX8_ofQuarter_10 ?_
      have hf14 := hf10_4
      refine V_aload_n X 0 rfl dX8_ofQuarter_99 ?_
      refine V_iload_n X 1 rfl dX8_ofQuarter_100 ?_
      obtain ⟨c14, e_c14, hf16⟩ := obd hf14
      refine V_callVi X (OB_12 hE) rfl rfl (f8_isSwept_ok hE e_c14) ys_X8_isSwept yw_X8_isSwept ml_X8_142 rfl rfl ⟨Nat.le_of_ble_eq_true rfl, Nat.le_of_ble_eq_true rfl⟩ ⟨Nat.zero_le _, Nat.zero_le _⟩ (Nat.le_of_ble_eq_true rfl) dX8_ofQuarter_101 ?_
      refine V_if_eq X (tgt := 111) (by decide) dX8_ofQuarter_104 (fun q104 => ?_) (fun q104 => ?_)
      · have hf17 := ift hf16 q104
        refine V_iconst X (v := 0) (by decide) dX8_ofQuarter_111 ?_
        exact V_iret X rfl hf17 dX8_ofQuarter_112
      · have hf17 := ife hf16 q104
        refine V_iconst X (v := 1) (by decide) dX8_ofQuarter_107 ?_
        refine V_goto X (tgt := 112) (by decide) dX8_ofQuarter_108 ?_
        exact V_iret X rfl hf17 dX8_ofQuarter_112
    rcases oif hf10_4 with ⟨q10_5, hf10_5⟩ | ⟨q10_5, hf10_5⟩
    · refine V_table X (tgt := 68) (off := 58) (by rw [q10_5]; decide) (by decide) (by decide) dX8_ofQuarter_10 ?_
      have hf18 := hf10_5
      exact V_sub [0, 1, 2] rfl (f8_ofQuarter_j68_ok hE X hf18)
    rcases oif hf10_5 with ⟨q10_6, hf10_6⟩ | ⟨q10_6, hf10_6⟩
    · refine V_table X (tgt := 68) (off := 58) (by rw [q10_6]; decide) (by decide) (by decide) dX8_ofQuarter_10 ?_
      have hf19 := hf10_6
      exact V_sub [0, 1, 2] rfl (f8_ofQuarter_j68_ok hE X hf19)
    rcases oif hf10_6 with ⟨q10_7, hf10_7⟩ | ⟨q10_7, hf10_7⟩
    · refine V_table X (tgt := 68) (off := 58) (by rw [q10_7]; decide) (by decide) (by decide) dX8_ofQuarter_10 ?_
      have hf20 := hf10_7
      exact V_sub [0, 1, 2] rfl (f8_ofQuarter_j68_ok hE X hf20)
    rcases oif hf10_7 with ⟨q10_8, hf10_8⟩ | ⟨q10_8, hf10_8⟩
    · refine V_table X (tgt := 68) (off := 58) (by rw [q10_8]; decide) (by decide) (by decide) dX8_ofQuarter_10 ?_
      have hf21 := hf10_8
      exact V_sub [0, 1, 2] rfl (f8_ofQuarter_j68_ok hE X hf21)
    rcases oif hf10_8 with ⟨q10_9, hf10_9⟩ | ⟨q10_9, hf10_9⟩
    · refine V_table X (tgt := 68) (off := 58) (by rw [q10_9]; decide) (by decide) (by decide) dX8_ofQuarter_10 ?_
      have hf22 := hf10_9
      exact V_sub [0, 1, 2] rfl (f8_ofQuarter_j68_ok hE X hf22)
    rcases oif hf10_9 with ⟨q10_10, hf10_10⟩ | ⟨q10_10, hf10_10⟩
    · refine V_table X (tgt := 68) (off := 58) (by rw [q10_10]; decide) (by decide) (by decide) dX8_ofQuarter_10 ?_
      have hf23 := hf10_10
      exact V_sub [0, 1, 2] rfl (f8_ofQuarter_j68_ok hE X hf23)
    · skip
      refine V_table X (tgt := 113) (off := 103) (tsel_out (by have z0 := lv_neT q10_0 (show (0 : Int32).toInt = 0 by decide); have z1 := lv_neT q10_1 (show (1 : Int32).toInt = 1 by decide); have z2 := lv_neT q10_2 (show (2 : Int32).toInt = 2 by decide); have z3 := lv_neT q10_3 (show (3 : Int32).toInt = 3 by decide); have z4 := lv_neT q10_4 (show (4 : Int32).toInt = 4 by decide); have z5 := lv_neT q10_5 (show (5 : Int32).toInt = 5 by decide); have z6 := lv_neT q10_6 (show (6 : Int32).toInt = 6 by decide); have z7 := lv_neT q10_7 (show (7 : Int32).toInt = 7 by decide); have z8 := lv_neT q10_8 (show (8 : Int32).toInt = 8 by decide); have z9 := lv_neT q10_9 (show (9 : Int32).toInt = 9 by decide); have z10 := lv_neT q10_10 (show (10 : Int32).toInt = 10 by decide); omega)) (by decide) (by decide) dX8_ofQuarter_10 ?_
      have hf24 := hf10_10
      refine V_bipush X (v := -2) (by decide) dX8_ofQuarter_113 ?_
      exact V_iret X rfl hf24 dX8_ofQuarter_115
  · have hf4 := ift hf3 q4
    refine V_iconst X (v := -1) (by decide) dX8_ofQuarter_7 ?_
    exact V_iret X rfl hf4 dX8_ofQuarter_8
def f8_ofQuarter (x1 : Int32) (x2 : Int32) (h : Hp) : Re := f8_ofQuarter_e x1 x2 h
theorem f8_ofQuarter_ok (hE : IW E) {x1 : Int32} {x2 : Int32} {h : Hp} {q : Int32 × Hp} (hf0 : f8_ofQuarter x1 x2 h = some q) : SMi l E 5 yX8_ofQuarter cX8_ofQuarter 3 (some .int) [.ref (eA E 12), .int x1, .int x2] h q.1 q.2 :=
  SMi.of (by decide +kernel) (Nat.le_of_ble_eq_true rfl) (fun p e s m args below meth c A X => f8_ofQuarter_e_ok hE X (r := q.1) (h' := q.2) hf0)
def f8_ofAll_j81 (k5 : Int32 → Int32 → Int32 → Int32 → Hp → Re) (x1 : Int32) (x2 : Int32) (x3 : Int32) (x4 : Int32) (x6 : Int32) (y0 : Int32) (h : Hp) : Re :=
  if x2 = 2 then (k5 x1 x2 (x3 + y0) (x4 + 1) h) else (if x6 = 0 then (k5 x1 x2 (x3 + 0) (x4 + 1) h) else (if x2 = 3 then (k5 x1 x2 (x3 + 1) (x4 + 1) h) else ((f8_missing (x4 / 40) ((x4 - x4 / 40 * 40) / 8) (x4 - x4 / 8 * 8) h).bind fun c4 => k5 x1 x2 (x3 + c4.1) (x4 + 1) c4.2)))
set_option maxRecDepth 20000 in
set_option maxHeartbeats 4000000 in
theorem f8_ofAll_j81_ok (hE : IW E) (X : XC E RX8 cX8_ofAll 8 (some .int) A p s m args meth c) {k5 : Int32 → Int32 → Int32 → Int32 → Hp → Re} (hk5 : ∀ (x1 : Int32) (x2 : Int32) (x3 : Int32) (x4 : Int32) (h : Hp), k5 x1 x2 x3 x4 h = some (r, h') → VM E 8 A p l e 4 s m args below meth c (Qi E A r h') 5 [(0, .ref (eA E 12)), (1, .int x1), (2, .int x2), (3, .int x3), (4, .int x4)] [] h) {x1 : Int32} {x2 : Int32} {x3 : Int32} {x4 : Int32} {x6 : Int32} {y0 : Int32} {h : Hp} (hf0 : f8_ofAll_j81 k5 x1 x2 x3 x4 x6 y0 h = some (r, h')) : VM E 8 A p l e 4 s m args below meth c (Qi E A r h') 81 [(0, .ref (eA E 12)), (1, .int x1), (2, .int x2), (3, .int x3), (4, .int x4), (6, .int x6)] [.int y0] h := by
  unfold f8_ofAll_j81 at hf0
  have hf1 := hf0
  refine V_istore X (by decide) rfl dX8_ofAll_81 ?_
  refine V_iload_n X 4 rfl dX8_ofAll_83 ?_
  refine V_iload_n X 3 rfl dX8_ofAll_84 ?_
  refine V_iconst X (v := 2) (by decide) dX8_ofAll_85 ?_
  refine V_icmp_ne X (tgt := 94) (by decide) dX8_ofAll_86 (fun q86 => ?_) (fun q86 => ?_)
  · have hf2 := ife hf1 q86
    refine V_iload X 6 rfl dX8_ofAll_94 ?_
    refine V_if_ne X (tgt := 103) (by decide) dX8_ofAll_96 (fun q96 => ?_) (fun q96 => ?_)
    · have hf3 := ife hf2 q96
      refine V_iload_n X 3 rfl dX8_ofAll_103 ?_
      refine V_iconst X (v := 3) (by decide) dX8_ofAll_104 ?_
      refine V_icmp_ne X (tgt := 112) (by decide) dX8_ofAll_105 (fun q105 => ?_) (fun q105 => ?_)
      · have hf4 := ife hf3 q105
        refine V_aload_n X 1 rfl dX8_ofAll_112 ?_
        refine V_iload X 5 rfl dX8_ofAll_113 ?_
        refine V_bipush X (v := 40) (by decide) dX8_ofAll_115 ?_
        refine V_idiv X (by decide) dX8_ofAll_117 ?_
        refine V_iload X 5 rfl dX8_ofAll_118 ?_
        refine V_bipush X (v := 40) (by decide) dX8_ofAll_120 ?_
        refine V_irem X (by decide) dX8_ofAll_122 ?_
        refine V_bipush X (v := 8) (by decide) dX8_ofAll_123 ?_
        refine V_idiv X (by decide) dX8_ofAll_125 ?_
        refine V_iload X 5 rfl dX8_ofAll_126 ?_
        refine V_bipush X (v := 8) (by decide) dX8_ofAll_128 ?_
        refine V_irem X (by decide) dX8_ofAll_130 ?_
        obtain ⟨c4, e_c4, hf6⟩ := obd hf4
        refine V_callVi X (OB_12 hE) rfl rfl (f8_missing_ok hE e_c4) ys_X8_missing yw_X8_missing ml_X8_130 rfl rfl ⟨Nat.le_of_ble_eq_true rfl, Nat.le_of_ble_eq_true rfl⟩ ⟨Nat.zero_le _, Nat.zero_le _⟩ (Nat.le_of_ble_eq_true rfl) dX8_ofAll_131 ?_
        refine V_iadd X dX8_ofAll_134 ?_
        refine V_istore_n X (by decide) rfl dX8_ofAll_135 ?_
        refine V_iinc X (v := _ + 1) 5 rfl (by rfl) (by decide) rfl dX8_ofAll_136 ?_
        refine V_goto X (tgt := 5) (by decide) dX8_ofAll_139 ?_
        exact V_sub [3, 4, 5, 1, 0] rfl (hk5 _ _ _ _ _ hf6)
      · have hf4 := ift hf3 q105
        refine V_iconst X (v := 1) (by decide) dX8_ofAll_108 ?_
        refine V_goto X (tgt := 134) (by decide) dX8_ofAll_109 ?_
        refine V_iadd X dX8_ofAll_134 ?_
        refine V_istore_n X (by decide) rfl dX8_ofAll_135 ?_
        refine V_iinc X (v := _ + 1) 5 rfl (by rfl) (by decide) rfl dX8_ofAll_136 ?_
        refine V_goto X (tgt := 5) (by decide) dX8_ofAll_139 ?_
        exact V_sub [3, 4, 5, 1, 0] rfl (hk5 _ _ _ _ _ hf4)
    · have hf3 := ift hf2 q96
      refine V_iconst X (v := 0) (by decide) dX8_ofAll_99 ?_
      refine V_goto X (tgt := 134) (by decide) dX8_ofAll_100 ?_
      refine V_iadd X dX8_ofAll_134 ?_
      refine V_istore_n X (by decide) rfl dX8_ofAll_135 ?_
      refine V_iinc X (v := _ + 1) 5 rfl (by rfl) (by decide) rfl dX8_ofAll_136 ?_
      refine V_goto X (tgt := 5) (by decide) dX8_ofAll_139 ?_
      exact V_sub [3, 4, 5, 1, 0] rfl (hk5 _ _ _ _ _ hf3)
  · have hf2 := ift hf1 q86
    refine V_iload X 0 rfl dX8_ofAll_89 ?_
    refine V_goto X (tgt := 134) (by decide) dX8_ofAll_91 ?_
    refine V_iadd X dX8_ofAll_134 ?_
    refine V_istore_n X (by decide) rfl dX8_ofAll_135 ?_
    refine V_iinc X (v := _ + 1) 5 rfl (by rfl) (by decide) rfl dX8_ofAll_136 ?_
    refine V_goto X (tgt := 5) (by decide) dX8_ofAll_139 ?_
    exact V_sub [3, 4, 5, 1, 0] rfl (hk5 _ _ _ _ _ hf2)
def f8_ofAll_j53 (k5 : Int32 → Int32 → Int32 → Int32 → Hp → Re) (x1 : Int32) (x2 : Int32) (x3 : Int32) (x4 : Int32) (x5 : Int32) (y0 : Int32) (h : Hp) : Re :=
  if inB (x5 + 0) 383 = true then if (h 13 (Int32.toNatClampNeg (x5 + 0))) = x1 then (if inB (x5 + 1) 383 = true then f8_ofAll_j81 k5 x1 x2 x3 x4 y0 (h 13 (Int32.toNatClampNeg (x5 + 1))) h else none) else (f8_ofAll_j81 k5 x1 x2 x3 x4 y0 0 h) else none
set_option maxRecDepth 20000 in
set_option maxHeartbeats 4000000 in
theorem f8_ofAll_j53_ok (hE : IW E) (X : XC E RX8 cX8_ofAll 8 (some .int) A p s m args meth c) {k5 : Int32 → Int32 → Int32 → Int32 → Hp → Re} (hk5 : ∀ (x1 : Int32) (x2 : Int32) (x3 : Int32) (x4 : Int32) (h : Hp), k5 x1 x2 x3 x4 h = some (r, h') → VM E 8 A p l e 4 s m args below meth c (Qi E A r h') 5 [(0, .ref (eA E 12)), (1, .int x1), (2, .int x2), (3, .int x3), (4, .int x4)] [] h) {x1 : Int32} {x2 : Int32} {x3 : Int32} {x4 : Int32} {x5 : Int32} {y0 : Int32} {h : Hp} (hf0 : f8_ofAll_j53 k5 x1 x2 x3 x4 x5 y0 h = some (r, h')) : VM E 8 A p l e 4 s m args below meth c (Qi E A r h') 53 [(0, .ref (eA E 12)), (1, .int x1), (2, .int x2), (3, .int x3), (4, .int x4), (5, .int x5)] [.int y0] h := by
  unfold f8_ofAll_j53 at hf0
  have hf1 := hf0
  refine V_istore X (by decide) rfl dX8_ofAll_53 ?_
  refine V_aload_n X 1 rfl dX8_ofAll_55 ?_
  refine G_X8_0_7 hE X dX8_ofAll_56 ?_
  refine V_iload X 6 rfl dX8_ofAll_59 ?_
  refine V_iconst X (v := 0) (by decide) dX8_ofAll_61 ?_
  refine V_iadd X dX8_ofAll_62 ?_
  obtain ⟨g101, hf101⟩ := ogd hf1
  refine V_iald X (AR_13 hE) g101 dX8_ofAll_63 ?_
  refine V_iload_n X 2 rfl dX8_ofAll_64 ?_
  refine V_icmp_ne X (tgt := 80) (by decide) dX8_ofAll_65 (fun q65 => ?_) (fun q65 => ?_)
  · have hf3 := ife hf101 q65
    refine V_iconst X (v := 0) (by decide) dX8_ofAll_80 ?_
    exact V_sub [1, 2, 3, 4, 5, 0] rfl (f8_ofAll_j81_ok hE X hk5 hf3)
  · have hf3 := ift hf101 q65
    refine V_aload_n X 1 rfl dX8_ofAll_68 ?_
    refine G_X8_0_7 hE X dX8_ofAll_69 ?_
    refine V_iload X 6 rfl dX8_ofAll_72 ?_
    refine V_iconst X (v := 1) (by decide) dX8_ofAll_74 ?_
    refine V_iadd X dX8_ofAll_75 ?_
    obtain ⟨g103, hf103⟩ := ogd hf3
    refine V_iald X (AR_13 hE) g103 dX8_ofAll_76 ?_
    refine V_goto X (tgt := 81) (by decide) dX8_ofAll_77 ?_
    exact V_sub [1, 2, 3, 4, 5, 0] rfl (f8_ofAll_j81_ok hE X hk5 hf103)
def f8_ofAll_B5 (k5 : Int32 → Int32 → Int32 → Int32 → Hp → Re) (x1 : Int32) (x2 : Int32) (x3 : Int32) (x4 : Int32) (h : Hp) : Re :=
  if 160 ≤ x4 then (some (x3, h)) else ((f8_wanted (x4 / 40) ((x4 - x4 / 40 * 40) / 8) (x4 - x4 / 8 * 8) h).bind fun c2 => if c2.1 = x1 then (f8_ofAll_j53 k5 x1 x2 x3 x4 (63 + (2 * x4)) 1 c2.2) else (f8_ofAll_j53 k5 x1 x2 x3 x4 (63 + (2 * x4)) 0 c2.2))
set_option maxRecDepth 20000 in
set_option maxHeartbeats 4000000 in
theorem f8_ofAll_B5_ok (hE : IW E) (X : XC E RX8 cX8_ofAll 8 (some .int) A p s m args meth c) {k5 : Int32 → Int32 → Int32 → Int32 → Hp → Re} (hk5 : ∀ (x1 : Int32) (x2 : Int32) (x3 : Int32) (x4 : Int32) (h : Hp), k5 x1 x2 x3 x4 h = some (r, h') → VM E 8 A p l e 4 s m args below meth c (Qi E A r h') 5 [(0, .ref (eA E 12)), (1, .int x1), (2, .int x2), (3, .int x3), (4, .int x4)] [] h) {x1 : Int32} {x2 : Int32} {x3 : Int32} {x4 : Int32} {h : Hp} (hf0 : f8_ofAll_B5 k5 x1 x2 x3 x4 h = some (r, h')) : VM E 8 A p l e 4 s m args below meth c (Qi E A r h') 5 [(0, .ref (eA E 12)), (1, .int x1), (2, .int x2), (3, .int x3), (4, .int x4)] [] h := by
  unfold f8_ofAll_B5 at hf0
  have hf1 := hf0
  refine V_iload X 4 rfl dX8_ofAll_5 ?_
  refine V_sipush X (v := 160) (by decide) dX8_ofAll_7 ?_
  refine V_icmp_ge X (tgt := 142) (by decide) dX8_ofAll_10 (fun q10 => ?_) (fun q10 => ?_)
  · have hf2 := ift hf1 q10
    refine V_iload_n X 3 rfl dX8_ofAll_142 ?_
    exact V_iret X rfl hf2 dX8_ofAll_143
  · have hf2 := ife hf1 q10
    refine V_bipush X (v := 63) (by decide) dX8_ofAll_13 ?_
    refine V_iconst X (v := 2) (by decide) dX8_ofAll_15 ?_
    refine V_iload X 4 rfl dX8_ofAll_16 ?_
    refine V_imul X dX8_ofAll_18 ?_
    refine V_iadd X dX8_ofAll_19 ?_
    refine V_istore X (by decide) rfl dX8_ofAll_20 ?_
    refine V_aload_n X 1 rfl dX8_ofAll_22 ?_
    refine V_iload X 5 rfl dX8_ofAll_23 ?_
    refine V_bipush X (v := 40) (by decide) dX8_ofAll_25 ?_
    refine V_idiv X (by decide) dX8_ofAll_27 ?_
    refine V_iload X 5 rfl dX8_ofAll_28 ?_
    refine V_bipush X (v := 40) (by decide) dX8_ofAll_30 ?_
    refine V_irem X (by decide) dX8_ofAll_32 ?_
    refine V_bipush X (v := 8) (by decide) dX8_ofAll_33 ?_
    refine V_idiv X (by decide) dX8_ofAll_35 ?_
    refine V_iload X 5 rfl dX8_ofAll_36 ?_
    refine V_bipush X (v := 8) (by decide) dX8_ofAll_38 ?_
    refine V_irem X (by decide) dX8_ofAll_40 ?_
    obtain ⟨c2, e_c2, hf4⟩ := obd hf2
    refine V_callVi X (OB_12 hE) rfl rfl (f8_wanted_ok hE e_c2) ys_X8_wanted yw_X8_wanted ml_X8_65 rfl rfl ⟨Nat.le_of_ble_eq_true rfl, Nat.le_of_ble_eq_true rfl⟩ ⟨Nat.zero_le _, Nat.zero_le _⟩ (Nat.le_of_ble_eq_true rfl) dX8_ofAll_41 ?_
    refine V_iload_n X 2 rfl dX8_ofAll_44 ?_
    refine V_icmp_ne X (tgt := 52) (by decide) dX8_ofAll_45 (fun q45 => ?_) (fun q45 => ?_)
    · have hf5 := ife hf4 q45
      refine V_iconst X (v := 0) (by decide) dX8_ofAll_52 ?_
      exact V_sub [1, 2, 3, 4, 5, 0] rfl (f8_ofAll_j53_ok hE X hk5 hf5)
    · have hf5 := ift hf4 q45
      refine V_iconst X (v := 1) (by decide) dX8_ofAll_48 ?_
      refine V_goto X (tgt := 53) (by decide) dX8_ofAll_49 ?_
      exact V_sub [1, 2, 3, 4, 5, 0] rfl (f8_ofAll_j53_ok hE X hk5 hf5)
def f8_ofAll_L5 : Nat → Int32 → Int32 → Int32 → Int32 → Hp → Re
  | 0 => fun _ _ _ _ _ => none
  | n + 1 => f8_ofAll_B5 (f8_ofAll_L5 n)
theorem f8_ofAll_L5_s (n : Nat) (x1 : Int32) (x2 : Int32) (x3 : Int32) (x4 : Int32) (h : Hp) : f8_ofAll_L5 (n + 1) x1 x2 x3 x4 h = f8_ofAll_B5 (f8_ofAll_L5 n) x1 x2 x3 x4 h := rfl
theorem f8_ofAll_L5_ok (hE : IW E) (X : XC E RX8 cX8_ofAll 8 (some .int) A p s m args meth c) : ∀ (n : Nat) (x1 : Int32) (x2 : Int32) (x3 : Int32) (x4 : Int32) (h : Hp), f8_ofAll_L5 n x1 x2 x3 x4 h = some (r, h') → VM E 8 A p l e 4 s m args below meth c (Qi E A r h') 5 [(0, .ref (eA E 12)), (1, .int x1), (2, .int x2), (3, .int x3), (4, .int x4)] [] h := by
  intro n
  induction n with
  | zero =>
    intro x1 x2 x3 x4 h q
    have q : (none : Re) = some (r, h') := q
    cases q
  | succ n ih =>
    intro x1 x2 x3 x4 h q
    exact f8_ofAll_B5_ok hE X ih q
def f8_ofAll_e (x1 : Int32) (x2 : Int32) (h : Hp) : Re :=
  f8_ofAll_L5 FU x1 x2 0 0 h
set_option maxRecDepth 20000 in
set_option maxHeartbeats 4000000 in
theorem f8_ofAll_e_ok (hE : IW E) (X : XC E RX8 cX8_ofAll 8 (some .int) A p s m args meth c) {x1 : Int32} {x2 : Int32} {h : Hp} (hf0 : f8_ofAll_e x1 x2 h = some (r, h')) : VM E 8 A p l e 4 s m args below meth c (Qi E A r h') 0 [(0, .ref (eA E 12)), (1, .int x1), (2, .int x2)] [] h := by
  unfold f8_ofAll_e at hf0
  have hf1 := hf0
  refine V_iconst X (v := 0) (by decide) dX8_ofAll_0 ?_
  refine V_istore_n X (by decide) rfl dX8_ofAll_1 ?_
  refine V_iconst X (v := 0) (by decide) dX8_ofAll_2 ?_
  refine V_istore X (by decide) rfl dX8_ofAll_3 ?_
  exact V_sub [2, 3, 4, 1, 0] rfl (f8_ofAll_L5_ok hE X FU _ _ _ _ _ hf1)
def f8_ofAll (x1 : Int32) (x2 : Int32) (h : Hp) : Re := f8_ofAll_e x1 x2 h
theorem f8_ofAll_ok (hE : IW E) {x1 : Int32} {x2 : Int32} {h : Hp} {q : Int32 × Hp} (hf0 : f8_ofAll x1 x2 h = some q) : SMi l E 4 yX8_ofAll cX8_ofAll 8 (some .int) [.ref (eA E 12), .int x1, .int x2] h q.1 q.2 :=
  SMi.of (by decide +kernel) (Nat.le_of_ble_eq_true rfl) (fun p e s m args below meth c A X => f8_ofAll_e_ok hE X (r := q.1) (h' := q.2) hf0)
def f8_ofColour_j60 (x1 : Int32) (x2 : Int32) (h : Hp) : Re :=
  (f8_ofAll x1 x2 h).bind fun c1 => some (c1.1, c1.2)
set_option maxRecDepth 20000 in
set_option maxHeartbeats 4000000 in
theorem f8_ofColour_j60_ok (hE : IW E) (X : XC E RX8 cX8_ofColour 3 (some .int) A p s m args meth c) {x1 : Int32} {x2 : Int32} {h : Hp} (hf0 : f8_ofColour_j60 x1 x2 h = some (r, h')) : VM E 3 A p l e 5 s m args below meth c (Qi E A r h') 60 [(0, .ref (eA E 12)), (1, .int x1), (2, .int x2)] [] h := by
  unfold f8_ofColour_j60 at hf0
  have hf1 := hf0
  refine V_aload_n X 0 rfl dX8_ofColour_60 ?_
  refine V_iload_n X 1 rfl dX8_ofColour_61 ?_
  refine V_iload_n X 2 rfl dX8_ofColour_62 ?_
  obtain ⟨c1, e_c1, hf3⟩ := obd hf1
  refine V_callVi X (OB_12 hE) rfl rfl (f8_ofAll_ok hE e_c1) ys_X8_ofAll yw_X8_ofAll ml_X8_145 rfl rfl ⟨Nat.le_of_ble_eq_true rfl, Nat.le_of_ble_eq_true rfl⟩ ⟨Nat.zero_le _, Nat.zero_le _⟩ (Nat.le_of_ble_eq_true rfl) dX8_ofColour_63 ?_
  exact V_iret X rfl hf3 dX8_ofColour_66
def f8_ofColour_e (x1 : Int32) (x2 : Int32) (h : Hp) : Re :=
  (f8_isColour x1 h).bind fun c1 => if c1.1 = 0 then (some ((-1), c1.2)) else (if x2 = 0 then (if inB (11 + x1) 383 = true then some (c1.2 13 (Int32.toNatClampNeg (11 + x1)), c1.2) else none) else if x2 = 1 then ((f8_holder x1 c1.2).bind fun c8 => some (c8.1, c8.2)) else if x2 = 2 then (f8_ofColour_j60 x1 x2 c1.2) else if x2 = 3 then (f8_ofColour_j60 x1 x2 c1.2) else if x2 = 4 then (f8_ofColour_j60 x1 x2 c1.2) else (some ((-2), c1.2)))
set_option maxRecDepth 20000 in
set_option maxHeartbeats 4000000 in
theorem f8_ofColour_e_ok (hE : IW E) (X : XC E RX8 cX8_ofColour 3 (some .int) A p s m args meth c) {x1 : Int32} {x2 : Int32} {h : Hp} (hf0 : f8_ofColour_e x1 x2 h = some (r, h')) : VM E 3 A p l e 5 s m args below meth c (Qi E A r h') 0 [(0, .ref (eA E 12)), (1, .int x1), (2, .int x2)] [] h := by
  unfold f8_ofColour_e at hf0
  have hf1 := hf0
  refine V_iload_n X 1 rfl dX8_ofColour_0 ?_
  obtain ⟨c1, e_c1, hf3⟩ := obd hf1
  refine V_callSi X (f8_isColour_ok e_c1) ys_X8_isColour yw_X8_isColour ml_X8_110 rfl rfl ⟨Nat.le_of_ble_eq_true rfl, Nat.le_of_ble_eq_true rfl⟩ ⟨Nat.zero_le _, Nat.zero_le _⟩ (Nat.le_of_ble_eq_true rfl) dX8_ofColour_1 ?_
  refine V_if_ne X (tgt := 9) (by decide) dX8_ofColour_4 (fun q4 => ?_) (fun q4 => ?_)
  · have hf4 := ife hf3 q4
    refine V_iload_n X 2 rfl dX8_ofColour_9 ?_
    rcases oif hf4 with ⟨q10_0, hf10_0⟩ | ⟨q10_0, hf10_0⟩
    · refine V_table X (tgt := 44) (off := 34) (by rw [q10_0]; decide) (by decide) (by decide) dX8_ofColour_10 ?_
      have hf6 := hf10_0
      refine V_aload_n X 0 rfl dX8_ofColour_44 ?_
      refine G_X8_0_7 hE X dX8_ofColour_45 ?_
      refine V_bipush X (v := 11) (by decide) dX8_ofColour_48 ?_
      refine V_iload_n X 1 rfl dX8_ofColour_50 ?_
      refine V_iadd X dX8_ofColour_51 ?_
      obtain ⟨g106, hf106⟩ := ogd hf6
      refine V_iald X (AR_13 hE) g106 dX8_ofColour_52 ?_
      exact V_iret X rfl hf106 dX8_ofColour_53
    rcases oif hf10_0 with ⟨q10_1, hf10_1⟩ | ⟨q10_1, hf10_1⟩
    · refine V_table X (tgt := 54) (off := 44) (by rw [q10_1]; decide) (by decide) (by decide) dX8_ofColour_10 ?_
      have hf8 := hf10_1
      refine V_aload_n X 0 rfl dX8_ofColour_54 ?_
      refine V_iload_n X 1 rfl dX8_ofColour_55 ?_
      obtain ⟨c8, e_c8, hf10⟩ := obd hf8
      refine V_callVi X (OB_12 hE) rfl rfl (f8_holder_ok hE e_c8) ys_X8_holder yw_X8_holder ml_X8_75 rfl rfl ⟨Nat.le_of_ble_eq_true rfl, Nat.le_of_ble_eq_true rfl⟩ ⟨Nat.zero_le _, Nat.zero_le _⟩ (Nat.le_of_ble_eq_true rfl) dX8_ofColour_56 ?_
      exact V_iret X rfl hf10 dX8_ofColour_59
    rcases oif hf10_1 with ⟨q10_2, hf10_2⟩ | ⟨q10_2, hf10_2⟩
    · refine V_table X (tgt := 60) (off := 50) (by rw [q10_2]; decide) (by decide) (by decide) dX8_ofColour_10 ?_
      have hf11 := hf10_2
      exact V_sub [0, 1, 2] rfl (f8_ofColour_j60_ok hE X hf11)
    rcases oif hf10_2 with ⟨q10_3, hf10_3⟩ | ⟨q10_3, hf10_3⟩
    · refine V_table X (tgt := 60) (off := 50) (by rw [q10_3]; decide) (by decide) (by decide) dX8_ofColour_10 ?_
      have hf12 := hf10_3
      exact V_sub [0, 1, 2] rfl (f8_ofColour_j60_ok hE X hf12)
    rcases oif hf10_3 with ⟨q10_4, hf10_4⟩ | ⟨q10_4, hf10_4⟩
    · refine V_table X (tgt := 60) (off := 50) (by rw [q10_4]; decide) (by decide) (by decide) dX8_ofColour_10 ?_
      have hf13 := hf10_4
      exact V_sub [0, 1, 2] rfl (f8_ofColour_j60_ok hE X hf13)
    · skip
      refine V_table X (tgt := 67) (off := 57) (tsel_out (by have z0 := lv_neT q10_0 (show (0 : Int32).toInt = 0 by decide); have z1 := lv_neT q10_1 (show (1 : Int32).toInt = 1 by decide); have z2 := lv_neT q10_2 (show (2 : Int32).toInt = 2 by decide); have z3 := lv_neT q10_3 (show (3 : Int32).toInt = 3 by decide); have z4 := lv_neT q10_4 (show (4 : Int32).toInt = 4 by decide); omega)) (by decide) (by decide) dX8_ofColour_10 ?_
      have hf14 := hf10_4
      refine V_bipush X (v := -2) (by decide) dX8_ofColour_67 ?_
      exact V_iret X rfl hf14 dX8_ofColour_69
  · have hf4 := ift hf3 q4
    refine V_iconst X (v := -1) (by decide) dX8_ofColour_7 ?_
    exact V_iret X rfl hf4 dX8_ofColour_8
def f8_ofColour (x1 : Int32) (x2 : Int32) (h : Hp) : Re := f8_ofColour_e x1 x2 h
theorem f8_ofColour_ok (hE : IW E) {x1 : Int32} {x2 : Int32} {h : Hp} {q : Int32 × Hp} (hf0 : f8_ofColour x1 x2 h = some q) : SMi l E 5 yX8_ofColour cX8_ofColour 3 (some .int) [.ref (eA E 12), .int x1, .int x2] h q.1 q.2 :=
  SMi.of (by decide +kernel) (Nat.le_of_ble_eq_true rfl) (fun p e s m args below meth c A X => f8_ofColour_e_ok hE X (r := q.1) (h' := q.2) hf0)
def f8_grains_B4 (k4 : Int32 → Int32 → Hp → Re) (x1 : Int32) (x2 : Int32) (h : Hp) : Re :=
  if 4 ≤ x2 then (some (x1, h)) else ((f8_ofPlacesIn x2 0 h).bind fun c2 => k4 (x1 + c2.1) (x2 + 1) c2.2)
set_option maxRecDepth 20000 in
set_option maxHeartbeats 4000000 in
theorem f8_grains_B4_ok (hE : IW E) (X : XC E RX8 cX8_grains 3 (some .int) A p s m args meth c) {k4 : Int32 → Int32 → Hp → Re} (hk4 : ∀ (x1 : Int32) (x2 : Int32) (h : Hp), k4 x1 x2 h = some (r, h') → VM E 3 A p l e 5 s m args below meth c (Qi E A r h') 4 [(0, .ref (eA E 12)), (1, .int x1), (2, .int x2)] [] h) {x1 : Int32} {x2 : Int32} {h : Hp} (hf0 : f8_grains_B4 k4 x1 x2 h = some (r, h')) : VM E 3 A p l e 5 s m args below meth c (Qi E A r h') 4 [(0, .ref (eA E 12)), (1, .int x1), (2, .int x2)] [] h := by
  unfold f8_grains_B4 at hf0
  have hf1 := hf0
  refine V_iload_n X 2 rfl dX8_grains_4 ?_
  refine V_iconst X (v := 4) (by decide) dX8_grains_5 ?_
  refine V_icmp_ge X (tgt := 24) (by decide) dX8_grains_6 (fun q6 => ?_) (fun q6 => ?_)
  · have hf2 := ift hf1 q6
    refine V_iload_n X 1 rfl dX8_grains_24 ?_
    exact V_iret X rfl hf2 dX8_grains_25
  · have hf2 := ife hf1 q6
    refine V_iload_n X 1 rfl dX8_grains_9 ?_
    refine V_aload_n X 0 rfl dX8_grains_10 ?_
    refine V_iload_n X 2 rfl dX8_grains_11 ?_
    refine V_iconst X (v := 0) (by decide) dX8_grains_12 ?_
    obtain ⟨c2, e_c2, hf4⟩ := obd hf2
    refine V_callVi X (OB_12 hE) rfl rfl (f8_ofPlacesIn_ok hE e_c2) ys_X8_ofPlacesIn yw_X8_ofPlacesIn ml_X8_139 rfl rfl ⟨Nat.le_of_ble_eq_true rfl, Nat.le_of_ble_eq_true rfl⟩ ⟨Nat.zero_le _, Nat.zero_le _⟩ (Nat.le_of_ble_eq_true rfl) dX8_grains_13 ?_
    refine V_iadd X dX8_grains_16 ?_
    refine V_istore_n X (by decide) rfl dX8_grains_17 ?_
    refine V_iinc X (v := _ + 1) 2 rfl (by rfl) (by decide) rfl dX8_grains_18 ?_
    refine V_goto X (tgt := 4) (by decide) dX8_grains_21 ?_
    exact V_sub [2, 1, 0] rfl (hk4 _ _ _ hf4)
def f8_grains_L4 : Nat → Int32 → Int32 → Hp → Re
  | 0 => fun _ _ _ => none
  | n + 1 => f8_grains_B4 (f8_grains_L4 n)
theorem f8_grains_L4_s (n : Nat) (x1 : Int32) (x2 : Int32) (h : Hp) : f8_grains_L4 (n + 1) x1 x2 h = f8_grains_B4 (f8_grains_L4 n) x1 x2 h := rfl
theorem f8_grains_L4_ok (hE : IW E) (X : XC E RX8 cX8_grains 3 (some .int) A p s m args meth c) : ∀ (n : Nat) (x1 : Int32) (x2 : Int32) (h : Hp), f8_grains_L4 n x1 x2 h = some (r, h') → VM E 3 A p l e 5 s m args below meth c (Qi E A r h') 4 [(0, .ref (eA E 12)), (1, .int x1), (2, .int x2)] [] h := by
  intro n
  induction n with
  | zero =>
    intro x1 x2 h q
    have q : (none : Re) = some (r, h') := q
    cases q
  | succ n ih =>
    intro x1 x2 h q
    exact f8_grains_B4_ok hE X ih q
def f8_grains_e (h : Hp) : Re :=
  f8_grains_L4 FU 0 0 h
set_option maxRecDepth 20000 in
set_option maxHeartbeats 4000000 in
theorem f8_grains_e_ok (hE : IW E) (X : XC E RX8 cX8_grains 3 (some .int) A p s m args meth c) {h : Hp} (hf0 : f8_grains_e  h = some (r, h')) : VM E 3 A p l e 5 s m args below meth c (Qi E A r h') 0 [(0, .ref (eA E 12))] [] h := by
  unfold f8_grains_e at hf0
  have hf1 := hf0
  refine V_iconst X (v := 0) (by decide) dX8_grains_0 ?_
  refine V_istore_n X (by decide) rfl dX8_grains_1 ?_
  refine V_iconst X (v := 0) (by decide) dX8_grains_2 ?_
  refine V_istore_n X (by decide) rfl dX8_grains_3 ?_
  exact V_sub [2, 1, 0] rfl (f8_grains_L4_ok hE X FU _ _ _ hf1)
def f8_grains (h : Hp) : Re := f8_grains_e  h
theorem f8_grains_ok (hE : IW E) {h : Hp} {q : Int32 × Hp} (hf0 : f8_grains  h = some q) : SMi l E 5 yX8_grains cX8_grains 3 (some .int) [.ref (eA E 12)] h q.1 q.2 :=
  SMi.of (by decide +kernel) (Nat.le_of_ble_eq_true rfl) (fun p e s m args below meth c A X => f8_grains_e_ok hE X (r := q.1) (h' := q.2) hf0)
def f8_whole_B4 (k4 : Int32 → Int32 → Hp → Re) (x1 : Int32) (x2 : Int32) (h : Hp) : Re :=
  if 5 ≤ x2 then (some (x1, h)) else ((f8_isWhole x2 h).bind fun c2 => if c2.1 = 0 then (k4 (x1 ||| 0) (x2 + 1) c2.2) else ((some (x1 ||| ((1 : Int32) <<< (x2 &&& 31)) : Int32)).bind fun z5 => k4 z5 (x2 + 1) c2.2))
set_option maxRecDepth 20000 in
set_option maxHeartbeats 4000000 in
theorem f8_whole_B4_ok (hE : IW E) (X : XC E RX8 cX8_whole 3 (some .int) A p s m args meth c) {k4 : Int32 → Int32 → Hp → Re} (hk4 : ∀ (x1 : Int32) (x2 : Int32) (h : Hp), k4 x1 x2 h = some (r, h') → VM E 3 A p l e 5 s m args below meth c (Qi E A r h') 4 [(0, .ref (eA E 12)), (1, .int x1), (2, .int x2)] [] h) {x1 : Int32} {x2 : Int32} {h : Hp} (hf0 : f8_whole_B4 k4 x1 x2 h = some (r, h')) : VM E 3 A p l e 5 s m args below meth c (Qi E A r h') 4 [(0, .ref (eA E 12)), (1, .int x1), (2, .int x2)] [] h := by
  unfold f8_whole_B4 at hf0
  have hf1 := hf0
  refine V_iload_n X 2 rfl dX8_whole_4 ?_
  refine V_iconst X (v := 5) (by decide) dX8_whole_5 ?_
  refine V_icmp_ge X (tgt := 33) (by decide) dX8_whole_6 (fun q6 => ?_) (fun q6 => ?_)
  · have hf2 := ift hf1 q6
    refine V_iload_n X 1 rfl dX8_whole_33 ?_
    exact V_iret X rfl hf2 dX8_whole_34
  · have hf2 := ife hf1 q6
    refine V_iload_n X 1 rfl dX8_whole_9 ?_
    refine V_aload_n X 0 rfl dX8_whole_10 ?_
    refine V_iload_n X 2 rfl dX8_whole_11 ?_
    obtain ⟨c2, e_c2, hf4⟩ := obd hf2
    refine V_callVi X (OB_12 hE) rfl rfl (f8_isWhole_ok hE e_c2) ys_X8_isWhole yw_X8_isWhole ml_X8_92 rfl rfl ⟨Nat.le_of_ble_eq_true rfl, Nat.le_of_ble_eq_true rfl⟩ ⟨Nat.zero_le _, Nat.zero_le _⟩ (Nat.le_of_ble_eq_true rfl) dX8_whole_12 ?_
    refine V_if_eq X (tgt := 24) (by decide) dX8_whole_15 (fun q15 => ?_) (fun q15 => ?_)
    · have hf5 := ift hf4 q15
      refine V_iconst X (v := 0) (by decide) dX8_whole_24 ?_
      refine V_ior X dX8_whole_25 ?_
      refine V_istore_n X (by decide) rfl dX8_whole_26 ?_
      refine V_iinc X (v := _ + 1) 2 rfl (by rfl) (by decide) rfl dX8_whole_27 ?_
      refine V_goto X (tgt := 4) (by decide) dX8_whole_30 ?_
      exact V_sub [2, 1, 0] rfl (hk4 _ _ _ hf5)
    · have hf5 := ife hf4 q15
      refine V_iconst X (v := 1) (by decide) dX8_whole_18 ?_
      refine V_iload_n X 2 rfl dX8_whole_19 ?_
      refine V_ishl X dX8_whole_20 ?_
      refine V_goto X (tgt := 25) (by decide) dX8_whole_21 ?_
      refine V_ior X dX8_whole_25 ?_
      refine V_istore_n X (by decide) rfl dX8_whole_26 ?_
      have hf7 := obs hf5
      refine V_iinc X (v := _ + 1) 2 rfl (by rfl) (by decide) rfl dX8_whole_27 ?_
      refine V_goto X (tgt := 4) (by decide) dX8_whole_30 ?_
      exact V_sub [2, 1, 0] rfl (hk4 _ _ _ hf7)
def f8_whole_L4 : Nat → Int32 → Int32 → Hp → Re
  | 0 => fun _ _ _ => none
  | n + 1 => f8_whole_B4 (f8_whole_L4 n)
theorem f8_whole_L4_s (n : Nat) (x1 : Int32) (x2 : Int32) (h : Hp) : f8_whole_L4 (n + 1) x1 x2 h = f8_whole_B4 (f8_whole_L4 n) x1 x2 h := rfl
theorem f8_whole_L4_ok (hE : IW E) (X : XC E RX8 cX8_whole 3 (some .int) A p s m args meth c) : ∀ (n : Nat) (x1 : Int32) (x2 : Int32) (h : Hp), f8_whole_L4 n x1 x2 h = some (r, h') → VM E 3 A p l e 5 s m args below meth c (Qi E A r h') 4 [(0, .ref (eA E 12)), (1, .int x1), (2, .int x2)] [] h := by
  intro n
  induction n with
  | zero =>
    intro x1 x2 h q
    have q : (none : Re) = some (r, h') := q
    cases q
  | succ n ih =>
    intro x1 x2 h q
    exact f8_whole_B4_ok hE X ih q
def f8_whole_e (h : Hp) : Re :=
  f8_whole_L4 FU 0 0 h
set_option maxRecDepth 20000 in
set_option maxHeartbeats 4000000 in
theorem f8_whole_e_ok (hE : IW E) (X : XC E RX8 cX8_whole 3 (some .int) A p s m args meth c) {h : Hp} (hf0 : f8_whole_e  h = some (r, h')) : VM E 3 A p l e 5 s m args below meth c (Qi E A r h') 0 [(0, .ref (eA E 12))] [] h := by
  unfold f8_whole_e at hf0
  have hf1 := hf0
  refine V_iconst X (v := 0) (by decide) dX8_whole_0 ?_
  refine V_istore_n X (by decide) rfl dX8_whole_1 ?_
  refine V_iconst X (v := 0) (by decide) dX8_whole_2 ?_
  refine V_istore_n X (by decide) rfl dX8_whole_3 ?_
  exact V_sub [2, 1, 0] rfl (f8_whole_L4_ok hE X FU _ _ _ hf1)
def f8_whole (h : Hp) : Re := f8_whole_e  h
theorem f8_whole_ok (hE : IW E) {h : Hp} {q : Int32 × Hp} (hf0 : f8_whole  h = some q) : SMi l E 5 yX8_whole cX8_whole 3 (some .int) [.ref (eA E 12)] h q.1 q.2 :=
  SMi.of (by decide +kernel) (Nat.le_of_ble_eq_true rfl) (fun p e s m args below meth c A X => f8_whole_e_ok hE X (r := q.1) (h' := q.2) hf0)
def f8_count_j111 (x1 : Int32) (h : Hp) : Re :=
  if inB (x1 - 7) 383 = true then some (h 13 (Int32.toNatClampNeg (x1 - 7)), h) else none
set_option maxRecDepth 20000 in
set_option maxHeartbeats 4000000 in
theorem f8_count_j111_ok (hE : IW E) (X : XC E RX8 cX8_count 2 (some .int) A p s m args meth c) {x1 : Int32} {h : Hp} (hf0 : f8_count_j111 x1 h = some (r, h')) : VM E 2 A p l e 6 s m args below meth c (Qi E A r h') 111 [(0, .ref (eA E 12)), (1, .int x1)] [] h := by
  unfold f8_count_j111 at hf0
  have hf1 := hf0
  refine V_aload_n X 0 rfl dX8_count_111 ?_
  refine G_X8_0_7 hE X dX8_count_112 ?_
  refine V_iload_n X 1 rfl dX8_count_115 ?_
  refine V_bipush X (v := 7) (by decide) dX8_count_116 ?_
  refine V_isub X dX8_count_118 ?_
  obtain ⟨g101, hf101⟩ := ogd hf1
  refine V_iald X (AR_13 hE) g101 dX8_count_119 ?_
  exact V_iret X rfl hf101 dX8_count_120
def f8_count_e (x1 : Int32) (h : Hp) : Re :=
  if x1 = 0 then (some (h 13 (Int32.toNatClampNeg 3), h)) else if x1 = 1 then (some (h 13 (Int32.toNatClampNeg 4), h)) else if x1 = 2 then (some (h 13 (Int32.toNatClampNeg 5), h)) else if x1 = 3 then (some (h 13 (Int32.toNatClampNeg 6), h)) else if x1 = 4 then ((f8_grains  h).bind fun c7 => some (c7.1, c7.2)) else if x1 = 5 then ((f8_whole  h).bind fun c10 => some (c10.1, c10.2)) else if x1 = 6 then (some (h 13 (Int32.toNatClampNeg 7), h)) else if x1 = 7 then (f8_count_j111 x1 h) else if x1 = 8 then (f8_count_j111 x1 h) else if x1 = 9 then (f8_count_j111 x1 h) else if x1 = 10 then (some (h 12 9, h)) else if x1 = 11 then (some (h 12 10, h)) else (some ((-2), h))
set_option maxRecDepth 20000 in
set_option maxHeartbeats 4000000 in
theorem f8_count_e_ok (hE : IW E) (X : XC E RX8 cX8_count 2 (some .int) A p s m args meth c) {x1 : Int32} {h : Hp} (hf0 : f8_count_e x1 h = some (r, h')) : VM E 2 A p l e 6 s m args below meth c (Qi E A r h') 0 [(0, .ref (eA E 12)), (1, .int x1)] [] h := by
  unfold f8_count_e at hf0
  have hf1 := hf0
  refine V_iload_n X 1 rfl dX8_count_0 ?_
  rcases oif hf1 with ⟨q1_0, hf1_0⟩ | ⟨q1_0, hf1_0⟩
  · refine V_table X (tgt := 64) (off := 63) (by rw [q1_0]; decide) (by decide) (by decide) dX8_count_1 ?_
    have hf3 := hf1_0
    refine V_aload_n X 0 rfl dX8_count_64 ?_
    refine G_X8_0_7 hE X dX8_count_65 ?_
    refine V_iconst X (v := 3) (by decide) dX8_count_68 ?_
    refine V_iald X (AR_13 hE) (by decide) dX8_count_69 ?_
    exact V_iret X rfl hf3 dX8_count_70
  rcases oif hf1_0 with ⟨q1_1, hf1_1⟩ | ⟨q1_1, hf1_1⟩
  · refine V_table X (tgt := 71) (off := 70) (by rw [q1_1]; decide) (by decide) (by decide) dX8_count_1 ?_
    have hf4 := hf1_1
    refine V_aload_n X 0 rfl dX8_count_71 ?_
    refine G_X8_0_7 hE X dX8_count_72 ?_
    refine V_iconst X (v := 4) (by decide) dX8_count_75 ?_
    refine V_iald X (AR_13 hE) (by decide) dX8_count_76 ?_
    exact V_iret X rfl hf4 dX8_count_77
  rcases oif hf1_1 with ⟨q1_2, hf1_2⟩ | ⟨q1_2, hf1_2⟩
  · refine V_table X (tgt := 78) (off := 77) (by rw [q1_2]; decide) (by decide) (by decide) dX8_count_1 ?_
    have hf5 := hf1_2
    refine V_aload_n X 0 rfl dX8_count_78 ?_
    refine G_X8_0_7 hE X dX8_count_79 ?_
    refine V_iconst X (v := 5) (by decide) dX8_count_82 ?_
    refine V_iald X (AR_13 hE) (by decide) dX8_count_83 ?_
    exact V_iret X rfl hf5 dX8_count_84
  rcases oif hf1_2 with ⟨q1_3, hf1_3⟩ | ⟨q1_3, hf1_3⟩
  · refine V_table X (tgt := 85) (off := 84) (by rw [q1_3]; decide) (by decide) (by decide) dX8_count_1 ?_
    have hf6 := hf1_3
    refine V_aload_n X 0 rfl dX8_count_85 ?_
    refine G_X8_0_7 hE X dX8_count_86 ?_
    refine V_bipush X (v := 6) (by decide) dX8_count_89 ?_
    refine V_iald X (AR_13 hE) (by decide) dX8_count_91 ?_
    exact V_iret X rfl hf6 dX8_count_92
  rcases oif hf1_3 with ⟨q1_4, hf1_4⟩ | ⟨q1_4, hf1_4⟩
  · refine V_table X (tgt := 93) (off := 92) (by rw [q1_4]; decide) (by decide) (by decide) dX8_count_1 ?_
    have hf7 := hf1_4
    refine V_aload_n X 0 rfl dX8_count_93 ?_
    obtain ⟨c7, e_c7, hf9⟩ := obd hf7
    refine V_callVi X (OB_12 hE) rfl rfl (f8_grains_ok hE e_c7) ys_X8_grains yw_X8_grains ml_X8_148 rfl rfl ⟨Nat.le_of_ble_eq_true rfl, Nat.le_of_ble_eq_true rfl⟩ ⟨Nat.zero_le _, Nat.zero_le _⟩ (Nat.le_of_ble_eq_true rfl) dX8_count_94 ?_
    exact V_iret X rfl hf9 dX8_count_97
  rcases oif hf1_4 with ⟨q1_5, hf1_5⟩ | ⟨q1_5, hf1_5⟩
  · refine V_table X (tgt := 98) (off := 97) (by rw [q1_5]; decide) (by decide) (by decide) dX8_count_1 ?_
    have hf10 := hf1_5
    refine V_aload_n X 0 rfl dX8_count_98 ?_
    obtain ⟨c10, e_c10, hf12⟩ := obd hf10
    refine V_callVi X (OB_12 hE) rfl rfl (f8_whole_ok hE e_c10) ys_X8_whole yw_X8_whole ml_X8_151 rfl rfl ⟨Nat.le_of_ble_eq_true rfl, Nat.le_of_ble_eq_true rfl⟩ ⟨Nat.zero_le _, Nat.zero_le _⟩ (Nat.le_of_ble_eq_true rfl) dX8_count_99 ?_
    exact V_iret X rfl hf12 dX8_count_102
  rcases oif hf1_5 with ⟨q1_6, hf1_6⟩ | ⟨q1_6, hf1_6⟩
  · refine V_table X (tgt := 103) (off := 102) (by rw [q1_6]; decide) (by decide) (by decide) dX8_count_1 ?_
    have hf13 := hf1_6
    refine V_aload_n X 0 rfl dX8_count_103 ?_
    refine G_X8_0_7 hE X dX8_count_104 ?_
    refine V_bipush X (v := 7) (by decide) dX8_count_107 ?_
    refine V_iald X (AR_13 hE) (by decide) dX8_count_109 ?_
    exact V_iret X rfl hf13 dX8_count_110
  rcases oif hf1_6 with ⟨q1_7, hf1_7⟩ | ⟨q1_7, hf1_7⟩
  · refine V_table X (tgt := 111) (off := 110) (by rw [q1_7]; decide) (by decide) (by decide) dX8_count_1 ?_
    have hf14 := hf1_7
    exact V_sub [0, 1] rfl (f8_count_j111_ok hE X hf14)
  rcases oif hf1_7 with ⟨q1_8, hf1_8⟩ | ⟨q1_8, hf1_8⟩
  · refine V_table X (tgt := 111) (off := 110) (by rw [q1_8]; decide) (by decide) (by decide) dX8_count_1 ?_
    have hf15 := hf1_8
    exact V_sub [0, 1] rfl (f8_count_j111_ok hE X hf15)
  rcases oif hf1_8 with ⟨q1_9, hf1_9⟩ | ⟨q1_9, hf1_9⟩
  · refine V_table X (tgt := 111) (off := 110) (by rw [q1_9]; decide) (by decide) (by decide) dX8_count_1 ?_
    have hf16 := hf1_9
    exact V_sub [0, 1] rfl (f8_count_j111_ok hE X hf16)
  rcases oif hf1_9 with ⟨q1_10, hf1_10⟩ | ⟨q1_10, hf1_10⟩
  · refine V_table X (tgt := 121) (off := 120) (by rw [q1_10]; decide) (by decide) (by decide) dX8_count_1 ?_
    have hf17 := hf1_10
    refine V_aload_n X 0 rfl dX8_count_121 ?_
    refine G_X8_9_154 hE X dX8_count_122 ?_
    exact V_iret X rfl hf17 dX8_count_125
  rcases oif hf1_10 with ⟨q1_11, hf1_11⟩ | ⟨q1_11, hf1_11⟩
  · refine V_table X (tgt := 126) (off := 125) (by rw [q1_11]; decide) (by decide) (by decide) dX8_count_1 ?_
    have hf18 := hf1_11
    refine V_aload_n X 0 rfl dX8_count_126 ?_
    refine G_X8_10_50 hE X dX8_count_127 ?_
    exact V_iret X rfl hf18 dX8_count_130
  · skip
    refine V_table X (tgt := 131) (off := 130) (tsel_out (by have z0 := lv_neT q1_0 (show (0 : Int32).toInt = 0 by decide); have z1 := lv_neT q1_1 (show (1 : Int32).toInt = 1 by decide); have z2 := lv_neT q1_2 (show (2 : Int32).toInt = 2 by decide); have z3 := lv_neT q1_3 (show (3 : Int32).toInt = 3 by decide); have z4 := lv_neT q1_4 (show (4 : Int32).toInt = 4 by decide); have z5 := lv_neT q1_5 (show (5 : Int32).toInt = 5 by decide); have z6 := lv_neT q1_6 (show (6 : Int32).toInt = 6 by decide); have z7 := lv_neT q1_7 (show (7 : Int32).toInt = 7 by decide); have z8 := lv_neT q1_8 (show (8 : Int32).toInt = 8 by decide); have z9 := lv_neT q1_9 (show (9 : Int32).toInt = 9 by decide); have z10 := lv_neT q1_10 (show (10 : Int32).toInt = 10 by decide); have z11 := lv_neT q1_11 (show (11 : Int32).toInt = 11 by decide); omega)) (by decide) (by decide) dX8_count_1 ?_
    have hf19 := hf1_11
    refine V_bipush X (v := -2) (by decide) dX8_count_131 ?_
    exact V_iret X rfl hf19 dX8_count_133
def f8_count (x1 : Int32) (h : Hp) : Re := f8_count_e x1 h
theorem f8_count_ok (hE : IW E) {x1 : Int32} {h : Hp} {q : Int32 × Hp} (hf0 : f8_count x1 h = some q) : SMi l E 6 yX8_count cX8_count 2 (some .int) [.ref (eA E 12), .int x1] h q.1 q.2 :=
  SMi.of (by decide +kernel) (Nat.le_of_ble_eq_true rfl) (fun p e s m args below meth c A X => f8_count_e_ok hE X (r := q.1) (h' := q.2) hf0)
def f8_needed_j149 (k33 : Int32 → Int32 → Int32 → Int32 → Hp → Re) (x1 : Int32) (x3 : Int32) (x4 : Int32) (x7 : Int32) (x9 : Int32) (y0 : Int32) (h : Hp) : Re :=
  if x9 = 0 then (k33 x1 y0 x3 (x4 + 1) h) else (if inB (x7 + 1) 383 = true then (some (h 13 (Int32.toNatClampNeg (x7 + 1)) : Int32)).bind fun z3 => k33 x1 y0 z3 (x4 + 1) h else none)
set_option maxRecDepth 20000 in
set_option maxHeartbeats 4000000 in
theorem f8_needed_j149_ok (hE : IW E) (X : XC E RX8 cX8_needed 10 (some .int) A p s m args meth c) {k33 : Int32 → Int32 → Int32 → Int32 → Hp → Re} (hk33 : ∀ (x1 : Int32) (x2 : Int32) (x3 : Int32) (x4 : Int32) (h : Hp), k33 x1 x2 x3 x4 h = some (r, h') → VM E 10 A p l e 3 s m args below meth c (Qi E A r h') 33 [(0, .ref (eA E 12)), (1, .int x1), (2, .int x2), (3, .int x3), (4, .int x4)] [] h) {x1 : Int32} {x3 : Int32} {x4 : Int32} {x7 : Int32} {x9 : Int32} {y0 : Int32} {h : Hp} (hf0 : f8_needed_j149 k33 x1 x3 x4 x7 x9 y0 h = some (r, h')) : VM E 10 A p l e 3 s m args below meth c (Qi E A r h') 149 [(0, .ref (eA E 12)), (1, .int x1), (3, .int x3), (4, .int x4), (7, .int x7), (9, .int x9)] [.int y0] h := by
  unfold f8_needed_j149 at hf0
  have hf1 := hf0
  refine V_istore_n X (by decide) rfl dX8_needed_149 ?_
  refine V_iload X 6 rfl dX8_needed_150 ?_
  refine V_if_eq X (tgt := 167) (by decide) dX8_needed_152 (fun q152 => ?_) (fun q152 => ?_)
  · have hf2 := ift hf1 q152
    refine V_iload_n X 3 rfl dX8_needed_167 ?_
    refine V_istore_n X (by decide) rfl dX8_needed_168 ?_
    refine V_iinc X (v := _ + 1) 4 rfl (by rfl) (by decide) rfl dX8_needed_169 ?_
    refine V_goto X (tgt := 33) (by decide) dX8_needed_172 ?_
    exact V_sub [3, 4, 2, 1, 0] rfl (hk33 _ _ _ _ _ hf2)
  · have hf2 := ife hf1 q152
    refine V_aload_n X 1 rfl dX8_needed_155 ?_
    refine G_X8_0_7 hE X dX8_needed_156 ?_
    refine V_iload X 5 rfl dX8_needed_159 ?_
    refine V_iconst X (v := 1) (by decide) dX8_needed_161 ?_
    refine V_iadd X dX8_needed_162 ?_
    obtain ⟨g102, hf102⟩ := ogd hf2
    refine V_iald X (AR_13 hE) g102 dX8_needed_163 ?_
    refine V_goto X (tgt := 168) (by decide) dX8_needed_164 ?_
    refine V_istore_n X (by decide) rfl dX8_needed_168 ?_
    have hf5 := obs hf102
    refine V_iinc X (v := _ + 1) 4 rfl (by rfl) (by decide) rfl dX8_needed_169 ?_
    refine V_goto X (tgt := 33) (by decide) dX8_needed_172 ?_
    exact V_sub [3, 4, 2, 1, 0] rfl (hk33 _ _ _ _ _ hf5)
def f8_needed_j136 (k33 : Int32 → Int32 → Int32 → Int32 → Hp → Re) (x1 : Int32) (x2 : Int32) (x3 : Int32) (x4 : Int32) (x7 : Int32) (y0 : Int32) (h : Hp) : Re :=
  if y0 = 0 then (f8_needed_j149 k33 x1 x3 x4 x7 y0 x2 h) else (f8_needed_j149 k33 x1 x3 x4 x7 y0 x4 h)
set_option maxRecDepth 20000 in
set_option maxHeartbeats 4000000 in
theorem f8_needed_j136_ok (hE : IW E) (X : XC E RX8 cX8_needed 10 (some .int) A p s m args meth c) {k33 : Int32 → Int32 → Int32 → Int32 → Hp → Re} (hk33 : ∀ (x1 : Int32) (x2 : Int32) (x3 : Int32) (x4 : Int32) (h : Hp), k33 x1 x2 x3 x4 h = some (r, h') → VM E 10 A p l e 3 s m args below meth c (Qi E A r h') 33 [(0, .ref (eA E 12)), (1, .int x1), (2, .int x2), (3, .int x3), (4, .int x4)] [] h) {x1 : Int32} {x2 : Int32} {x3 : Int32} {x4 : Int32} {x7 : Int32} {y0 : Int32} {h : Hp} (hf0 : f8_needed_j136 k33 x1 x2 x3 x4 x7 y0 h = some (r, h')) : VM E 10 A p l e 3 s m args below meth c (Qi E A r h') 136 [(0, .ref (eA E 12)), (1, .int x1), (2, .int x2), (3, .int x3), (4, .int x4), (7, .int x7)] [.int y0] h := by
  unfold f8_needed_j136 at hf0
  have hf1 := hf0
  refine V_istore X (by decide) rfl dX8_needed_136 ?_
  refine V_iload X 0 rfl dX8_needed_138 ?_
  refine V_if_eq X (tgt := 148) (by decide) dX8_needed_140 (fun q140 => ?_) (fun q140 => ?_)
  · have hf2 := ift hf1 q140
    refine V_iload_n X 3 rfl dX8_needed_148 ?_
    exact V_sub [1, 2, 4, 5, 6, 0] rfl (f8_needed_j149_ok hE X hk33 hf2)
  · have hf2 := ife hf1 q140
    refine V_iload X 5 rfl dX8_needed_143 ?_
    refine V_goto X (tgt := 149) (by decide) dX8_needed_145 ?_
    exact V_sub [1, 2, 4, 5, 6, 0] rfl (f8_needed_j149_ok hE X hk33 hf2)
def f8_needed_j135 (k33 : Int32 → Int32 → Int32 → Int32 → Hp → Re) (x1 : Int32) (x2 : Int32) (x3 : Int32) (x4 : Int32) (x7 : Int32) (h : Hp) : Re :=
  f8_needed_j136 k33 x1 x2 x3 x4 x7 0 h
set_option maxRecDepth 20000 in
set_option maxHeartbeats 4000000 in
theorem f8_needed_j135_ok (hE : IW E) (X : XC E RX8 cX8_needed 10 (some .int) A p s m args meth c) {k33 : Int32 → Int32 → Int32 → Int32 → Hp → Re} (hk33 : ∀ (x1 : Int32) (x2 : Int32) (x3 : Int32) (x4 : Int32) (h : Hp), k33 x1 x2 x3 x4 h = some (r, h') → VM E 10 A p l e 3 s m args below meth c (Qi E A r h') 33 [(0, .ref (eA E 12)), (1, .int x1), (2, .int x2), (3, .int x3), (4, .int x4)] [] h) {x1 : Int32} {x2 : Int32} {x3 : Int32} {x4 : Int32} {x7 : Int32} {h : Hp} (hf0 : f8_needed_j135 k33 x1 x2 x3 x4 x7 h = some (r, h')) : VM E 10 A p l e 3 s m args below meth c (Qi E A r h') 135 [(0, .ref (eA E 12)), (1, .int x1), (2, .int x2), (3, .int x3), (4, .int x4), (7, .int x7)] [] h := by
  unfold f8_needed_j135 at hf0
  have hf1 := hf0
  refine V_iconst X (v := 0) (by decide) dX8_needed_135 ?_
  exact V_sub [0, 1, 2, 3, 4, 5] rfl (f8_needed_j136_ok hE X hk33 hf1)
def f8_needed_j118 (k33 : Int32 → Int32 → Int32 → Int32 → Hp → Re) (x1 : Int32) (x2 : Int32) (x3 : Int32) (x4 : Int32) (x7 : Int32) (h : Hp) : Re :=
  if inB (x7 + 1) 383 = true then if x3 ≤ (h 13 (Int32.toNatClampNeg (x7 + 1))) then (f8_needed_j135 k33 x1 x2 x3 x4 x7 h) else (f8_needed_j136 k33 x1 x2 x3 x4 x7 1 h) else none
set_option maxRecDepth 20000 in
set_option maxHeartbeats 4000000 in
theorem f8_needed_j118_ok (hE : IW E) (X : XC E RX8 cX8_needed 10 (some .int) A p s m args meth c) {k33 : Int32 → Int32 → Int32 → Int32 → Hp → Re} (hk33 : ∀ (x1 : Int32) (x2 : Int32) (x3 : Int32) (x4 : Int32) (h : Hp), k33 x1 x2 x3 x4 h = some (r, h') → VM E 10 A p l e 3 s m args below meth c (Qi E A r h') 33 [(0, .ref (eA E 12)), (1, .int x1), (2, .int x2), (3, .int x3), (4, .int x4)] [] h) {x1 : Int32} {x2 : Int32} {x3 : Int32} {x4 : Int32} {x7 : Int32} {h : Hp} (hf0 : f8_needed_j118 k33 x1 x2 x3 x4 x7 h = some (r, h')) : VM E 10 A p l e 3 s m args below meth c (Qi E A r h') 118 [(0, .ref (eA E 12)), (1, .int x1), (2, .int x2), (3, .int x3), (4, .int x4), (7, .int x7)] [] h := by
  unfold f8_needed_j118 at hf0
  have hf1 := hf0
  refine V_aload_n X 0 rfl dX8_needed_118 ?_
  refine G_X8_0_7 hE X dX8_needed_119 ?_
  refine V_iload X 5 rfl dX8_needed_122 ?_
  refine V_iconst X (v := 1) (by decide) dX8_needed_124 ?_
  refine V_iadd X dX8_needed_125 ?_
  obtain ⟨g101, hf101⟩ := ogd hf1
  refine V_iald X (AR_13 hE) g101 dX8_needed_126 ?_
  refine V_iload_n X 3 rfl dX8_needed_127 ?_
  refine V_icmp_ge X (tgt := 135) (by decide) dX8_needed_128 (fun q128 => ?_) (fun q128 => ?_)
  · have hf3 := ift hf101 q128
    exact V_sub [0, 1, 2, 3, 4, 5] rfl (f8_needed_j135_ok hE X hk33 hf3)
  · have hf3 := ife hf101 q128
    refine V_iconst X (v := 1) (by decide) dX8_needed_131 ?_
    refine V_goto X (tgt := 136) (by decide) dX8_needed_132 ?_
    exact V_sub [0, 1, 2, 3, 4, 5] rfl (f8_needed_j136_ok hE X hk33 hf3)
def f8_needed_B33 (k33 : Int32 → Int32 → Int32 → Int32 → Hp → Re) (x1 : Int32) (x2 : Int32) (x3 : Int32) (x4 : Int32) (h : Hp) : Re :=
  if 160 ≤ x4 then (if x2 = (-6) then (some ((-6), h)) else (if x1 = 0 then (some ((x2 - x2 / 32 * 32) / 8, h)) else (if x1 = 1 then (some (x2 / 32, h)) else (if x1 = 2 then (some (x2 - x2 / 8 * 8, h)) else (if x1 = 3 then ((f8_wanted ((x2 - x2 / 32 * 32) / 8) (x2 / 32) (x2 - x2 / 8 * 8) h).bind fun c7 => some (c7.1, c7.2)) else (some ((h 13 (Int32.toNatClampNeg 0)) - x3, h))))))) else ((f8_p ((x4 - x4 / 32 * 32) / 8) (x4 / 32) (x4 - x4 / 8 * 8) h).bind fun c9 => (f8_wanted ((x4 - x4 / 32 * 32) / 8) (x4 / 32) (x4 - x4 / 8 * 8) c9.2).bind fun c11 => if c11.1 ≤ 0 then (f8_needed_j135 k33 x1 x2 x3 x4 c9.1 c11.2) else (if inB (c9.1 + 1) 383 = true then if (c11.2 13 (Int32.toNatClampNeg (c9.1 + 1))) = 0 then (f8_needed_j118 k33 x1 x2 x3 x4 c9.1 c11.2) else (if inB (c9.1 + 0) 383 = true then if (c11.2 13 (Int32.toNatClampNeg (c9.1 + 0))) = c11.1 then (f8_needed_j118 k33 x1 x2 x3 x4 c9.1 c11.2) else (f8_needed_j135 k33 x1 x2 x3 x4 c9.1 c11.2) else none) else none))
set_option maxRecDepth 20000 in
set_option maxHeartbeats 4000000 in
theorem f8_needed_B33_ok (hE : IW E) (X : XC E RX8 cX8_needed 10 (some .int) A p s m args meth c) {k33 : Int32 → Int32 → Int32 → Int32 → Hp → Re} (hk33 : ∀ (x1 : Int32) (x2 : Int32) (x3 : Int32) (x4 : Int32) (h : Hp), k33 x1 x2 x3 x4 h = some (r, h') → VM E 10 A p l e 3 s m args below meth c (Qi E A r h') 33 [(0, .ref (eA E 12)), (1, .int x1), (2, .int x2), (3, .int x3), (4, .int x4)] [] h) {x1 : Int32} {x2 : Int32} {x3 : Int32} {x4 : Int32} {h : Hp} (hf0 : f8_needed_B33 k33 x1 x2 x3 x4 h = some (r, h')) : VM E 10 A p l e 3 s m args below meth c (Qi E A r h') 33 [(0, .ref (eA E 12)), (1, .int x1), (2, .int x2), (3, .int x3), (4, .int x4)] [] h := by
  unfold f8_needed_B33 at hf0
  have hf1 := hf0
  refine V_iload X 4 rfl dX8_needed_33 ?_
  refine V_sipush X (v := 160) (by decide) dX8_needed_35 ?_
  refine V_icmp_ge X (tgt := 175) (by decide) dX8_needed_38 (fun q38 => ?_) (fun q38 => ?_)
  · have hf2 := ift hf1 q38
    refine V_iload_n X 2 rfl dX8_needed_175 ?_
    refine V_bipush X (v := -6) (by decide) dX8_needed_176 ?_
    refine V_icmp_ne X (tgt := 184) (by decide) dX8_needed_178 (fun q178 => ?_) (fun q178 => ?_)
    · have hf3 := ife hf2 q178
      refine V_iload_n X 2 rfl dX8_needed_184 ?_
      refine V_bipush X (v := 32) (by decide) dX8_needed_185 ?_
      refine V_idiv X (by decide) dX8_needed_187 ?_
      refine V_istore X (by decide) rfl dX8_needed_188 ?_
      refine V_iload_n X 3 rfl dX8_needed_190 ?_
      refine V_bipush X (v := 32) (by decide) dX8_needed_191 ?_
      refine V_irem X (by decide) dX8_needed_193 ?_
      refine V_bipush X (v := 8) (by decide) dX8_needed_194 ?_
      refine V_idiv X (by decide) dX8_needed_196 ?_
      refine V_istore X (by decide) rfl dX8_needed_197 ?_
      refine V_iload_n X 3 rfl dX8_needed_199 ?_
      refine V_if_ne X (tgt := 208) (by decide) dX8_needed_200 (fun q200 => ?_) (fun q200 => ?_)
      · have hf4 := ife hf3 q200
        refine V_iload_n X 3 rfl dX8_needed_208 ?_
        refine V_iconst X (v := 1) (by decide) dX8_needed_209 ?_
        refine V_icmp_ne X (tgt := 218) (by decide) dX8_needed_210 (fun q210 => ?_) (fun q210 => ?_)
        · have hf5 := ife hf4 q210
          refine V_iload_n X 3 rfl dX8_needed_218 ?_
          refine V_iconst X (v := 2) (by decide) dX8_needed_219 ?_
          refine V_icmp_ne X (tgt := 230) (by decide) dX8_needed_220 (fun q220 => ?_) (fun q220 => ?_)
          · have hf6 := ife hf5 q220
            refine V_iload_n X 3 rfl dX8_needed_230 ?_
            refine V_iconst X (v := 3) (by decide) dX8_needed_231 ?_
            refine V_icmp_ne X (tgt := 250) (by decide) dX8_needed_232 (fun q232 => ?_) (fun q232 => ?_)
            · have hf7 := ife hf6 q232
              refine V_aload_n X 2 rfl dX8_needed_250 ?_
              refine G_X8_0_7 hE X dX8_needed_251 ?_
              refine V_iconst X (v := 0) (by decide) dX8_needed_254 ?_
              refine V_iald X (AR_13 hE) (by decide) dX8_needed_255 ?_
              refine V_iload_n X 5 rfl dX8_needed_256 ?_
              refine V_isub X dX8_needed_257 ?_
              exact V_iret X rfl hf7 dX8_needed_258
            · have hf7 := ift hf6 q232
              refine V_aload_n X 2 rfl dX8_needed_235 ?_
              refine V_iload X 0 rfl dX8_needed_236 ?_
              refine V_iload X 1 rfl dX8_needed_238 ?_
              refine V_iload_n X 4 rfl dX8_needed_240 ?_
              refine V_bipush X (v := 8) (by decide) dX8_needed_241 ?_
              refine V_irem X (by decide) dX8_needed_243 ?_
              obtain ⟨c7, e_c7, hf9⟩ := obd hf7
              refine V_callVi X (OB_12 hE) rfl rfl (f8_wanted_ok hE e_c7) ys_X8_wanted yw_X8_wanted ml_X8_65 rfl rfl ⟨Nat.le_of_ble_eq_true rfl, Nat.le_of_ble_eq_true rfl⟩ ⟨Nat.zero_le _, Nat.zero_le _⟩ (Nat.le_of_ble_eq_true rfl) dX8_needed_244 ?_
              refine V_goto X (tgt := 258) (by decide) dX8_needed_247 ?_
              exact V_iret X rfl hf9 dX8_needed_258
          · have hf6 := ift hf5 q220
            refine V_iload_n X 4 rfl dX8_needed_223 ?_
            refine V_bipush X (v := 8) (by decide) dX8_needed_224 ?_
            refine V_irem X (by decide) dX8_needed_226 ?_
            refine V_goto X (tgt := 258) (by decide) dX8_needed_227 ?_
            exact V_iret X rfl hf6 dX8_needed_258
        · have hf5 := ift hf4 q210
          refine V_iload X 1 rfl dX8_needed_213 ?_
          refine V_goto X (tgt := 258) (by decide) dX8_needed_215 ?_
          exact V_iret X rfl hf5 dX8_needed_258
      · have hf4 := ift hf3 q200
        refine V_iload X 0 rfl dX8_needed_203 ?_
        refine V_goto X (tgt := 258) (by decide) dX8_needed_205 ?_
        exact V_iret X rfl hf4 dX8_needed_258
    · have hf3 := ift hf2 q178
      refine V_bipush X (v := -6) (by decide) dX8_needed_181 ?_
      exact V_iret X rfl hf3 dX8_needed_183
  · have hf2 := ife hf1 q38
    refine V_iload X 4 rfl dX8_needed_41 ?_
    refine V_bipush X (v := 32) (by decide) dX8_needed_43 ?_
    refine V_idiv X (by decide) dX8_needed_45 ?_
    refine V_istore X (by decide) rfl dX8_needed_46 ?_
    refine V_iload X 5 rfl dX8_needed_48 ?_
    refine V_bipush X (v := 32) (by decide) dX8_needed_50 ?_
    refine V_irem X (by decide) dX8_needed_52 ?_
    refine V_bipush X (v := 8) (by decide) dX8_needed_53 ?_
    refine V_idiv X (by decide) dX8_needed_55 ?_
    refine V_istore X (by decide) rfl dX8_needed_56 ?_
    refine V_iload X 0 rfl dX8_needed_58 ?_
    refine V_iload X 1 rfl dX8_needed_60 ?_
    refine V_iload X 6 rfl dX8_needed_62 ?_
    refine V_bipush X (v := 8) (by decide) dX8_needed_64 ?_
    refine V_irem X (by decide) dX8_needed_66 ?_
    obtain ⟨c9, e_c9, hf11⟩ := obd hf2
    refine V_callSi X (f8_p_ok e_c9) ys_X8_p yw_X8_p ml_X8_61 rfl rfl ⟨Nat.le_of_ble_eq_true rfl, Nat.le_of_ble_eq_true rfl⟩ ⟨Nat.zero_le _, Nat.zero_le _⟩ (Nat.le_of_ble_eq_true rfl) dX8_needed_67 ?_
    refine V_istore X (by decide) rfl dX8_needed_70 ?_
    refine V_aload_n X 3 rfl dX8_needed_72 ?_
    refine V_iload X 1 rfl dX8_needed_73 ?_
    refine V_iload X 2 rfl dX8_needed_75 ?_
    refine V_iload X 7 rfl dX8_needed_77 ?_
    refine V_bipush X (v := 8) (by decide) dX8_needed_79 ?_
    refine V_irem X (by decide) dX8_needed_81 ?_
    obtain ⟨c11, e_c11, hf13⟩ := obd hf11
    refine V_callVi X (OB_12 hE) rfl rfl (f8_wanted_ok hE e_c11) ys_X8_wanted yw_X8_wanted ml_X8_65 rfl rfl ⟨Nat.le_of_ble_eq_true rfl, Nat.le_of_ble_eq_true rfl⟩ ⟨Nat.zero_le _, Nat.zero_le _⟩ (Nat.le_of_ble_eq_true rfl) dX8_needed_82 ?_
    refine V_istore X (by decide) rfl dX8_needed_85 ?_
    refine V_iload X 0 rfl dX8_needed_87 ?_
    refine V_if_le X (tgt := 135) (by decide) dX8_needed_89 (fun q89 => ?_) (fun q89 => ?_)
    · have hf14 := ift hf13 q89
      exact V_sub [4, 5, 6, 7, 8, 1] rfl (f8_needed_j135_ok hE X hk33 hf14)
    · have hf14 := ife hf13 q89
      refine V_aload_n X 4 rfl dX8_needed_92 ?_
      refine G_X8_0_7 hE X dX8_needed_93 ?_
      refine V_iload X 1 rfl dX8_needed_96 ?_
      refine V_iconst X (v := 1) (by decide) dX8_needed_98 ?_
      refine V_iadd X dX8_needed_99 ?_
      obtain ⟨g114, hf114⟩ := ogd hf14
      refine V_iald X (AR_13 hE) g114 dX8_needed_100 ?_
      refine V_if_eq X (tgt := 118) (by decide) dX8_needed_101 (fun q101 => ?_) (fun q101 => ?_)
      · have hf16 := ift hf114 q101
        exact V_sub [4, 5, 6, 7, 8, 1] rfl (f8_needed_j118_ok hE X hk33 hf16)
      · have hf16 := ife hf114 q101
        refine V_aload_n X 4 rfl dX8_needed_104 ?_
        refine G_X8_0_7 hE X dX8_needed_105 ?_
        refine V_iload X 1 rfl dX8_needed_108 ?_
        refine V_iconst X (v := 0) (by decide) dX8_needed_110 ?_
        refine V_iadd X dX8_needed_111 ?_
        obtain ⟨g116, hf116⟩ := ogd hf16
        refine V_iald X (AR_13 hE) g116 dX8_needed_112 ?_
        refine V_iload X 0 rfl dX8_needed_113 ?_
        refine V_icmp_ne X (tgt := 135) (by decide) dX8_needed_115 (fun q115 => ?_) (fun q115 => ?_)
        · have hf18 := ife hf116 q115
          exact V_sub [4, 5, 6, 7, 8, 1] rfl (f8_needed_j135_ok hE X hk33 hf18)
        · have hf18 := ift hf116 q115
          exact V_sub [4, 5, 6, 7, 8, 1] rfl (f8_needed_j118_ok hE X hk33 hf18)
def f8_needed_L33 : Nat → Int32 → Int32 → Int32 → Int32 → Hp → Re
  | 0 => fun _ _ _ _ _ => none
  | n + 1 => f8_needed_B33 (f8_needed_L33 n)
theorem f8_needed_L33_s (n : Nat) (x1 : Int32) (x2 : Int32) (x3 : Int32) (x4 : Int32) (h : Hp) : f8_needed_L33 (n + 1) x1 x2 x3 x4 h = f8_needed_B33 (f8_needed_L33 n) x1 x2 x3 x4 h := rfl
theorem f8_needed_L33_ok (hE : IW E) (X : XC E RX8 cX8_needed 10 (some .int) A p s m args meth c) : ∀ (n : Nat) (x1 : Int32) (x2 : Int32) (x3 : Int32) (x4 : Int32) (h : Hp), f8_needed_L33 n x1 x2 x3 x4 h = some (r, h') → VM E 10 A p l e 3 s m args below meth c (Qi E A r h') 33 [(0, .ref (eA E 12)), (1, .int x1), (2, .int x2), (3, .int x3), (4, .int x4)] [] h := by
  intro n
  induction n with
  | zero =>
    intro x1 x2 x3 x4 h q
    have q : (none : Re) = some (r, h') := q
    cases q
  | succ n ih =>
    intro x1 x2 x3 x4 h q
    exact f8_needed_B33_ok hE X ih q
def f8_needed_e (x1 : Int32) (h : Hp) : Re :=
  (f8_in x1 0 4 h).bind fun c1 => if c1.1 = 0 then (some ((-2), c1.2)) else ((some (c1.2 13 (Int32.toNatClampNeg 0) : Int32)).bind fun z4 => (some (32 * (c1.2 13 (Int32.toNatClampNeg 3)) : Int32)).bind fun z6 => f8_needed_L33 FU x1 (-6) z4 z6 c1.2)
set_option maxRecDepth 20000 in
set_option maxHeartbeats 4000000 in
theorem f8_needed_e_ok (hE : IW E) (X : XC E RX8 cX8_needed 10 (some .int) A p s m args meth c) {x1 : Int32} {h : Hp} (hf0 : f8_needed_e x1 h = some (r, h')) : VM E 10 A p l e 3 s m args below meth c (Qi E A r h') 0 [(0, .ref (eA E 12)), (1, .int x1)] [] h := by
  unfold f8_needed_e at hf0
  have hf1 := hf0
  refine V_iload_n X 1 rfl dX8_needed_0 ?_
  refine V_iconst X (v := 0) (by decide) dX8_needed_1 ?_
  refine V_iconst X (v := 4) (by decide) dX8_needed_2 ?_
  obtain ⟨c1, e_c1, hf3⟩ := obd hf1
  refine V_callSi X (f8_in_ok e_c1) ys_X8_in yw_X8_in ml_X8_39 rfl rfl ⟨Nat.le_of_ble_eq_true rfl, Nat.le_of_ble_eq_true rfl⟩ ⟨Nat.zero_le _, Nat.zero_le _⟩ (Nat.le_of_ble_eq_true rfl) dX8_needed_3 ?_
  refine V_if_ne X (tgt := 12) (by decide) dX8_needed_6 (fun q6 => ?_) (fun q6 => ?_)
  · have hf4 := ife hf3 q6
    refine V_bipush X (v := -6) (by decide) dX8_needed_12 ?_
    refine V_istore_n X (by decide) rfl dX8_needed_14 ?_
    refine V_aload_n X 1 rfl dX8_needed_15 ?_
    refine G_X8_0_7 hE X dX8_needed_16 ?_
    refine V_iconst X (v := 0) (by decide) dX8_needed_19 ?_
    refine V_iald X (AR_13 hE) (by decide) dX8_needed_20 ?_
    refine V_istore_n X (by decide) rfl dX8_needed_21 ?_
    have hf6 := obs hf4
    refine V_bipush X (v := 32) (by decide) dX8_needed_22 ?_
    refine V_aload_n X 2 rfl dX8_needed_24 ?_
    refine G_X8_0_7 hE X dX8_needed_25 ?_
    refine V_iconst X (v := 3) (by decide) dX8_needed_28 ?_
    refine V_iald X (AR_13 hE) (by decide) dX8_needed_29 ?_
    refine V_imul X dX8_needed_30 ?_
    refine V_istore X (by decide) rfl dX8_needed_31 ?_
    have hf8 := obs hf6
    exact V_sub [3, 4, 2, 1, 0] rfl (f8_needed_L33_ok hE X FU _ _ _ _ _ hf8)
  · have hf4 := ift hf3 q6
    refine V_bipush X (v := -2) (by decide) dX8_needed_9 ?_
    exact V_iret X rfl hf4 dX8_needed_11
def f8_needed (x1 : Int32) (h : Hp) : Re := f8_needed_e x1 h
theorem f8_needed_ok (hE : IW E) {x1 : Int32} {h : Hp} {q : Int32 × Hp} (hf0 : f8_needed x1 h = some q) : SMi l E 3 yX8_needed cX8_needed 10 (some .int) [.ref (eA E 12), .int x1] h q.1 q.2 :=
  SMi.of (by decide +kernel) (Nat.le_of_ble_eq_true rfl) (fun p e s m args below meth c A X => f8_needed_e_ok hE X (r := q.1) (h' := q.2) hf0)
def f8_lacking_B4 (k4 : Int32 → Int32 → Hp → Re) (x1 : Int32) (x2 : Int32) (h : Hp) : Re :=
  if 6 < x2 then (some (x1, h)) else (if inB (11 + x2) 383 = true then (f8_ofAll x2 4 h).bind fun c3 => if c3.1 ≤ (h 13 (Int32.toNatClampNeg (11 + x2))) then (k4 (x1 ||| 0) (x2 + 1) c3.2) else ((some (x1 ||| ((1 : Int32) <<< (x2 &&& 31)) : Int32)).bind fun z6 => k4 z6 (x2 + 1) c3.2) else none)
set_option maxRecDepth 20000 in
set_option maxHeartbeats 4000000 in
theorem f8_lacking_B4_ok (hE : IW E) (X : XC E RX8 cX8_lacking 3 (some .int) A p s m args meth c) {k4 : Int32 → Int32 → Hp → Re} (hk4 : ∀ (x1 : Int32) (x2 : Int32) (h : Hp), k4 x1 x2 h = some (r, h') → VM E 3 A p l e 5 s m args below meth c (Qi E A r h') 4 [(0, .ref (eA E 12)), (1, .int x1), (2, .int x2)] [] h) {x1 : Int32} {x2 : Int32} {h : Hp} (hf0 : f8_lacking_B4 k4 x1 x2 h = some (r, h')) : VM E 3 A p l e 5 s m args below meth c (Qi E A r h') 4 [(0, .ref (eA E 12)), (1, .int x1), (2, .int x2)] [] h := by
  unfold f8_lacking_B4 at hf0
  have hf1 := hf0
  refine V_iload_n X 2 rfl dX8_lacking_4 ?_
  refine V_bipush X (v := 6) (by decide) dX8_lacking_5 ?_
  refine V_icmp_gt X (tgt := 44) (by decide) dX8_lacking_7 (fun q7 => ?_) (fun q7 => ?_)
  · have hf2 := ift hf1 q7
    refine V_iload_n X 1 rfl dX8_lacking_44 ?_
    exact V_iret X rfl hf2 dX8_lacking_45
  · have hf2 := ife hf1 q7
    refine V_iload_n X 1 rfl dX8_lacking_10 ?_
    refine V_aload_n X 0 rfl dX8_lacking_11 ?_
    refine G_X8_0_7 hE X dX8_lacking_12 ?_
    refine V_bipush X (v := 11) (by decide) dX8_lacking_15 ?_
    refine V_iload_n X 2 rfl dX8_lacking_17 ?_
    refine V_iadd X dX8_lacking_18 ?_
    obtain ⟨g102, hf102⟩ := ogd hf2
    refine V_iald X (AR_13 hE) g102 dX8_lacking_19 ?_
    refine V_aload_n X 0 rfl dX8_lacking_20 ?_
    refine V_iload_n X 2 rfl dX8_lacking_21 ?_
    refine V_iconst X (v := 4) (by decide) dX8_lacking_22 ?_
    obtain ⟨c3, e_c3, hf5⟩ := obd hf102
    refine V_callVi X (OB_12 hE) rfl rfl (f8_ofAll_ok hE e_c3) ys_X8_ofAll yw_X8_ofAll ml_X8_145 rfl rfl ⟨Nat.le_of_ble_eq_true rfl, Nat.le_of_ble_eq_true rfl⟩ ⟨Nat.zero_le _, Nat.zero_le _⟩ (Nat.le_of_ble_eq_true rfl) dX8_lacking_23 ?_
    refine V_icmp_ge X (tgt := 35) (by decide) dX8_lacking_26 (fun q26 => ?_) (fun q26 => ?_)
    · have hf6 := ift hf5 q26
      refine V_iconst X (v := 0) (by decide) dX8_lacking_35 ?_
      refine V_ior X dX8_lacking_36 ?_
      refine V_istore_n X (by decide) rfl dX8_lacking_37 ?_
      refine V_iinc X (v := _ + 1) 2 rfl (by rfl) (by decide) rfl dX8_lacking_38 ?_
      refine V_goto X (tgt := 4) (by decide) dX8_lacking_41 ?_
      exact V_sub [2, 1, 0] rfl (hk4 _ _ _ hf6)
    · have hf6 := ife hf5 q26
      refine V_iconst X (v := 1) (by decide) dX8_lacking_29 ?_
      refine V_iload_n X 2 rfl dX8_lacking_30 ?_
      refine V_ishl X dX8_lacking_31 ?_
      refine V_goto X (tgt := 36) (by decide) dX8_lacking_32 ?_
      refine V_ior X dX8_lacking_36 ?_
      refine V_istore_n X (by decide) rfl dX8_lacking_37 ?_
      have hf8 := obs hf6
      refine V_iinc X (v := _ + 1) 2 rfl (by rfl) (by decide) rfl dX8_lacking_38 ?_
      refine V_goto X (tgt := 4) (by decide) dX8_lacking_41 ?_
      exact V_sub [2, 1, 0] rfl (hk4 _ _ _ hf8)
def f8_lacking_L4 : Nat → Int32 → Int32 → Hp → Re
  | 0 => fun _ _ _ => none
  | n + 1 => f8_lacking_B4 (f8_lacking_L4 n)
theorem f8_lacking_L4_s (n : Nat) (x1 : Int32) (x2 : Int32) (h : Hp) : f8_lacking_L4 (n + 1) x1 x2 h = f8_lacking_B4 (f8_lacking_L4 n) x1 x2 h := rfl
theorem f8_lacking_L4_ok (hE : IW E) (X : XC E RX8 cX8_lacking 3 (some .int) A p s m args meth c) : ∀ (n : Nat) (x1 : Int32) (x2 : Int32) (h : Hp), f8_lacking_L4 n x1 x2 h = some (r, h') → VM E 3 A p l e 5 s m args below meth c (Qi E A r h') 4 [(0, .ref (eA E 12)), (1, .int x1), (2, .int x2)] [] h := by
  intro n
  induction n with
  | zero =>
    intro x1 x2 h q
    have q : (none : Re) = some (r, h') := q
    cases q
  | succ n ih =>
    intro x1 x2 h q
    exact f8_lacking_B4_ok hE X ih q
def f8_lacking_e (h : Hp) : Re :=
  f8_lacking_L4 FU 0 1 h
set_option maxRecDepth 20000 in
set_option maxHeartbeats 4000000 in
theorem f8_lacking_e_ok (hE : IW E) (X : XC E RX8 cX8_lacking 3 (some .int) A p s m args meth c) {h : Hp} (hf0 : f8_lacking_e  h = some (r, h')) : VM E 3 A p l e 5 s m args below meth c (Qi E A r h') 0 [(0, .ref (eA E 12))] [] h := by
  unfold f8_lacking_e at hf0
  have hf1 := hf0
  refine V_iconst X (v := 0) (by decide) dX8_lacking_0 ?_
  refine V_istore_n X (by decide) rfl dX8_lacking_1 ?_
  refine V_iconst X (v := 1) (by decide) dX8_lacking_2 ?_
  refine V_istore_n X (by decide) rfl dX8_lacking_3 ?_
  exact V_sub [2, 1, 0] rfl (f8_lacking_L4_ok hE X FU _ _ _ hf1)
def f8_lacking (h : Hp) : Re := f8_lacking_e  h
theorem f8_lacking_ok (hE : IW E) {h : Hp} {q : Int32 × Hp} (hf0 : f8_lacking  h = some q) : SMi l E 5 yX8_lacking cX8_lacking 3 (some .int) [.ref (eA E 12)] h q.1 q.2 :=
  SMi.of (by decide +kernel) (Nat.le_of_ble_eq_true rfl) (fun p e s m args below meth c A X => f8_lacking_e_ok hE X (r := q.1) (h' := q.2) hf0)
def f8_turned_e (x1 : Int32) (x2 : Int32) (x3 : Int32) (x4 : Int32) (x5 : Int32) (h : Hp) : Re :=
  (f8_isRight x1 x2 x3 h).bind fun c1 => if x4 = x5 then (if c1.1 = x5 then (some (0, c1.2)) else (some (1, c1.2))) else (some (0, c1.2))
set_option maxRecDepth 20000 in
set_option maxHeartbeats 4000000 in
theorem f8_turned_e_ok (hE : IW E) (X : XC E RX8 cX8_turned 7 (some .int) A p s m args meth c) {x1 : Int32} {x2 : Int32} {x3 : Int32} {x4 : Int32} {x5 : Int32} {h : Hp} (hf0 : f8_turned_e x1 x2 x3 x4 x5 h = some (r, h')) : VM E 7 A p l e 4 s m args below meth c (Qi E A r h') 0 [(0, .ref (eA E 12)), (1, .int x1), (2, .int x2), (3, .int x3), (4, .int x4), (5, .int x5)] [] h := by
  unfold f8_turned_e at hf0
  have hf1 := hf0
  refine V_aload_n X 0 rfl dX8_turned_0 ?_
  refine V_iload_n X 1 rfl dX8_turned_1 ?_
  refine V_iload_n X 2 rfl dX8_turned_2 ?_
  refine V_iload_n X 3 rfl dX8_turned_3 ?_
  obtain ⟨c1, e_c1, hf3⟩ := obd hf1
  refine V_callVi X (OB_12 hE) rfl rfl (f8_isRight_ok hE e_c1) ys_X8_isRight yw_X8_isRight ml_X8_68 rfl rfl ⟨Nat.le_of_ble_eq_true rfl, Nat.le_of_ble_eq_true rfl⟩ ⟨Nat.zero_le _, Nat.zero_le _⟩ (Nat.le_of_ble_eq_true rfl) dX8_turned_4 ?_
  refine V_istore X (by decide) rfl dX8_turned_7 ?_
  refine V_iload X 5 rfl dX8_turned_9 ?_
  refine V_iload X 6 rfl dX8_turned_11 ?_
  refine V_icmp_ne X (tgt := 27) (by decide) dX8_turned_13 (fun q13 => ?_) (fun q13 => ?_)
  · have hf4 := ife hf3 q13
    refine V_iconst X (v := 0) (by decide) dX8_turned_27 ?_
    exact V_iret X rfl hf4 dX8_turned_28
  · have hf4 := ift hf3 q13
    refine V_iload X 0 rfl dX8_turned_16 ?_
    refine V_iload X 6 rfl dX8_turned_18 ?_
    refine V_icmp_eq X (tgt := 27) (by decide) dX8_turned_20 (fun q20 => ?_) (fun q20 => ?_)
    · have hf5 := ift hf4 q20
      refine V_iconst X (v := 0) (by decide) dX8_turned_27 ?_
      exact V_iret X rfl hf5 dX8_turned_28
    · have hf5 := ife hf4 q20
      refine V_iconst X (v := 1) (by decide) dX8_turned_23 ?_
      refine V_goto X (tgt := 28) (by decide) dX8_turned_24 ?_
      exact V_iret X rfl hf5 dX8_turned_28
def f8_turned (x1 : Int32) (x2 : Int32) (x3 : Int32) (x4 : Int32) (x5 : Int32) (h : Hp) : Re := f8_turned_e x1 x2 x3 x4 x5 h
theorem f8_turned_ok (hE : IW E) {x1 : Int32} {x2 : Int32} {x3 : Int32} {x4 : Int32} {x5 : Int32} {h : Hp} {q : Int32 × Hp} (hf0 : f8_turned x1 x2 x3 x4 x5 h = some q) : SMi l E 4 yX8_turned cX8_turned 7 (some .int) [.ref (eA E 12), .int x1, .int x2, .int x3, .int x4, .int x5] h q.1 q.2 :=
  SMi.of (by decide +kernel) (Nat.le_of_ble_eq_true rfl) (fun p e s m args below meth c A X => f8_turned_e_ok hE X (r := q.1) (h' := q.2) hf0)
def f8_ifBreathed_j179 (k51 : Int32 → Int32 → Int32 → Int32 → Int32 → Int32 → Int32 → Hp → Re) (k117 : Int32 → Int32 → Int32 → Int32 → Int32 → Int32 → Int32 → Int32 → Int32 → Hp → Re) (x1 : Int32) (x2 : Int32) (x3 : Int32) (x4 : Int32) (x5 : Int32) (x7 : Int32) (x8 : Int32) (x9 : Int32) (y0 : Int32) (y1 : Int32) (y2 : Int32) (y3 : Int32) (y5 : Int32) (h : Hp) : Re :=
  (f8_turned y3 y2 y1 y0 0 h).bind fun c1 => k117 x1 x2 x3 x4 x5 (y5 + c1.1) x7 x8 (x9 + 1) c1.2
set_option maxRecDepth 20000 in
set_option maxHeartbeats 4000000 in
theorem f8_ifBreathed_j179_ok (hE : IW E) (X : XC E RX8 cX8_ifBreathed 10 (some .int) A p s m args meth c) {k51 : Int32 → Int32 → Int32 → Int32 → Int32 → Int32 → Int32 → Hp → Re} {k117 : Int32 → Int32 → Int32 → Int32 → Int32 → Int32 → Int32 → Int32 → Int32 → Hp → Re} (hk51 : ∀ (x1 : Int32) (x2 : Int32) (x3 : Int32) (x4 : Int32) (x5 : Int32) (x6 : Int32) (x7 : Int32) (h : Hp), k51 x1 x2 x3 x4 x5 x6 x7 h = some (r, h') → VM E 10 A p l e 5 s m args below meth c (Qi E A r h') 51 [(0, .ref (eA E 12)), (1, .int x1), (2, .int x2), (3, .int x3), (4, .int x4), (5, .int x5), (6, .int x6), (7, .int x7)] [] h) (hk117 : ∀ (x1 : Int32) (x2 : Int32) (x3 : Int32) (x4 : Int32) (x5 : Int32) (x6 : Int32) (x7 : Int32) (x8 : Int32) (x9 : Int32) (h : Hp), k117 x1 x2 x3 x4 x5 x6 x7 x8 x9 h = some (r, h') → VM E 10 A p l e 5 s m args below meth c (Qi E A r h') 117 [(0, .ref (eA E 12)), (1, .int x1), (2, .int x2), (3, .int x3), (4, .int x4), (5, .int x5), (6, .int x6), (7, .int x7), (8, .int x8), (9, .int x9)] [] h) {x1 : Int32} {x2 : Int32} {x3 : Int32} {x4 : Int32} {x5 : Int32} {x7 : Int32} {x8 : Int32} {x9 : Int32} {y0 : Int32} {y1 : Int32} {y2 : Int32} {y3 : Int32} {y5 : Int32} {h : Hp} (hf0 : f8_ifBreathed_j179 k51 k117 x1 x2 x3 x4 x5 x7 x8 x9 y0 y1 y2 y3 y5 h = some (r, h')) : VM E 10 A p l e 5 s m args below meth c (Qi E A r h') 179 [(0, .ref (eA E 12)), (1, .int x1), (2, .int x2), (3, .int x3), (4, .int x4), (5, .int x5), (7, .int x7), (8, .int x8), (9, .int x9)] [.int y0, .int y1, .int y2, .int y3, .ref (eA E 12), .int y5] h := by
  unfold f8_ifBreathed_j179 at hf0
  have hf1 := hf0
  refine V_iconst X (v := 0) (by decide) dX8_ifBreathed_179 ?_
  obtain ⟨c1, e_c1, hf3⟩ := obd hf1
  refine V_callVi X (OB_12 hE) rfl rfl (f8_turned_ok hE e_c1) ys_X8_turned yw_X8_turned ml_X8_160 rfl rfl ⟨Nat.le_of_ble_eq_true rfl, Nat.le_of_ble_eq_true rfl⟩ ⟨Nat.zero_le _, Nat.zero_le _⟩ (Nat.le_of_ble_eq_true rfl) dX8_ifBreathed_180 ?_
  refine V_iadd X dX8_ifBreathed_183 ?_
  refine V_istore X (by decide) rfl dX8_ifBreathed_184 ?_
  refine V_iinc X (v := _ + 1) 9 rfl (by rfl) (by decide) rfl dX8_ifBreathed_186 ?_
  refine V_goto X (tgt := 117) (by decide) dX8_ifBreathed_189 ?_
  exact V_sub [2, 3, 4, 5, 6, 7, 1, 8, 9, 0] rfl (hk117 _ _ _ _ _ _ _ _ _ _ hf3)
def f8_ifBreathed_j148 (k51 : Int32 → Int32 → Int32 → Int32 → Int32 → Int32 → Int32 → Hp → Re) (k117 : Int32 → Int32 → Int32 → Int32 → Int32 → Int32 → Int32 → Int32 → Int32 → Hp → Re) (x1 : Int32) (x2 : Int32) (x3 : Int32) (x4 : Int32) (x6 : Int32) (x7 : Int32) (x8 : Int32) (x9 : Int32) (y0 : Int32) (y1 : Int32) (y2 : Int32) (y3 : Int32) (y5 : Int32) (h : Hp) : Re :=
  (f8_turned y3 y2 y1 y0 1 h).bind fun c1 => if ((x8 >>> (x9 &&& 31)) &&& 1) = 1 then (f8_ifBreathed_j179 k51 k117 x1 x2 x3 x4 (y5 + c1.1) x7 x8 x9 1 x9 x7 x1 x6 c1.2) else (f8_ifBreathed_j179 k51 k117 x1 x2 x3 x4 (y5 + c1.1) x7 x8 x9 0 x9 x7 x1 x6 c1.2)
set_option maxRecDepth 20000 in
set_option maxHeartbeats 4000000 in
theorem f8_ifBreathed_j148_ok (hE : IW E) (X : XC E RX8 cX8_ifBreathed 10 (some .int) A p s m args meth c) {k51 : Int32 → Int32 → Int32 → Int32 → Int32 → Int32 → Int32 → Hp → Re} {k117 : Int32 → Int32 → Int32 → Int32 → Int32 → Int32 → Int32 → Int32 → Int32 → Hp → Re} (hk51 : ∀ (x1 : Int32) (x2 : Int32) (x3 : Int32) (x4 : Int32) (x5 : Int32) (x6 : Int32) (x7 : Int32) (h : Hp), k51 x1 x2 x3 x4 x5 x6 x7 h = some (r, h') → VM E 10 A p l e 5 s m args below meth c (Qi E A r h') 51 [(0, .ref (eA E 12)), (1, .int x1), (2, .int x2), (3, .int x3), (4, .int x4), (5, .int x5), (6, .int x6), (7, .int x7)] [] h) (hk117 : ∀ (x1 : Int32) (x2 : Int32) (x3 : Int32) (x4 : Int32) (x5 : Int32) (x6 : Int32) (x7 : Int32) (x8 : Int32) (x9 : Int32) (h : Hp), k117 x1 x2 x3 x4 x5 x6 x7 x8 x9 h = some (r, h') → VM E 10 A p l e 5 s m args below meth c (Qi E A r h') 117 [(0, .ref (eA E 12)), (1, .int x1), (2, .int x2), (3, .int x3), (4, .int x4), (5, .int x5), (6, .int x6), (7, .int x7), (8, .int x8), (9, .int x9)] [] h) {x1 : Int32} {x2 : Int32} {x3 : Int32} {x4 : Int32} {x6 : Int32} {x7 : Int32} {x8 : Int32} {x9 : Int32} {y0 : Int32} {y1 : Int32} {y2 : Int32} {y3 : Int32} {y5 : Int32} {h : Hp} (hf0 : f8_ifBreathed_j148 k51 k117 x1 x2 x3 x4 x6 x7 x8 x9 y0 y1 y2 y3 y5 h = some (r, h')) : VM E 10 A p l e 5 s m args below meth c (Qi E A r h') 148 [(0, .ref (eA E 12)), (1, .int x1), (2, .int x2), (3, .int x3), (4, .int x4), (6, .int x6), (7, .int x7), (8, .int x8), (9, .int x9)] [.int y0, .int y1, .int y2, .int y3, .ref (eA E 12), .int y5] h := by
  unfold f8_ifBreathed_j148 at hf0
  have hf1 := hf0
  refine V_iconst X (v := 1) (by decide) dX8_ifBreathed_148 ?_
  obtain ⟨c1, e_c1, hf3⟩ := obd hf1
  refine V_callVi X (OB_12 hE) rfl rfl (f8_turned_ok hE e_c1) ys_X8_turned yw_X8_turned ml_X8_160 rfl rfl ⟨Nat.le_of_ble_eq_true rfl, Nat.le_of_ble_eq_true rfl⟩ ⟨Nat.zero_le _, Nat.zero_le _⟩ (Nat.le_of_ble_eq_true rfl) dX8_ifBreathed_149 ?_
  refine V_iadd X dX8_ifBreathed_152 ?_
  refine V_istore X (by decide) rfl dX8_ifBreathed_153 ?_
  refine V_iload X 6 rfl dX8_ifBreathed_155 ?_
  refine V_aload_n X 1 rfl dX8_ifBreathed_157 ?_
  refine V_iload_n X 2 rfl dX8_ifBreathed_158 ?_
  refine V_iload X 7 rfl dX8_ifBreathed_159 ?_
  refine V_iload X 9 rfl dX8_ifBreathed_161 ?_
  refine V_iload X 8 rfl dX8_ifBreathed_163 ?_
  refine V_iload X 9 rfl dX8_ifBreathed_165 ?_
  refine V_ishr X dX8_ifBreathed_167 ?_
  refine V_iconst X (v := 1) (by decide) dX8_ifBreathed_168 ?_
  refine V_iand X dX8_ifBreathed_169 ?_
  refine V_iconst X (v := 1) (by decide) dX8_ifBreathed_170 ?_
  refine V_icmp_ne X (tgt := 178) (by decide) dX8_ifBreathed_171 (fun q171 => ?_) (fun q171 => ?_)
  · have hf4 := ife hf3 q171
    refine V_iconst X (v := 0) (by decide) dX8_ifBreathed_178 ?_
    exact V_sub [1, 2, 3, 4, 5, 0, 7, 8, 9] rfl (f8_ifBreathed_j179_ok hE X hk51 hk117 hf4)
  · have hf4 := ift hf3 q171
    refine V_iconst X (v := 1) (by decide) dX8_ifBreathed_174 ?_
    refine V_goto X (tgt := 179) (by decide) dX8_ifBreathed_175 ?_
    exact V_sub [1, 2, 3, 4, 5, 0, 7, 8, 9] rfl (f8_ifBreathed_j179_ok hE X hk51 hk117 hf4)
def f8_ifBreathed_B117 (k51 : Int32 → Int32 → Int32 → Int32 → Int32 → Int32 → Int32 → Hp → Re) (k117 : Int32 → Int32 → Int32 → Int32 → Int32 → Int32 → Int32 → Int32 → Int32 → Hp → Re) (x1 : Int32) (x2 : Int32) (x3 : Int32) (x4 : Int32) (x5 : Int32) (x6 : Int32) (x7 : Int32) (x8 : Int32) (x9 : Int32) (h : Hp) : Re :=
  if 8 ≤ x9 then (k51 x1 x2 x3 x4 x5 x6 (x7 + 1) h) else (if ((x8 >>> (x9 &&& 31)) &&& 1) = 1 then (f8_ifBreathed_j148 k51 k117 x1 x2 x3 x4 x6 x7 x8 x9 1 x9 x7 x1 x5 h) else (f8_ifBreathed_j148 k51 k117 x1 x2 x3 x4 x6 x7 x8 x9 0 x9 x7 x1 x5 h))
set_option maxRecDepth 20000 in
set_option maxHeartbeats 4000000 in
theorem f8_ifBreathed_B117_ok (hE : IW E) (X : XC E RX8 cX8_ifBreathed 10 (some .int) A p s m args meth c) {k51 : Int32 → Int32 → Int32 → Int32 → Int32 → Int32 → Int32 → Hp → Re} {k117 : Int32 → Int32 → Int32 → Int32 → Int32 → Int32 → Int32 → Int32 → Int32 → Hp → Re} (hk51 : ∀ (x1 : Int32) (x2 : Int32) (x3 : Int32) (x4 : Int32) (x5 : Int32) (x6 : Int32) (x7 : Int32) (h : Hp), k51 x1 x2 x3 x4 x5 x6 x7 h = some (r, h') → VM E 10 A p l e 5 s m args below meth c (Qi E A r h') 51 [(0, .ref (eA E 12)), (1, .int x1), (2, .int x2), (3, .int x3), (4, .int x4), (5, .int x5), (6, .int x6), (7, .int x7)] [] h) (hk117 : ∀ (x1 : Int32) (x2 : Int32) (x3 : Int32) (x4 : Int32) (x5 : Int32) (x6 : Int32) (x7 : Int32) (x8 : Int32) (x9 : Int32) (h : Hp), k117 x1 x2 x3 x4 x5 x6 x7 x8 x9 h = some (r, h') → VM E 10 A p l e 5 s m args below meth c (Qi E A r h') 117 [(0, .ref (eA E 12)), (1, .int x1), (2, .int x2), (3, .int x3), (4, .int x4), (5, .int x5), (6, .int x6), (7, .int x7), (8, .int x8), (9, .int x9)] [] h) {x1 : Int32} {x2 : Int32} {x3 : Int32} {x4 : Int32} {x5 : Int32} {x6 : Int32} {x7 : Int32} {x8 : Int32} {x9 : Int32} {h : Hp} (hf0 : f8_ifBreathed_B117 k51 k117 x1 x2 x3 x4 x5 x6 x7 x8 x9 h = some (r, h')) : VM E 10 A p l e 5 s m args below meth c (Qi E A r h') 117 [(0, .ref (eA E 12)), (1, .int x1), (2, .int x2), (3, .int x3), (4, .int x4), (5, .int x5), (6, .int x6), (7, .int x7), (8, .int x8), (9, .int x9)] [] h := by
  unfold f8_ifBreathed_B117 at hf0
  have hf1 := hf0
  refine V_iload X 9 rfl dX8_ifBreathed_117 ?_
  refine V_bipush X (v := 8) (by decide) dX8_ifBreathed_119 ?_
  refine V_icmp_ge X (tgt := 192) (by decide) dX8_ifBreathed_121 (fun q121 => ?_) (fun q121 => ?_)
  · have hf2 := ift hf1 q121
    refine V_iinc X (v := _ + 1) 7 rfl (by rfl) (by decide) rfl dX8_ifBreathed_192 ?_
    refine V_goto X (tgt := 51) (by decide) dX8_ifBreathed_195 ?_
    exact V_sub [1, 2, 3, 4, 5, 6, 7, 0] rfl (hk51 _ _ _ _ _ _ _ _ hf2)
  · have hf2 := ife hf1 q121
    refine V_iload X 5 rfl dX8_ifBreathed_124 ?_
    refine V_aload_n X 0 rfl dX8_ifBreathed_126 ?_
    refine V_iload_n X 1 rfl dX8_ifBreathed_127 ?_
    refine V_iload X 7 rfl dX8_ifBreathed_128 ?_
    refine V_iload X 9 rfl dX8_ifBreathed_130 ?_
    refine V_iload X 8 rfl dX8_ifBreathed_132 ?_
    refine V_iload X 9 rfl dX8_ifBreathed_134 ?_
    refine V_ishr X dX8_ifBreathed_136 ?_
    refine V_iconst X (v := 1) (by decide) dX8_ifBreathed_137 ?_
    refine V_iand X dX8_ifBreathed_138 ?_
    refine V_iconst X (v := 1) (by decide) dX8_ifBreathed_139 ?_
    refine V_icmp_ne X (tgt := 147) (by decide) dX8_ifBreathed_140 (fun q140 => ?_) (fun q140 => ?_)
    · have hf3 := ife hf2 q140
      refine V_iconst X (v := 0) (by decide) dX8_ifBreathed_147 ?_
      exact V_sub [0, 1, 2, 3, 4, 6, 7, 8, 9] rfl (f8_ifBreathed_j148_ok hE X hk51 hk117 hf3)
    · have hf3 := ift hf2 q140
      refine V_iconst X (v := 1) (by decide) dX8_ifBreathed_143 ?_
      refine V_goto X (tgt := 148) (by decide) dX8_ifBreathed_144 ?_
      exact V_sub [0, 1, 2, 3, 4, 6, 7, 8, 9] rfl (f8_ifBreathed_j148_ok hE X hk51 hk117 hf3)
def f8_ifBreathed_L117 (k51 : Int32 → Int32 → Int32 → Int32 → Int32 → Int32 → Int32 → Hp → Re) : Nat → Int32 → Int32 → Int32 → Int32 → Int32 → Int32 → Int32 → Int32 → Int32 → Hp → Re
  | 0 => fun _ _ _ _ _ _ _ _ _ _ => none
  | n + 1 => f8_ifBreathed_B117 k51 (f8_ifBreathed_L117 k51 n)
theorem f8_ifBreathed_L117_s (k51 : Int32 → Int32 → Int32 → Int32 → Int32 → Int32 → Int32 → Hp → Re) (n : Nat) (x1 : Int32) (x2 : Int32) (x3 : Int32) (x4 : Int32) (x5 : Int32) (x6 : Int32) (x7 : Int32) (x8 : Int32) (x9 : Int32) (h : Hp) : f8_ifBreathed_L117 k51 (n + 1) x1 x2 x3 x4 x5 x6 x7 x8 x9 h = f8_ifBreathed_B117 k51 (f8_ifBreathed_L117 k51 n) x1 x2 x3 x4 x5 x6 x7 x8 x9 h := rfl
theorem f8_ifBreathed_L117_ok (hE : IW E) (X : XC E RX8 cX8_ifBreathed 10 (some .int) A p s m args meth c) {k51 : Int32 → Int32 → Int32 → Int32 → Int32 → Int32 → Int32 → Hp → Re} (hk51 : ∀ (x1 : Int32) (x2 : Int32) (x3 : Int32) (x4 : Int32) (x5 : Int32) (x6 : Int32) (x7 : Int32) (h : Hp), k51 x1 x2 x3 x4 x5 x6 x7 h = some (r, h') → VM E 10 A p l e 5 s m args below meth c (Qi E A r h') 51 [(0, .ref (eA E 12)), (1, .int x1), (2, .int x2), (3, .int x3), (4, .int x4), (5, .int x5), (6, .int x6), (7, .int x7)] [] h) : ∀ (n : Nat) (x1 : Int32) (x2 : Int32) (x3 : Int32) (x4 : Int32) (x5 : Int32) (x6 : Int32) (x7 : Int32) (x8 : Int32) (x9 : Int32) (h : Hp), f8_ifBreathed_L117 k51 n x1 x2 x3 x4 x5 x6 x7 x8 x9 h = some (r, h') → VM E 10 A p l e 5 s m args below meth c (Qi E A r h') 117 [(0, .ref (eA E 12)), (1, .int x1), (2, .int x2), (3, .int x3), (4, .int x4), (5, .int x5), (6, .int x6), (7, .int x7), (8, .int x8), (9, .int x9)] [] h := by
  intro n
  induction n with
  | zero =>
    intro x1 x2 x3 x4 x5 x6 x7 x8 x9 h q
    have q : (none : Re) = some (r, h') := q
    cases q
  | succ n ih =>
    intro x1 x2 x3 x4 x5 x6 x7 x8 x9 h q
    exact f8_ifBreathed_B117_ok hE X hk51 ih q
def f8_ifBreathed_B63 (k51 : Int32 → Int32 → Int32 → Int32 → Int32 → Int32 → Int32 → Hp → Re) (k63 : Int32 → Int32 → Int32 → Int32 → Int32 → Int32 → Int32 → Int32 → Int32 → Hp → Re) (x1 : Int32) (x2 : Int32) (x3 : Int32) (x4 : Int32) (x5 : Int32) (x6 : Int32) (x7 : Int32) (x8 : Int32) (x9 : Int32) (h : Hp) : Re :=
  if 8 ≤ x9 then ((f8_ringBreath x1 x7 x2 h).bind fun c2 => f8_ifBreathed_L117 k51 FU x1 x2 x3 (x4 + c2.1) x5 x6 x7 x8 0 c2.2) else ((f8_isRight x1 x7 x9 h).bind fun c4 => if c4.1 = 0 then (k63 x1 x2 x3 x4 x5 x6 x7 (x8 ||| 0) (x9 + 1) c4.2) else ((some (x8 ||| ((1 : Int32) <<< (x9 &&& 31)) : Int32)).bind fun z7 => k63 x1 x2 x3 x4 x5 x6 x7 z7 (x9 + 1) c4.2))
set_option maxRecDepth 20000 in
set_option maxHeartbeats 4000000 in
theorem f8_ifBreathed_B63_ok (hE : IW E) (X : XC E RX8 cX8_ifBreathed 10 (some .int) A p s m args meth c) {k51 : Int32 → Int32 → Int32 → Int32 → Int32 → Int32 → Int32 → Hp → Re} {k63 : Int32 → Int32 → Int32 → Int32 → Int32 → Int32 → Int32 → Int32 → Int32 → Hp → Re} (hk51 : ∀ (x1 : Int32) (x2 : Int32) (x3 : Int32) (x4 : Int32) (x5 : Int32) (x6 : Int32) (x7 : Int32) (h : Hp), k51 x1 x2 x3 x4 x5 x6 x7 h = some (r, h') → VM E 10 A p l e 5 s m args below meth c (Qi E A r h') 51 [(0, .ref (eA E 12)), (1, .int x1), (2, .int x2), (3, .int x3), (4, .int x4), (5, .int x5), (6, .int x6), (7, .int x7)] [] h) (hk63 : ∀ (x1 : Int32) (x2 : Int32) (x3 : Int32) (x4 : Int32) (x5 : Int32) (x6 : Int32) (x7 : Int32) (x8 : Int32) (x9 : Int32) (h : Hp), k63 x1 x2 x3 x4 x5 x6 x7 x8 x9 h = some (r, h') → VM E 10 A p l e 5 s m args below meth c (Qi E A r h') 63 [(0, .ref (eA E 12)), (1, .int x1), (2, .int x2), (3, .int x3), (4, .int x4), (5, .int x5), (6, .int x6), (7, .int x7), (8, .int x8), (9, .int x9)] [] h) {x1 : Int32} {x2 : Int32} {x3 : Int32} {x4 : Int32} {x5 : Int32} {x6 : Int32} {x7 : Int32} {x8 : Int32} {x9 : Int32} {h : Hp} (hf0 : f8_ifBreathed_B63 k51 k63 x1 x2 x3 x4 x5 x6 x7 x8 x9 h = some (r, h')) : VM E 10 A p l e 5 s m args below meth c (Qi E A r h') 63 [(0, .ref (eA E 12)), (1, .int x1), (2, .int x2), (3, .int x3), (4, .int x4), (5, .int x5), (6, .int x6), (7, .int x7), (8, .int x8), (9, .int x9)] [] h := by
  unfold f8_ifBreathed_B63 at hf0
  have hf1 := hf0
  refine V_iload X 9 rfl dX8_ifBreathed_63 ?_
  refine V_bipush X (v := 8) (by decide) dX8_ifBreathed_65 ?_
  refine V_icmp_ge X (tgt := 101) (by decide) dX8_ifBreathed_67 (fun q67 => ?_) (fun q67 => ?_)
  · have hf2 := ift hf1 q67
    refine V_iload X 4 rfl dX8_ifBreathed_101 ?_
    refine V_aload_n X 0 rfl dX8_ifBreathed_103 ?_
    refine V_iload_n X 1 rfl dX8_ifBreathed_104 ?_
    refine V_iload X 7 rfl dX8_ifBreathed_105 ?_
    refine V_iload_n X 2 rfl dX8_ifBreathed_107 ?_
    obtain ⟨c2, e_c2, hf4⟩ := obd hf2
    refine V_callVi X (OB_12 hE) rfl rfl (f8_ringBreath_ok hE e_c2) ys_X8_ringBreath yw_X8_ringBreath ml_X8_89 rfl rfl ⟨Nat.le_of_ble_eq_true rfl, Nat.le_of_ble_eq_true rfl⟩ ⟨Nat.zero_le _, Nat.zero_le _⟩ (Nat.le_of_ble_eq_true rfl) dX8_ifBreathed_108 ?_
    refine V_iadd X dX8_ifBreathed_111 ?_
    refine V_istore X (by decide) rfl dX8_ifBreathed_112 ?_
    refine V_iconst X (v := 0) (by decide) dX8_ifBreathed_114 ?_
    refine V_istore X (by decide) rfl dX8_ifBreathed_115 ?_
    exact V_sub [2, 3, 4, 5, 1, 6, 7, 8, 9, 0] rfl (f8_ifBreathed_L117_ok hE X hk51 FU _ _ _ _ _ _ _ _ _ _ hf4)
  · have hf2 := ife hf1 q67
    refine V_iload X 8 rfl dX8_ifBreathed_70 ?_
    refine V_aload_n X 0 rfl dX8_ifBreathed_72 ?_
    refine V_iload_n X 1 rfl dX8_ifBreathed_73 ?_
    refine V_iload X 7 rfl dX8_ifBreathed_74 ?_
    refine V_iload X 9 rfl dX8_ifBreathed_76 ?_
    obtain ⟨c4, e_c4, hf6⟩ := obd hf2
    refine V_callVi X (OB_12 hE) rfl rfl (f8_isRight_ok hE e_c4) ys_X8_isRight yw_X8_isRight ml_X8_68 rfl rfl ⟨Nat.le_of_ble_eq_true rfl, Nat.le_of_ble_eq_true rfl⟩ ⟨Nat.zero_le _, Nat.zero_le _⟩ (Nat.le_of_ble_eq_true rfl) dX8_ifBreathed_78 ?_
    refine V_if_eq X (tgt := 91) (by decide) dX8_ifBreathed_81 (fun q81 => ?_) (fun q81 => ?_)
    · have hf7 := ift hf6 q81
      refine V_iconst X (v := 0) (by decide) dX8_ifBreathed_91 ?_
      refine V_ior X dX8_ifBreathed_92 ?_
      refine V_istore X (by decide) rfl dX8_ifBreathed_93 ?_
      refine V_iinc X (v := _ + 1) 9 rfl (by rfl) (by decide) rfl dX8_ifBreathed_95 ?_
      refine V_goto X (tgt := 63) (by decide) dX8_ifBreathed_98 ?_
      exact V_sub [2, 3, 4, 5, 6, 7, 8, 9, 1, 0] rfl (hk63 _ _ _ _ _ _ _ _ _ _ hf7)
    · have hf7 := ife hf6 q81
      refine V_iconst X (v := 1) (by decide) dX8_ifBreathed_84 ?_
      refine V_iload X 9 rfl dX8_ifBreathed_85 ?_
      refine V_ishl X dX8_ifBreathed_87 ?_
      refine V_goto X (tgt := 92) (by decide) dX8_ifBreathed_88 ?_
      refine V_ior X dX8_ifBreathed_92 ?_
      refine V_istore X (by decide) rfl dX8_ifBreathed_93 ?_
      have hf9 := obs hf7
      refine V_iinc X (v := _ + 1) 9 rfl (by rfl) (by decide) rfl dX8_ifBreathed_95 ?_
      refine V_goto X (tgt := 63) (by decide) dX8_ifBreathed_98 ?_
      exact V_sub [2, 3, 4, 5, 6, 7, 8, 9, 1, 0] rfl (hk63 _ _ _ _ _ _ _ _ _ _ hf9)
def f8_ifBreathed_L63 (k51 : Int32 → Int32 → Int32 → Int32 → Int32 → Int32 → Int32 → Hp → Re) : Nat → Int32 → Int32 → Int32 → Int32 → Int32 → Int32 → Int32 → Int32 → Int32 → Hp → Re
  | 0 => fun _ _ _ _ _ _ _ _ _ _ => none
  | n + 1 => f8_ifBreathed_B63 k51 (f8_ifBreathed_L63 k51 n)
theorem f8_ifBreathed_L63_s (k51 : Int32 → Int32 → Int32 → Int32 → Int32 → Int32 → Int32 → Hp → Re) (n : Nat) (x1 : Int32) (x2 : Int32) (x3 : Int32) (x4 : Int32) (x5 : Int32) (x6 : Int32) (x7 : Int32) (x8 : Int32) (x9 : Int32) (h : Hp) : f8_ifBreathed_L63 k51 (n + 1) x1 x2 x3 x4 x5 x6 x7 x8 x9 h = f8_ifBreathed_B63 k51 (f8_ifBreathed_L63 k51 n) x1 x2 x3 x4 x5 x6 x7 x8 x9 h := rfl
theorem f8_ifBreathed_L63_ok (hE : IW E) (X : XC E RX8 cX8_ifBreathed 10 (some .int) A p s m args meth c) {k51 : Int32 → Int32 → Int32 → Int32 → Int32 → Int32 → Int32 → Hp → Re} (hk51 : ∀ (x1 : Int32) (x2 : Int32) (x3 : Int32) (x4 : Int32) (x5 : Int32) (x6 : Int32) (x7 : Int32) (h : Hp), k51 x1 x2 x3 x4 x5 x6 x7 h = some (r, h') → VM E 10 A p l e 5 s m args below meth c (Qi E A r h') 51 [(0, .ref (eA E 12)), (1, .int x1), (2, .int x2), (3, .int x3), (4, .int x4), (5, .int x5), (6, .int x6), (7, .int x7)] [] h) : ∀ (n : Nat) (x1 : Int32) (x2 : Int32) (x3 : Int32) (x4 : Int32) (x5 : Int32) (x6 : Int32) (x7 : Int32) (x8 : Int32) (x9 : Int32) (h : Hp), f8_ifBreathed_L63 k51 n x1 x2 x3 x4 x5 x6 x7 x8 x9 h = some (r, h') → VM E 10 A p l e 5 s m args below meth c (Qi E A r h') 63 [(0, .ref (eA E 12)), (1, .int x1), (2, .int x2), (3, .int x3), (4, .int x4), (5, .int x5), (6, .int x6), (7, .int x7), (8, .int x8), (9, .int x9)] [] h := by
  intro n
  induction n with
  | zero =>
    intro x1 x2 x3 x4 x5 x6 x7 x8 x9 h q
    have q : (none : Re) = some (r, h') := q
    cases q
  | succ n ih =>
    intro x1 x2 x3 x4 x5 x6 x7 x8 x9 h q
    exact f8_ifBreathed_B63_ok hE X hk51 ih q
def f8_ifBreathed_B51 (k51 : Int32 → Int32 → Int32 → Int32 → Int32 → Int32 → Int32 → Hp → Re) (x1 : Int32) (x2 : Int32) (x3 : Int32) (x4 : Int32) (x5 : Int32) (x6 : Int32) (x7 : Int32) (h : Hp) : Re :=
  if 5 ≤ x7 then ((f8_putBack  h).bind fun c2 => if x3 = 0 then (some (x4, c2.2)) else (if x3 = 1 then (some (x5, c2.2)) else (some (x6, c2.2)))) else (f8_ifBreathed_L63 k51 FU x1 x2 x3 x4 x5 x6 x7 0 0 h)
set_option maxRecDepth 20000 in
set_option maxHeartbeats 4000000 in
theorem f8_ifBreathed_B51_ok (hE : IW E) (X : XC E RX8 cX8_ifBreathed 10 (some .int) A p s m args meth c) {k51 : Int32 → Int32 → Int32 → Int32 → Int32 → Int32 → Int32 → Hp → Re} (hk51 : ∀ (x1 : Int32) (x2 : Int32) (x3 : Int32) (x4 : Int32) (x5 : Int32) (x6 : Int32) (x7 : Int32) (h : Hp), k51 x1 x2 x3 x4 x5 x6 x7 h = some (r, h') → VM E 10 A p l e 5 s m args below meth c (Qi E A r h') 51 [(0, .ref (eA E 12)), (1, .int x1), (2, .int x2), (3, .int x3), (4, .int x4), (5, .int x5), (6, .int x6), (7, .int x7)] [] h) {x1 : Int32} {x2 : Int32} {x3 : Int32} {x4 : Int32} {x5 : Int32} {x6 : Int32} {x7 : Int32} {h : Hp} (hf0 : f8_ifBreathed_B51 k51 x1 x2 x3 x4 x5 x6 x7 h = some (r, h')) : VM E 10 A p l e 5 s m args below meth c (Qi E A r h') 51 [(0, .ref (eA E 12)), (1, .int x1), (2, .int x2), (3, .int x3), (4, .int x4), (5, .int x5), (6, .int x6), (7, .int x7)] [] h := by
  unfold f8_ifBreathed_B51 at hf0
  have hf1 := hf0
  refine V_iload X 7 rfl dX8_ifBreathed_51 ?_
  refine V_iconst X (v := 5) (by decide) dX8_ifBreathed_53 ?_
  refine V_icmp_ge X (tgt := 198) (by decide) dX8_ifBreathed_54 (fun q54 => ?_) (fun q54 => ?_)
  · have hf2 := ift hf1 q54
    refine V_aload_n X 0 rfl dX8_ifBreathed_198 ?_
    obtain ⟨c2, e_c2, hf4⟩ := obd hf2
    refine V_callVv X (OB_12 hE) rfl rfl (f8_putBack_ok hE e_c2) ys_X8_putBack yw_X8_putBack ml_X8_164 rfl rfl ⟨Nat.le_of_ble_eq_true rfl, Nat.le_of_ble_eq_true rfl⟩ ⟨Nat.zero_le _, Nat.zero_le _⟩ (Nat.le_of_ble_eq_true rfl) dX8_ifBreathed_199 ?_
    refine V_iload_n X 3 rfl dX8_ifBreathed_202 ?_
    refine V_if_ne X (tgt := 211) (by decide) dX8_ifBreathed_203 (fun q203 => ?_) (fun q203 => ?_)
    · have hf5 := ife hf4 q203
      refine V_iload_n X 3 rfl dX8_ifBreathed_211 ?_
      refine V_iconst X (v := 1) (by decide) dX8_ifBreathed_212 ?_
      refine V_icmp_ne X (tgt := 221) (by decide) dX8_ifBreathed_213 (fun q213 => ?_) (fun q213 => ?_)
      · have hf6 := ife hf5 q213
        refine V_iload X 6 rfl dX8_ifBreathed_221 ?_
        exact V_iret X rfl hf6 dX8_ifBreathed_223
      · have hf6 := ift hf5 q213
        refine V_iload X 5 rfl dX8_ifBreathed_216 ?_
        refine V_goto X (tgt := 223) (by decide) dX8_ifBreathed_218 ?_
        exact V_iret X rfl hf6 dX8_ifBreathed_223
    · have hf5 := ift hf4 q203
      refine V_iload X 4 rfl dX8_ifBreathed_206 ?_
      refine V_goto X (tgt := 223) (by decide) dX8_ifBreathed_208 ?_
      exact V_iret X rfl hf5 dX8_ifBreathed_223
  · have hf2 := ife hf1 q54
    refine V_iconst X (v := 0) (by decide) dX8_ifBreathed_57 ?_
    refine V_istore X (by decide) rfl dX8_ifBreathed_58 ?_
    refine V_iconst X (v := 0) (by decide) dX8_ifBreathed_60 ?_
    refine V_istore X (by decide) rfl dX8_ifBreathed_61 ?_
    exact V_sub [2, 3, 4, 5, 6, 7, 8, 9, 1, 0] rfl (f8_ifBreathed_L63_ok hE X hk51 FU _ _ _ _ _ _ _ _ _ _ hf2)
def f8_ifBreathed_L51 : Nat → Int32 → Int32 → Int32 → Int32 → Int32 → Int32 → Int32 → Hp → Re
  | 0 => fun _ _ _ _ _ _ _ _ => none
  | n + 1 => f8_ifBreathed_B51 (f8_ifBreathed_L51 n)
theorem f8_ifBreathed_L51_s (n : Nat) (x1 : Int32) (x2 : Int32) (x3 : Int32) (x4 : Int32) (x5 : Int32) (x6 : Int32) (x7 : Int32) (h : Hp) : f8_ifBreathed_L51 (n + 1) x1 x2 x3 x4 x5 x6 x7 h = f8_ifBreathed_B51 (f8_ifBreathed_L51 n) x1 x2 x3 x4 x5 x6 x7 h := rfl
theorem f8_ifBreathed_L51_ok (hE : IW E) (X : XC E RX8 cX8_ifBreathed 10 (some .int) A p s m args meth c) : ∀ (n : Nat) (x1 : Int32) (x2 : Int32) (x3 : Int32) (x4 : Int32) (x5 : Int32) (x6 : Int32) (x7 : Int32) (h : Hp), f8_ifBreathed_L51 n x1 x2 x3 x4 x5 x6 x7 h = some (r, h') → VM E 10 A p l e 5 s m args below meth c (Qi E A r h') 51 [(0, .ref (eA E 12)), (1, .int x1), (2, .int x2), (3, .int x3), (4, .int x4), (5, .int x5), (6, .int x6), (7, .int x7)] [] h := by
  intro n
  induction n with
  | zero =>
    intro x1 x2 x3 x4 x5 x6 x7 h q
    have q : (none : Re) = some (r, h') := q
    cases q
  | succ n ih =>
    intro x1 x2 x3 x4 x5 x6 x7 h q
    exact f8_ifBreathed_B51_ok hE X ih q
def f8_ifBreathed_e (x1 : Int32) (x2 : Int32) (x3 : Int32) (h : Hp) : Re :=
  (f8_isQuarter x1 h).bind fun c1 => if c1.1 = 0 then (some ((-1), c1.2)) else ((f8_in x2 0 1 c1.2).bind fun c4 => if c4.1 = 0 then (some ((-2), c4.2)) else ((f8_in x3 0 2 c4.2).bind fun c7 => if c7.1 = 0 then (some ((-2), c7.2)) else ((f8_keepTrial  c7.2).bind fun c10 => (some (c10.2 13 (Int32.toNatClampNeg 3) : Int32)).bind fun z12 => f8_ifBreathed_L51 FU x1 x2 x3 0 0 0 z12 c10.2)))
set_option maxRecDepth 20000 in
set_option maxHeartbeats 4000000 in
theorem f8_ifBreathed_e_ok (hE : IW E) (X : XC E RX8 cX8_ifBreathed 10 (some .int) A p s m args meth c) {x1 : Int32} {x2 : Int32} {x3 : Int32} {h : Hp} (hf0 : f8_ifBreathed_e x1 x2 x3 h = some (r, h')) : VM E 10 A p l e 5 s m args below meth c (Qi E A r h') 0 [(0, .ref (eA E 12)), (1, .int x1), (2, .int x2), (3, .int x3)] [] h := by
  unfold f8_ifBreathed_e at hf0
  have hf1 := hf0
  refine V_iload_n X 1 rfl dX8_ifBreathed_0 ?_
  obtain ⟨c1, e_c1, hf3⟩ := obd hf1
  refine V_callSi X (f8_isQuarter_ok e_c1) ys_X8_isQuarter yw_X8_isQuarter ml_X8_43 rfl rfl ⟨Nat.le_of_ble_eq_true rfl, Nat.le_of_ble_eq_true rfl⟩ ⟨Nat.zero_le _, Nat.zero_le _⟩ (Nat.le_of_ble_eq_true rfl) dX8_ifBreathed_1 ?_
  refine V_if_ne X (tgt := 9) (by decide) dX8_ifBreathed_4 (fun q4 => ?_) (fun q4 => ?_)
  · have hf4 := ife hf3 q4
    refine V_iload_n X 2 rfl dX8_ifBreathed_9 ?_
    refine V_iconst X (v := 0) (by decide) dX8_ifBreathed_10 ?_
    refine V_iconst X (v := 1) (by decide) dX8_ifBreathed_11 ?_
    obtain ⟨c4, e_c4, hf6⟩ := obd hf4
    refine V_callSi X (f8_in_ok e_c4) ys_X8_in yw_X8_in ml_X8_39 rfl rfl ⟨Nat.le_of_ble_eq_true rfl, Nat.le_of_ble_eq_true rfl⟩ ⟨Nat.zero_le _, Nat.zero_le _⟩ (Nat.le_of_ble_eq_true rfl) dX8_ifBreathed_12 ?_
    refine V_if_eq X (tgt := 27) (by decide) dX8_ifBreathed_15 (fun q15 => ?_) (fun q15 => ?_)
    · have hf7 := ift hf6 q15
      refine V_bipush X (v := -2) (by decide) dX8_ifBreathed_27 ?_
      exact V_iret X rfl hf7 dX8_ifBreathed_29
    · have hf7 := ife hf6 q15
      refine V_iload_n X 3 rfl dX8_ifBreathed_18 ?_
      refine V_iconst X (v := 0) (by decide) dX8_ifBreathed_19 ?_
      refine V_iconst X (v := 2) (by decide) dX8_ifBreathed_20 ?_
      obtain ⟨c7, e_c7, hf9⟩ := obd hf7
      refine V_callSi X (f8_in_ok e_c7) ys_X8_in yw_X8_in ml_X8_39 rfl rfl ⟨Nat.le_of_ble_eq_true rfl, Nat.le_of_ble_eq_true rfl⟩ ⟨Nat.zero_le _, Nat.zero_le _⟩ (Nat.le_of_ble_eq_true rfl) dX8_ifBreathed_21 ?_
      refine V_if_ne X (tgt := 30) (by decide) dX8_ifBreathed_24 (fun q24 => ?_) (fun q24 => ?_)
      · have hf10 := ife hf9 q24
        refine V_aload_n X 0 rfl dX8_ifBreathed_30 ?_
        obtain ⟨c10, e_c10, hf12⟩ := obd hf10
        refine V_callVv X (OB_12 hE) rfl rfl (f8_keepTrial_ok hE e_c10) ys_X8_keepTrial yw_X8_keepTrial ml_X8_157 rfl rfl ⟨Nat.le_of_ble_eq_true rfl, Nat.le_of_ble_eq_true rfl⟩ ⟨Nat.zero_le _, Nat.zero_le _⟩ (Nat.le_of_ble_eq_true rfl) dX8_ifBreathed_31 ?_
        refine V_iconst X (v := 0) (by decide) dX8_ifBreathed_34 ?_
        refine V_istore X (by decide) rfl dX8_ifBreathed_35 ?_
        refine V_iconst X (v := 0) (by decide) dX8_ifBreathed_37 ?_
        refine V_istore X (by decide) rfl dX8_ifBreathed_38 ?_
        refine V_iconst X (v := 0) (by decide) dX8_ifBreathed_40 ?_
        refine V_istore X (by decide) rfl dX8_ifBreathed_41 ?_
        refine V_aload_n X 3 rfl dX8_ifBreathed_43 ?_
        refine G_X8_0_7 hE X dX8_ifBreathed_44 ?_
        refine V_iconst X (v := 3) (by decide) dX8_ifBreathed_47 ?_
        refine V_iald X (AR_13 hE) (by decide) dX8_ifBreathed_48 ?_
        refine V_istore X (by decide) rfl dX8_ifBreathed_49 ?_
        have hf14 := obs hf12
        exact V_sub [4, 5, 6, 7, 3, 2, 1, 0] rfl (f8_ifBreathed_L51_ok hE X FU _ _ _ _ _ _ _ _ hf14)
      · have hf10 := ift hf9 q24
        refine V_bipush X (v := -2) (by decide) dX8_ifBreathed_27 ?_
        exact V_iret X rfl hf10 dX8_ifBreathed_29
  · have hf4 := ift hf3 q4
    refine V_iconst X (v := -1) (by decide) dX8_ifBreathed_7 ?_
    exact V_iret X rfl hf4 dX8_ifBreathed_8
def f8_ifBreathed (x1 : Int32) (x2 : Int32) (x3 : Int32) (h : Hp) : Re := f8_ifBreathed_e x1 x2 x3 h
theorem f8_ifBreathed_ok (hE : IW E) {x1 : Int32} {x2 : Int32} {x3 : Int32} {h : Hp} {q : Int32 × Hp} (hf0 : f8_ifBreathed x1 x2 x3 h = some q) : SMi l E 5 yX8_ifBreathed cX8_ifBreathed 10 (some .int) [.ref (eA E 12), .int x1, .int x2, .int x3] h q.1 q.2 :=
  SMi.of (by decide +kernel) (Nat.le_of_ble_eq_true rfl) (fun p e s m args below meth c A X => f8_ifBreathed_e_ok hE X (r := q.1) (h' := q.2) hf0)
end DM
