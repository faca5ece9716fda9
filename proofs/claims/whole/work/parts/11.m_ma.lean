section DM
variable {E : EN} {A : Nat → Prop} {p : Program} {l : Launch} {e : Env} {s : State} {m : MethodId} {args : Array Value} {below : List Frame} {meth : Method} {c : Code} {r : Int32} {h' : Hp}
def f8_in_e (x0 : Int32) (x1 : Int32) (x2 : Int32) (h : Hp) : Re :=
  if x0 < x1 then (rz 0 h) else (if x2 < x0 then (rz 0 h) else (rz 1 h))
set_option maxRecDepth 20000 in
set_option maxHeartbeats 4000000 in
theorem f8_in_e_ok (X : XC E RX8 cX8_in 3 (some .boolean) A p s m args meth c) {x0 : Int32} {x1 : Int32} {x2 : Int32} {h : Hp} (hf0 : f8_in_e x0 x1 x2 h = some (r, h')) : VM E 3 A p l e 0 s m args below meth c (Qi E A r h') 0 [(0, .int x0), (1, .int x1), (2, .int x2)] [] h := by
  unfold f8_in_e at hf0
  have hf1 := hf0
  refine V_iload_n X 0 rfl dX8_in_0 ?_
  refine V_iload_n X 1 rfl dX8_in_1 ?_
  refine V_icmp_lt X (tgt := 14) (by decide) dX8_in_2 (fun q2 => ?_) (fun q2 => ?_)
  · have hf2 := ift hf1 q2
    refine V_iconst X (v := 0) (by decide) dX8_in_14 ?_
    exact V_zret X rfl hf2 dX8_in_15
  · have hf2 := ife hf1 q2
    refine V_iload_n X 0 rfl dX8_in_5 ?_
    refine V_iload_n X 2 rfl dX8_in_6 ?_
    refine V_icmp_gt X (tgt := 14) (by decide) dX8_in_7 (fun q7 => ?_) (fun q7 => ?_)
    · have hf3 := ift hf2 q7
      refine V_iconst X (v := 0) (by decide) dX8_in_14 ?_
      exact V_zret X rfl hf3 dX8_in_15
    · have hf3 := ife hf2 q7
      refine V_iconst X (v := 1) (by decide) dX8_in_10 ?_
      refine V_goto X (tgt := 15) (by decide) dX8_in_11 ?_
      exact V_zret X rfl hf3 dX8_in_15
def f8_in (x0 : Int32) (x1 : Int32) (x2 : Int32) (h : Hp) : Re := f8_in_e x0 x1 x2 h
theorem f8_in_ok {x0 : Int32} {x1 : Int32} {x2 : Int32} {h : Hp} {q : Int32 × Hp} (hf0 : f8_in x0 x1 x2 h = some q) : SMi l E 0 yX8_in cX8_in 3 (some .boolean) [.int x0, .int x1, .int x2] h q.1 q.2 :=
  SMi.of (by decide +kernel) (Nat.le_of_ble_eq_true rfl) (fun p e s m args below meth c A X => f8_in_e_ok X (r := q.1) (h' := q.2) hf0)
def f8_p_e (x0 : Int32) (x1 : Int32) (x2 : Int32) (h : Hp) : Re :=
  some (63 + (2 * (((40 * x0) + (8 * x1)) + x2)), h)
set_option maxRecDepth 20000 in
set_option maxHeartbeats 4000000 in
theorem f8_p_e_ok (X : XC E RX8 cX8_p 3 (some .int) A p s m args meth c) {x0 : Int32} {x1 : Int32} {x2 : Int32} {h : Hp} (hf0 : f8_p_e x0 x1 x2 h = some (r, h')) : VM E 3 A p l e 0 s m args below meth c (Qi E A r h') 0 [(0, .int x0), (1, .int x1), (2, .int x2)] [] h := by
  unfold f8_p_e at hf0
  have hf1 := hf0
  refine V_bipush X (v := 63) (by decide) dX8_p_0 ?_
  refine V_iconst X (v := 2) (by decide) dX8_p_2 ?_
  refine V_bipush X (v := 40) (by decide) dX8_p_3 ?_
  refine V_iload_n X 0 rfl dX8_p_5 ?_
  refine V_imul X dX8_p_6 ?_
  refine V_bipush X (v := 8) (by decide) dX8_p_7 ?_
  refine V_iload_n X 1 rfl dX8_p_9 ?_
  refine V_imul X dX8_p_10 ?_
  refine V_iadd X dX8_p_11 ?_
  refine V_iload_n X 2 rfl dX8_p_12 ?_
  refine V_iadd X dX8_p_13 ?_
  refine V_imul X dX8_p_14 ?_
  refine V_iadd X dX8_p_15 ?_
  exact V_iret X rfl hf1 dX8_p_16
def f8_p (x0 : Int32) (x1 : Int32) (x2 : Int32) (h : Hp) : Re := f8_p_e x0 x1 x2 h
theorem f8_p_ok {x0 : Int32} {x1 : Int32} {x2 : Int32} {h : Hp} {q : Int32 × Hp} (hf0 : f8_p x0 x1 x2 h = some q) : SMi l E 0 yX8_p cX8_p 3 (some .int) [.int x0, .int x1, .int x2] h q.1 q.2 :=
  SMi.of (by decide +kernel) (Nat.le_of_ble_eq_true rfl) (fun p e s m args below meth c A X => f8_p_e_ok X (r := q.1) (h' := q.2) hf0)
def f8_isQuarter_e (x0 : Int32) (h : Hp) : Re :=
  (f8_in x0 0 3 h).bind fun c1 => rz c1.1 c1.2
set_option maxRecDepth 20000 in
set_option maxHeartbeats 4000000 in
theorem f8_isQuarter_e_ok (X : XC E RX8 cX8_isQuarter 1 (some .boolean) A p s m args meth c) {x0 : Int32} {h : Hp} (hf0 : f8_isQuarter_e x0 h = some (r, h')) : VM E 1 A p l e 1 s m args below meth c (Qi E A r h') 0 [(0, .int x0)] [] h := by
  unfold f8_isQuarter_e at hf0
  have hf1 := hf0
  refine V_iload_n X 0 rfl dX8_isQuarter_0 ?_
  refine V_iconst X (v := 0) (by decide) dX8_isQuarter_1 ?_
  refine V_iconst X (v := 3) (by decide) dX8_isQuarter_2 ?_
  obtain ⟨c1, e_c1, hf3⟩ := obd hf1
  refine V_callSi X (f8_in_ok e_c1) ys_X8_in yw_X8_in ml_X8_39 rfl rfl ⟨Nat.le_of_ble_eq_true rfl, Nat.le_of_ble_eq_true rfl⟩ ⟨Nat.zero_le _, Nat.zero_le _⟩ (Nat.le_of_ble_eq_true rfl) dX8_isQuarter_3 ?_
  exact V_zret X rfl hf3 dX8_isQuarter_6
def f8_isQuarter (x0 : Int32) (h : Hp) : Re := f8_isQuarter_e x0 h
theorem f8_isQuarter_ok {x0 : Int32} {h : Hp} {q : Int32 × Hp} (hf0 : f8_isQuarter x0 h = some q) : SMi l E 1 yX8_isQuarter cX8_isQuarter 1 (some .boolean) [.int x0] h q.1 q.2 :=
  SMi.of (by decide +kernel) (Nat.le_of_ble_eq_true rfl) (fun p e s m args below meth c A X => f8_isQuarter_e_ok X (r := q.1) (h' := q.2) hf0)
def f8_isRing_e (x0 : Int32) (h : Hp) : Re :=
  (f8_in x0 0 4 h).bind fun c1 => rz c1.1 c1.2
set_option maxRecDepth 20000 in
set_option maxHeartbeats 4000000 in
theorem f8_isRing_e_ok (X : XC E RX8 cX8_isRing 1 (some .boolean) A p s m args meth c) {x0 : Int32} {h : Hp} (hf0 : f8_isRing_e x0 h = some (r, h')) : VM E 1 A p l e 1 s m args below meth c (Qi E A r h') 0 [(0, .int x0)] [] h := by
  unfold f8_isRing_e at hf0
  have hf1 := hf0
  refine V_iload_n X 0 rfl dX8_isRing_0 ?_
  refine V_iconst X (v := 0) (by decide) dX8_isRing_1 ?_
  refine V_iconst X (v := 4) (by decide) dX8_isRing_2 ?_
  obtain ⟨c1, e_c1, hf3⟩ := obd hf1
  refine V_callSi X (f8_in_ok e_c1) ys_X8_in yw_X8_in ml_X8_39 rfl rfl ⟨Nat.le_of_ble_eq_true rfl, Nat.le_of_ble_eq_true rfl⟩ ⟨Nat.zero_le _, Nat.zero_le _⟩ (Nat.le_of_ble_eq_true rfl) dX8_isRing_3 ?_
  exact V_zret X rfl hf3 dX8_isRing_6
def f8_isRing (x0 : Int32) (h : Hp) : Re := f8_isRing_e x0 h
theorem f8_isRing_ok {x0 : Int32} {h : Hp} {q : Int32 × Hp} (hf0 : f8_isRing x0 h = some q) : SMi l E 1 yX8_isRing cX8_isRing 1 (some .boolean) [.int x0] h q.1 q.2 :=
  SMi.of (by decide +kernel) (Nat.le_of_ble_eq_true rfl) (fun p e s m args below meth c A X => f8_isRing_e_ok X (r := q.1) (h' := q.2) hf0)
def f8_isColour_e (x0 : Int32) (h : Hp) : Re :=
  (f8_in x0 1 6 h).bind fun c1 => rz c1.1 c1.2
set_option maxRecDepth 20000 in
set_option maxHeartbeats 4000000 in
theorem f8_isColour_e_ok (X : XC E RX8 cX8_isColour 1 (some .boolean) A p s m args meth c) {x0 : Int32} {h : Hp} (hf0 : f8_isColour_e x0 h = some (r, h')) : VM E 1 A p l e 1 s m args below meth c (Qi E A r h') 0 [(0, .int x0)] [] h := by
  unfold f8_isColour_e at hf0
  have hf1 := hf0
  refine V_iload_n X 0 rfl dX8_isColour_0 ?_
  refine V_iconst X (v := 1) (by decide) dX8_isColour_1 ?_
  refine V_bipush X (v := 6) (by decide) dX8_isColour_2 ?_
  obtain ⟨c1, e_c1, hf3⟩ := obd hf1
  refine V_callSi X (f8_in_ok e_c1) ys_X8_in yw_X8_in ml_X8_39 rfl rfl ⟨Nat.le_of_ble_eq_true rfl, Nat.le_of_ble_eq_true rfl⟩ ⟨Nat.zero_le _, Nat.zero_le _⟩ (Nat.le_of_ble_eq_true rfl) dX8_isColour_4 ?_
  exact V_zret X rfl hf3 dX8_isColour_7
def f8_isColour (x0 : Int32) (h : Hp) : Re := f8_isColour_e x0 h
theorem f8_isColour_ok {x0 : Int32} {h : Hp} {q : Int32 × Hp} (hf0 : f8_isColour x0 h = some q) : SMi l E 1 yX8_isColour cX8_isColour 1 (some .boolean) [.int x0] h q.1 q.2 :=
  SMi.of (by decide +kernel) (Nat.le_of_ble_eq_true rfl) (fun p e s m args below meth c A X => f8_isColour_e_ok X (r := q.1) (h' := q.2) hf0)
def f8_isPlace_e (x0 : Int32) (x1 : Int32) (x2 : Int32) (h : Hp) : Re :=
  (f8_isQuarter x0 h).bind fun c1 => if c1.1 = 0 then (rz 0 c1.2) else ((f8_isRing x1 c1.2).bind fun c4 => if c4.1 = 0 then (rz 0 c4.2) else ((f8_in x2 0 7 c4.2).bind fun c7 => if c7.1 = 0 then (rz 0 c7.2) else (rz 1 c7.2)))
set_option maxRecDepth 20000 in
set_option maxHeartbeats 4000000 in
theorem f8_isPlace_e_ok (X : XC E RX8 cX8_isPlace 3 (some .boolean) A p s m args meth c) {x0 : Int32} {x1 : Int32} {x2 : Int32} {h : Hp} (hf0 : f8_isPlace_e x0 x1 x2 h = some (r, h')) : VM E 3 A p l e 2 s m args below meth c (Qi E A r h') 0 [(0, .int x0), (1, .int x1), (2, .int x2)] [] h := by
  unfold f8_isPlace_e at hf0
  have hf1 := hf0
  refine V_iload_n X 0 rfl dX8_isPlace_0 ?_
  obtain ⟨c1, e_c1, hf3⟩ := obd hf1
  refine V_callSi X (f8_isQuarter_ok e_c1) ys_X8_isQuarter yw_X8_isQuarter ml_X8_43 rfl rfl ⟨Nat.le_of_ble_eq_true rfl, Nat.le_of_ble_eq_true rfl⟩ ⟨Nat.zero_le _, Nat.zero_le _⟩ (Nat.le_of_ble_eq_true rfl) dX8_isPlace_1 ?_
  refine V_if_eq X (tgt := 28) (by decide) dX8_isPlace_4 (fun q4 => ?_) (fun q4 => ?_)
  · have hf4 := ift hf3 q4
    refine V_iconst X (v := 0) (by decide) dX8_isPlace_28 ?_
    exact V_zret X rfl hf4 dX8_isPlace_29
  · have hf4 := ife hf3 q4
    refine V_iload_n X 1 rfl dX8_isPlace_7 ?_
    obtain ⟨c4, e_c4, hf6⟩ := obd hf4
    refine V_callSi X (f8_isRing_ok e_c4) ys_X8_isRing yw_X8_isRing ml_X8_47 rfl rfl ⟨Nat.le_of_ble_eq_true rfl, Nat.le_of_ble_eq_true rfl⟩ ⟨Nat.zero_le _, Nat.zero_le _⟩ (Nat.le_of_ble_eq_true rfl) dX8_isPlace_8 ?_
    refine V_if_eq X (tgt := 28) (by decide) dX8_isPlace_11 (fun q11 => ?_) (fun q11 => ?_)
    · have hf7 := ift hf6 q11
      refine V_iconst X (v := 0) (by decide) dX8_isPlace_28 ?_
      exact V_zret X rfl hf7 dX8_isPlace_29
    · have hf7 := ife hf6 q11
      refine V_iload_n X 2 rfl dX8_isPlace_14 ?_
      refine V_iconst X (v := 0) (by decide) dX8_isPlace_15 ?_
      refine V_bipush X (v := 7) (by decide) dX8_isPlace_16 ?_
      obtain ⟨c7, e_c7, hf9⟩ := obd hf7
      refine V_callSi X (f8_in_ok e_c7) ys_X8_in yw_X8_in ml_X8_39 rfl rfl ⟨Nat.le_of_ble_eq_true rfl, Nat.le_of_ble_eq_true rfl⟩ ⟨Nat.zero_le _, Nat.zero_le _⟩ (Nat.le_of_ble_eq_true rfl) dX8_isPlace_18 ?_
      refine V_if_eq X (tgt := 28) (by decide) dX8_isPlace_21 (fun q21 => ?_) (fun q21 => ?_)
      · have hf10 := ift hf9 q21
        refine V_iconst X (v := 0) (by decide) dX8_isPlace_28 ?_
        exact V_zret X rfl hf10 dX8_isPlace_29
      · have hf10 := ife hf9 q21
        refine V_iconst X (v := 1) (by decide) dX8_isPlace_24 ?_
        refine V_goto X (tgt := 29) (by decide) dX8_isPlace_25 ?_
        exact V_zret X rfl hf10 dX8_isPlace_29
def f8_isPlace (x0 : Int32) (x1 : Int32) (x2 : Int32) (h : Hp) : Re := f8_isPlace_e x0 x1 x2 h
theorem f8_isPlace_ok {x0 : Int32} {x1 : Int32} {x2 : Int32} {h : Hp} {q : Int32 × Hp} (hf0 : f8_isPlace x0 x1 x2 h = some q) : SMi l E 2 yX8_isPlace cX8_isPlace 3 (some .boolean) [.int x0, .int x1, .int x2] h q.1 q.2 :=
  SMi.of (by decide +kernel) (Nat.le_of_ble_eq_true rfl) (fun p e s m args below meth c A X => f8_isPlace_e_ok X (r := q.1) (h' := q.2) hf0)
def f8_hold_B2 (k2 : Int32 → Hp → Re) (x1 : Int32) (h : Hp) : Re :=
  if 383 ≤ x1 then (some (0, h)) else (if inB x1 383 = true then if inB x1 383 = true then (some (hu h 14 (Int32.toNatClampNeg x1) (h 13 (Int32.toNatClampNeg x1)))).bind fun h4 => k2 (x1 + 1) h4 else none else none)
set_option maxRecDepth 20000 in
set_option maxHeartbeats 4000000 in
theorem f8_hold_B2_ok (hE : IW E) (X : XC E RX8 cX8_hold 2 none A p s m args meth c) {k2 : Int32 → Hp → Re} (hk2 : ∀ (x1 : Int32) (h : Hp), k2 x1 h = some (r, h') → VM E 2 A p l e 0 s m args below meth c (Qv E A h') 2 [(0, .ref (eA E 12)), (1, .int x1)] [] h) {x1 : Int32} {h : Hp} (hf0 : f8_hold_B2 k2 x1 h = some (r, h')) : VM E 2 A p l e 0 s m args below meth c (Qv E A h') 2 [(0, .ref (eA E 12)), (1, .int x1)] [] h := by
  unfold f8_hold_B2 at hf0
  have hf1 := hf0
  refine V_iload_n X 1 rfl dX8_hold_2 ?_
  refine V_sipush X (v := 383) (by decide) dX8_hold_3 ?_
  refine V_icmp_ge X (tgt := 27) (by decide) dX8_hold_6 (fun q6 => ?_) (fun q6 => ?_)
  · have hf2 := ift hf1 q6
    exact V_vret X rfl hf2 dX8_hold_27
  · have hf2 := ife hf1 q6
    refine V_aload_n X 0 rfl dX8_hold_9 ?_
    refine G_X8_1_13 hE X dX8_hold_10 ?_
    refine V_iload_n X 1 rfl dX8_hold_13 ?_
    refine V_aload_n X 0 rfl dX8_hold_14 ?_
    refine G_X8_0_7 hE X dX8_hold_15 ?_
    refine V_iload_n X 1 rfl dX8_hold_18 ?_
    obtain ⟨g102, hf102⟩ := ogd hf2
    refine V_iald X (AR_13 hE) g102 dX8_hold_19 ?_
    obtain ⟨g103, hf103⟩ := ogd hf102
    refine V_iast X (AR_14 hE) g103 dX8_hold_20 ?_
    have hf6 := obs hf103
    refine V_iinc X (v := _ + 1) 1 rfl (by rfl) (by decide) rfl dX8_hold_21 ?_
    refine V_goto X (tgt := 2) (by decide) dX8_hold_24 ?_
    exact V_sub [1, 0] rfl (hk2 _ _ hf6)
def f8_hold_L2 : Nat → Int32 → Hp → Re
  | 0 => fun _ _ => none
  | n + 1 => f8_hold_B2 (f8_hold_L2 n)
theorem f8_hold_L2_s (n : Nat) (x1 : Int32) (h : Hp) : f8_hold_L2 (n + 1) x1 h = f8_hold_B2 (f8_hold_L2 n) x1 h := rfl
theorem f8_hold_L2_ok (hE : IW E) (X : XC E RX8 cX8_hold 2 none A p s m args meth c) : ∀ (n : Nat) (x1 : Int32) (h : Hp), f8_hold_L2 n x1 h = some (r, h') → VM E 2 A p l e 0 s m args below meth c (Qv E A h') 2 [(0, .ref (eA E 12)), (1, .int x1)] [] h := by
  intro n
  induction n with
  | zero =>
    intro x1 h q
    have q : (none : Re) = some (r, h') := q
    cases q
  | succ n ih =>
    intro x1 h q
    exact f8_hold_B2_ok hE X ih q
def f8_hold_e (h : Hp) : Re :=
  f8_hold_L2 FU 0 h
set_option maxRecDepth 20000 in
set_option maxHeartbeats 4000000 in
theorem f8_hold_e_ok (hE : IW E) (X : XC E RX8 cX8_hold 2 none A p s m args meth c) {h : Hp} (hf0 : f8_hold_e  h = some (r, h')) : VM E 2 A p l e 0 s m args below meth c (Qv E A h') 0 [(0, .ref (eA E 12))] [] h := by
  unfold f8_hold_e at hf0
  have hf1 := hf0
  refine V_iconst X (v := 0) (by decide) dX8_hold_0 ?_
  refine V_istore_n X (by decide) rfl dX8_hold_1 ?_
  exact V_sub [1, 0] rfl (f8_hold_L2_ok hE X FU _ _ hf1)
def f8_hold (h : Hp) : Re := f8_hold_e  h
theorem f8_hold_ok (hE : IW E) {h : Hp} {q : Int32 × Hp} (hf0 : f8_hold  h = some q) : SMv l E 0 yX8_hold cX8_hold 2 [.ref (eA E 12)] h q.2 :=
  SMv.of (by decide +kernel) (Nat.le_of_ble_eq_true rfl) (fun p e s m args below meth c A X => f8_hold_e_ok hE X (r := q.1) (h' := q.2) hf0)
def f8_recorded_B56 (k56 : Int32 → Int32 → Hp → Re) (x1 : Int32) (x2 : Int32) (h : Hp) : Re :=
  if 383 ≤ x2 then ((some (hu h 12 10 ((h 12 10) + 1))).bind fun h2 => some (x1, h2)) else (if inB x2 383 = true then if inB ((383 * (h 12 10)) + x2) 2298 = true then (some (hu h 16 (Int32.toNatClampNeg ((383 * (h 12 10)) + x2)) (h 14 (Int32.toNatClampNeg x2)))).bind fun h6 => k56 x1 (x2 + 1) h6 else none else none)
set_option maxRecDepth 20000 in
set_option maxHeartbeats 4000000 in
theorem f8_recorded_B56_ok (hE : IW E) (X : XC E RX8 cX8_recorded 3 (some .int) A p s m args meth c) {k56 : Int32 → Int32 → Hp → Re} (hk56 : ∀ (x1 : Int32) (x2 : Int32) (h : Hp), k56 x1 x2 h = some (r, h') → VM E 3 A p l e 0 s m args below meth c (Qi E A r h') 56 [(0, .ref (eA E 12)), (1, .int x1), (2, .int x2)] [] h) {x1 : Int32} {x2 : Int32} {h : Hp} (hf0 : f8_recorded_B56 k56 x1 x2 h = some (r, h')) : VM E 3 A p l e 0 s m args below meth c (Qi E A r h') 56 [(0, .ref (eA E 12)), (1, .int x1), (2, .int x2)] [] h := by
  unfold f8_recorded_B56 at hf0
  have hf1 := hf0
  refine V_iload_n X 2 rfl dX8_recorded_56 ?_
  refine V_sipush X (v := 383) (by decide) dX8_recorded_57 ?_
  refine V_icmp_ge X (tgt := 90) (by decide) dX8_recorded_60 (fun q60 => ?_) (fun q60 => ?_)
  · have hf2 := ift hf1 q60
    refine V_aload_n X 0 rfl dX8_recorded_90 ?_
    refine V_dup X rfl dX8_recorded_91 ?_
    refine G_X8_10_50 hE X dX8_recorded_92 ?_
    refine V_iconst X (v := 1) (by decide) dX8_recorded_95 ?_
    refine V_iadd X dX8_recorded_96 ?_
    refine P_X8_10_50 hE X dX8_recorded_97 ?_
    have hf4 := obs hf2
    refine V_iload_n X 1 rfl dX8_recorded_100 ?_
    exact V_iret X rfl hf4 dX8_recorded_101
  · have hf2 := ife hf1 q60
    refine V_aload_n X 0 rfl dX8_recorded_63 ?_
    refine G_X8_3_19 hE X dX8_recorded_64 ?_
    refine V_sipush X (v := 383) (by decide) dX8_recorded_67 ?_
    refine V_aload_n X 0 rfl dX8_recorded_70 ?_
    refine G_X8_10_50 hE X dX8_recorded_71 ?_
    refine V_imul X dX8_recorded_74 ?_
    refine V_iload_n X 2 rfl dX8_recorded_75 ?_
    refine V_iadd X dX8_recorded_76 ?_
    refine V_aload_n X 0 rfl dX8_recorded_77 ?_
    refine G_X8_1_13 hE X dX8_recorded_78 ?_
    refine V_iload_n X 2 rfl dX8_recorded_81 ?_
    obtain ⟨g104, hf104⟩ := ogd hf2
    refine V_iald X (AR_14 hE) g104 dX8_recorded_82 ?_
    obtain ⟨g105, hf105⟩ := ogd hf104
    refine V_iast X (AR_16 hE) g105 dX8_recorded_83 ?_
    have hf8 := obs hf105
    refine V_iinc X (v := _ + 1) 2 rfl (by rfl) (by decide) rfl dX8_recorded_84 ?_
    refine V_goto X (tgt := 56) (by decide) dX8_recorded_87 ?_
    exact V_sub [1, 2, 0] rfl (hk56 _ _ _ hf8)
def f8_recorded_L56 : Nat → Int32 → Int32 → Hp → Re
  | 0 => fun _ _ _ => none
  | n + 1 => f8_recorded_B56 (f8_recorded_L56 n)
theorem f8_recorded_L56_s (n : Nat) (x1 : Int32) (x2 : Int32) (h : Hp) : f8_recorded_L56 (n + 1) x1 x2 h = f8_recorded_B56 (f8_recorded_L56 n) x1 x2 h := rfl
theorem f8_recorded_L56_ok (hE : IW E) (X : XC E RX8 cX8_recorded 3 (some .int) A p s m args meth c) : ∀ (n : Nat) (x1 : Int32) (x2 : Int32) (h : Hp), f8_recorded_L56 n x1 x2 h = some (r, h') → VM E 3 A p l e 0 s m args below meth c (Qi E A r h') 56 [(0, .ref (eA E 12)), (1, .int x1), (2, .int x2)] [] h := by
  intro n
  induction n with
  | zero =>
    intro x1 x2 h q
    have q : (none : Re) = some (r, h') := q
    cases q
  | succ n ih =>
    intro x1 x2 h q
    exact f8_recorded_B56_ok hE X ih q
def f8_recorded_B15 (k15 : Int32 → Int32 → Hp → Re) (x1 : Int32) (x2 : Int32) (h : Hp) : Re :=
  if 1915 ≤ x2 then ((some (hu h 12 10 ((h 12 10) - 1))).bind fun h2 => f8_recorded_L56 FU x1 0 h2) else (if inB (383 + x2) 2298 = true then if inB x2 2298 = true then (some (hu h 16 (Int32.toNatClampNeg x2) (h 16 (Int32.toNatClampNeg (383 + x2))))).bind fun h6 => k15 x1 (x2 + 1) h6 else none else none)
set_option maxRecDepth 20000 in
set_option maxHeartbeats 4000000 in
theorem f8_recorded_B15_ok (hE : IW E) (X : XC E RX8 cX8_recorded 3 (some .int) A p s m args meth c) {k15 : Int32 → Int32 → Hp → Re} (hk15 : ∀ (x1 : Int32) (x2 : Int32) (h : Hp), k15 x1 x2 h = some (r, h') → VM E 3 A p l e 0 s m args below meth c (Qi E A r h') 15 [(0, .ref (eA E 12)), (1, .int x1), (2, .int x2)] [] h) {x1 : Int32} {x2 : Int32} {h : Hp} (hf0 : f8_recorded_B15 k15 x1 x2 h = some (r, h')) : VM E 3 A p l e 0 s m args below meth c (Qi E A r h') 15 [(0, .ref (eA E 12)), (1, .int x1), (2, .int x2)] [] h := by
  unfold f8_recorded_B15 at hf0
  have hf1 := hf0
  refine V_iload_n X 2 rfl dX8_recorded_15 ?_
  refine V_sipush X (v := 1915) (by decide) dX8_recorded_16 ?_
  refine V_icmp_ge X (tgt := 44) (by decide) dX8_recorded_19 (fun q19 => ?_) (fun q19 => ?_)
  · have hf2 := ift hf1 q19
    refine V_aload_n X 0 rfl dX8_recorded_44 ?_
    refine V_dup X rfl dX8_recorded_45 ?_
    refine G_X8_10_50 hE X dX8_recorded_46 ?_
    refine V_iconst X (v := 1) (by decide) dX8_recorded_49 ?_
    refine V_isub X dX8_recorded_50 ?_
    refine P_X8_10_50 hE X dX8_recorded_51 ?_
    have hf4 := obs hf2
    refine V_iconst X (v := 0) (by decide) dX8_recorded_54 ?_
    refine V_istore_n X (by decide) rfl dX8_recorded_55 ?_
    exact V_sub [1, 2, 0] rfl (f8_recorded_L56_ok hE X FU _ _ _ hf4)
  · have hf2 := ife hf1 q19
    refine V_aload_n X 0 rfl dX8_recorded_22 ?_
    refine G_X8_3_19 hE X dX8_recorded_23 ?_
    refine V_iload_n X 2 rfl dX8_recorded_26 ?_
    refine V_aload_n X 0 rfl dX8_recorded_27 ?_
    refine G_X8_3_19 hE X dX8_recorded_28 ?_
    refine V_sipush X (v := 383) (by decide) dX8_recorded_31 ?_
    refine V_iload_n X 2 rfl dX8_recorded_34 ?_
    refine V_iadd X dX8_recorded_35 ?_
    obtain ⟨g104, hf104⟩ := ogd hf2
    refine V_iald X (AR_16 hE) g104 dX8_recorded_36 ?_
    obtain ⟨g105, hf105⟩ := ogd hf104
    refine V_iast X (AR_16 hE) g105 dX8_recorded_37 ?_
    have hf8 := obs hf105
    refine V_iinc X (v := _ + 1) 2 rfl (by rfl) (by decide) rfl dX8_recorded_38 ?_
    refine V_goto X (tgt := 15) (by decide) dX8_recorded_41 ?_
    exact V_sub [1, 2, 0] rfl (hk15 _ _ _ hf8)
def f8_recorded_L15 : Nat → Int32 → Int32 → Hp → Re
  | 0 => fun _ _ _ => none
  | n + 1 => f8_recorded_B15 (f8_recorded_L15 n)
theorem f8_recorded_L15_s (n : Nat) (x1 : Int32) (x2 : Int32) (h : Hp) : f8_recorded_L15 (n + 1) x1 x2 h = f8_recorded_B15 (f8_recorded_L15 n) x1 x2 h := rfl
theorem f8_recorded_L15_ok (hE : IW E) (X : XC E RX8 cX8_recorded 3 (some .int) A p s m args meth c) : ∀ (n : Nat) (x1 : Int32) (x2 : Int32) (h : Hp), f8_recorded_L15 n x1 x2 h = some (r, h') → VM E 3 A p l e 0 s m args below meth c (Qi E A r h') 15 [(0, .ref (eA E 12)), (1, .int x1), (2, .int x2)] [] h := by
  intro n
  induction n with
  | zero =>
    intro x1 x2 h q
    have q : (none : Re) = some (r, h') := q
    cases q
  | succ n ih =>
    intro x1 x2 h q
    exact f8_recorded_B15_ok hE X ih q
def f8_recorded_e (x1 : Int32) (h : Hp) : Re :=
  if x1 < 0 then (some (x1, h)) else (if (h 12 10) = 6 then (f8_recorded_L15 FU x1 0 h) else (f8_recorded_L56 FU x1 0 h))
set_option maxRecDepth 20000 in
set_option maxHeartbeats 4000000 in
theorem f8_recorded_e_ok (hE : IW E) (X : XC E RX8 cX8_recorded 3 (some .int) A p s m args meth c) {x1 : Int32} {h : Hp} (hf0 : f8_recorded_e x1 h = some (r, h')) : VM E 3 A p l e 0 s m args below meth c (Qi E A r h') 0 [(0, .ref (eA E 12)), (1, .int x1)] [] h := by
  unfold f8_recorded_e at hf0
  have hf1 := hf0
  refine V_iload_n X 1 rfl dX8_recorded_0 ?_
  refine V_if_lt X (tgt := 100) (by decide) dX8_recorded_1 (fun q1 => ?_) (fun q1 => ?_)
  · have hf2 := ift hf1 q1
    refine V_iload_n X 1 rfl dX8_recorded_100 ?_
    exact V_iret X rfl hf2 dX8_recorded_101
  · have hf2 := ife hf1 q1
    refine V_aload_n X 0 rfl dX8_recorded_4 ?_
    refine G_X8_10_50 hE X dX8_recorded_5 ?_
    refine V_bipush X (v := 6) (by decide) dX8_recorded_8 ?_
    refine V_icmp_ne X (tgt := 54) (by decide) dX8_recorded_10 (fun q10 => ?_) (fun q10 => ?_)
    · have hf3 := ife hf2 q10
      refine V_iconst X (v := 0) (by decide) dX8_recorded_54 ?_
      refine V_istore_n X (by decide) rfl dX8_recorded_55 ?_
      exact V_sub [1, 2, 0] rfl (f8_recorded_L56_ok hE X FU _ _ _ hf3)
    · have hf3 := ift hf2 q10
      refine V_iconst X (v := 0) (by decide) dX8_recorded_13 ?_
      refine V_istore_n X (by decide) rfl dX8_recorded_14 ?_
      exact V_sub [1, 2, 0] rfl (f8_recorded_L15_ok hE X FU _ _ _ hf3)
def f8_recorded (x1 : Int32) (h : Hp) : Re := f8_recorded_e x1 h
theorem f8_recorded_ok (hE : IW E) {x1 : Int32} {h : Hp} {q : Int32 × Hp} (hf0 : f8_recorded x1 h = some q) : SMi l E 0 yX8_recorded cX8_recorded 3 (some .int) [.ref (eA E 12), .int x1] h q.1 q.2 :=
  SMi.of (by decide +kernel) (Nat.le_of_ble_eq_true rfl) (fun p e s m args below meth c A X => f8_recorded_e_ok hE X (r := q.1) (h' := q.2) hf0)
def f8_keepTrial_B2 (k2 : Int32 → Hp → Re) (x1 : Int32) (h : Hp) : Re :=
  if 383 ≤ x1 then (some (0, h)) else (if inB x1 383 = true then if inB x1 383 = true then (some (hu h 15 (Int32.toNatClampNeg x1) (h 13 (Int32.toNatClampNeg x1)))).bind fun h4 => k2 (x1 + 1) h4 else none else none)
set_option maxRecDepth 20000 in
set_option maxHeartbeats 4000000 in
theorem f8_keepTrial_B2_ok (hE : IW E) (X : XC E RX8 cX8_keepTrial 2 none A p s m args meth c) {k2 : Int32 → Hp → Re} (hk2 : ∀ (x1 : Int32) (h : Hp), k2 x1 h = some (r, h') → VM E 2 A p l e 0 s m args below meth c (Qv E A h') 2 [(0, .ref (eA E 12)), (1, .int x1)] [] h) {x1 : Int32} {h : Hp} (hf0 : f8_keepTrial_B2 k2 x1 h = some (r, h')) : VM E 2 A p l e 0 s m args below meth c (Qv E A h') 2 [(0, .ref (eA E 12)), (1, .int x1)] [] h := by
  unfold f8_keepTrial_B2 at hf0
  have hf1 := hf0
  refine V_iload_n X 1 rfl dX8_keepTrial_2 ?_
  refine V_sipush X (v := 383) (by decide) dX8_keepTrial_3 ?_
  refine V_icmp_ge X (tgt := 27) (by decide) dX8_keepTrial_6 (fun q6 => ?_) (fun q6 => ?_)
  · have hf2 := ift hf1 q6
    exact V_vret X rfl hf2 dX8_keepTrial_27
  · have hf2 := ife hf1 q6
    refine V_aload_n X 0 rfl dX8_keepTrial_9 ?_
    refine G_X8_2_16 hE X dX8_keepTrial_10 ?_
    refine V_iload_n X 1 rfl dX8_keepTrial_13 ?_
    refine V_aload_n X 0 rfl dX8_keepTrial_14 ?_
    refine G_X8_0_7 hE X dX8_keepTrial_15 ?_
    refine V_iload_n X 1 rfl dX8_keepTrial_18 ?_
    obtain ⟨g102, hf102⟩ := ogd hf2
    refine V_iald X (AR_13 hE) g102 dX8_keepTrial_19 ?_
    obtain ⟨g103, hf103⟩ := ogd hf102
    refine V_iast X (AR_15 hE) g103 dX8_keepTrial_20 ?_
    have hf6 := obs hf103
    refine V_iinc X (v := _ + 1) 1 rfl (by rfl) (by decide) rfl dX8_keepTrial_21 ?_
    refine V_goto X (tgt := 2) (by decide) dX8_keepTrial_24 ?_
    exact V_sub [1, 0] rfl (hk2 _ _ hf6)
def f8_keepTrial_L2 : Nat → Int32 → Hp → Re
  | 0 => fun _ _ => none
  | n + 1 => f8_keepTrial_B2 (f8_keepTrial_L2 n)
theorem f8_keepTrial_L2_s (n : Nat) (x1 : Int32) (h : Hp) : f8_keepTrial_L2 (n + 1) x1 h = f8_keepTrial_B2 (f8_keepTrial_L2 n) x1 h := rfl
theorem f8_keepTrial_L2_ok (hE : IW E) (X : XC E RX8 cX8_keepTrial 2 none A p s m args meth c) : ∀ (n : Nat) (x1 : Int32) (h : Hp), f8_keepTrial_L2 n x1 h = some (r, h') → VM E 2 A p l e 0 s m args below meth c (Qv E A h') 2 [(0, .ref (eA E 12)), (1, .int x1)] [] h := by
  intro n
  induction n with
  | zero =>
    intro x1 h q
    have q : (none : Re) = some (r, h') := q
    cases q
  | succ n ih =>
    intro x1 h q
    exact f8_keepTrial_B2_ok hE X ih q
def f8_keepTrial_e (h : Hp) : Re :=
  f8_keepTrial_L2 FU 0 h
set_option maxRecDepth 20000 in
set_option maxHeartbeats 4000000 in
theorem f8_keepTrial_e_ok (hE : IW E) (X : XC E RX8 cX8_keepTrial 2 none A p s m args meth c) {h : Hp} (hf0 : f8_keepTrial_e  h = some (r, h')) : VM E 2 A p l e 0 s m args below meth c (Qv E A h') 0 [(0, .ref (eA E 12))] [] h := by
  unfold f8_keepTrial_e at hf0
  have hf1 := hf0
  refine V_iconst X (v := 0) (by decide) dX8_keepTrial_0 ?_
  refine V_istore_n X (by decide) rfl dX8_keepTrial_1 ?_
  exact V_sub [1, 0] rfl (f8_keepTrial_L2_ok hE X FU _ _ hf1)
def f8_keepTrial (h : Hp) : Re := f8_keepTrial_e  h
theorem f8_keepTrial_ok (hE : IW E) {h : Hp} {q : Int32 × Hp} (hf0 : f8_keepTrial  h = some q) : SMv l E 0 yX8_keepTrial cX8_keepTrial 2 [.ref (eA E 12)] h q.2 :=
  SMv.of (by decide +kernel) (Nat.le_of_ble_eq_true rfl) (fun p e s m args below meth c A X => f8_keepTrial_e_ok hE X (r := q.1) (h' := q.2) hf0)
def f8_putBack_B2 (k2 : Int32 → Hp → Re) (x1 : Int32) (h : Hp) : Re :=
  if 383 ≤ x1 then (some (0, h)) else (if inB x1 383 = true then if inB x1 383 = true then (some (hu h 13 (Int32.toNatClampNeg x1) (h 15 (Int32.toNatClampNeg x1)))).bind fun h4 => k2 (x1 + 1) h4 else none else none)
set_option maxRecDepth 20000 in
set_option maxHeartbeats 4000000 in
theorem f8_putBack_B2_ok (hE : IW E) (X : XC E RX8 cX8_putBack 2 none A p s m args meth c) {k2 : Int32 → Hp → Re} (hk2 : ∀ (x1 : Int32) (h : Hp), k2 x1 h = some (r, h') → VM E 2 A p l e 0 s m args below meth c (Qv E A h') 2 [(0, .ref (eA E 12)), (1, .int x1)] [] h) {x1 : Int32} {h : Hp} (hf0 : f8_putBack_B2 k2 x1 h = some (r, h')) : VM E 2 A p l e 0 s m args below meth c (Qv E A h') 2 [(0, .ref (eA E 12)), (1, .int x1)] [] h := by
  unfold f8_putBack_B2 at hf0
  have hf1 := hf0
  refine V_iload_n X 1 rfl dX8_putBack_2 ?_
  refine V_sipush X (v := 383) (by decide) dX8_putBack_3 ?_
  refine V_icmp_ge X (tgt := 27) (by decide) dX8_putBack_6 (fun q6 => ?_) (fun q6 => ?_)
  · have hf2 := ift hf1 q6
    exact V_vret X rfl hf2 dX8_putBack_27
  · have hf2 := ife hf1 q6
    refine V_aload_n X 0 rfl dX8_putBack_9 ?_
    refine G_X8_0_7 hE X dX8_putBack_10 ?_
    refine V_iload_n X 1 rfl dX8_putBack_13 ?_
    refine V_aload_n X 0 rfl dX8_putBack_14 ?_
    refine G_X8_2_16 hE X dX8_putBack_15 ?_
    refine V_iload_n X 1 rfl dX8_putBack_18 ?_
    obtain ⟨g102, hf102⟩ := ogd hf2
    refine V_iald X (AR_15 hE) g102 dX8_putBack_19 ?_
    obtain ⟨g103, hf103⟩ := ogd hf102
    refine V_iast X (AR_13 hE) g103 dX8_putBack_20 ?_
    have hf6 := obs hf103
    refine V_iinc X (v := _ + 1) 1 rfl (by rfl) (by decide) rfl dX8_putBack_21 ?_
    refine V_goto X (tgt := 2) (by decide) dX8_putBack_24 ?_
    exact V_sub [1, 0] rfl (hk2 _ _ hf6)
def f8_putBack_L2 : Nat → Int32 → Hp → Re
  | 0 => fun _ _ => none
  | n + 1 => f8_putBack_B2 (f8_putBack_L2 n)
theorem f8_putBack_L2_s (n : Nat) (x1 : Int32) (h : Hp) : f8_putBack_L2 (n + 1) x1 h = f8_putBack_B2 (f8_putBack_L2 n) x1 h := rfl
theorem f8_putBack_L2_ok (hE : IW E) (X : XC E RX8 cX8_putBack 2 none A p s m args meth c) : ∀ (n : Nat) (x1 : Int32) (h : Hp), f8_putBack_L2 n x1 h = some (r, h') → VM E 2 A p l e 0 s m args below meth c (Qv E A h') 2 [(0, .ref (eA E 12)), (1, .int x1)] [] h := by
  intro n
  induction n with
  | zero =>
    intro x1 h q
    have q : (none : Re) = some (r, h') := q
    cases q
  | succ n ih =>
    intro x1 h q
    exact f8_putBack_B2_ok hE X ih q
def f8_putBack_e (h : Hp) : Re :=
  f8_putBack_L2 FU 0 h
set_option maxRecDepth 20000 in
set_option maxHeartbeats 4000000 in
theorem f8_putBack_e_ok (hE : IW E) (X : XC E RX8 cX8_putBack 2 none A p s m args meth c) {h : Hp} (hf0 : f8_putBack_e  h = some (r, h')) : VM E 2 A p l e 0 s m args below meth c (Qv E A h') 0 [(0, .ref (eA E 12))] [] h := by
  unfold f8_putBack_e at hf0
  have hf1 := hf0
  refine V_iconst X (v := 0) (by decide) dX8_putBack_0 ?_
  refine V_istore_n X (by decide) rfl dX8_putBack_1 ?_
  exact V_sub [1, 0] rfl (f8_putBack_L2_ok hE X FU _ _ hf1)
def f8_putBack (h : Hp) : Re := f8_putBack_e  h
theorem f8_putBack_ok (hE : IW E) {h : Hp} {q : Int32 × Hp} (hf0 : f8_putBack  h = some q) : SMv l E 0 yX8_putBack cX8_putBack 2 [.ref (eA E 12)] h q.2 :=
  SMv.of (by decide +kernel) (Nat.le_of_ble_eq_true rfl) (fun p e s m args below meth c A X => f8_putBack_e_ok hE X (r := q.1) (h' := q.2) hf0)
def f8_isMirrored_e (x1 : Int32) (h : Hp) : Re :=
  if (h 13 (Int32.toNatClampNeg 2)) = 1 then (if (x1 - x1 / 2 * 2) = 1 then (rz 1 h) else (rz 0 h)) else (rz 0 h)
set_option maxRecDepth 20000 in
set_option maxHeartbeats 4000000 in
theorem f8_isMirrored_e_ok (hE : IW E) (X : XC E RX8 cX8_isMirrored 2 (some .boolean) A p s m args meth c) {x1 : Int32} {h : Hp} (hf0 : f8_isMirrored_e x1 h = some (r, h')) : VM E 2 A p l e 0 s m args below meth c (Qi E A r h') 0 [(0, .ref (eA E 12)), (1, .int x1)] [] h := by
  unfold f8_isMirrored_e at hf0
  have hf1 := hf0
  refine V_aload_n X 0 rfl dX8_isMirrored_0 ?_
  refine G_X8_0_7 hE X dX8_isMirrored_1 ?_
  refine V_iconst X (v := 2) (by decide) dX8_isMirrored_4 ?_
  refine V_iald X (AR_13 hE) (by decide) dX8_isMirrored_5 ?_
  refine V_iconst X (v := 1) (by decide) dX8_isMirrored_6 ?_
  refine V_icmp_ne X (tgt := 21) (by decide) dX8_isMirrored_7 (fun q7 => ?_) (fun q7 => ?_)
  · have hf2 := ife hf1 q7
    refine V_iconst X (v := 0) (by decide) dX8_isMirrored_21 ?_
    exact V_zret X rfl hf2 dX8_isMirrored_22
  · have hf2 := ift hf1 q7
    refine V_iload_n X 1 rfl dX8_isMirrored_10 ?_
    refine V_iconst X (v := 2) (by decide) dX8_isMirrored_11 ?_
    refine V_irem X (by decide) dX8_isMirrored_12 ?_
    refine V_iconst X (v := 1) (by decide) dX8_isMirrored_13 ?_
    refine V_icmp_ne X (tgt := 21) (by decide) dX8_isMirrored_14 (fun q14 => ?_) (fun q14 => ?_)
    · have hf3 := ife hf2 q14
      refine V_iconst X (v := 0) (by decide) dX8_isMirrored_21 ?_
      exact V_zret X rfl hf3 dX8_isMirrored_22
    · have hf3 := ift hf2 q14
      refine V_iconst X (v := 1) (by decide) dX8_isMirrored_17 ?_
      refine V_goto X (tgt := 22) (by decide) dX8_isMirrored_18 ?_
      exact V_zret X rfl hf3 dX8_isMirrored_22
def f8_isMirrored (x1 : Int32) (h : Hp) : Re := f8_isMirrored_e x1 h
theorem f8_isMirrored_ok (hE : IW E) {x1 : Int32} {h : Hp} {q : Int32 × Hp} (hf0 : f8_isMirrored x1 h = some q) : SMi l E 0 yX8_isMirrored cX8_isMirrored 2 (some .boolean) [.ref (eA E 12), .int x1] h q.1 q.2 :=
  SMi.of (by decide +kernel) (Nat.le_of_ble_eq_true rfl) (fun p e s m args below meth c A X => f8_isMirrored_e_ok hE X (r := q.1) (h' := q.2) hf0)
def f8_mirrored_e (x1 : Int32) (x2 : Int32) (h : Hp) : Re :=
  (f8_isMirrored x1 h).bind fun c1 => if c1.1 = 0 then (some (x2, c1.2)) else (some (7 - x2, c1.2))
set_option maxRecDepth 20000 in
set_option maxHeartbeats 4000000 in
theorem f8_mirrored_e_ok (hE : IW E) (X : XC E RX8 cX8_mirrored 3 (some .int) A p s m args meth c) {x1 : Int32} {x2 : Int32} {h : Hp} (hf0 : f8_mirrored_e x1 x2 h = some (r, h')) : VM E 3 A p l e 1 s m args below meth c (Qi E A r h') 0 [(0, .ref (eA E 12)), (1, .int x1), (2, .int x2)] [] h := by
  unfold f8_mirrored_e at hf0
  have hf1 := hf0
  refine V_aload_n X 0 rfl dX8_mirrored_0 ?_
  refine V_iload_n X 1 rfl dX8_mirrored_1 ?_
  obtain ⟨c1, e_c1, hf3⟩ := obd hf1
  refine V_callVi X (OB_12 hE) rfl rfl (f8_isMirrored_ok hE e_c1) ys_X8_isMirrored yw_X8_isMirrored ml_X8_54 rfl rfl ⟨Nat.le_of_ble_eq_true rfl, Nat.le_of_ble_eq_true rfl⟩ ⟨Nat.zero_le _, Nat.zero_le _⟩ (Nat.le_of_ble_eq_true rfl) dX8_mirrored_2 ?_
  refine V_if_eq X (tgt := 15) (by decide) dX8_mirrored_5 (fun q5 => ?_) (fun q5 => ?_)
  · have hf4 := ift hf3 q5
    refine V_iload_n X 2 rfl dX8_mirrored_15 ?_
    exact V_iret X rfl hf4 dX8_mirrored_16
  · have hf4 := ife hf3 q5
    refine V_bipush X (v := 7) (by decide) dX8_mirrored_8 ?_
    refine V_iload_n X 2 rfl dX8_mirrored_10 ?_
    refine V_isub X dX8_mirrored_11 ?_
    refine V_goto X (tgt := 16) (by decide) dX8_mirrored_12 ?_
    exact V_iret X rfl hf4 dX8_mirrored_16
def f8_mirrored (x1 : Int32) (x2 : Int32) (h : Hp) : Re := f8_mirrored_e x1 x2 h
theorem f8_mirrored_ok (hE : IW E) {x1 : Int32} {x2 : Int32} {h : Hp} {q : Int32 × Hp} (hf0 : f8_mirrored x1 x2 h = some q) : SMi l E 1 yX8_mirrored cX8_mirrored 3 (some .int) [.ref (eA E 12), .int x1, .int x2] h q.1 q.2 :=
  SMi.of (by decide +kernel) (Nat.le_of_ble_eq_true rfl) (fun p e s m args below meth c A X => f8_mirrored_e_ok hE X (r := q.1) (h' := q.2) hf0)
def f8_wanted_e (x1 : Int32) (x2 : Int32) (x3 : Int32) (h : Hp) : Re :=
  if inB (18 + x2) 383 = true then if (h 13 (Int32.toNatClampNeg (18 + x2))) = 0 then (some ((-6), h)) else ((f8_mirrored x1 x3 h).bind fun c3 => if inB ((23 + (8 * x2)) + c3.1) 383 = true then some (c3.2 13 (Int32.toNatClampNeg ((23 + (8 * x2)) + c3.1)), c3.2) else none) else none
set_option maxRecDepth 20000 in
set_option maxHeartbeats 4000000 in
theorem f8_wanted_e_ok (hE : IW E) (X : XC E RX8 cX8_wanted 4 (some .int) A p s m args meth c) {x1 : Int32} {x2 : Int32} {x3 : Int32} {h : Hp} (hf0 : f8_wanted_e x1 x2 x3 h = some (r, h')) : VM E 4 A p l e 2 s m args below meth c (Qi E A r h') 0 [(0, .ref (eA E 12)), (1, .int x1), (2, .int x2), (3, .int x3)] [] h := by
  unfold f8_wanted_e at hf0
  have hf1 := hf0
  refine V_aload_n X 0 rfl dX8_wanted_0 ?_
  refine G_X8_0_7 hE X dX8_wanted_1 ?_
  refine V_bipush X (v := 18) (by decide) dX8_wanted_4 ?_
  refine V_iload_n X 2 rfl dX8_wanted_6 ?_
  refine V_iadd X dX8_wanted_7 ?_
  obtain ⟨g101, hf101⟩ := ogd hf1
  refine V_iald X (AR_13 hE) g101 dX8_wanted_8 ?_
  refine V_if_ne X (tgt := 17) (by decide) dX8_wanted_9 (fun q9 => ?_) (fun q9 => ?_)
  · have hf3 := ife hf101 q9
    refine V_aload_n X 0 rfl dX8_wanted_17 ?_
    refine G_X8_0_7 hE X dX8_wanted_18 ?_
    refine V_bipush X (v := 23) (by decide) dX8_wanted_21 ?_
    refine V_bipush X (v := 8) (by decide) dX8_wanted_23 ?_
    refine V_iload_n X 2 rfl dX8_wanted_25 ?_
    refine V_imul X dX8_wanted_26 ?_
    refine V_iadd X dX8_wanted_27 ?_
    refine V_aload_n X 0 rfl dX8_wanted_28 ?_
    refine V_iload_n X 1 rfl dX8_wanted_29 ?_
    refine V_iload_n X 3 rfl dX8_wanted_30 ?_
    obtain ⟨c3, e_c3, hf5⟩ := obd hf3
    refine V_callVi X (OB_12 hE) rfl rfl (f8_mirrored_ok hE e_c3) ys_X8_mirrored yw_X8_mirrored ml_X8_57 rfl rfl ⟨Nat.le_of_ble_eq_true rfl, Nat.le_of_ble_eq_true rfl⟩ ⟨Nat.zero_le _, Nat.zero_le _⟩ (Nat.le_of_ble_eq_true rfl) dX8_wanted_31 ?_
    refine V_iadd X dX8_wanted_34 ?_
    obtain ⟨g105, hf105⟩ := ogd hf5
    refine V_iald X (AR_13 hE) g105 dX8_wanted_35 ?_
    exact V_iret X rfl hf105 dX8_wanted_36
  · have hf3 := ift hf101 q9
    refine V_bipush X (v := -6) (by decide) dX8_wanted_12 ?_
    refine V_goto X (tgt := 36) (by decide) dX8_wanted_14 ?_
    exact V_iret X rfl hf3 dX8_wanted_36
def f8_wanted (x1 : Int32) (x2 : Int32) (x3 : Int32) (h : Hp) : Re := f8_wanted_e x1 x2 x3 h
theorem f8_wanted_ok (hE : IW E) {x1 : Int32} {x2 : Int32} {x3 : Int32} {h : Hp} {q : Int32 × Hp} (hf0 : f8_wanted x1 x2 x3 h = some q) : SMi l E 2 yX8_wanted cX8_wanted 4 (some .int) [.ref (eA E 12), .int x1, .int x2, .int x3] h q.1 q.2 :=
  SMi.of (by decide +kernel) (Nat.le_of_ble_eq_true rfl) (fun p e s m args below meth c A X => f8_wanted_e_ok hE X (r := q.1) (h' := q.2) hf0)
def f8_isRight_e (x1 : Int32) (x2 : Int32) (x3 : Int32) (h : Hp) : Re :=
  (f8_p x1 x2 x3 h).bind fun c1 => (f8_wanted x1 x2 x3 c1.2).bind fun c3 => if c3.1 = 0 then (if inB (c1.1 + 1) 383 = true then if (c3.2 13 (Int32.toNatClampNeg (c1.1 + 1))) = 0 then (rz 1 c3.2) else (rz 0 c3.2) else none) else (if c3.1 ≤ 0 then (rz 0 c3.2) else (if inB (c1.1 + 0) 383 = true then if (c3.2 13 (Int32.toNatClampNeg (c1.1 + 0))) = c3.1 then (if inB (c1.1 + 1) 383 = true then if (c3.2 13 (Int32.toNatClampNeg (c1.1 + 1))) < (c3.2 13 (Int32.toNatClampNeg 0)) then (rz 0 c3.2) else (rz 1 c3.2) else none) else (rz 0 c3.2) else none))
set_option maxRecDepth 20000 in
set_option maxHeartbeats 4000000 in
theorem f8_isRight_e_ok (hE : IW E) (X : XC E RX8 cX8_isRight 6 (some .boolean) A p s m args meth c) {x1 : Int32} {x2 : Int32} {x3 : Int32} {h : Hp} (hf0 : f8_isRight_e x1 x2 x3 h = some (r, h')) : VM E 6 A p l e 3 s m args below meth c (Qi E A r h') 0 [(0, .ref (eA E 12)), (1, .int x1), (2, .int x2), (3, .int x3)] [] h := by
  unfold f8_isRight_e at hf0
  have hf1 := hf0
  refine V_iload_n X 1 rfl dX8_isRight_0 ?_
  refine V_iload_n X 2 rfl dX8_isRight_1 ?_
  refine V_iload_n X 3 rfl dX8_isRight_2 ?_
  obtain ⟨c1, e_c1, hf3⟩ := obd hf1
  refine V_callSi X (f8_p_ok e_c1) ys_X8_p yw_X8_p ml_X8_61 rfl rfl ⟨Nat.le_of_ble_eq_true rfl, Nat.le_of_ble_eq_true rfl⟩ ⟨Nat.zero_le _, Nat.zero_le _⟩ (Nat.le_of_ble_eq_true rfl) dX8_isRight_3 ?_
  refine V_istore X (by decide) rfl dX8_isRight_6 ?_
  refine V_aload_n X 1 rfl dX8_isRight_8 ?_
  refine V_iload_n X 2 rfl dX8_isRight_9 ?_
  refine V_iload_n X 3 rfl dX8_isRight_10 ?_
  refine V_iload_n X 4 rfl dX8_isRight_11 ?_
  obtain ⟨c3, e_c3, hf5⟩ := obd hf3
  refine V_callVi X (OB_12 hE) rfl rfl (f8_wanted_ok hE e_c3) ys_X8_wanted yw_X8_wanted ml_X8_65 rfl rfl ⟨Nat.le_of_ble_eq_true rfl, Nat.le_of_ble_eq_true rfl⟩ ⟨Nat.zero_le _, Nat.zero_le _⟩ (Nat.le_of_ble_eq_true rfl) dX8_isRight_12 ?_
  refine V_istore X (by decide) rfl dX8_isRight_15 ?_
  refine V_iload X 0 rfl dX8_isRight_17 ?_
  refine V_if_ne X (tgt := 42) (by decide) dX8_isRight_19 (fun q19 => ?_) (fun q19 => ?_)
  · have hf6 := ife hf5 q19
    refine V_iload X 0 rfl dX8_isRight_42 ?_
    refine V_if_le X (tgt := 83) (by decide) dX8_isRight_44 (fun q44 => ?_) (fun q44 => ?_)
    · have hf7 := ift hf6 q44
      refine V_iconst X (v := 0) (by decide) dX8_isRight_83 ?_
      exact V_zret X rfl hf7 dX8_isRight_84
    · have hf7 := ife hf6 q44
      refine V_aload_n X 2 rfl dX8_isRight_47 ?_
      refine G_X8_0_7 hE X dX8_isRight_48 ?_
      refine V_iload X 1 rfl dX8_isRight_51 ?_
      refine V_iconst X (v := 0) (by decide) dX8_isRight_53 ?_
      refine V_iadd X dX8_isRight_54 ?_
      obtain ⟨g107, hf107⟩ := ogd hf7
      refine V_iald X (AR_13 hE) g107 dX8_isRight_55 ?_
      refine V_iload X 0 rfl dX8_isRight_56 ?_
      refine V_icmp_ne X (tgt := 83) (by decide) dX8_isRight_58 (fun q58 => ?_) (fun q58 => ?_)
      · have hf9 := ife hf107 q58
        refine V_iconst X (v := 0) (by decide) dX8_isRight_83 ?_
        exact V_zret X rfl hf9 dX8_isRight_84
      · have hf9 := ift hf107 q58
        refine V_aload_n X 2 rfl dX8_isRight_61 ?_
        refine G_X8_0_7 hE X dX8_isRight_62 ?_
        refine V_iload X 1 rfl dX8_isRight_65 ?_
        refine V_iconst X (v := 1) (by decide) dX8_isRight_67 ?_
        refine V_iadd X dX8_isRight_68 ?_
        obtain ⟨g109, hf109⟩ := ogd hf9
        refine V_iald X (AR_13 hE) g109 dX8_isRight_69 ?_
        refine V_aload_n X 2 rfl dX8_isRight_70 ?_
        refine G_X8_0_7 hE X dX8_isRight_71 ?_
        refine V_iconst X (v := 0) (by decide) dX8_isRight_74 ?_
        refine V_iald X (AR_13 hE) (by decide) dX8_isRight_75 ?_
        refine V_icmp_lt X (tgt := 83) (by decide) dX8_isRight_76 (fun q76 => ?_) (fun q76 => ?_)
        · have hf11 := ift hf109 q76
          refine V_iconst X (v := 0) (by decide) dX8_isRight_83 ?_
          exact V_zret X rfl hf11 dX8_isRight_84
        · have hf11 := ife hf109 q76
          refine V_iconst X (v := 1) (by decide) dX8_isRight_79 ?_
          refine V_goto X (tgt := 84) (by decide) dX8_isRight_80 ?_
          exact V_zret X rfl hf11 dX8_isRight_84
  · have hf6 := ift hf5 q19
    refine V_aload_n X 2 rfl dX8_isRight_22 ?_
    refine G_X8_0_7 hE X dX8_isRight_23 ?_
    refine V_iload X 1 rfl dX8_isRight_26 ?_
    refine V_iconst X (v := 1) (by decide) dX8_isRight_28 ?_
    refine V_iadd X dX8_isRight_29 ?_
    obtain ⟨g111, hf111⟩ := ogd hf6
    refine V_iald X (AR_13 hE) g111 dX8_isRight_30 ?_
    refine V_if_ne X (tgt := 38) (by decide) dX8_isRight_31 (fun q31 => ?_) (fun q31 => ?_)
    · have hf13 := ife hf111 q31
      refine V_iconst X (v := 0) (by decide) dX8_isRight_38 ?_
      refine V_goto X (tgt := 84) (by decide) dX8_isRight_39 ?_
      exact V_zret X rfl hf13 dX8_isRight_84
    · have hf13 := ift hf111 q31
      refine V_iconst X (v := 1) (by decide) dX8_isRight_34 ?_
      refine V_goto X (tgt := 84) (by decide) dX8_isRight_35 ?_
      exact V_zret X rfl hf13 dX8_isRight_84
def f8_isRight (x1 : Int32) (x2 : Int32) (x3 : Int32) (h : Hp) : Re := f8_isRight_e x1 x2 x3 h
theorem f8_isRight_ok (hE : IW E) {x1 : Int32} {x2 : Int32} {x3 : Int32} {h : Hp} {q : Int32 × Hp} (hf0 : f8_isRight x1 x2 x3 h = some q) : SMi l E 3 yX8_isRight cX8_isRight 6 (some .boolean) [.ref (eA E 12), .int x1, .int x2, .int x3] h q.1 q.2 :=
  SMi.of (by decide +kernel) (Nat.le_of_ble_eq_true rfl) (fun p e s m args below meth c A X => f8_isRight_e_ok hE X (r := q.1) (h' := q.2) hf0)
def f8_missing_j44 (x5 : Int32) (y0 : Int32) (h : Hp) : Re :=
  if x5 ≤ 0 then (some (0, h)) else (if y0 < (h 13 (Int32.toNatClampNeg 0)) then (some ((h 13 (Int32.toNatClampNeg 0)) - y0, h)) else (some (0, h)))
set_option maxRecDepth 20000 in
set_option maxHeartbeats 4000000 in
theorem f8_missing_j44_ok (hE : IW E) (X : XC E RX8 cX8_missing 7 (some .int) A p s m args meth c) {x5 : Int32} {y0 : Int32} {h : Hp} (hf0 : f8_missing_j44 x5 y0 h = some (r, h')) : VM E 7 A p l e 3 s m args below meth c (Qi E A r h') 44 [(0, .ref (eA E 12)), (5, .int x5)] [.int y0] h := by
  unfold f8_missing_j44 at hf0
  have hf1 := hf0
  refine V_istore X (by decide) rfl dX8_missing_44 ?_
  refine V_iload X 2 rfl dX8_missing_46 ?_
  refine V_if_le X (tgt := 62) (by decide) dX8_missing_48 (fun q48 => ?_) (fun q48 => ?_)
  · have hf2 := ift hf1 q48
    refine V_iconst X (v := 0) (by decide) dX8_missing_62 ?_
    refine V_goto X (tgt := 75) (by decide) dX8_missing_63 ?_
    exact V_iret X rfl hf2 dX8_missing_75
  · have hf2 := ife hf1 q48
    refine V_iload X 0 rfl dX8_missing_51 ?_
    refine V_aload_n X 1 rfl dX8_missing_53 ?_
    refine G_X8_0_7 hE X dX8_missing_54 ?_
    refine V_iconst X (v := 0) (by decide) dX8_missing_57 ?_
    refine V_iald X (AR_13 hE) (by decide) dX8_missing_58 ?_
    refine V_icmp_lt X (tgt := 66) (by decide) dX8_missing_59 (fun q59 => ?_) (fun q59 => ?_)
    · have hf3 := ift hf2 q59
      refine V_aload_n X 1 rfl dX8_missing_66 ?_
      refine G_X8_0_7 hE X dX8_missing_67 ?_
      refine V_iconst X (v := 0) (by decide) dX8_missing_70 ?_
      refine V_iald X (AR_13 hE) (by decide) dX8_missing_71 ?_
      refine V_iload X 0 rfl dX8_missing_72 ?_
      refine V_isub X dX8_missing_74 ?_
      exact V_iret X rfl hf3 dX8_missing_75
    · have hf3 := ife hf2 q59
      refine V_iconst X (v := 0) (by decide) dX8_missing_62 ?_
      refine V_goto X (tgt := 75) (by decide) dX8_missing_63 ?_
      exact V_iret X rfl hf3 dX8_missing_75
def f8_missing_e (x1 : Int32) (x2 : Int32) (x3 : Int32) (h : Hp) : Re :=
  (f8_p x1 x2 x3 h).bind fun c1 => (f8_wanted x1 x2 x3 c1.2).bind fun c3 => if inB (c1.1 + 0) 383 = true then if (c3.2 13 (Int32.toNatClampNeg (c1.1 + 0))) = c3.1 then (if inB (c1.1 + 1) 383 = true then f8_missing_j44 c3.1 (c3.2 13 (Int32.toNatClampNeg (c1.1 + 1))) c3.2 else none) else (f8_missing_j44 c3.1 0 c3.2) else none
set_option maxRecDepth 20000 in
set_option maxHeartbeats 4000000 in
theorem f8_missing_e_ok (hE : IW E) (X : XC E RX8 cX8_missing 7 (some .int) A p s m args meth c) {x1 : Int32} {x2 : Int32} {x3 : Int32} {h : Hp} (hf0 : f8_missing_e x1 x2 x3 h = some (r, h')) : VM E 7 A p l e 3 s m args below meth c (Qi E A r h') 0 [(0, .ref (eA E 12)), (1, .int x1), (2, .int x2), (3, .int x3)] [] h := by
  unfold f8_missing_e at hf0
  have hf1 := hf0
  refine V_iload_n X 1 rfl dX8_missing_0 ?_
  refine V_iload_n X 2 rfl dX8_missing_1 ?_
  refine V_iload_n X 3 rfl dX8_missing_2 ?_
  obtain ⟨c1, e_c1, hf3⟩ := obd hf1
  refine V_callSi X (f8_p_ok e_c1) ys_X8_p yw_X8_p ml_X8_61 rfl rfl ⟨Nat.le_of_ble_eq_true rfl, Nat.le_of_ble_eq_true rfl⟩ ⟨Nat.zero_le _, Nat.zero_le _⟩ (Nat.le_of_ble_eq_true rfl) dX8_missing_3 ?_
  refine V_istore X (by decide) rfl dX8_missing_6 ?_
  refine V_aload_n X 1 rfl dX8_missing_8 ?_
  refine V_iload_n X 2 rfl dX8_missing_9 ?_
  refine V_iload_n X 3 rfl dX8_missing_10 ?_
  refine V_iload_n X 4 rfl dX8_missing_11 ?_
  obtain ⟨c3, e_c3, hf5⟩ := obd hf3
  refine V_callVi X (OB_12 hE) rfl rfl (f8_wanted_ok hE e_c3) ys_X8_wanted yw_X8_wanted ml_X8_65 rfl rfl ⟨Nat.le_of_ble_eq_true rfl, Nat.le_of_ble_eq_true rfl⟩ ⟨Nat.zero_le _, Nat.zero_le _⟩ (Nat.le_of_ble_eq_true rfl) dX8_missing_12 ?_
  refine V_istore X (by decide) rfl dX8_missing_15 ?_
  refine V_aload_n X 2 rfl dX8_missing_17 ?_
  refine G_X8_0_7 hE X dX8_missing_18 ?_
  refine V_iload X 1 rfl dX8_missing_21 ?_
  refine V_iconst X (v := 0) (by decide) dX8_missing_23 ?_
  refine V_iadd X dX8_missing_24 ?_
  obtain ⟨g105, hf105⟩ := ogd hf5
  refine V_iald X (AR_13 hE) g105 dX8_missing_25 ?_
  refine V_iload X 0 rfl dX8_missing_26 ?_
  refine V_icmp_ne X (tgt := 43) (by decide) dX8_missing_28 (fun q28 => ?_) (fun q28 => ?_)
  · have hf7 := ife hf105 q28
    refine V_iconst X (v := 0) (by decide) dX8_missing_43 ?_
    exact V_sub [2, 0] rfl (f8_missing_j44_ok hE X hf7)
  · have hf7 := ift hf105 q28
    refine V_aload_n X 2 rfl dX8_missing_31 ?_
    refine G_X8_0_7 hE X dX8_missing_32 ?_
    refine V_iload X 1 rfl dX8_missing_35 ?_
    refine V_iconst X (v := 1) (by decide) dX8_missing_37 ?_
    refine V_iadd X dX8_missing_38 ?_
    obtain ⟨g107, hf107⟩ := ogd hf7
    refine V_iald X (AR_13 hE) g107 dX8_missing_39 ?_
    refine V_goto X (tgt := 44) (by decide) dX8_missing_40 ?_
    exact V_sub [2, 0] rfl (f8_missing_j44_ok hE X hf107)
def f8_missing (x1 : Int32) (x2 : Int32) (x3 : Int32) (h : Hp) : Re := f8_missing_e x1 x2 x3 h
theorem f8_missing_ok (hE : IW E) {x1 : Int32} {x2 : Int32} {x3 : Int32} {h : Hp} {q : Int32 × Hp} (hf0 : f8_missing x1 x2 x3 h = some q) : SMi l E 3 yX8_missing cX8_missing 7 (some .int) [.ref (eA E 12), .int x1, .int x2, .int x3] h q.1 q.2 :=
  SMi.of (by decide +kernel) (Nat.le_of_ble_eq_true rfl) (fun p e s m args below meth c A X => f8_missing_e_ok hE X (r := q.1) (h' := q.2) hf0)
def f8_isWhole_B4 (k4 : Int32 → Int32 → Int32 → Hp → Re) (x1 : Int32) (x2 : Int32) (x3 : Int32) (h : Hp) : Re :=
  if 32 ≤ x3 then (rz x2 h) else (if x2 = 0 then (k4 x1 0 (x3 + 1) h) else ((f8_isRight (x3 / 8) x1 (x3 - x3 / 8 * 8) h).bind fun c3 => if c3.1 = 0 then (k4 x1 0 (x3 + 1) c3.2) else (k4 x1 1 (x3 + 1) c3.2)))
set_option maxRecDepth 20000 in
set_option maxHeartbeats 4000000 in
theorem f8_isWhole_B4_ok (hE : IW E) (X : XC E RX8 cX8_isWhole 4 (some .boolean) A p s m args meth c) {k4 : Int32 → Int32 → Int32 → Hp → Re} (hk4 : ∀ (x1 : Int32) (x2 : Int32) (x3 : Int32) (h : Hp), k4 x1 x2 x3 h = some (r, h') → VM E 4 A p l e 4 s m args below meth c (Qi E A r h') 4 [(0, .ref (eA E 12)), (1, .int x1), (2, .int x2), (3, .int x3)] [] h) {x1 : Int32} {x2 : Int32} {x3 : Int32} {h : Hp} (hf0 : f8_isWhole_B4 k4 x1 x2 x3 h = some (r, h')) : VM E 4 A p l e 4 s m args below meth c (Qi E A r h') 4 [(0, .ref (eA E 12)), (1, .int x1), (2, .int x2), (3, .int x3)] [] h := by
  unfold f8_isWhole_B4 at hf0
  have hf1 := hf0
  refine V_iload_n X 3 rfl dX8_isWhole_4 ?_
  refine V_bipush X (v := 32) (by decide) dX8_isWhole_5 ?_
  refine V_icmp_ge X (tgt := 42) (by decide) dX8_isWhole_7 (fun q7 => ?_) (fun q7 => ?_)
  · have hf2 := ift hf1 q7
    refine V_iload_n X 2 rfl dX8_isWhole_42 ?_
    exact V_zret X rfl hf2 dX8_isWhole_43
  · have hf2 := ife hf1 q7
    refine V_iload_n X 2 rfl dX8_isWhole_10 ?_
    refine V_if_eq X (tgt := 34) (by decide) dX8_isWhole_11 (fun q11 => ?_) (fun q11 => ?_)
    · have hf3 := ift hf2 q11
      refine V_iconst X (v := 0) (by decide) dX8_isWhole_34 ?_
      refine V_istore_n X (by decide) rfl dX8_isWhole_35 ?_
      refine V_iinc X (v := _ + 1) 3 rfl (by rfl) (by decide) rfl dX8_isWhole_36 ?_
      refine V_goto X (tgt := 4) (by decide) dX8_isWhole_39 ?_
      exact V_sub [2, 3, 1, 0] rfl (hk4 _ _ _ _ hf3)
    · have hf3 := ife hf2 q11
      refine V_aload_n X 0 rfl dX8_isWhole_14 ?_
      refine V_iload_n X 3 rfl dX8_isWhole_15 ?_
      refine V_bipush X (v := 8) (by decide) dX8_isWhole_16 ?_
      refine V_idiv X (by decide) dX8_isWhole_18 ?_
      refine V_iload_n X 1 rfl dX8_isWhole_19 ?_
      refine V_iload_n X 3 rfl dX8_isWhole_20 ?_
      refine V_bipush X (v := 8) (by decide) dX8_isWhole_21 ?_
      refine V_irem X (by decide) dX8_isWhole_23 ?_
      obtain ⟨c3, e_c3, hf5⟩ := obd hf3
      refine V_callVi X (OB_12 hE) rfl rfl (f8_isRight_ok hE e_c3) ys_X8_isRight yw_X8_isRight ml_X8_68 rfl rfl ⟨Nat.le_of_ble_eq_true rfl, Nat.le_of_ble_eq_true rfl⟩ ⟨Nat.zero_le _, Nat.zero_le _⟩ (Nat.le_of_ble_eq_true rfl) dX8_isWhole_24 ?_
      refine V_if_eq X (tgt := 34) (by decide) dX8_isWhole_27 (fun q27 => ?_) (fun q27 => ?_)
      · have hf6 := ift hf5 q27
        refine V_iconst X (v := 0) (by decide) dX8_isWhole_34 ?_
        refine V_istore_n X (by decide) rfl dX8_isWhole_35 ?_
        refine V_iinc X (v := _ + 1) 3 rfl (by rfl) (by decide) rfl dX8_isWhole_36 ?_
        refine V_goto X (tgt := 4) (by decide) dX8_isWhole_39 ?_
        exact V_sub [2, 3, 1, 0] rfl (hk4 _ _ _ _ hf6)
      · have hf6 := ife hf5 q27
        refine V_iconst X (v := 1) (by decide) dX8_isWhole_30 ?_
        refine V_goto X (tgt := 35) (by decide) dX8_isWhole_31 ?_
        refine V_istore_n X (by decide) rfl dX8_isWhole_35 ?_
        refine V_iinc X (v := _ + 1) 3 rfl (by rfl) (by decide) rfl dX8_isWhole_36 ?_
        refine V_goto X (tgt := 4) (by decide) dX8_isWhole_39 ?_
        exact V_sub [2, 3, 1, 0] rfl (hk4 _ _ _ _ hf6)
def f8_isWhole_L4 : Nat → Int32 → Int32 → Int32 → Hp → Re
  | 0 => fun _ _ _ _ => none
  | n + 1 => f8_isWhole_B4 (f8_isWhole_L4 n)
theorem f8_isWhole_L4_s (n : Nat) (x1 : Int32) (x2 : Int32) (x3 : Int32) (h : Hp) : f8_isWhole_L4 (n + 1) x1 x2 x3 h = f8_isWhole_B4 (f8_isWhole_L4 n) x1 x2 x3 h := rfl
theorem f8_isWhole_L4_ok (hE : IW E) (X : XC E RX8 cX8_isWhole 4 (some .boolean) A p s m args meth c) : ∀ (n : Nat) (x1 : Int32) (x2 : Int32) (x3 : Int32) (h : Hp), f8_isWhole_L4 n x1 x2 x3 h = some (r, h') → VM E 4 A p l e 4 s m args below meth c (Qi E A r h') 4 [(0, .ref (eA E 12)), (1, .int x1), (2, .int x2), (3, .int x3)] [] h := by
  intro n
  induction n with
  | zero =>
    intro x1 x2 x3 h q
    have q : (none : Re) = some (r, h') := q
    cases q
  | succ n ih =>
    intro x1 x2 x3 h q
    exact f8_isWhole_B4_ok hE X ih q
def f8_isWhole_e (x1 : Int32) (h : Hp) : Re :=
  f8_isWhole_L4 FU x1 1 0 h
set_option maxRecDepth 20000 in
set_option maxHeartbeats 4000000 in
theorem f8_isWhole_e_ok (hE : IW E) (X : XC E RX8 cX8_isWhole 4 (some .boolean) A p s m args meth c) {x1 : Int32} {h : Hp} (hf0 : f8_isWhole_e x1 h = some (r, h')) : VM E 4 A p l e 4 s m args below meth c (Qi E A r h') 0 [(0, .ref (eA E 12)), (1, .int x1)] [] h := by
  unfold f8_isWhole_e at hf0
  have hf1 := hf0
  refine V_iconst X (v := 1) (by decide) dX8_isWhole_0 ?_
  refine V_istore_n X (by decide) rfl dX8_isWhole_1 ?_
  refine V_iconst X (v := 0) (by decide) dX8_isWhole_2 ?_
  refine V_istore_n X (by decide) rfl dX8_isWhole_3 ?_
  exact V_sub [2, 3, 1, 0] rfl (f8_isWhole_L4_ok hE X FU _ _ _ _ hf1)
def f8_isWhole (x1 : Int32) (h : Hp) : Re := f8_isWhole_e x1 h
theorem f8_isWhole_ok (hE : IW E) {x1 : Int32} {h : Hp} {q : Int32 × Hp} (hf0 : f8_isWhole x1 h = some q) : SMi l E 4 yX8_isWhole cX8_isWhole 4 (some .boolean) [.ref (eA E 12), .int x1] h q.1 q.2 :=
  SMi.of (by decide +kernel) (Nat.le_of_ble_eq_true rfl) (fun p e s m args below meth c A X => f8_isWhole_e_ok hE X (r := q.1) (h' := q.2) hf0)
def f8_isOpen_e (x1 : Int32) (h : Hp) : Re :=
  if x1 < (h 13 (Int32.toNatClampNeg 3)) then (rz 0 h) else (rz 1 h)
set_option maxRecDepth 20000 in
set_option maxHeartbeats 4000000 in
theorem f8_isOpen_e_ok (hE : IW E) (X : XC E RX8 cX8_isOpen 2 (some .boolean) A p s m args meth c) {x1 : Int32} {h : Hp} (hf0 : f8_isOpen_e x1 h = some (r, h')) : VM E 2 A p l e 0 s m args below meth c (Qi E A r h') 0 [(0, .ref (eA E 12)), (1, .int x1)] [] h := by
  unfold f8_isOpen_e at hf0
  have hf1 := hf0
  refine V_iload_n X 1 rfl dX8_isOpen_0 ?_
  refine V_aload_n X 0 rfl dX8_isOpen_1 ?_
  refine G_X8_0_7 hE X dX8_isOpen_2 ?_
  refine V_iconst X (v := 3) (by decide) dX8_isOpen_5 ?_
  refine V_iald X (AR_13 hE) (by decide) dX8_isOpen_6 ?_
  refine V_icmp_lt X (tgt := 14) (by decide) dX8_isOpen_7 (fun q7 => ?_) (fun q7 => ?_)
  · have hf2 := ift hf1 q7
    refine V_iconst X (v := 0) (by decide) dX8_isOpen_14 ?_
    exact V_zret X rfl hf2 dX8_isOpen_15
  · have hf2 := ife hf1 q7
    refine V_iconst X (v := 1) (by decide) dX8_isOpen_10 ?_
    refine V_goto X (tgt := 15) (by decide) dX8_isOpen_11 ?_
    exact V_zret X rfl hf2 dX8_isOpen_15
def f8_isOpen (x1 : Int32) (h : Hp) : Re := f8_isOpen_e x1 h
theorem f8_isOpen_ok (hE : IW E) {x1 : Int32} {h : Hp} {q : Int32 × Hp} (hf0 : f8_isOpen x1 h = some q) : SMi l E 0 yX8_isOpen cX8_isOpen 2 (some .boolean) [.ref (eA E 12), .int x1] h q.1 q.2 :=
  SMi.of (by decide +kernel) (Nat.le_of_ble_eq_true rfl) (fun p e s m args below meth c A X => f8_isOpen_e_ok hE X (r := q.1) (h' := q.2) hf0)
def f8_puts_j16 (x1 : Int32) (x3 : Int32) (y0 : Int32) (y1 : Int32) (h : Hp) : Re :=
  if inB y1 383 = true then (some (hu h 13 (Int32.toNatClampNeg y1) y0)).bind fun h2 => if inB (x1 + 1) 383 = true then (some (hu h2 13 (Int32.toNatClampNeg (x1 + 1)) x3)).bind fun h5 => some (0, h5) else none else none
set_option maxRecDepth 20000 in
set_option maxHeartbeats 4000000 in
theorem f8_puts_j16_ok (hE : IW E) (X : XC E RX8 cX8_puts 4 none A p s m args meth c) {x1 : Int32} {x3 : Int32} {y0 : Int32} {y1 : Int32} {h : Hp} (hf0 : f8_puts_j16 x1 x3 y0 y1 h = some (r, h')) : VM E 4 A p l e 0 s m args below meth c (Qv E A h') 16 [(0, .ref (eA E 12)), (1, .int x1), (3, .int x3)] [.int y0, .int y1, .ref (eA E 13)] h := by
  unfold f8_puts_j16 at hf0
  have hf1 := hf0
  obtain ⟨g101, hf101⟩ := ogd hf1
  refine V_iast X (AR_13 hE) g101 dX8_puts_16 ?_
  have hf4 := obs hf101
  refine V_aload_n X 0 rfl dX8_puts_17 ?_
  refine G_X8_0_7 hE X dX8_puts_18 ?_
  refine V_iload_n X 1 rfl dX8_puts_21 ?_
  refine V_iconst X (v := 1) (by decide) dX8_puts_22 ?_
  refine V_iadd X dX8_puts_23 ?_
  refine V_iload_n X 2 rfl dX8_puts_24 ?_
  obtain ⟨g104, hf104⟩ := ogd hf4
  refine V_iast X (AR_13 hE) g104 dX8_puts_25 ?_
  have hf7 := obs hf104
  exact V_vret X rfl hf7 dX8_puts_26
def f8_puts_e (x1 : Int32) (x2 : Int32) (x3 : Int32) (h : Hp) : Re :=
  if x3 = 0 then (f8_puts_j16 x1 x3 0 (x1 + 0) h) else (f8_puts_j16 x1 x3 x2 (x1 + 0) h)
set_option maxRecDepth 20000 in
set_option maxHeartbeats 4000000 in
theorem f8_puts_e_ok (hE : IW E) (X : XC E RX8 cX8_puts 4 none A p s m args meth c) {x1 : Int32} {x2 : Int32} {x3 : Int32} {h : Hp} (hf0 : f8_puts_e x1 x2 x3 h = some (r, h')) : VM E 4 A p l e 0 s m args below meth c (Qv E A h') 0 [(0, .ref (eA E 12)), (1, .int x1), (2, .int x2), (3, .int x3)] [] h := by
  unfold f8_puts_e at hf0
  have hf1 := hf0
  refine V_aload_n X 0 rfl dX8_puts_0 ?_
  refine G_X8_0_7 hE X dX8_puts_1 ?_
  refine V_iload_n X 1 rfl dX8_puts_4 ?_
  refine V_iconst X (v := 0) (by decide) dX8_puts_5 ?_
  refine V_iadd X dX8_puts_6 ?_
  refine V_iload_n X 3 rfl dX8_puts_7 ?_
  refine V_if_ne X (tgt := 15) (by decide) dX8_puts_8 (fun q8 => ?_) (fun q8 => ?_)
  · have hf2 := ife hf1 q8
    refine V_iload_n X 2 rfl dX8_puts_15 ?_
    exact V_sub [0, 1, 3] rfl (f8_puts_j16_ok hE X hf2)
  · have hf2 := ift hf1 q8
    refine V_iconst X (v := 0) (by decide) dX8_puts_11 ?_
    refine V_goto X (tgt := 16) (by decide) dX8_puts_12 ?_
    exact V_sub [0, 1, 3] rfl (f8_puts_j16_ok hE X hf2)
def f8_puts (x1 : Int32) (x2 : Int32) (x3 : Int32) (h : Hp) : Re := f8_puts_e x1 x2 x3 h
theorem f8_puts_ok (hE : IW E) {x1 : Int32} {x2 : Int32} {x3 : Int32} {h : Hp} {q : Int32 × Hp} (hf0 : f8_puts x1 x2 x3 h = some q) : SMv l E 0 yX8_puts cX8_puts 4 [.ref (eA E 12), .int x1, .int x2, .int x3] h q.2 :=
  SMv.of (by decide +kernel) (Nat.le_of_ble_eq_true rfl) (fun p e s m args below meth c A X => f8_puts_e_ok hE X (r := q.1) (h' := q.2) hf0)
def f8_patterns_B99 (k99 : Int32 → Int32 → Int32 → Int32 → Hp → Re) (x1 : Int32) (x2 : Int32) (x4 : Int32) (x5 : Int32) (h : Hp) : Re :=
  if 8 ≤ x5 then (some (x4, h)) else (if inB ((23 + (8 * x1)) + x5) 383 = true then (some (hu h 13 (Int32.toNatClampNeg ((23 + (8 * x1)) + x5)) ((x2 >>> ((3 * x5) &&& 31)) &&& 7))).bind fun h3 => k99 x1 x2 x4 (x5 + 1) h3 else none)
set_option maxRecDepth 20000 in
set_option maxHeartbeats 4000000 in
theorem f8_patterns_B99_ok (hE : IW E) (X : XC E RX8 cX8_patterns 6 (some .int) A p s m args meth c) {k99 : Int32 → Int32 → Int32 → Int32 → Hp → Re} (hk99 : ∀ (x1 : Int32) (x2 : Int32) (x4 : Int32) (x5 : Int32) (h : Hp), k99 x1 x2 x4 x5 h = some (r, h') → VM E 6 A p l e 2 s m args below meth c (Qi E A r h') 99 [(0, .ref (eA E 12)), (1, .int x1), (2, .int x2), (4, .int x4), (5, .int x5)] [] h) {x1 : Int32} {x2 : Int32} {x4 : Int32} {x5 : Int32} {h : Hp} (hf0 : f8_patterns_B99 k99 x1 x2 x4 x5 h = some (r, h')) : VM E 6 A p l e 2 s m args below meth c (Qi E A r h') 99 [(0, .ref (eA E 12)), (1, .int x1), (2, .int x2), (4, .int x4), (5, .int x5)] [] h := by
  unfold f8_patterns_B99 at hf0
  have hf1 := hf0
  refine V_iload X 4 rfl dX8_patterns_99 ?_
  refine V_bipush X (v := 8) (by decide) dX8_patterns_101 ?_
  refine V_icmp_ge X (tgt := 136) (by decide) dX8_patterns_103 (fun q103 => ?_) (fun q103 => ?_)
  · have hf2 := ift hf1 q103
    refine V_iload X 3 rfl dX8_patterns_136 ?_
    exact V_iret X rfl hf2 dX8_patterns_138
  · have hf2 := ife hf1 q103
    refine V_aload_n X 0 rfl dX8_patterns_106 ?_
    refine G_X8_0_7 hE X dX8_patterns_107 ?_
    refine V_bipush X (v := 23) (by decide) dX8_patterns_110 ?_
    refine V_bipush X (v := 8) (by decide) dX8_patterns_112 ?_
    refine V_iload_n X 1 rfl dX8_patterns_114 ?_
    refine V_imul X dX8_patterns_115 ?_
    refine V_iadd X dX8_patterns_116 ?_
    refine V_iload X 4 rfl dX8_patterns_117 ?_
    refine V_iadd X dX8_patterns_119 ?_
    refine V_iload_n X 2 rfl dX8_patterns_120 ?_
    refine V_iconst X (v := 3) (by decide) dX8_patterns_121 ?_
    refine V_iload X 4 rfl dX8_patterns_122 ?_
    refine V_imul X dX8_patterns_124 ?_
    refine V_ishr X dX8_patterns_125 ?_
    refine V_bipush X (v := 7) (by decide) dX8_patterns_126 ?_
    refine V_iand X dX8_patterns_128 ?_
    obtain ⟨g102, hf102⟩ := ogd hf2
    refine V_iast X (AR_13 hE) g102 dX8_patterns_129 ?_
    have hf5 := obs hf102
    refine V_iinc X (v := _ + 1) 4 rfl (by rfl) (by decide) rfl dX8_patterns_130 ?_
    refine V_goto X (tgt := 99) (by decide) dX8_patterns_133 ?_
    exact V_sub [1, 2, 3, 4, 0] rfl (hk99 _ _ _ _ _ hf5)
def f8_patterns_L99 : Nat → Int32 → Int32 → Int32 → Int32 → Hp → Re
  | 0 => fun _ _ _ _ _ => none
  | n + 1 => f8_patterns_B99 (f8_patterns_L99 n)
theorem f8_patterns_L99_s (n : Nat) (x1 : Int32) (x2 : Int32) (x4 : Int32) (x5 : Int32) (h : Hp) : f8_patterns_L99 (n + 1) x1 x2 x4 x5 h = f8_patterns_B99 (f8_patterns_L99 n) x1 x2 x4 x5 h := rfl
theorem f8_patterns_L99_ok (hE : IW E) (X : XC E RX8 cX8_patterns 6 (some .int) A p s m args meth c) : ∀ (n : Nat) (x1 : Int32) (x2 : Int32) (x4 : Int32) (x5 : Int32) (h : Hp), f8_patterns_L99 n x1 x2 x4 x5 h = some (r, h') → VM E 6 A p l e 2 s m args below meth c (Qi E A r h') 99 [(0, .ref (eA E 12)), (1, .int x1), (2, .int x2), (4, .int x4), (5, .int x5)] [] h := by
  intro n
  induction n with
  | zero =>
    intro x1 x2 x4 x5 h q
    have q : (none : Re) = some (r, h') := q
    cases q
  | succ n ih =>
    intro x1 x2 x4 x5 h q
    exact f8_patterns_B99_ok hE X ih q
def f8_patterns_B20 (k20 : Int32 → Int32 → Int32 → Int32 → Hp → Re) (x1 : Int32) (x2 : Int32) (x3 : Int32) (x4 : Int32) (h : Hp) : Re :=
  if 8 ≤ x4 then (if x3 = 0 then (some ((-2), h)) else ((f8_isOpen x1 h).bind fun c3 => if c3.1 = 0 then (some ((-5), c3.2)) else (if inB (18 + x1) 383 = true then (some (c3.2 13 (Int32.toNatClampNeg (18 + x1)) : Int32)).bind fun z7 => if inB (18 + x1) 383 = true then (some (hu c3.2 13 (Int32.toNatClampNeg (18 + x1)) 1)).bind fun h10 => f8_patterns_L99 FU x1 x2 z7 0 h10 else none else none))) else (if x3 = 0 then (k20 x1 x2 0 (x4 + 1) h) else (if 6 < ((x2 >>> ((3 * x4) &&& 31)) &&& 7) then (k20 x1 x2 0 (x4 + 1) h) else (k20 x1 x2 1 (x4 + 1) h)))
set_option maxRecDepth 20000 in
set_option maxHeartbeats 4000000 in
theorem f8_patterns_B20_ok (hE : IW E) (X : XC E RX8 cX8_patterns 6 (some .int) A p s m args meth c) {k20 : Int32 → Int32 → Int32 → Int32 → Hp → Re} (hk20 : ∀ (x1 : Int32) (x2 : Int32) (x3 : Int32) (x4 : Int32) (h : Hp), k20 x1 x2 x3 x4 h = some (r, h') → VM E 6 A p l e 2 s m args below meth c (Qi E A r h') 20 [(0, .ref (eA E 12)), (1, .int x1), (2, .int x2), (3, .int x3), (4, .int x4)] [] h) {x1 : Int32} {x2 : Int32} {x3 : Int32} {x4 : Int32} {h : Hp} (hf0 : f8_patterns_B20 k20 x1 x2 x3 x4 h = some (r, h')) : VM E 6 A p l e 2 s m args below meth c (Qi E A r h') 20 [(0, .ref (eA E 12)), (1, .int x1), (2, .int x2), (3, .int x3), (4, .int x4)] [] h := by
  unfold f8_patterns_B20 at hf0
  have hf1 := hf0
  refine V_iload X 4 rfl dX8_patterns_20 ?_
  refine V_bipush X (v := 8) (by decide) dX8_patterns_22 ?_
  refine V_icmp_ge X (tgt := 57) (by decide) dX8_patterns_24 (fun q24 => ?_) (fun q24 => ?_)
  · have hf2 := ift hf1 q24
    refine V_iload_n X 3 rfl dX8_patterns_57 ?_
    refine V_if_ne X (tgt := 64) (by decide) dX8_patterns_58 (fun q58 => ?_) (fun q58 => ?_)
    · have hf3 := ife hf2 q58
      refine V_aload_n X 0 rfl dX8_patterns_64 ?_
      refine V_iload_n X 1 rfl dX8_patterns_65 ?_
      obtain ⟨c3, e_c3, hf5⟩ := obd hf3
      refine V_callVi X (OB_12 hE) rfl rfl (f8_isOpen_ok hE e_c3) ys_X8_isOpen yw_X8_isOpen ml_X8_72 rfl rfl ⟨Nat.le_of_ble_eq_true rfl, Nat.le_of_ble_eq_true rfl⟩ ⟨Nat.zero_le _, Nat.zero_le _⟩ (Nat.le_of_ble_eq_true rfl) dX8_patterns_66 ?_
      refine V_if_ne X (tgt := 75) (by decide) dX8_patterns_69 (fun q69 => ?_) (fun q69 => ?_)
      · have hf6 := ife hf5 q69
        refine V_aload_n X 0 rfl dX8_patterns_75 ?_
        refine G_X8_0_7 hE X dX8_patterns_76 ?_
        refine V_bipush X (v := 18) (by decide) dX8_patterns_79 ?_
        refine V_iload_n X 1 rfl dX8_patterns_81 ?_
        refine V_iadd X dX8_patterns_82 ?_
        obtain ⟨g106, hf106⟩ := ogd hf6
        refine V_iald X (AR_13 hE) g106 dX8_patterns_83 ?_
        refine V_istore X (by decide) rfl dX8_patterns_84 ?_
        have hf9 := obs hf106
        refine V_aload_n X 1 rfl dX8_patterns_86 ?_
        refine G_X8_0_7 hE X dX8_patterns_87 ?_
        refine V_bipush X (v := 18) (by decide) dX8_patterns_90 ?_
        refine V_iload_n X 2 rfl dX8_patterns_92 ?_
        refine V_iadd X dX8_patterns_93 ?_
        refine V_iconst X (v := 1) (by decide) dX8_patterns_94 ?_
        obtain ⟨g109, hf109⟩ := ogd hf9
        refine V_iast X (AR_13 hE) g109 dX8_patterns_95 ?_
        have hf12 := obs hf109
        refine V_iconst X (v := 0) (by decide) dX8_patterns_96 ?_
        refine V_istore X (by decide) rfl dX8_patterns_97 ?_
        exact V_sub [2, 3, 4, 1, 0] rfl (f8_patterns_L99_ok hE X FU _ _ _ _ _ hf12)
      · have hf6 := ift hf5 q69
        refine V_bipush X (v := -5) (by decide) dX8_patterns_72 ?_
        exact V_iret X rfl hf6 dX8_patterns_74
    · have hf3 := ift hf2 q58
      refine V_bipush X (v := -2) (by decide) dX8_patterns_61 ?_
      exact V_iret X rfl hf3 dX8_patterns_63
  · have hf2 := ife hf1 q24
    refine V_iload_n X 3 rfl dX8_patterns_27 ?_
    refine V_if_eq X (tgt := 49) (by decide) dX8_patterns_28 (fun q28 => ?_) (fun q28 => ?_)
    · have hf13 := ift hf2 q28
      refine V_iconst X (v := 0) (by decide) dX8_patterns_49 ?_
      refine V_istore_n X (by decide) rfl dX8_patterns_50 ?_
      refine V_iinc X (v := _ + 1) 4 rfl (by rfl) (by decide) rfl dX8_patterns_51 ?_
      refine V_goto X (tgt := 20) (by decide) dX8_patterns_54 ?_
      exact V_sub [2, 3, 4, 1, 0] rfl (hk20 _ _ _ _ _ hf13)
    · have hf13 := ife hf2 q28
      refine V_iload_n X 2 rfl dX8_patterns_31 ?_
      refine V_iconst X (v := 3) (by decide) dX8_patterns_32 ?_
      refine V_iload X 4 rfl dX8_patterns_33 ?_
      refine V_imul X dX8_patterns_35 ?_
      refine V_ishr X dX8_patterns_36 ?_
      refine V_bipush X (v := 7) (by decide) dX8_patterns_37 ?_
      refine V_iand X dX8_patterns_39 ?_
      refine V_bipush X (v := 6) (by decide) dX8_patterns_40 ?_
      refine V_icmp_gt X (tgt := 49) (by decide) dX8_patterns_42 (fun q42 => ?_) (fun q42 => ?_)
      · have hf14 := ift hf13 q42
        refine V_iconst X (v := 0) (by decide) dX8_patterns_49 ?_
        refine V_istore_n X (by decide) rfl dX8_patterns_50 ?_
        refine V_iinc X (v := _ + 1) 4 rfl (by rfl) (by decide) rfl dX8_patterns_51 ?_
        refine V_goto X (tgt := 20) (by decide) dX8_patterns_54 ?_
        exact V_sub [2, 3, 4, 1, 0] rfl (hk20 _ _ _ _ _ hf14)
      · have hf14 := ife hf13 q42
        refine V_iconst X (v := 1) (by decide) dX8_patterns_45 ?_
        refine V_goto X (tgt := 50) (by decide) dX8_patterns_46 ?_
        refine V_istore_n X (by decide) rfl dX8_patterns_50 ?_
        refine V_iinc X (v := _ + 1) 4 rfl (by rfl) (by decide) rfl dX8_patterns_51 ?_
        refine V_goto X (tgt := 20) (by decide) dX8_patterns_54 ?_
        exact V_sub [2, 3, 4, 1, 0] rfl (hk20 _ _ _ _ _ hf14)
def f8_patterns_L20 : Nat → Int32 → Int32 → Int32 → Int32 → Hp → Re
  | 0 => fun _ _ _ _ _ => none
  | n + 1 => f8_patterns_B20 (f8_patterns_L20 n)
theorem f8_patterns_L20_s (n : Nat) (x1 : Int32) (x2 : Int32) (x3 : Int32) (x4 : Int32) (h : Hp) : f8_patterns_L20 (n + 1) x1 x2 x3 x4 h = f8_patterns_B20 (f8_patterns_L20 n) x1 x2 x3 x4 h := rfl
theorem f8_patterns_L20_ok (hE : IW E) (X : XC E RX8 cX8_patterns 6 (some .int) A p s m args meth c) : ∀ (n : Nat) (x1 : Int32) (x2 : Int32) (x3 : Int32) (x4 : Int32) (h : Hp), f8_patterns_L20 n x1 x2 x3 x4 h = some (r, h') → VM E 6 A p l e 2 s m args below meth c (Qi E A r h') 20 [(0, .ref (eA E 12)), (1, .int x1), (2, .int x2), (3, .int x3), (4, .int x4)] [] h := by
  intro n
  induction n with
  | zero =>
    intro x1 x2 x3 x4 h q
    have q : (none : Re) = some (r, h') := q
    cases q
  | succ n ih =>
    intro x1 x2 x3 x4 h q
    exact f8_patterns_B20_ok hE X ih q
def f8_patterns_e (x1 : Int32) (x2 : Int32) (h : Hp) : Re :=
  (f8_isRing x1 h).bind fun c1 => if c1.1 = 0 then (some ((-1), c1.2)) else ((f8_in x2 0 16777215 c1.2).bind fun c4 => f8_patterns_L20 FU x1 x2 c4.1 0 c4.2)
set_option maxRecDepth 20000 in
set_option maxHeartbeats 4000000 in
theorem f8_patterns_e_ok (hE : IW E) (X : XC E RX8 cX8_patterns 6 (some .int) A p s m args meth c) {x1 : Int32} {x2 : Int32} {h : Hp} (hf0 : f8_patterns_e x1 x2 h = some (r, h')) : VM E 6 A p l e 2 s m args below meth c (Qi E A r h') 0 [(0, .ref (eA E 12)), (1, .int x1), (2, .int x2)] [] h := by
  unfold f8_patterns_e at hf0
  have hf1 := hf0
  refine V_iload_n X 1 rfl dX8_patterns_0 ?_
  obtain ⟨c1, e_c1, hf3⟩ := obd hf1
  refine V_callSi X (f8_isRing_ok e_c1) ys_X8_isRing yw_X8_isRing ml_X8_47 rfl rfl ⟨Nat.le_of_ble_eq_true rfl, Nat.le_of_ble_eq_true rfl⟩ ⟨Nat.zero_le _, Nat.zero_le _⟩ (Nat.le_of_ble_eq_true rfl) dX8_patterns_1 ?_
  refine V_if_ne X (tgt := 9) (by decide) dX8_patterns_4 (fun q4 => ?_) (fun q4 => ?_)
  · have hf4 := ife hf3 q4
    refine V_iload_n X 2 rfl dX8_patterns_9 ?_
    refine V_iconst X (v := 0) (by decide) dX8_patterns_10 ?_
    refine V_ldc X kc_X8_71 dX8_patterns_11 ?_
    obtain ⟨c4, e_c4, hf6⟩ := obd hf4
    refine V_callSi X (f8_in_ok e_c4) ys_X8_in yw_X8_in ml_X8_39 rfl rfl ⟨Nat.le_of_ble_eq_true rfl, Nat.le_of_ble_eq_true rfl⟩ ⟨Nat.zero_le _, Nat.zero_le _⟩ (Nat.le_of_ble_eq_true rfl) dX8_patterns_13 ?_
    refine V_istore_n X (by decide) rfl dX8_patterns_16 ?_
    refine V_iconst X (v := 0) (by decide) dX8_patterns_17 ?_
    refine V_istore X (by decide) rfl dX8_patterns_18 ?_
    exact V_sub [2, 3, 4, 1, 0] rfl (f8_patterns_L20_ok hE X FU _ _ _ _ _ hf6)
  · have hf4 := ift hf3 q4
    refine V_iconst X (v := -1) (by decide) dX8_patterns_7 ?_
    exact V_iret X rfl hf4 dX8_patterns_8
def f8_patterns (x1 : Int32) (x2 : Int32) (h : Hp) : Re := f8_patterns_e x1 x2 h
theorem f8_patterns_ok (hE : IW E) {x1 : Int32} {x2 : Int32} {h : Hp} {q : Int32 × Hp} (hf0 : f8_patterns x1 x2 h = some q) : SMi l E 2 yX8_patterns cX8_patterns 6 (some .int) [.ref (eA E 12), .int x1, .int x2] h q.1 q.2 :=
  SMi.of (by decide +kernel) (Nat.le_of_ble_eq_true rfl) (fun p e s m args below meth c A X => f8_patterns_e_ok hE X (r := q.1) (h' := q.2) hf0)
def f8_holder_B5 (k5 : Int32 → Int32 → Int32 → Hp → Re) (x1 : Int32) (x2 : Int32) (x3 : Int32) (h : Hp) : Re :=
  if x3 < 0 then (some (x2, h)) else (if inB (8 + x3) 383 = true then if (h 13 (Int32.toNatClampNeg (8 + x3))) = x1 then (k5 x1 x3 (x3 + (-1)) h) else (k5 x1 x2 (x3 + (-1)) h) else none)
set_option maxRecDepth 20000 in
set_option maxHeartbeats 4000000 in
theorem f8_holder_B5_ok (hE : IW E) (X : XC E RX8 cX8_holder 4 (some .int) A p s m args meth c) {k5 : Int32 → Int32 → Int32 → Hp → Re} (hk5 : ∀ (x1 : Int32) (x2 : Int32) (x3 : Int32) (h : Hp), k5 x1 x2 x3 h = some (r, h') → VM E 4 A p l e 0 s m args below meth c (Qi E A r h') 5 [(0, .ref (eA E 12)), (1, .int x1), (2, .int x2), (3, .int x3)] [] h) {x1 : Int32} {x2 : Int32} {x3 : Int32} {h : Hp} (hf0 : f8_holder_B5 k5 x1 x2 x3 h = some (r, h')) : VM E 4 A p l e 0 s m args below meth c (Qi E A r h') 5 [(0, .ref (eA E 12)), (1, .int x1), (2, .int x2), (3, .int x3)] [] h := by
  unfold f8_holder_B5 at hf0
  have hf1 := hf0
  refine V_iload_n X 3 rfl dX8_holder_5 ?_
  refine V_if_lt X (tgt := 34) (by decide) dX8_holder_6 (fun q6 => ?_) (fun q6 => ?_)
  · have hf2 := ift hf1 q6
    refine V_iload_n X 2 rfl dX8_holder_34 ?_
    exact V_iret X rfl hf2 dX8_holder_35
  · have hf2 := ife hf1 q6
    refine V_aload_n X 0 rfl dX8_holder_9 ?_
    refine G_X8_0_7 hE X dX8_holder_10 ?_
    refine V_bipush X (v := 8) (by decide) dX8_holder_13 ?_
    refine V_iload_n X 3 rfl dX8_holder_15 ?_
    refine V_iadd X dX8_holder_16 ?_
    obtain ⟨g102, hf102⟩ := ogd hf2
    refine V_iald X (AR_13 hE) g102 dX8_holder_17 ?_
    refine V_iload_n X 1 rfl dX8_holder_18 ?_
    refine V_icmp_ne X (tgt := 26) (by decide) dX8_holder_19 (fun q19 => ?_) (fun q19 => ?_)
    · have hf4 := ife hf102 q19
      refine V_iload_n X 2 rfl dX8_holder_26 ?_
      refine V_istore_n X (by decide) rfl dX8_holder_27 ?_
      refine V_iinc X (v := _ + (-1)) 3 rfl (by rfl) (by decide) rfl dX8_holder_28 ?_
      refine V_goto X (tgt := 5) (by decide) dX8_holder_31 ?_
      exact V_sub [2, 3, 1, 0] rfl (hk5 _ _ _ _ hf4)
    · have hf4 := ift hf102 q19
      refine V_iload_n X 3 rfl dX8_holder_22 ?_
      refine V_goto X (tgt := 27) (by decide) dX8_holder_23 ?_
      refine V_istore_n X (by decide) rfl dX8_holder_27 ?_
      refine V_iinc X (v := _ + (-1)) 3 rfl (by rfl) (by decide) rfl dX8_holder_28 ?_
      refine V_goto X (tgt := 5) (by decide) dX8_holder_31 ?_
      exact V_sub [2, 3, 1, 0] rfl (hk5 _ _ _ _ hf4)
def f8_holder_L5 : Nat → Int32 → Int32 → Int32 → Hp → Re
  | 0 => fun _ _ _ _ => none
  | n + 1 => f8_holder_B5 (f8_holder_L5 n)
theorem f8_holder_L5_s (n : Nat) (x1 : Int32) (x2 : Int32) (x3 : Int32) (h : Hp) : f8_holder_L5 (n + 1) x1 x2 x3 h = f8_holder_B5 (f8_holder_L5 n) x1 x2 x3 h := rfl
theorem f8_holder_L5_ok (hE : IW E) (X : XC E RX8 cX8_holder 4 (some .int) A p s m args meth c) : ∀ (n : Nat) (x1 : Int32) (x2 : Int32) (x3 : Int32) (h : Hp), f8_holder_L5 n x1 x2 x3 h = some (r, h') → VM E 4 A p l e 0 s m args below meth c (Qi E A r h') 5 [(0, .ref (eA E 12)), (1, .int x1), (2, .int x2), (3, .int x3)] [] h := by
  intro n
  induction n with
  | zero =>
    intro x1 x2 x3 h q
    have q : (none : Re) = some (r, h') := q
    cases q
  | succ n ih =>
    intro x1 x2 x3 h q
    exact f8_holder_B5_ok hE X ih q
def f8_holder_e (x1 : Int32) (h : Hp) : Re :=
  f8_holder_L5 FU x1 (-6) 3 h
set_option maxRecDepth 20000 in
set_option maxHeartbeats 4000000 in
theorem f8_holder_e_ok (hE : IW E) (X : XC E RX8 cX8_holder 4 (some .int) A p s m args meth c) {x1 : Int32} {h : Hp} (hf0 : f8_holder_e x1 h = some (r, h')) : VM E 4 A p l e 0 s m args below meth c (Qi E A r h') 0 [(0, .ref (eA E 12)), (1, .int x1)] [] h := by
  unfold f8_holder_e at hf0
  have hf1 := hf0
  refine V_bipush X (v := -6) (by decide) dX8_holder_0 ?_
  refine V_istore_n X (by decide) rfl dX8_holder_2 ?_
  refine V_iconst X (v := 3) (by decide) dX8_holder_3 ?_
  refine V_istore_n X (by decide) rfl dX8_holder_4 ?_
  exact V_sub [2, 3, 1, 0] rfl (f8_holder_L5_ok hE X FU _ _ _ _ hf1)
def f8_holder (x1 : Int32) (h : Hp) : Re := f8_holder_e x1 h
theorem f8_holder_ok (hE : IW E) {x1 : Int32} {h : Hp} {q : Int32 × Hp} (hf0 : f8_holder x1 h = some q) : SMi l E 0 yX8_holder cX8_holder 4 (some .int) [.ref (eA E 12), .int x1] h q.1 q.2 :=
  SMi.of (by decide +kernel) (Nat.le_of_ble_eq_true rfl) (fun p e s m args below meth c A X => f8_holder_e_ok hE X (r := q.1) (h' := q.2) hf0)
def f8_takes_j48 (x1 : Int32) (x2 : Int32) (h : Hp) : Re :=
  if inB (8 + x1) 383 = true then (some (h 13 (Int32.toNatClampNeg (8 + x1)) : Int32)).bind fun z2 => if inB (8 + x1) 383 = true then (some (hu h 13 (Int32.toNatClampNeg (8 + x1)) x2)).bind fun h5 => some (z2, h5) else none else none
set_option maxRecDepth 20000 in
set_option maxHeartbeats 4000000 in
theorem f8_takes_j48_ok (hE : IW E) (X : XC E RX8 cX8_takes 4 (some .int) A p s m args meth c) {x1 : Int32} {x2 : Int32} {h : Hp} (hf0 : f8_takes_j48 x1 x2 h = some (r, h')) : VM E 4 A p l e 2 s m args below meth c (Qi E A r h') 48 [(0, .ref (eA E 12)), (1, .int x1), (2, .int x2)] [] h := by
  unfold f8_takes_j48 at hf0
  have hf1 := hf0
  refine V_aload_n X 0 rfl dX8_takes_48 ?_
  refine G_X8_0_7 hE X dX8_takes_49 ?_
  refine V_bipush X (v := 8) (by decide) dX8_takes_52 ?_
  refine V_iload_n X 1 rfl dX8_takes_54 ?_
  refine V_iadd X dX8_takes_55 ?_
  obtain ⟨g101, hf101⟩ := ogd hf1
  refine V_iald X (AR_13 hE) g101 dX8_takes_56 ?_
  refine V_istore_n X (by decide) rfl dX8_takes_57 ?_
  have hf4 := obs hf101
  refine V_aload_n X 1 rfl dX8_takes_58 ?_
  refine G_X8_0_7 hE X dX8_takes_59 ?_
  refine V_bipush X (v := 8) (by decide) dX8_takes_62 ?_
  refine V_iload_n X 2 rfl dX8_takes_64 ?_
  refine V_iadd X dX8_takes_65 ?_
  refine V_iload_n X 3 rfl dX8_takes_66 ?_
  obtain ⟨g104, hf104⟩ := ogd hf4
  refine V_iast X (AR_13 hE) g104 dX8_takes_67 ?_
  have hf7 := obs hf104
  refine V_iload_n X 0 rfl dX8_takes_68 ?_
  exact V_iret X rfl hf7 dX8_takes_69
def f8_takes_e (x1 : Int32) (x2 : Int32) (h : Hp) : Re :=
  (f8_isQuarter x1 h).bind fun c1 => if c1.1 = 0 then (some ((-1), c1.2)) else ((f8_in x2 0 6 c1.2).bind fun c4 => if c4.1 = 0 then (some ((-2), c4.2)) else (if x2 ≤ 0 then (f8_takes_j48 x1 x2 c4.2) else ((f8_holder x2 c4.2).bind fun c8 => if c8.1 = (-6) then (f8_takes_j48 x1 x2 c8.2) else ((f8_holder x2 c8.2).bind fun c11 => if c11.1 = x1 then (f8_takes_j48 x1 x2 c11.2) else (some ((-5), c11.2))))))
set_option maxRecDepth 20000 in
set_option maxHeartbeats 4000000 in
theorem f8_takes_e_ok (hE : IW E) (X : XC E RX8 cX8_takes 4 (some .int) A p s m args meth c) {x1 : Int32} {x2 : Int32} {h : Hp} (hf0 : f8_takes_e x1 x2 h = some (r, h')) : VM E 4 A p l e 2 s m args below meth c (Qi E A r h') 0 [(0, .ref (eA E 12)), (1, .int x1), (2, .int x2)] [] h := by
  unfold f8_takes_e at hf0
  have hf1 := hf0
  refine V_iload_n X 1 rfl dX8_takes_0 ?_
  obtain ⟨c1, e_c1, hf3⟩ := obd hf1
  refine V_callSi X (f8_isQuarter_ok e_c1) ys_X8_isQuarter yw_X8_isQuarter ml_X8_43 rfl rfl ⟨Nat.le_of_ble_eq_true rfl, Nat.le_of_ble_eq_true rfl⟩ ⟨Nat.zero_le _, Nat.zero_le _⟩ (Nat.le_of_ble_eq_true rfl) dX8_takes_1 ?_
  refine V_if_ne X (tgt := 9) (by decide) dX8_takes_4 (fun q4 => ?_) (fun q4 => ?_)
  · have hf4 := ife hf3 q4
    refine V_iload_n X 2 rfl dX8_takes_9 ?_
    refine V_iconst X (v := 0) (by decide) dX8_takes_10 ?_
    refine V_bipush X (v := 6) (by decide) dX8_takes_11 ?_
    obtain ⟨c4, e_c4, hf6⟩ := obd hf4
    refine V_callSi X (f8_in_ok e_c4) ys_X8_in yw_X8_in ml_X8_39 rfl rfl ⟨Nat.le_of_ble_eq_true rfl, Nat.le_of_ble_eq_true rfl⟩ ⟨Nat.zero_le _, Nat.zero_le _⟩ (Nat.le_of_ble_eq_true rfl) dX8_takes_13 ?_
    refine V_if_ne X (tgt := 22) (by decide) dX8_takes_16 (fun q16 => ?_) (fun q16 => ?_)
    · have hf7 := ife hf6 q16
      refine V_iload_n X 2 rfl dX8_takes_22 ?_
      refine V_if_le X (tgt := 48) (by decide) dX8_takes_23 (fun q23 => ?_) (fun q23 => ?_)
      · have hf8 := ift hf7 q23
        exact V_sub [0, 1, 2] rfl (f8_takes_j48_ok hE X hf8)
      · have hf8 := ife hf7 q23
        refine V_aload_n X 0 rfl dX8_takes_26 ?_
        refine V_iload_n X 2 rfl dX8_takes_27 ?_
        obtain ⟨c8, e_c8, hf10⟩ := obd hf8
        refine V_callVi X (OB_12 hE) rfl rfl (f8_holder_ok hE e_c8) ys_X8_holder yw_X8_holder ml_X8_75 rfl rfl ⟨Nat.le_of_ble_eq_true rfl, Nat.le_of_ble_eq_true rfl⟩ ⟨Nat.zero_le _, Nat.zero_le _⟩ (Nat.le_of_ble_eq_true rfl) dX8_takes_28 ?_
        refine V_bipush X (v := -6) (by decide) dX8_takes_31 ?_
        refine V_icmp_eq X (tgt := 48) (by decide) dX8_takes_33 (fun q33 => ?_) (fun q33 => ?_)
        · have hf11 := ift hf10 q33
          exact V_sub [0, 1, 2] rfl (f8_takes_j48_ok hE X hf11)
        · have hf11 := ife hf10 q33
          refine V_aload_n X 0 rfl dX8_takes_36 ?_
          refine V_iload_n X 2 rfl dX8_takes_37 ?_
          obtain ⟨c11, e_c11, hf13⟩ := obd hf11
          refine V_callVi X (OB_12 hE) rfl rfl (f8_holder_ok hE e_c11) ys_X8_holder yw_X8_holder ml_X8_75 rfl rfl ⟨Nat.le_of_ble_eq_true rfl, Nat.le_of_ble_eq_true rfl⟩ ⟨Nat.zero_le _, Nat.zero_le _⟩ (Nat.le_of_ble_eq_true rfl) dX8_takes_38 ?_
          refine V_iload_n X 1 rfl dX8_takes_41 ?_
          refine V_icmp_eq X (tgt := 48) (by decide) dX8_takes_42 (fun q42 => ?_) (fun q42 => ?_)
          · have hf14 := ift hf13 q42
            exact V_sub [0, 1, 2] rfl (f8_takes_j48_ok hE X hf14)
          · have hf14 := ife hf13 q42
            refine V_bipush X (v := -5) (by decide) dX8_takes_45 ?_
            exact V_iret X rfl hf14 dX8_takes_47
    · have hf7 := ift hf6 q16
      refine V_bipush X (v := -2) (by decide) dX8_takes_19 ?_
      exact V_iret X rfl hf7 dX8_takes_21
  · have hf4 := ift hf3 q4
    refine V_iconst X (v := -1) (by decide) dX8_takes_7 ?_
    exact V_iret X rfl hf4 dX8_takes_8
def f8_takes (x1 : Int32) (x2 : Int32) (h : Hp) : Re := f8_takes_e x1 x2 h
theorem f8_takes_ok (hE : IW E) {x1 : Int32} {x2 : Int32} {h : Hp} {q : Int32 × Hp} (hf0 : f8_takes x1 x2 h = some q) : SMi l E 2 yX8_takes cX8_takes 4 (some .int) [.ref (eA E 12), .int x1, .int x2] h q.1 q.2 :=
  SMi.of (by decide +kernel) (Nat.le_of_ble_eq_true rfl) (fun p e s m args below meth c A X => f8_takes_e_ok hE X (r := q.1) (h' := q.2) hf0)
def f8_pours_j88 (x4 : Int32) (x5 : Int32) (x6 : Int32) (y0 : Int32) (h : Hp) : Re :=
  if y0 = 0 then (some ((-5), h)) else (if inB (11 + x6) 383 = true then if x4 ≤ (h 13 (Int32.toNatClampNeg (11 + x6))) then (if inB (x5 + 1) 383 = true then if ((h 13 (Int32.toNatClampNeg (x5 + 1))) + x4) ≤ 99 then (if inB (11 + x6) 383 = true then if inB (11 + x6) 383 = true then (some (hu h 13 (Int32.toNatClampNeg (11 + x6)) ((h 13 (Int32.toNatClampNeg (11 + x6))) - x4))).bind fun h8 => (some (hu h8 13 (Int32.toNatClampNeg 5) ((h8 13 (Int32.toNatClampNeg 5)) + x4))).bind fun h10 => if inB (x5 + 1) 383 = true then (f8_puts x5 x6 ((h10 13 (Int32.toNatClampNeg (x5 + 1))) + x4) h10).bind fun c13 => if inB (x5 + 1) 383 = true then some (c13.2 13 (Int32.toNatClampNeg (x5 + 1)), c13.2) else none else none else none else none) else (some ((-4), h)) else none) else (some ((-5), h)) else none)
set_option maxRecDepth 20000 in
set_option maxHeartbeats 4000000 in
theorem f8_pours_j88_ok (hE : IW E) (X : XC E RX8 cX8_pours 8 (some .int) A p s m args meth c) {x4 : Int32} {x5 : Int32} {x6 : Int32} {y0 : Int32} {h : Hp} (hf0 : f8_pours_j88 x4 x5 x6 y0 h = some (r, h')) : VM E 8 A p l e 3 s m args below meth c (Qi E A r h') 88 [(0, .ref (eA E 12)), (4, .int x4), (5, .int x5), (6, .int x6)] [.int y0] h := by
  unfold f8_pours_j88 at hf0
  have hf1 := hf0
  refine V_istore X (by decide) rfl dX8_pours_88 ?_
  refine V_iload X 0 rfl dX8_pours_90 ?_
  refine V_if_eq X (tgt := 110) (by decide) dX8_pours_92 (fun q92 => ?_) (fun q92 => ?_)
  · have hf2 := ift hf1 q92
    refine V_bipush X (v := -5) (by decide) dX8_pours_110 ?_
    exact V_iret X rfl hf2 dX8_pours_112
  · have hf2 := ife hf1 q92
    refine V_aload_n X 1 rfl dX8_pours_95 ?_
    refine G_X8_0_7 hE X dX8_pours_96 ?_
    refine V_bipush X (v := 11) (by decide) dX8_pours_99 ?_
    refine V_iload X 4 rfl dX8_pours_101 ?_
    refine V_iadd X dX8_pours_103 ?_
    obtain ⟨g102, hf102⟩ := ogd hf2
    refine V_iald X (AR_13 hE) g102 dX8_pours_104 ?_
    refine V_iload X 2 rfl dX8_pours_105 ?_
    refine V_icmp_ge X (tgt := 113) (by decide) dX8_pours_107 (fun q107 => ?_) (fun q107 => ?_)
    · have hf4 := ift hf102 q107
      refine V_aload_n X 1 rfl dX8_pours_113 ?_
      refine G_X8_0_7 hE X dX8_pours_114 ?_
      refine V_iload X 3 rfl dX8_pours_117 ?_
      refine V_iconst X (v := 1) (by decide) dX8_pours_119 ?_
      refine V_iadd X dX8_pours_120 ?_
      obtain ⟨g104, hf104⟩ := ogd hf4
      refine V_iald X (AR_13 hE) g104 dX8_pours_121 ?_
      refine V_iload X 2 rfl dX8_pours_122 ?_
      refine V_iadd X dX8_pours_124 ?_
      refine V_bipush X (v := 99) (by decide) dX8_pours_125 ?_
      refine V_icmp_le X (tgt := 133) (by decide) dX8_pours_127 (fun q127 => ?_) (fun q127 => ?_)
      · have hf6 := ift hf104 q127
        refine V_aload_n X 1 rfl dX8_pours_133 ?_
        refine G_X8_0_7 hE X dX8_pours_134 ?_
        refine V_bipush X (v := 11) (by decide) dX8_pours_137 ?_
        refine V_iload X 4 rfl dX8_pours_139 ?_
        refine V_iadd X dX8_pours_141 ?_
        refine V_dup2 X rfl rfl dX8_pours_142 ?_
        obtain ⟨g106, hf106⟩ := ogd hf6
        refine V_iald X (AR_13 hE) g106 dX8_pours_143 ?_
        refine V_iload X 2 rfl dX8_pours_144 ?_
        refine V_isub X dX8_pours_146 ?_
        obtain ⟨g107, hf107⟩ := ogd hf106
        refine V_iast X (AR_13 hE) g107 dX8_pours_147 ?_
        have hf10 := obs hf107
        refine V_aload_n X 1 rfl dX8_pours_148 ?_
        refine G_X8_0_7 hE X dX8_pours_149 ?_
        refine V_iconst X (v := 5) (by decide) dX8_pours_152 ?_
        refine V_dup2 X rfl rfl dX8_pours_153 ?_
        refine V_iald X (AR_13 hE) (by decide) dX8_pours_154 ?_
        refine V_iload X 2 rfl dX8_pours_155 ?_
        refine V_iadd X dX8_pours_157 ?_
        refine V_iast X (AR_13 hE) (by decide) dX8_pours_158 ?_
        have hf12 := obs hf10
        refine V_aload_n X 1 rfl dX8_pours_159 ?_
        refine V_iload X 3 rfl dX8_pours_160 ?_
        refine V_iload X 4 rfl dX8_pours_162 ?_
        refine V_aload_n X 1 rfl dX8_pours_164 ?_
        refine G_X8_0_7 hE X dX8_pours_165 ?_
        refine V_iload X 3 rfl dX8_pours_168 ?_
        refine V_iconst X (v := 1) (by decide) dX8_pours_170 ?_
        refine V_iadd X dX8_pours_171 ?_
        obtain ⟨g112, hf112⟩ := ogd hf12
        refine V_iald X (AR_13 hE) g112 dX8_pours_172 ?_
        refine V_iload X 2 rfl dX8_pours_173 ?_
        refine V_iadd X dX8_pours_175 ?_
        obtain ⟨c13, e_c13, hf15⟩ := obd hf112
        refine V_callVv X (OB_12 hE) rfl rfl (f8_puts_ok hE e_c13) ys_X8_puts yw_X8_puts ml_X8_82 rfl rfl ⟨Nat.le_of_ble_eq_true rfl, Nat.le_of_ble_eq_true rfl⟩ ⟨Nat.zero_le _, Nat.zero_le _⟩ (Nat.le_of_ble_eq_true rfl) dX8_pours_176 ?_
        refine V_aload_n X 1 rfl dX8_pours_179 ?_
        refine G_X8_0_7 hE X dX8_pours_180 ?_
        refine V_iload X 3 rfl dX8_pours_183 ?_
        refine V_iconst X (v := 1) (by decide) dX8_pours_185 ?_
        refine V_iadd X dX8_pours_186 ?_
        obtain ⟨g115, hf115⟩ := ogd hf15
        refine V_iald X (AR_13 hE) g115 dX8_pours_187 ?_
        exact V_iret X rfl hf115 dX8_pours_188
      · have hf6 := ife hf104 q127
        refine V_bipush X (v := -4) (by decide) dX8_pours_130 ?_
        exact V_iret X rfl hf6 dX8_pours_132
    · have hf4 := ife hf102 q107
      refine V_bipush X (v := -5) (by decide) dX8_pours_110 ?_
      exact V_iret X rfl hf4 dX8_pours_112
def f8_pours_j87 (x4 : Int32) (x5 : Int32) (x6 : Int32) (h : Hp) : Re :=
  f8_pours_j88 x4 x5 x6 0 h
set_option maxRecDepth 20000 in
set_option maxHeartbeats 4000000 in
theorem f8_pours_j87_ok (hE : IW E) (X : XC E RX8 cX8_pours 8 (some .int) A p s m args meth c) {x4 : Int32} {x5 : Int32} {x6 : Int32} {h : Hp} (hf0 : f8_pours_j87 x4 x5 x6 h = some (r, h')) : VM E 8 A p l e 3 s m args below meth c (Qi E A r h') 87 [(0, .ref (eA E 12)), (4, .int x4), (5, .int x5), (6, .int x6)] [] h := by
  unfold f8_pours_j87 at hf0
  have hf1 := hf0
  refine V_iconst X (v := 0) (by decide) dX8_pours_87 ?_
  exact V_sub [0, 1, 2, 3] rfl (f8_pours_j88_ok hE X hf1)
def f8_pours_j83 (x4 : Int32) (x5 : Int32) (x6 : Int32) (h : Hp) : Re :=
  f8_pours_j88 x4 x5 x6 1 h
set_option maxRecDepth 20000 in
set_option maxHeartbeats 4000000 in
theorem f8_pours_j83_ok (hE : IW E) (X : XC E RX8 cX8_pours 8 (some .int) A p s m args meth c) {x4 : Int32} {x5 : Int32} {x6 : Int32} {h : Hp} (hf0 : f8_pours_j83 x4 x5 x6 h = some (r, h')) : VM E 8 A p l e 3 s m args below meth c (Qi E A r h') 83 [(0, .ref (eA E 12)), (4, .int x4), (5, .int x5), (6, .int x6)] [] h := by
  unfold f8_pours_j83 at hf0
  have hf1 := hf0
  refine V_iconst X (v := 1) (by decide) dX8_pours_83 ?_
  refine V_goto X (tgt := 88) (by decide) dX8_pours_84 ?_
  exact V_sub [0, 1, 2, 3] rfl (f8_pours_j88_ok hE X hf1)
def f8_pours_e (x1 : Int32) (x2 : Int32) (x3 : Int32) (x4 : Int32) (h : Hp) : Re :=
  (f8_isPlace x1 x2 x3 h).bind fun c1 => if c1.1 = 0 then (some ((-1), c1.2)) else ((f8_in x4 1 99 c1.2).bind fun c4 => if c4.1 = 0 then (some ((-2), c4.2)) else ((f8_p x1 x2 x3 c4.2).bind fun c7 => if inB (8 + x1) 383 = true then (some (c7.2 13 (Int32.toNatClampNeg (8 + x1)) : Int32)).bind fun z10 => if z10 ≤ 0 then (f8_pours_j87 x4 c7.1 z10 c7.2) else ((f8_isOpen x2 c7.2).bind fun c13 => if c13.1 = 0 then (f8_pours_j87 x4 c7.1 z10 c13.2) else (if inB (c7.1 + 1) 383 = true then if (c13.2 13 (Int32.toNatClampNeg (c7.1 + 1))) = 0 then (f8_pours_j83 x4 c7.1 z10 c13.2) else (if inB (c7.1 + 0) 383 = true then if (c13.2 13 (Int32.toNatClampNeg (c7.1 + 0))) = z10 then (f8_pours_j83 x4 c7.1 z10 c13.2) else (f8_pours_j87 x4 c7.1 z10 c13.2) else none) else none)) else none))
set_option maxRecDepth 20000 in
set_option maxHeartbeats 4000000 in
theorem f8_pours_e_ok (hE : IW E) (X : XC E RX8 cX8_pours 8 (some .int) A p s m args meth c) {x1 : Int32} {x2 : Int32} {x3 : Int32} {x4 : Int32} {h : Hp} (hf0 : f8_pours_e x1 x2 x3 x4 h = some (r, h')) : VM E 8 A p l e 3 s m args below meth c (Qi E A r h') 0 [(0, .ref (eA E 12)), (1, .int x1), (2, .int x2), (3, .int x3), (4, .int x4)] [] h := by
  unfold f8_pours_e at hf0
  have hf1 := hf0
  refine V_iload_n X 1 rfl dX8_pours_0 ?_
  refine V_iload_n X 2 rfl dX8_pours_1 ?_
  refine V_iload_n X 3 rfl dX8_pours_2 ?_
  obtain ⟨c1, e_c1, hf3⟩ := obd hf1
  refine V_callSi X (f8_isPlace_ok e_c1) ys_X8_isPlace yw_X8_isPlace ml_X8_79 rfl rfl ⟨Nat.le_of_ble_eq_true rfl, Nat.le_of_ble_eq_true rfl⟩ ⟨Nat.zero_le _, Nat.zero_le _⟩ (Nat.le_of_ble_eq_true rfl) dX8_pours_3 ?_
  refine V_if_ne X (tgt := 11) (by decide) dX8_pours_6 (fun q6 => ?_) (fun q6 => ?_)
  · have hf4 := ife hf3 q6
    refine V_iload X 4 rfl dX8_pours_11 ?_
    refine V_iconst X (v := 1) (by decide) dX8_pours_13 ?_
    refine V_bipush X (v := 99) (by decide) dX8_pours_14 ?_
    obtain ⟨c4, e_c4, hf6⟩ := obd hf4
    refine V_callSi X (f8_in_ok e_c4) ys_X8_in yw_X8_in ml_X8_39 rfl rfl ⟨Nat.le_of_ble_eq_true rfl, Nat.le_of_ble_eq_true rfl⟩ ⟨Nat.zero_le _, Nat.zero_le _⟩ (Nat.le_of_ble_eq_true rfl) dX8_pours_16 ?_
    refine V_if_ne X (tgt := 25) (by decide) dX8_pours_19 (fun q19 => ?_) (fun q19 => ?_)
    · have hf7 := ife hf6 q19
      refine V_iload_n X 1 rfl dX8_pours_25 ?_
      refine V_iload_n X 2 rfl dX8_pours_26 ?_
      refine V_iload_n X 3 rfl dX8_pours_27 ?_
      obtain ⟨c7, e_c7, hf9⟩ := obd hf7
      refine V_callSi X (f8_p_ok e_c7) ys_X8_p yw_X8_p ml_X8_61 rfl rfl ⟨Nat.le_of_ble_eq_true rfl, Nat.le_of_ble_eq_true rfl⟩ ⟨Nat.zero_le _, Nat.zero_le _⟩ (Nat.le_of_ble_eq_true rfl) dX8_pours_28 ?_
      refine V_istore X (by decide) rfl dX8_pours_31 ?_
      refine V_aload_n X 1 rfl dX8_pours_33 ?_
      refine G_X8_0_7 hE X dX8_pours_34 ?_
      refine V_bipush X (v := 8) (by decide) dX8_pours_37 ?_
      refine V_iload_n X 2 rfl dX8_pours_39 ?_
      refine V_iadd X dX8_pours_40 ?_
      obtain ⟨g109, hf109⟩ := ogd hf9
      refine V_iald X (AR_13 hE) g109 dX8_pours_41 ?_
      refine V_istore X (by decide) rfl dX8_pours_42 ?_
      have hf12 := obs hf109
      refine V_iload X 0 rfl dX8_pours_44 ?_
      refine V_if_le X (tgt := 87) (by decide) dX8_pours_46 (fun q46 => ?_) (fun q46 => ?_)
      · have hf13 := ift hf12 q46
        exact V_sub [2, 6, 1, 0] rfl (f8_pours_j87_ok hE X hf13)
      · have hf13 := ife hf12 q46
        refine V_aload_n X 2 rfl dX8_pours_49 ?_
        refine V_iload_n X 4 rfl dX8_pours_50 ?_
        obtain ⟨c13, e_c13, hf15⟩ := obd hf13
        refine V_callVi X (OB_12 hE) rfl rfl (f8_isOpen_ok hE e_c13) ys_X8_isOpen yw_X8_isOpen ml_X8_72 rfl rfl ⟨Nat.le_of_ble_eq_true rfl, Nat.le_of_ble_eq_true rfl⟩ ⟨Nat.zero_le _, Nat.zero_le _⟩ (Nat.le_of_ble_eq_true rfl) dX8_pours_51 ?_
        refine V_if_eq X (tgt := 87) (by decide) dX8_pours_54 (fun q54 => ?_) (fun q54 => ?_)
        · have hf16 := ift hf15 q54
          exact V_sub [2, 6, 1, 0] rfl (f8_pours_j87_ok hE X hf16)
        · have hf16 := ife hf15 q54
          refine V_aload_n X 2 rfl dX8_pours_57 ?_
          refine G_X8_0_7 hE X dX8_pours_58 ?_
          refine V_iload X 1 rfl dX8_pours_61 ?_
          refine V_iconst X (v := 1) (by decide) dX8_pours_63 ?_
          refine V_iadd X dX8_pours_64 ?_
          obtain ⟨g116, hf116⟩ := ogd hf16
          refine V_iald X (AR_13 hE) g116 dX8_pours_65 ?_
          refine V_if_eq X (tgt := 83) (by decide) dX8_pours_66 (fun q66 => ?_) (fun q66 => ?_)
          · have hf18 := ift hf116 q66
            exact V_sub [2, 6, 1, 0] rfl (f8_pours_j83_ok hE X hf18)
          · have hf18 := ife hf116 q66
            refine V_aload_n X 2 rfl dX8_pours_69 ?_
            refine G_X8_0_7 hE X dX8_pours_70 ?_
            refine V_iload X 1 rfl dX8_pours_73 ?_
            refine V_iconst X (v := 0) (by decide) dX8_pours_75 ?_
            refine V_iadd X dX8_pours_76 ?_
            obtain ⟨g118, hf118⟩ := ogd hf18
            refine V_iald X (AR_13 hE) g118 dX8_pours_77 ?_
            refine V_iload X 0 rfl dX8_pours_78 ?_
            refine V_icmp_ne X (tgt := 87) (by decide) dX8_pours_80 (fun q80 => ?_) (fun q80 => ?_)
            · have hf20 := ife hf118 q80
              exact V_sub [2, 6, 1, 0] rfl (f8_pours_j87_ok hE X hf20)
            · have hf20 := ift hf118 q80
              exact V_sub [2, 6, 1, 0] rfl (f8_pours_j83_ok hE X hf20)
    · have hf7 := ift hf6 q19
      refine V_bipush X (v := -2) (by decide) dX8_pours_22 ?_
      exact V_iret X rfl hf7 dX8_pours_24
  · have hf4 := ift hf3 q6
    refine V_iconst X (v := -1) (by decide) dX8_pours_9 ?_
    exact V_iret X rfl hf4 dX8_pours_10
def f8_pours (x1 : Int32) (x2 : Int32) (x3 : Int32) (x4 : Int32) (h : Hp) : Re := f8_pours_e x1 x2 x3 x4 h
theorem f8_pours_ok (hE : IW E) {x1 : Int32} {x2 : Int32} {x3 : Int32} {x4 : Int32} {h : Hp} {q : Int32 × Hp} (hf0 : f8_pours x1 x2 x3 x4 h = some q) : SMi l E 3 yX8_pours cX8_pours 8 (some .int) [.ref (eA E 12), .int x1, .int x2, .int x3, .int x4] h q.1 q.2 :=
  SMi.of (by decide +kernel) (Nat.le_of_ble_eq_true rfl) (fun p e s m args below meth c A X => f8_pours_e_ok hE X (r := q.1) (h' := q.2) hf0)
def f8_scrapes_e (x1 : Int32) (x2 : Int32) (x3 : Int32) (h : Hp) : Re :=
  (f8_isPlace x1 x2 x3 h).bind fun c1 => if c1.1 = 0 then (some ((-1), c1.2)) else ((f8_p x1 x2 x3 c1.2).bind fun c4 => if inB (c4.1 + 1) 383 = true then (some (c4.2 13 (Int32.toNatClampNeg (c4.1 + 1)) : Int32)).bind fun z7 => (f8_isOpen x2 c4.2).bind fun c9 => if c9.1 = 0 then (some ((-5), c9.2)) else (if z7 = 0 then (some ((-5), c9.2)) else ((some (hu c9.2 13 (Int32.toNatClampNeg 6) ((c9.2 13 (Int32.toNatClampNeg 6)) + z7))).bind fun h13 => (f8_puts c4.1 0 0 h13).bind fun c15 => some (z7, c15.2))) else none)
set_option maxRecDepth 20000 in
set_option maxHeartbeats 4000000 in
theorem f8_scrapes_e_ok (hE : IW E) (X : XC E RX8 cX8_scrapes 6 (some .int) A p s m args meth c) {x1 : Int32} {x2 : Int32} {x3 : Int32} {h : Hp} (hf0 : f8_scrapes_e x1 x2 x3 h = some (r, h')) : VM E 6 A p l e 3 s m args below meth c (Qi E A r h') 0 [(0, .ref (eA E 12)), (1, .int x1), (2, .int x2), (3, .int x3)] [] h := by
  unfold f8_scrapes_e at hf0
  have hf1 := hf0
  refine V_iload_n X 1 rfl dX8_scrapes_0 ?_
  refine V_iload_n X 2 rfl dX8_scrapes_1 ?_
  refine V_iload_n X 3 rfl dX8_scrapes_2 ?_
  obtain ⟨c1, e_c1, hf3⟩ := obd hf1
  refine V_callSi X (f8_isPlace_ok e_c1) ys_X8_isPlace yw_X8_isPlace ml_X8_79 rfl rfl ⟨Nat.le_of_ble_eq_true rfl, Nat.le_of_ble_eq_true rfl⟩ ⟨Nat.zero_le _, Nat.zero_le _⟩ (Nat.le_of_ble_eq_true rfl) dX8_scrapes_3 ?_
  refine V_if_ne X (tgt := 11) (by decide) dX8_scrapes_6 (fun q6 => ?_) (fun q6 => ?_)
  · have hf4 := ife hf3 q6
    refine V_iload_n X 1 rfl dX8_scrapes_11 ?_
    refine V_iload_n X 2 rfl dX8_scrapes_12 ?_
    refine V_iload_n X 3 rfl dX8_scrapes_13 ?_
    obtain ⟨c4, e_c4, hf6⟩ := obd hf4
    refine V_callSi X (f8_p_ok e_c4) ys_X8_p yw_X8_p ml_X8_61 rfl rfl ⟨Nat.le_of_ble_eq_true rfl, Nat.le_of_ble_eq_true rfl⟩ ⟨Nat.zero_le _, Nat.zero_le _⟩ (Nat.le_of_ble_eq_true rfl) dX8_scrapes_14 ?_
    refine V_istore X (by decide) rfl dX8_scrapes_17 ?_
    refine V_aload_n X 1 rfl dX8_scrapes_19 ?_
    refine G_X8_0_7 hE X dX8_scrapes_20 ?_
    refine V_iload X 0 rfl dX8_scrapes_23 ?_
    refine V_iconst X (v := 1) (by decide) dX8_scrapes_25 ?_
    refine V_iadd X dX8_scrapes_26 ?_
    obtain ⟨g106, hf106⟩ := ogd hf6
    refine V_iald X (AR_13 hE) g106 dX8_scrapes_27 ?_
    refine V_istore X (by decide) rfl dX8_scrapes_28 ?_
    have hf9 := obs hf106
    refine V_aload_n X 2 rfl dX8_scrapes_30 ?_
    refine V_iload_n X 4 rfl dX8_scrapes_31 ?_
    obtain ⟨c9, e_c9, hf11⟩ := obd hf9
    refine V_callVi X (OB_12 hE) rfl rfl (f8_isOpen_ok hE e_c9) ys_X8_isOpen yw_X8_isOpen ml_X8_72 rfl rfl ⟨Nat.le_of_ble_eq_true rfl, Nat.le_of_ble_eq_true rfl⟩ ⟨Nat.zero_le _, Nat.zero_le _⟩ (Nat.le_of_ble_eq_true rfl) dX8_scrapes_32 ?_
    refine V_if_eq X (tgt := 43) (by decide) dX8_scrapes_35 (fun q35 => ?_) (fun q35 => ?_)
    · have hf12 := ift hf11 q35
      refine V_bipush X (v := -5) (by decide) dX8_scrapes_43 ?_
      exact V_iret X rfl hf12 dX8_scrapes_45
    · have hf12 := ife hf11 q35
      refine V_iload X 0 rfl dX8_scrapes_38 ?_
      refine V_if_ne X (tgt := 46) (by decide) dX8_scrapes_40 (fun q40 => ?_) (fun q40 => ?_)
      · have hf13 := ife hf12 q40
        refine V_aload_n X 2 rfl dX8_scrapes_46 ?_
        refine G_X8_0_7 hE X dX8_scrapes_47 ?_
        refine V_bipush X (v := 6) (by decide) dX8_scrapes_50 ?_
        refine V_dup2 X rfl rfl dX8_scrapes_52 ?_
        refine V_iald X (AR_13 hE) (by decide) dX8_scrapes_53 ?_
        refine V_iload X 0 rfl dX8_scrapes_54 ?_
        refine V_iadd X dX8_scrapes_56 ?_
        refine V_iast X (AR_13 hE) (by decide) dX8_scrapes_57 ?_
        have hf15 := obs hf13
        refine V_aload_n X 2 rfl dX8_scrapes_58 ?_
        refine V_iload X 1 rfl dX8_scrapes_59 ?_
        refine V_iconst X (v := 0) (by decide) dX8_scrapes_61 ?_
        refine V_iconst X (v := 0) (by decide) dX8_scrapes_62 ?_
        obtain ⟨c15, e_c15, hf17⟩ := obd hf15
        refine V_callVv X (OB_12 hE) rfl rfl (f8_puts_ok hE e_c15) ys_X8_puts yw_X8_puts ml_X8_82 rfl rfl ⟨Nat.le_of_ble_eq_true rfl, Nat.le_of_ble_eq_true rfl⟩ ⟨Nat.zero_le _, Nat.zero_le _⟩ (Nat.le_of_ble_eq_true rfl) dX8_scrapes_63 ?_
        refine V_iload X 0 rfl dX8_scrapes_66 ?_
        exact V_iret X rfl hf17 dX8_scrapes_68
      · have hf13 := ift hf12 q40
        refine V_bipush X (v := -5) (by decide) dX8_scrapes_43 ?_
        exact V_iret X rfl hf13 dX8_scrapes_45
  · have hf4 := ift hf3 q6
    refine V_iconst X (v := -1) (by decide) dX8_scrapes_9 ?_
    exact V_iret X rfl hf4 dX8_scrapes_10
def f8_scrapes (x1 : Int32) (x2 : Int32) (x3 : Int32) (h : Hp) : Re := f8_scrapes_e x1 x2 x3 h
theorem f8_scrapes_ok (hE : IW E) {x1 : Int32} {x2 : Int32} {x3 : Int32} {h : Hp} {q : Int32 × Hp} (hf0 : f8_scrapes x1 x2 x3 h = some q) : SMi l E 3 yX8_scrapes cX8_scrapes 6 (some .int) [.ref (eA E 12), .int x1, .int x2, .int x3] h q.1 q.2 :=
  SMi.of (by decide +kernel) (Nat.le_of_ble_eq_true rfl) (fun p e s m args below meth c A X => f8_scrapes_e_ok hE X (r := q.1) (h' := q.2) hf0)
def f8_spills_e (x1 : Int32) (h : Hp) : Re :=
  if inB ((2 * x1) + 1) 16 = true then (some ((h 19 (Int32.toNatClampNeg ((2 * x1) + 1))) - (h 13 (Int32.toNatClampNeg 1)) : Int32)).bind fun z2 => if z2 ≤ 0 then (some (0, h)) else (some (z2 / 2, h)) else none
set_option maxRecDepth 20000 in
set_option maxHeartbeats 4000000 in
theorem f8_spills_e_ok (hE : IW E) (X : XC E RX8 cX8_spills 3 (some .int) A p s m args meth c) {x1 : Int32} {h : Hp} (hf0 : f8_spills_e x1 h = some (r, h')) : VM E 3 A p l e 0 s m args below meth c (Qi E A r h') 0 [(0, .ref (eA E 12)), (1, .int x1)] [] h := by
  unfold f8_spills_e at hf0
  have hf1 := hf0
  refine V_aload_n X 0 rfl dX8_spills_0 ?_
  refine G_X8_6_29 hE X dX8_spills_1 ?_
  refine V_iconst X (v := 2) (by decide) dX8_spills_4 ?_
  refine V_iload_n X 1 rfl dX8_spills_5 ?_
  refine V_imul X dX8_spills_6 ?_
  refine V_iconst X (v := 1) (by decide) dX8_spills_7 ?_
  refine V_iadd X dX8_spills_8 ?_
  obtain ⟨g101, hf101⟩ := ogd hf1
  refine V_iald X (AR_19 hE) g101 dX8_spills_9 ?_
  refine V_aload_n X 0 rfl dX8_spills_10 ?_
  refine G_X8_0_7 hE X dX8_spills_11 ?_
  refine V_iconst X (v := 1) (by decide) dX8_spills_14 ?_
  refine V_iald X (AR_13 hE) (by decide) dX8_spills_15 ?_
  refine V_isub X dX8_spills_16 ?_
  refine V_istore_n X (by decide) rfl dX8_spills_17 ?_
  have hf4 := obs hf101
  refine V_iload_n X 0 rfl dX8_spills_18 ?_
  refine V_if_le X (tgt := 28) (by decide) dX8_spills_19 (fun q19 => ?_) (fun q19 => ?_)
  · have hf5 := ift hf4 q19
    refine V_iconst X (v := 0) (by decide) dX8_spills_28 ?_
    exact V_iret X rfl hf5 dX8_spills_29
  · have hf5 := ife hf4 q19
    refine V_iload_n X 0 rfl dX8_spills_22 ?_
    refine V_iconst X (v := 2) (by decide) dX8_spills_23 ?_
    refine V_idiv X (by decide) dX8_spills_24 ?_
    refine V_goto X (tgt := 29) (by decide) dX8_spills_25 ?_
    exact V_iret X rfl hf5 dX8_spills_29
def f8_spills (x1 : Int32) (h : Hp) : Re := f8_spills_e x1 h
theorem f8_spills_ok (hE : IW E) {x1 : Int32} {h : Hp} {q : Int32 × Hp} (hf0 : f8_spills x1 h = some q) : SMi l E 0 yX8_spills cX8_spills 3 (some .int) [.ref (eA E 12), .int x1] h q.1 q.2 :=
  SMi.of (by decide +kernel) (Nat.le_of_ble_eq_true rfl) (fun p e s m args below meth c A X => f8_spills_e_ok hE X (r := q.1) (h' := q.2) hf0)
def f8_ringBreath_j216 (k43 : Int32 → Int32 → Int32 → Int32 → Int32 → Hp → Re) (x1 : Int32) (x2 : Int32) (x3 : Int32) (x4 : Int32) (x5 : Int32) (x10 : Int32) (x11 : Int32) (y0 : Int32) (y1 : Int32) (h : Hp) : Re :=
  (f8_puts y1 y0 (x10 - x11) h).bind fun c1 => k43 x1 x2 x3 x4 (x5 + 1) c1.2
set_option maxRecDepth 20000 in
set_option maxHeartbeats 4000000 in
theorem f8_ringBreath_j216_ok (hE : IW E) (X : XC E RX8 cX8_ringBreath 12 (some .int) A p s m args meth c) {k43 : Int32 → Int32 → Int32 → Int32 → Int32 → Hp → Re} (hk43 : ∀ (x1 : Int32) (x2 : Int32) (x3 : Int32) (x4 : Int32) (x5 : Int32) (h : Hp), k43 x1 x2 x3 x4 x5 h = some (r, h') → VM E 12 A p l e 1 s m args below meth c (Qi E A r h') 43 [(0, .ref (eA E 12)), (1, .int x1), (2, .int x2), (3, .int x3), (4, .int x4), (5, .int x5)] [] h) {x1 : Int32} {x2 : Int32} {x3 : Int32} {x4 : Int32} {x5 : Int32} {x10 : Int32} {x11 : Int32} {y0 : Int32} {y1 : Int32} {h : Hp} (hf0 : f8_ringBreath_j216 k43 x1 x2 x3 x4 x5 x10 x11 y0 y1 h = some (r, h')) : VM E 12 A p l e 1 s m args below meth c (Qi E A r h') 216 [(0, .ref (eA E 12)), (1, .int x1), (2, .int x2), (3, .int x3), (4, .int x4), (5, .int x5), (10, .int x10), (11, .int x11)] [.int y0, .int y1, .ref (eA E 12)] h := by
  unfold f8_ringBreath_j216 at hf0
  have hf1 := hf0
  refine V_iload X 6 rfl dX8_ringBreath_216 ?_
  refine V_iload X 7 rfl dX8_ringBreath_218 ?_
  refine V_isub X dX8_ringBreath_220 ?_
  obtain ⟨c1, e_c1, hf3⟩ := obd hf1
  refine V_callVv X (OB_12 hE) rfl rfl (f8_puts_ok hE e_c1) ys_X8_puts yw_X8_puts ml_X8_82 rfl rfl ⟨Nat.le_of_ble_eq_true rfl, Nat.le_of_ble_eq_true rfl⟩ ⟨Nat.zero_le _, Nat.zero_le _⟩ (Nat.le_of_ble_eq_true rfl) dX8_ringBreath_221 ?_
  refine V_iinc X (v := _ + 1) 5 rfl (by rfl) (by decide) rfl dX8_ringBreath_224 ?_
  refine V_goto X (tgt := 43) (by decide) dX8_ringBreath_227 ?_
  exact V_sub [1, 2, 3, 4, 5, 0] rfl (hk43 _ _ _ _ _ _ hf3)
def f8_ringBreath_j181 (k43 : Int32 → Int32 → Int32 → Int32 → Int32 → Hp → Re) (x1 : Int32) (x2 : Int32) (x3 : Int32) (x5 : Int32) (x6 : Int32) (x8 : Int32) (x10 : Int32) (x11 : Int32) (y0 : Int32) (y1 : Int32) (h : Hp) : Re :=
  (f8_p x1 x2 x5 h).bind fun c1 => if x8 = 0 then (if inB ((2 * x6) + 0) 16 = true then f8_ringBreath_j216 k43 x1 x2 x3 (y1 + (y0 + x11)) x5 x10 x11 (c1.2 19 (Int32.toNatClampNeg ((2 * x6) + 0))) c1.1 c1.2 else none) else (f8_ringBreath_j216 k43 x1 x2 x3 (y1 + (y0 + x11)) x5 x10 x11 x8 c1.1 c1.2)
set_option maxRecDepth 20000 in
set_option maxHeartbeats 4000000 in
theorem f8_ringBreath_j181_ok (hE : IW E) (X : XC E RX8 cX8_ringBreath 12 (some .int) A p s m args meth c) {k43 : Int32 → Int32 → Int32 → Int32 → Int32 → Hp → Re} (hk43 : ∀ (x1 : Int32) (x2 : Int32) (x3 : Int32) (x4 : Int32) (x5 : Int32) (h : Hp), k43 x1 x2 x3 x4 x5 h = some (r, h') → VM E 12 A p l e 1 s m args below meth c (Qi E A r h') 43 [(0, .ref (eA E 12)), (1, .int x1), (2, .int x2), (3, .int x3), (4, .int x4), (5, .int x5)] [] h) {x1 : Int32} {x2 : Int32} {x3 : Int32} {x5 : Int32} {x6 : Int32} {x8 : Int32} {x10 : Int32} {x11 : Int32} {y0 : Int32} {y1 : Int32} {h : Hp} (hf0 : f8_ringBreath_j181 k43 x1 x2 x3 x5 x6 x8 x10 x11 y0 y1 h = some (r, h')) : VM E 12 A p l e 1 s m args below meth c (Qi E A r h') 181 [(0, .ref (eA E 12)), (1, .int x1), (2, .int x2), (3, .int x3), (5, .int x5), (6, .int x6), (8, .int x8), (10, .int x10), (11, .int x11)] [.int y0, .int y1] h := by
  unfold f8_ringBreath_j181 at hf0
  have hf1 := hf0
  refine V_iload X 8 rfl dX8_ringBreath_181 ?_
  refine V_iadd X dX8_ringBreath_183 ?_
  refine V_iadd X dX8_ringBreath_184 ?_
  refine V_istore X (by decide) rfl dX8_ringBreath_185 ?_
  refine V_aload_n X 1 rfl dX8_ringBreath_187 ?_
  refine V_iload_n X 2 rfl dX8_ringBreath_188 ?_
  refine V_iload_n X 3 rfl dX8_ringBreath_189 ?_
  refine V_iload X 5 rfl dX8_ringBreath_190 ?_
  obtain ⟨c1, e_c1, hf3⟩ := obd hf1
  refine V_callSi X (f8_p_ok e_c1) ys_X8_p yw_X8_p ml_X8_61 rfl rfl ⟨Nat.le_of_ble_eq_true rfl, Nat.le_of_ble_eq_true rfl⟩ ⟨Nat.zero_le _, Nat.zero_le _⟩ (Nat.le_of_ble_eq_true rfl) dX8_ringBreath_192 ?_
  refine V_iload X 7 rfl dX8_ringBreath_195 ?_
  refine V_if_ne X (tgt := 214) (by decide) dX8_ringBreath_197 (fun q197 => ?_) (fun q197 => ?_)
  · have hf4 := ife hf3 q197
    refine V_iload X 7 rfl dX8_ringBreath_214 ?_
    exact V_sub [1, 2, 3, 4, 0, 5, 8, 9] rfl (f8_ringBreath_j216_ok hE X hk43 hf4)
  · have hf4 := ift hf3 q197
    refine V_aload_n X 1 rfl dX8_ringBreath_200 ?_
    refine G_X8_6_29 hE X dX8_ringBreath_201 ?_
    refine V_iconst X (v := 2) (by decide) dX8_ringBreath_204 ?_
    refine V_iload X 6 rfl dX8_ringBreath_205 ?_
    refine V_imul X dX8_ringBreath_207 ?_
    refine V_iconst X (v := 0) (by decide) dX8_ringBreath_208 ?_
    refine V_iadd X dX8_ringBreath_209 ?_
    obtain ⟨g104, hf104⟩ := ogd hf4
    refine V_iald X (AR_19 hE) g104 dX8_ringBreath_210 ?_
    refine V_goto X (tgt := 216) (by decide) dX8_ringBreath_211 ?_
    exact V_sub [1, 2, 3, 4, 0, 5, 8, 9] rfl (f8_ringBreath_j216_ok hE X hk43 hf104)
def f8_ringBreath_j166 (k43 : Int32 → Int32 → Int32 → Int32 → Int32 → Hp → Re) (x1 : Int32) (x2 : Int32) (x3 : Int32) (x4 : Int32) (x5 : Int32) (x6 : Int32) (x7 : Int32) (x8 : Int32) (x9 : Int32) (x10 : Int32) (y0 : Int32) (h : Hp) : Re :=
  if x9 = 0 then (f8_ringBreath_j181 k43 x1 x2 x3 x5 x6 x8 x10 y0 x7 x4 h) else (f8_ringBreath_j181 k43 x1 x2 x3 x5 x6 x8 x10 y0 0 x4 h)
set_option maxRecDepth 20000 in
set_option maxHeartbeats 4000000 in
theorem f8_ringBreath_j166_ok (hE : IW E) (X : XC E RX8 cX8_ringBreath 12 (some .int) A p s m args meth c) {k43 : Int32 → Int32 → Int32 → Int32 → Int32 → Hp → Re} (hk43 : ∀ (x1 : Int32) (x2 : Int32) (x3 : Int32) (x4 : Int32) (x5 : Int32) (h : Hp), k43 x1 x2 x3 x4 x5 h = some (r, h') → VM E 12 A p l e 1 s m args below meth c (Qi E A r h') 43 [(0, .ref (eA E 12)), (1, .int x1), (2, .int x2), (3, .int x3), (4, .int x4), (5, .int x5)] [] h) {x1 : Int32} {x2 : Int32} {x3 : Int32} {x4 : Int32} {x5 : Int32} {x6 : Int32} {x7 : Int32} {x8 : Int32} {x9 : Int32} {x10 : Int32} {y0 : Int32} {h : Hp} (hf0 : f8_ringBreath_j166 k43 x1 x2 x3 x4 x5 x6 x7 x8 x9 x10 y0 h = some (r, h')) : VM E 12 A p l e 1 s m args below meth c (Qi E A r h') 166 [(0, .ref (eA E 12)), (1, .int x1), (2, .int x2), (3, .int x3), (4, .int x4), (5, .int x5), (6, .int x6), (7, .int x7), (8, .int x8), (9, .int x9), (10, .int x10)] [.int y0] h := by
  unfold f8_ringBreath_j166 at hf0
  have hf1 := hf0
  refine V_istore X (by decide) rfl dX8_ringBreath_166 ?_
  refine V_iload X 5 rfl dX8_ringBreath_168 ?_
  refine V_iload X 10 rfl dX8_ringBreath_170 ?_
  refine V_if_eq X (tgt := 179) (by decide) dX8_ringBreath_172 (fun q172 => ?_) (fun q172 => ?_)
  · have hf2 := ift hf1 q172
    refine V_iload X 8 rfl dX8_ringBreath_179 ?_
    exact V_sub [1, 2, 3, 4, 6, 7, 9, 11, 0] rfl (f8_ringBreath_j181_ok hE X hk43 hf2)
  · have hf2 := ife hf1 q172
    refine V_iconst X (v := 0) (by decide) dX8_ringBreath_175 ?_
    refine V_goto X (tgt := 181) (by decide) dX8_ringBreath_176 ?_
    exact V_sub [1, 2, 3, 4, 6, 7, 9, 11, 0] rfl (f8_ringBreath_j181_ok hE X hk43 hf2)
def f8_ringBreath_j147 (k43 : Int32 → Int32 → Int32 → Int32 → Int32 → Hp → Re) (x1 : Int32) (x2 : Int32) (x3 : Int32) (x4 : Int32) (x5 : Int32) (x6 : Int32) (x7 : Int32) (x8 : Int32) (x9 : Int32) (y0 : Int32) (y1 : Int32) (h : Hp) : Re :=
  if (y1 + y0) ≤ 99 then (f8_ringBreath_j166 k43 x1 x2 x3 x4 x5 x6 x7 x8 x9 (y1 + y0) 0 h) else (f8_ringBreath_j166 k43 x1 x2 x3 x4 x5 x6 x7 x8 x9 (y1 + y0) ((y1 + y0) - 99) h)
set_option maxRecDepth 20000 in
set_option maxHeartbeats 4000000 in
theorem f8_ringBreath_j147_ok (hE : IW E) (X : XC E RX8 cX8_ringBreath 12 (some .int) A p s m args meth c) {k43 : Int32 → Int32 → Int32 → Int32 → Int32 → Hp → Re} (hk43 : ∀ (x1 : Int32) (x2 : Int32) (x3 : Int32) (x4 : Int32) (x5 : Int32) (h : Hp), k43 x1 x2 x3 x4 x5 h = some (r, h') → VM E 12 A p l e 1 s m args below meth c (Qi E A r h') 43 [(0, .ref (eA E 12)), (1, .int x1), (2, .int x2), (3, .int x3), (4, .int x4), (5, .int x5)] [] h) {x1 : Int32} {x2 : Int32} {x3 : Int32} {x4 : Int32} {x5 : Int32} {x6 : Int32} {x7 : Int32} {x8 : Int32} {x9 : Int32} {y0 : Int32} {y1 : Int32} {h : Hp} (hf0 : f8_ringBreath_j147 k43 x1 x2 x3 x4 x5 x6 x7 x8 x9 y0 y1 h = some (r, h')) : VM E 12 A p l e 1 s m args below meth c (Qi E A r h') 147 [(0, .ref (eA E 12)), (1, .int x1), (2, .int x2), (3, .int x3), (4, .int x4), (5, .int x5), (6, .int x6), (7, .int x7), (8, .int x8), (9, .int x9)] [.int y0, .int y1] h := by
  unfold f8_ringBreath_j147 at hf0
  have hf1 := hf0
  refine V_iadd X dX8_ringBreath_147 ?_
  refine V_istore X (by decide) rfl dX8_ringBreath_148 ?_
  refine V_iload X 0 rfl dX8_ringBreath_150 ?_
  refine V_bipush X (v := 99) (by decide) dX8_ringBreath_152 ?_
  refine V_icmp_le X (tgt := 165) (by decide) dX8_ringBreath_154 (fun q154 => ?_) (fun q154 => ?_)
  · have hf2 := ift hf1 q154
    refine V_iconst X (v := 0) (by decide) dX8_ringBreath_165 ?_
    exact V_sub [1, 2, 3, 4, 5, 6, 7, 8, 9, 10, 0] rfl (f8_ringBreath_j166_ok hE X hk43 hf2)
  · have hf2 := ife hf1 q154
    refine V_iload X 0 rfl dX8_ringBreath_157 ?_
    refine V_bipush X (v := 99) (by decide) dX8_ringBreath_159 ?_
    refine V_isub X dX8_ringBreath_161 ?_
    refine V_goto X (tgt := 166) (by decide) dX8_ringBreath_162 ?_
    exact V_sub [1, 2, 3, 4, 5, 6, 7, 8, 9, 10, 0] rfl (f8_ringBreath_j166_ok hE X hk43 hf2)
def f8_ringBreath_j116 (k43 : Int32 → Int32 → Int32 → Int32 → Int32 → Hp → Re) (x1 : Int32) (x2 : Int32) (x3 : Int32) (x4 : Int32) (x5 : Int32) (x6 : Int32) (x7 : Int32) (x8 : Int32) (y0 : Int32) (h : Hp) : Re :=
  if inB ((2 * x5) + 1) 16 = true then (f8_spills x5 h).bind fun c2 => if y0 = 0 then (f8_ringBreath_j147 k43 x1 x2 x3 x4 x5 x6 x7 x8 y0 0 ((h 19 (Int32.toNatClampNeg ((2 * x5) + 1))) - c2.1) c2.2) else (f8_ringBreath_j147 k43 x1 x2 x3 x4 x5 x6 x7 x8 y0 x7 ((h 19 (Int32.toNatClampNeg ((2 * x5) + 1))) - c2.1) c2.2) else none
set_option maxRecDepth 20000 in
set_option maxHeartbeats 4000000 in
theorem f8_ringBreath_j116_ok (hE : IW E) (X : XC E RX8 cX8_ringBreath 12 (some .int) A p s m args meth c) {k43 : Int32 → Int32 → Int32 → Int32 → Int32 → Hp → Re} (hk43 : ∀ (x1 : Int32) (x2 : Int32) (x3 : Int32) (x4 : Int32) (x5 : Int32) (h : Hp), k43 x1 x2 x3 x4 x5 h = some (r, h') → VM E 12 A p l e 1 s m args below meth c (Qi E A r h') 43 [(0, .ref (eA E 12)), (1, .int x1), (2, .int x2), (3, .int x3), (4, .int x4), (5, .int x5)] [] h) {x1 : Int32} {x2 : Int32} {x3 : Int32} {x4 : Int32} {x5 : Int32} {x6 : Int32} {x7 : Int32} {x8 : Int32} {y0 : Int32} {h : Hp} (hf0 : f8_ringBreath_j116 k43 x1 x2 x3 x4 x5 x6 x7 x8 y0 h = some (r, h')) : VM E 12 A p l e 1 s m args below meth c (Qi E A r h') 116 [(0, .ref (eA E 12)), (1, .int x1), (2, .int x2), (3, .int x3), (4, .int x4), (5, .int x5), (6, .int x6), (7, .int x7), (8, .int x8)] [.int y0] h := by
  unfold f8_ringBreath_j116 at hf0
  have hf1 := hf0
  refine V_istore X (by decide) rfl dX8_ringBreath_116 ?_
  refine V_aload_n X 1 rfl dX8_ringBreath_118 ?_
  refine G_X8_6_29 hE X dX8_ringBreath_119 ?_
  refine V_iconst X (v := 2) (by decide) dX8_ringBreath_122 ?_
  refine V_iload X 6 rfl dX8_ringBreath_123 ?_
  refine V_imul X dX8_ringBreath_125 ?_
  refine V_iconst X (v := 1) (by decide) dX8_ringBreath_126 ?_
  refine V_iadd X dX8_ringBreath_127 ?_
  obtain ⟨g101, hf101⟩ := ogd hf1
  refine V_iald X (AR_19 hE) g101 dX8_ringBreath_128 ?_
  refine V_aload_n X 1 rfl dX8_ringBreath_129 ?_
  refine V_iload X 6 rfl dX8_ringBreath_130 ?_
  obtain ⟨c2, e_c2, hf4⟩ := obd hf101
  refine V_callVi X (OB_12 hE) rfl rfl (f8_spills_ok hE e_c2) ys_X8_spills yw_X8_spills ml_X8_86 rfl rfl ⟨Nat.le_of_ble_eq_true rfl, Nat.le_of_ble_eq_true rfl⟩ ⟨Nat.zero_le _, Nat.zero_le _⟩ (Nat.le_of_ble_eq_true rfl) dX8_ringBreath_132 ?_
  refine V_isub X dX8_ringBreath_135 ?_
  refine V_iload X 0 rfl dX8_ringBreath_136 ?_
  refine V_if_eq X (tgt := 146) (by decide) dX8_ringBreath_138 (fun q138 => ?_) (fun q138 => ?_)
  · have hf5 := ift hf4 q138
    refine V_iconst X (v := 0) (by decide) dX8_ringBreath_146 ?_
    exact V_sub [1, 2, 3, 4, 5, 6, 7, 8, 9, 0] rfl (f8_ringBreath_j147_ok hE X hk43 hf5)
  · have hf5 := ife hf4 q138
    refine V_iload X 8 rfl dX8_ringBreath_141 ?_
    refine V_goto X (tgt := 147) (by decide) dX8_ringBreath_143 ?_
    exact V_sub [1, 2, 3, 4, 5, 6, 7, 8, 9, 0] rfl (f8_ringBreath_j147_ok hE X hk43 hf5)
def f8_ringBreath_j111 (k43 : Int32 → Int32 → Int32 → Int32 → Int32 → Hp → Re) (x1 : Int32) (x2 : Int32) (x3 : Int32) (x4 : Int32) (x5 : Int32) (x6 : Int32) (x7 : Int32) (x8 : Int32) (h : Hp) : Re :=
  f8_ringBreath_j116 k43 x1 x2 x3 x4 x5 x6 x7 x8 1 h
set_option maxRecDepth 20000 in
set_option maxHeartbeats 4000000 in
theorem f8_ringBreath_j111_ok (hE : IW E) (X : XC E RX8 cX8_ringBreath 12 (some .int) A p s m args meth c) {k43 : Int32 → Int32 → Int32 → Int32 → Int32 → Hp → Re} (hk43 : ∀ (x1 : Int32) (x2 : Int32) (x3 : Int32) (x4 : Int32) (x5 : Int32) (h : Hp), k43 x1 x2 x3 x4 x5 h = some (r, h') → VM E 12 A p l e 1 s m args below meth c (Qi E A r h') 43 [(0, .ref (eA E 12)), (1, .int x1), (2, .int x2), (3, .int x3), (4, .int x4), (5, .int x5)] [] h) {x1 : Int32} {x2 : Int32} {x3 : Int32} {x4 : Int32} {x5 : Int32} {x6 : Int32} {x7 : Int32} {x8 : Int32} {h : Hp} (hf0 : f8_ringBreath_j111 k43 x1 x2 x3 x4 x5 x6 x7 x8 h = some (r, h')) : VM E 12 A p l e 1 s m args below meth c (Qi E A r h') 111 [(0, .ref (eA E 12)), (1, .int x1), (2, .int x2), (3, .int x3), (4, .int x4), (5, .int x5), (6, .int x6), (7, .int x7), (8, .int x8)] [] h := by
  unfold f8_ringBreath_j111 at hf0
  have hf1 := hf0
  refine V_iconst X (v := 1) (by decide) dX8_ringBreath_111 ?_
  refine V_goto X (tgt := 116) (by decide) dX8_ringBreath_112 ?_
  exact V_sub [0, 1, 2, 3, 4, 5, 6, 7, 8] rfl (f8_ringBreath_j116_ok hE X hk43 hf1)
def f8_ringBreath_j63 (k43 : Int32 → Int32 → Int32 → Int32 → Int32 → Hp → Re) (x1 : Int32) (x2 : Int32) (x3 : Int32) (x4 : Int32) (x5 : Int32) (y0 : Int32) (y1 : Int32) (h : Hp) : Re :=
  (f8_spills ((y1 + y0) - (y1 + y0) / 8 * 8) h).bind fun c1 => if inB ((2 * x5) + 0) 16 = true then (some (c1.2 19 (Int32.toNatClampNeg ((2 * x5) + 0)) : Int32)).bind fun z4 => if z4 = 0 then (f8_ringBreath_j111 k43 x1 x2 x3 x4 x5 ((y1 + y0) - (y1 + y0) / 8 * 8) c1.1 z4 c1.2) else (if inB ((2 * ((y1 + y0) - (y1 + y0) / 8 * 8)) + 0) 16 = true then if z4 = (c1.2 19 (Int32.toNatClampNeg ((2 * ((y1 + y0) - (y1 + y0) / 8 * 8)) + 0))) then (f8_ringBreath_j111 k43 x1 x2 x3 x4 x5 ((y1 + y0) - (y1 + y0) / 8 * 8) c1.1 z4 c1.2) else (f8_ringBreath_j116 k43 x1 x2 x3 x4 x5 ((y1 + y0) - (y1 + y0) / 8 * 8) c1.1 z4 0 c1.2) else none) else none
set_option maxRecDepth 20000 in
set_option maxHeartbeats 4000000 in
theorem f8_ringBreath_j63_ok (hE : IW E) (X : XC E RX8 cX8_ringBreath 12 (some .int) A p s m args meth c) {k43 : Int32 → Int32 → Int32 → Int32 → Int32 → Hp → Re} (hk43 : ∀ (x1 : Int32) (x2 : Int32) (x3 : Int32) (x4 : Int32) (x5 : Int32) (h : Hp), k43 x1 x2 x3 x4 x5 h = some (r, h') → VM E 12 A p l e 1 s m args below meth c (Qi E A r h') 43 [(0, .ref (eA E 12)), (1, .int x1), (2, .int x2), (3, .int x3), (4, .int x4), (5, .int x5)] [] h) {x1 : Int32} {x2 : Int32} {x3 : Int32} {x4 : Int32} {x5 : Int32} {y0 : Int32} {y1 : Int32} {h : Hp} (hf0 : f8_ringBreath_j63 k43 x1 x2 x3 x4 x5 y0 y1 h = some (r, h')) : VM E 12 A p l e 1 s m args below meth c (Qi E A r h') 63 [(0, .ref (eA E 12)), (1, .int x1), (2, .int x2), (3, .int x3), (4, .int x4), (5, .int x5)] [.int y0, .int y1] h := by
  unfold f8_ringBreath_j63 at hf0
  have hf1 := hf0
  refine V_iadd X dX8_ringBreath_63 ?_
  refine V_bipush X (v := 8) (by decide) dX8_ringBreath_64 ?_
  refine V_irem X (by decide) dX8_ringBreath_66 ?_
  refine V_istore X (by decide) rfl dX8_ringBreath_67 ?_
  refine V_aload_n X 1 rfl dX8_ringBreath_69 ?_
  refine V_iload X 0 rfl dX8_ringBreath_70 ?_
  obtain ⟨c1, e_c1, hf3⟩ := obd hf1
  refine V_callVi X (OB_12 hE) rfl rfl (f8_spills_ok hE e_c1) ys_X8_spills yw_X8_spills ml_X8_86 rfl rfl ⟨Nat.le_of_ble_eq_true rfl, Nat.le_of_ble_eq_true rfl⟩ ⟨Nat.zero_le _, Nat.zero_le _⟩ (Nat.le_of_ble_eq_true rfl) dX8_ringBreath_72 ?_
  refine V_istore X (by decide) rfl dX8_ringBreath_75 ?_
  refine V_aload_n X 2 rfl dX8_ringBreath_77 ?_
  refine G_X8_6_29 hE X dX8_ringBreath_78 ?_
  refine V_iconst X (v := 2) (by decide) dX8_ringBreath_81 ?_
  refine V_iload X 7 rfl dX8_ringBreath_82 ?_
  refine V_imul X dX8_ringBreath_84 ?_
  refine V_iconst X (v := 0) (by decide) dX8_ringBreath_85 ?_
  refine V_iadd X dX8_ringBreath_86 ?_
  obtain ⟨g103, hf103⟩ := ogd hf3
  refine V_iald X (AR_19 hE) g103 dX8_ringBreath_87 ?_
  refine V_istore X (by decide) rfl dX8_ringBreath_88 ?_
  have hf6 := obs hf103
  refine V_iload X 0 rfl dX8_ringBreath_90 ?_
  refine V_if_eq X (tgt := 111) (by decide) dX8_ringBreath_92 (fun q92 => ?_) (fun q92 => ?_)
  · have hf7 := ift hf6 q92
    exact V_sub [3, 4, 5, 6, 7, 8, 2, 1, 0] rfl (f8_ringBreath_j111_ok hE X hk43 hf7)
  · have hf7 := ife hf6 q92
    refine V_iload X 0 rfl dX8_ringBreath_95 ?_
    refine V_aload_n X 3 rfl dX8_ringBreath_97 ?_
    refine G_X8_6_29 hE X dX8_ringBreath_98 ?_
    refine V_iconst X (v := 2) (by decide) dX8_ringBreath_101 ?_
    refine V_iload X 2 rfl dX8_ringBreath_102 ?_
    refine V_imul X dX8_ringBreath_104 ?_
    refine V_iconst X (v := 0) (by decide) dX8_ringBreath_105 ?_
    refine V_iadd X dX8_ringBreath_106 ?_
    obtain ⟨g107, hf107⟩ := ogd hf7
    refine V_iald X (AR_19 hE) g107 dX8_ringBreath_107 ?_
    refine V_icmp_ne X (tgt := 115) (by decide) dX8_ringBreath_108 (fun q108 => ?_) (fun q108 => ?_)
    · have hf9 := ife hf107 q108
      refine V_iconst X (v := 0) (by decide) dX8_ringBreath_115 ?_
      exact V_sub [3, 4, 5, 6, 7, 8, 2, 1, 0] rfl (f8_ringBreath_j116_ok hE X hk43 hf9)
    · have hf9 := ift hf107 q108
      exact V_sub [3, 4, 5, 6, 7, 8, 2, 1, 0] rfl (f8_ringBreath_j111_ok hE X hk43 hf9)
def f8_ringBreath_B43 (k43 : Int32 → Int32 → Int32 → Int32 → Int32 → Hp → Re) (x1 : Int32) (x2 : Int32) (x3 : Int32) (x4 : Int32) (x5 : Int32) (h : Hp) : Re :=
  if 8 ≤ x5 then (some (x4, h)) else (if x3 = 1 then (f8_ringBreath_j63 k43 x1 x2 x3 x4 x5 1 x5 h) else (f8_ringBreath_j63 k43 x1 x2 x3 x4 x5 7 x5 h))
set_option maxRecDepth 20000 in
set_option maxHeartbeats 4000000 in
theorem f8_ringBreath_B43_ok (hE : IW E) (X : XC E RX8 cX8_ringBreath 12 (some .int) A p s m args meth c) {k43 : Int32 → Int32 → Int32 → Int32 → Int32 → Hp → Re} (hk43 : ∀ (x1 : Int32) (x2 : Int32) (x3 : Int32) (x4 : Int32) (x5 : Int32) (h : Hp), k43 x1 x2 x3 x4 x5 h = some (r, h') → VM E 12 A p l e 1 s m args below meth c (Qi E A r h') 43 [(0, .ref (eA E 12)), (1, .int x1), (2, .int x2), (3, .int x3), (4, .int x4), (5, .int x5)] [] h) {x1 : Int32} {x2 : Int32} {x3 : Int32} {x4 : Int32} {x5 : Int32} {h : Hp} (hf0 : f8_ringBreath_B43 k43 x1 x2 x3 x4 x5 h = some (r, h')) : VM E 12 A p l e 1 s m args below meth c (Qi E A r h') 43 [(0, .ref (eA E 12)), (1, .int x1), (2, .int x2), (3, .int x3), (4, .int x4), (5, .int x5)] [] h := by
  unfold f8_ringBreath_B43 at hf0
  have hf1 := hf0
  refine V_iload X 5 rfl dX8_ringBreath_43 ?_
  refine V_bipush X (v := 8) (by decide) dX8_ringBreath_45 ?_
  refine V_icmp_ge X (tgt := 230) (by decide) dX8_ringBreath_47 (fun q47 => ?_) (fun q47 => ?_)
  · have hf2 := ift hf1 q47
    refine V_iload X 4 rfl dX8_ringBreath_230 ?_
    exact V_iret X rfl hf2 dX8_ringBreath_232
  · have hf2 := ife hf1 q47
    refine V_iload X 5 rfl dX8_ringBreath_50 ?_
    refine V_iload_n X 3 rfl dX8_ringBreath_52 ?_
    refine V_iconst X (v := 1) (by decide) dX8_ringBreath_53 ?_
    refine V_icmp_ne X (tgt := 61) (by decide) dX8_ringBreath_54 (fun q54 => ?_) (fun q54 => ?_)
    · have hf3 := ife hf2 q54
      refine V_bipush X (v := 7) (by decide) dX8_ringBreath_61 ?_
      exact V_sub [0, 1, 2, 3, 4, 5] rfl (f8_ringBreath_j63_ok hE X hk43 hf3)
    · have hf3 := ift hf2 q54
      refine V_iconst X (v := 1) (by decide) dX8_ringBreath_57 ?_
      refine V_goto X (tgt := 63) (by decide) dX8_ringBreath_58 ?_
      exact V_sub [0, 1, 2, 3, 4, 5] rfl (f8_ringBreath_j63_ok hE X hk43 hf3)
def f8_ringBreath_L43 : Nat → Int32 → Int32 → Int32 → Int32 → Int32 → Hp → Re
  | 0 => fun _ _ _ _ _ _ => none
  | n + 1 => f8_ringBreath_B43 (f8_ringBreath_L43 n)
theorem f8_ringBreath_L43_s (n : Nat) (x1 : Int32) (x2 : Int32) (x3 : Int32) (x4 : Int32) (x5 : Int32) (h : Hp) : f8_ringBreath_L43 (n + 1) x1 x2 x3 x4 x5 h = f8_ringBreath_B43 (f8_ringBreath_L43 n) x1 x2 x3 x4 x5 h := rfl
theorem f8_ringBreath_L43_ok (hE : IW E) (X : XC E RX8 cX8_ringBreath 12 (some .int) A p s m args meth c) : ∀ (n : Nat) (x1 : Int32) (x2 : Int32) (x3 : Int32) (x4 : Int32) (x5 : Int32) (h : Hp), f8_ringBreath_L43 n x1 x2 x3 x4 x5 h = some (r, h') → VM E 12 A p l e 1 s m args below meth c (Qi E A r h') 43 [(0, .ref (eA E 12)), (1, .int x1), (2, .int x2), (3, .int x3), (4, .int x4), (5, .int x5)] [] h := by
  intro n
  induction n with
  | zero =>
    intro x1 x2 x3 x4 x5 h q
    have q : (none : Re) = some (r, h') := q
    cases q
  | succ n ih =>
    intro x1 x2 x3 x4 x5 h q
    exact f8_ringBreath_B43_ok hE X ih q
def f8_ringBreath_B6 (k6 : Int32 → Int32 → Int32 → Int32 → Int32 → Hp → Re) (x1 : Int32) (x2 : Int32) (x3 : Int32) (x4 : Int32) (x5 : Int32) (h : Hp) : Re :=
  if 16 ≤ x5 then (f8_ringBreath_L43 FU x1 x2 x3 x4 0 h) else ((f8_p x1 x2 0 h).bind fun c2 => if inB (c2.1 + x5) 383 = true then if inB x5 16 = true then (some (hu c2.2 19 (Int32.toNatClampNeg x5) (c2.2 13 (Int32.toNatClampNeg (c2.1 + x5))))).bind fun h6 => k6 x1 x2 x3 x4 (x5 + 1) h6 else none else none)
set_option maxRecDepth 20000 in
set_option maxHeartbeats 4000000 in
theorem f8_ringBreath_B6_ok (hE : IW E) (X : XC E RX8 cX8_ringBreath 12 (some .int) A p s m args meth c) {k6 : Int32 → Int32 → Int32 → Int32 → Int32 → Hp → Re} (hk6 : ∀ (x1 : Int32) (x2 : Int32) (x3 : Int32) (x4 : Int32) (x5 : Int32) (h : Hp), k6 x1 x2 x3 x4 x5 h = some (r, h') → VM E 12 A p l e 1 s m args below meth c (Qi E A r h') 6 [(0, .ref (eA E 12)), (1, .int x1), (2, .int x2), (3, .int x3), (4, .int x4), (5, .int x5)] [] h) {x1 : Int32} {x2 : Int32} {x3 : Int32} {x4 : Int32} {x5 : Int32} {h : Hp} (hf0 : f8_ringBreath_B6 k6 x1 x2 x3 x4 x5 h = some (r, h')) : VM E 12 A p l e 1 s m args below meth c (Qi E A r h') 6 [(0, .ref (eA E 12)), (1, .int x1), (2, .int x2), (3, .int x3), (4, .int x4), (5, .int x5)] [] h := by
  unfold f8_ringBreath_B6 at hf0
  have hf1 := hf0
  refine V_iload X 5 rfl dX8_ringBreath_6 ?_
  refine V_bipush X (v := 16) (by decide) dX8_ringBreath_8 ?_
  refine V_icmp_ge X (tgt := 40) (by decide) dX8_ringBreath_10 (fun q10 => ?_) (fun q10 => ?_)
  · have hf2 := ift hf1 q10
    refine V_iconst X (v := 0) (by decide) dX8_ringBreath_40 ?_
    refine V_istore X (by decide) rfl dX8_ringBreath_41 ?_
    exact V_sub [1, 2, 3, 4, 5, 0] rfl (f8_ringBreath_L43_ok hE X FU _ _ _ _ _ _ hf2)
  · have hf2 := ife hf1 q10
    refine V_aload_n X 0 rfl dX8_ringBreath_13 ?_
    refine G_X8_6_29 hE X dX8_ringBreath_14 ?_
    refine V_iload X 5 rfl dX8_ringBreath_17 ?_
    refine V_aload_n X 0 rfl dX8_ringBreath_19 ?_
    refine G_X8_0_7 hE X dX8_ringBreath_20 ?_
    refine V_iload_n X 1 rfl dX8_ringBreath_23 ?_
    refine V_iload_n X 2 rfl dX8_ringBreath_24 ?_
    refine V_iconst X (v := 0) (by decide) dX8_ringBreath_25 ?_
    obtain ⟨c2, e_c2, hf4⟩ := obd hf2
    refine V_callSi X (f8_p_ok e_c2) ys_X8_p yw_X8_p ml_X8_61 rfl rfl ⟨Nat.le_of_ble_eq_true rfl, Nat.le_of_ble_eq_true rfl⟩ ⟨Nat.zero_le _, Nat.zero_le _⟩ (Nat.le_of_ble_eq_true rfl) dX8_ringBreath_26 ?_
    refine V_iload X 5 rfl dX8_ringBreath_29 ?_
    refine V_iadd X dX8_ringBreath_31 ?_
    obtain ⟨g104, hf104⟩ := ogd hf4
    refine V_iald X (AR_13 hE) g104 dX8_ringBreath_32 ?_
    obtain ⟨g105, hf105⟩ := ogd hf104
    refine V_iast X (AR_19 hE) g105 dX8_ringBreath_33 ?_
    have hf8 := obs hf105
    refine V_iinc X (v := _ + 1) 5 rfl (by rfl) (by decide) rfl dX8_ringBreath_34 ?_
    refine V_goto X (tgt := 6) (by decide) dX8_ringBreath_37 ?_
    exact V_sub [1, 2, 3, 4, 5, 0] rfl (hk6 _ _ _ _ _ _ hf8)
def f8_ringBreath_L6 : Nat → Int32 → Int32 → Int32 → Int32 → Int32 → Hp → Re
  | 0 => fun _ _ _ _ _ _ => none
  | n + 1 => f8_ringBreath_B6 (f8_ringBreath_L6 n)
theorem f8_ringBreath_L6_s (n : Nat) (x1 : Int32) (x2 : Int32) (x3 : Int32) (x4 : Int32) (x5 : Int32) (h : Hp) : f8_ringBreath_L6 (n + 1) x1 x2 x3 x4 x5 h = f8_ringBreath_B6 (f8_ringBreath_L6 n) x1 x2 x3 x4 x5 h := rfl
theorem f8_ringBreath_L6_ok (hE : IW E) (X : XC E RX8 cX8_ringBreath 12 (some .int) A p s m args meth c) : ∀ (n : Nat) (x1 : Int32) (x2 : Int32) (x3 : Int32) (x4 : Int32) (x5 : Int32) (h : Hp), f8_ringBreath_L6 n x1 x2 x3 x4 x5 h = some (r, h') → VM E 12 A p l e 1 s m args below meth c (Qi E A r h') 6 [(0, .ref (eA E 12)), (1, .int x1), (2, .int x2), (3, .int x3), (4, .int x4), (5, .int x5)] [] h := by
  intro n
  induction n with
  | zero =>
    intro x1 x2 x3 x4 x5 h q
    have q : (none : Re) = some (r, h') := q
    cases q
  | succ n ih =>
    intro x1 x2 x3 x4 x5 h q
    exact f8_ringBreath_B6_ok hE X ih q
def f8_ringBreath_e (x1 : Int32) (x2 : Int32) (x3 : Int32) (h : Hp) : Re :=
  f8_ringBreath_L6 FU x1 x2 x3 0 0 h
set_option maxRecDepth 20000 in
set_option maxHeartbeats 4000000 in
theorem f8_ringBreath_e_ok (hE : IW E) (X : XC E RX8 cX8_ringBreath 12 (some .int) A p s m args meth c) {x1 : Int32} {x2 : Int32} {x3 : Int32} {h : Hp} (hf0 : f8_ringBreath_e x1 x2 x3 h = some (r, h')) : VM E 12 A p l e 1 s m args below meth c (Qi E A r h') 0 [(0, .ref (eA E 12)), (1, .int x1), (2, .int x2), (3, .int x3)] [] h := by
  unfold f8_ringBreath_e at hf0
  have hf1 := hf0
  refine V_iconst X (v := 0) (by decide) dX8_ringBreath_0 ?_
  refine V_istore X (by decide) rfl dX8_ringBreath_1 ?_
  refine V_iconst X (v := 0) (by decide) dX8_ringBreath_3 ?_
  refine V_istore X (by decide) rfl dX8_ringBreath_4 ?_
  exact V_sub [2, 3, 4, 5, 1, 0] rfl (f8_ringBreath_L6_ok hE X FU _ _ _ _ _ _ hf1)
def f8_ringBreath (x1 : Int32) (x2 : Int32) (x3 : Int32) (h : Hp) : Re := f8_ringBreath_e x1 x2 x3 h
theorem f8_ringBreath_ok (hE : IW E) {x1 : Int32} {x2 : Int32} {x3 : Int32} {h : Hp} {q : Int32 × Hp} (hf0 : f8_ringBreath x1 x2 x3 h = some q) : SMi l E 1 yX8_ringBreath cX8_ringBreath 12 (some .int) [.ref (eA E 12), .int x1, .int x2, .int x3] h q.1 q.2 :=
  SMi.of (by decide +kernel) (Nat.le_of_ble_eq_true rfl) (fun p e s m args below meth c A X => f8_ringBreath_e_ok hE X (r := q.1) (h' := q.2) hf0)
def f8_breathes_B31 (k31 : Int32 → Int32 → Int32 → Int32 → Hp → Re) (x1 : Int32) (x2 : Int32) (x3 : Int32) (x4 : Int32) (h : Hp) : Re :=
  if 5 ≤ x4 then ((some (hu h 13 (Int32.toNatClampNeg 6) ((h 13 (Int32.toNatClampNeg 6)) + x3))).bind fun h2 => some (x3, h2)) else ((f8_ringBreath x1 x4 x2 h).bind fun c4 => k31 x1 x2 (x3 + c4.1) (x4 + 1) c4.2)
set_option maxRecDepth 20000 in
set_option maxHeartbeats 4000000 in
theorem f8_breathes_B31_ok (hE : IW E) (X : XC E RX8 cX8_breathes 5 (some .int) A p s m args meth c) {k31 : Int32 → Int32 → Int32 → Int32 → Hp → Re} (hk31 : ∀ (x1 : Int32) (x2 : Int32) (x3 : Int32) (x4 : Int32) (h : Hp), k31 x1 x2 x3 x4 h = some (r, h') → VM E 5 A p l e 2 s m args below meth c (Qi E A r h') 31 [(0, .ref (eA E 12)), (1, .int x1), (2, .int x2), (3, .int x3), (4, .int x4)] [] h) {x1 : Int32} {x2 : Int32} {x3 : Int32} {x4 : Int32} {h : Hp} (hf0 : f8_breathes_B31 k31 x1 x2 x3 x4 h = some (r, h')) : VM E 5 A p l e 2 s m args below meth c (Qi E A r h') 31 [(0, .ref (eA E 12)), (1, .int x1), (2, .int x2), (3, .int x3), (4, .int x4)] [] h := by
  unfold f8_breathes_B31 at hf0
  have hf1 := hf0
  refine V_iload X 4 rfl dX8_breathes_31 ?_
  refine V_iconst X (v := 5) (by decide) dX8_breathes_33 ?_
  refine V_icmp_ge X (tgt := 54) (by decide) dX8_breathes_34 (fun q34 => ?_) (fun q34 => ?_)
  · have hf2 := ift hf1 q34
    refine V_aload_n X 0 rfl dX8_breathes_54 ?_
    refine G_X8_0_7 hE X dX8_breathes_55 ?_
    refine V_bipush X (v := 6) (by decide) dX8_breathes_58 ?_
    refine V_dup2 X rfl rfl dX8_breathes_60 ?_
    refine V_iald X (AR_13 hE) (by decide) dX8_breathes_61 ?_
    refine V_iload_n X 3 rfl dX8_breathes_62 ?_
    refine V_iadd X dX8_breathes_63 ?_
    refine V_iast X (AR_13 hE) (by decide) dX8_breathes_64 ?_
    have hf4 := obs hf2
    refine V_iload_n X 3 rfl dX8_breathes_65 ?_
    exact V_iret X rfl hf4 dX8_breathes_66
  · have hf2 := ife hf1 q34
    refine V_iload_n X 3 rfl dX8_breathes_37 ?_
    refine V_aload_n X 0 rfl dX8_breathes_38 ?_
    refine V_iload_n X 1 rfl dX8_breathes_39 ?_
    refine V_iload X 4 rfl dX8_breathes_40 ?_
    refine V_iload_n X 2 rfl dX8_breathes_42 ?_
    obtain ⟨c4, e_c4, hf6⟩ := obd hf2
    refine V_callVi X (OB_12 hE) rfl rfl (f8_ringBreath_ok hE e_c4) ys_X8_ringBreath yw_X8_ringBreath ml_X8_89 rfl rfl ⟨Nat.le_of_ble_eq_true rfl, Nat.le_of_ble_eq_true rfl⟩ ⟨Nat.zero_le _, Nat.zero_le _⟩ (Nat.le_of_ble_eq_true rfl) dX8_breathes_43 ?_
    refine V_iadd X dX8_breathes_46 ?_
    refine V_istore_n X (by decide) rfl dX8_breathes_47 ?_
    refine V_iinc X (v := _ + 1) 4 rfl (by rfl) (by decide) rfl dX8_breathes_48 ?_
    refine V_goto X (tgt := 31) (by decide) dX8_breathes_51 ?_
    exact V_sub [2, 3, 4, 1, 0] rfl (hk31 _ _ _ _ _ hf6)
def f8_breathes_L31 : Nat → Int32 → Int32 → Int32 → Int32 → Hp → Re
  | 0 => fun _ _ _ _ _ => none
  | n + 1 => f8_breathes_B31 (f8_breathes_L31 n)
theorem f8_breathes_L31_s (n : Nat) (x1 : Int32) (x2 : Int32) (x3 : Int32) (x4 : Int32) (h : Hp) : f8_breathes_L31 (n + 1) x1 x2 x3 x4 h = f8_breathes_B31 (f8_breathes_L31 n) x1 x2 x3 x4 h := rfl
theorem f8_breathes_L31_ok (hE : IW E) (X : XC E RX8 cX8_breathes 5 (some .int) A p s m args meth c) : ∀ (n : Nat) (x1 : Int32) (x2 : Int32) (x3 : Int32) (x4 : Int32) (h : Hp), f8_breathes_L31 n x1 x2 x3 x4 h = some (r, h') → VM E 5 A p l e 2 s m args below meth c (Qi E A r h') 31 [(0, .ref (eA E 12)), (1, .int x1), (2, .int x2), (3, .int x3), (4, .int x4)] [] h := by
  intro n
  induction n with
  | zero =>
    intro x1 x2 x3 x4 h q
    have q : (none : Re) = some (r, h') := q
    cases q
  | succ n ih =>
    intro x1 x2 x3 x4 h q
    exact f8_breathes_B31_ok hE X ih q
def f8_breathes_e (x1 : Int32) (x2 : Int32) (h : Hp) : Re :=
  (f8_isQuarter x1 h).bind fun c1 => if c1.1 = 0 then (some ((-1), c1.2)) else ((f8_in x2 0 1 c1.2).bind fun c4 => if c4.1 = 0 then (some ((-2), c4.2)) else ((some (c4.2 13 (Int32.toNatClampNeg 3) : Int32)).bind fun z7 => f8_breathes_L31 FU x1 x2 0 z7 c4.2))
set_option maxRecDepth 20000 in
set_option maxHeartbeats 4000000 in
theorem f8_breathes_e_ok (hE : IW E) (X : XC E RX8 cX8_breathes 5 (some .int) A p s m args meth c) {x1 : Int32} {x2 : Int32} {h : Hp} (hf0 : f8_breathes_e x1 x2 h = some (r, h')) : VM E 5 A p l e 2 s m args below meth c (Qi E A r h') 0 [(0, .ref (eA E 12)), (1, .int x1), (2, .int x2)] [] h := by
  unfold f8_breathes_e at hf0
  have hf1 := hf0
  refine V_iload_n X 1 rfl dX8_breathes_0 ?_
  obtain ⟨c1, e_c1, hf3⟩ := obd hf1
  refine V_callSi X (f8_isQuarter_ok e_c1) ys_X8_isQuarter yw_X8_isQuarter ml_X8_43 rfl rfl ⟨Nat.le_of_ble_eq_true rfl, Nat.le_of_ble_eq_true rfl⟩ ⟨Nat.zero_le _, Nat.zero_le _⟩ (Nat.le_of_ble_eq_true rfl) dX8_breathes_1 ?_
  refine V_if_ne X (tgt := 9) (by decide) dX8_breathes_4 (fun q4 => ?_) (fun q4 => ?_)
  · have hf4 := ife hf3 q4
    refine V_iload_n X 2 rfl dX8_breathes_9 ?_
    refine V_iconst X (v := 0) (by decide) dX8_breathes_10 ?_
    refine V_iconst X (v := 1) (by decide) dX8_breathes_11 ?_
    obtain ⟨c4, e_c4, hf6⟩ := obd hf4
    refine V_callSi X (f8_in_ok e_c4) ys_X8_in yw_X8_in ml_X8_39 rfl rfl ⟨Nat.le_of_ble_eq_true rfl, Nat.le_of_ble_eq_true rfl⟩ ⟨Nat.zero_le _, Nat.zero_le _⟩ (Nat.le_of_ble_eq_true rfl) dX8_breathes_12 ?_
    refine V_if_ne X (tgt := 21) (by decide) dX8_breathes_15 (fun q15 => ?_) (fun q15 => ?_)
    · have hf7 := ife hf6 q15
      refine V_iconst X (v := 0) (by decide) dX8_breathes_21 ?_
      refine V_istore_n X (by decide) rfl dX8_breathes_22 ?_
      refine V_aload_n X 1 rfl dX8_breathes_23 ?_
      refine G_X8_0_7 hE X dX8_breathes_24 ?_
      refine V_iconst X (v := 3) (by decide) dX8_breathes_27 ?_
      refine V_iald X (AR_13 hE) (by decide) dX8_breathes_28 ?_
      refine V_istore X (by decide) rfl dX8_breathes_29 ?_
      have hf9 := obs hf7
      exact V_sub [2, 3, 4, 1, 0] rfl (f8_breathes_L31_ok hE X FU _ _ _ _ _ hf9)
    · have hf7 := ift hf6 q15
      refine V_bipush X (v := -2) (by decide) dX8_breathes_18 ?_
      exact V_iret X rfl hf7 dX8_breathes_20
  · have hf4 := ift hf3 q4
    refine V_iconst X (v := -1) (by decide) dX8_breathes_7 ?_
    exact V_iret X rfl hf4 dX8_breathes_8
def f8_breathes (x1 : Int32) (x2 : Int32) (h : Hp) : Re := f8_breathes_e x1 x2 h
theorem f8_breathes_ok (hE : IW E) {x1 : Int32} {x2 : Int32} {h : Hp} {q : Int32 × Hp} (hf0 : f8_breathes x1 x2 h = some q) : SMi l E 2 yX8_breathes cX8_breathes 5 (some .int) [.ref (eA E 12), .int x1, .int x2] h q.1 q.2 :=
  SMi.of (by decide +kernel) (Nat.le_of_ble_eq_true rfl) (fun p e s m args below meth c A X => f8_breathes_e_ok hE X (r := q.1) (h' := q.2) hf0)
def f8_closes_e (h : Hp) : Re :=
  if (h 13 (Int32.toNatClampNeg 3)) = 5 then (some ((-5), h)) else ((f8_isWhole (h 13 (Int32.toNatClampNeg 3)) h).bind fun c2 => if c2.1 = 0 then (some ((-5), c2.2)) else ((some (hu c2.2 13 (Int32.toNatClampNeg 3) ((c2.2 13 (Int32.toNatClampNeg 3)) + 1))).bind fun h5 => some ((h5 13 (Int32.toNatClampNeg 3)) - 1, h5)))
set_option maxRecDepth 20000 in
set_option maxHeartbeats 4000000 in
theorem f8_closes_e_ok (hE : IW E) (X : XC E RX8 cX8_closes 1 (some .int) A p s m args meth c) {h : Hp} (hf0 : f8_closes_e  h = some (r, h')) : VM E 1 A p l e 5 s m args below meth c (Qi E A r h') 0 [(0, .ref (eA E 12))] [] h := by
  unfold f8_closes_e at hf0
  have hf1 := hf0
  refine V_aload_n X 0 rfl dX8_closes_0 ?_
  refine G_X8_0_7 hE X dX8_closes_1 ?_
  refine V_iconst X (v := 3) (by decide) dX8_closes_4 ?_
  refine V_iald X (AR_13 hE) (by decide) dX8_closes_5 ?_
  refine V_iconst X (v := 5) (by decide) dX8_closes_6 ?_
  refine V_icmp_eq X (tgt := 23) (by decide) dX8_closes_7 (fun q7 => ?_) (fun q7 => ?_)
  · have hf2 := ift hf1 q7
    refine V_bipush X (v := -5) (by decide) dX8_closes_23 ?_
    exact V_iret X rfl hf2 dX8_closes_25
  · have hf2 := ife hf1 q7
    refine V_aload_n X 0 rfl dX8_closes_10 ?_
    refine V_aload_n X 0 rfl dX8_closes_11 ?_
    refine G_X8_0_7 hE X dX8_closes_12 ?_
    refine V_iconst X (v := 3) (by decide) dX8_closes_15 ?_
    refine V_iald X (AR_13 hE) (by decide) dX8_closes_16 ?_
    obtain ⟨c2, e_c2, hf4⟩ := obd hf2
    refine V_callVi X (OB_12 hE) rfl rfl (f8_isWhole_ok hE e_c2) ys_X8_isWhole yw_X8_isWhole ml_X8_92 rfl rfl ⟨Nat.le_of_ble_eq_true rfl, Nat.le_of_ble_eq_true rfl⟩ ⟨Nat.zero_le _, Nat.zero_le _⟩ (Nat.le_of_ble_eq_true rfl) dX8_closes_17 ?_
    refine V_if_ne X (tgt := 26) (by decide) dX8_closes_20 (fun q20 => ?_) (fun q20 => ?_)
    · have hf5 := ife hf4 q20
      refine V_aload_n X 0 rfl dX8_closes_26 ?_
      refine G_X8_0_7 hE X dX8_closes_27 ?_
      refine V_iconst X (v := 3) (by decide) dX8_closes_30 ?_
      refine V_dup2 X rfl rfl dX8_closes_31 ?_
      refine V_iald X (AR_13 hE) (by decide) dX8_closes_32 ?_
      refine V_iconst X (v := 1) (by decide) dX8_closes_33 ?_
      refine V_iadd X dX8_closes_34 ?_
      refine V_iast X (AR_13 hE) (by decide) dX8_closes_35 ?_
      have hf7 := obs hf5
      refine V_aload_n X 0 rfl dX8_closes_36 ?_
      refine G_X8_0_7 hE X dX8_closes_37 ?_
      refine V_iconst X (v := 3) (by decide) dX8_closes_40 ?_
      refine V_iald X (AR_13 hE) (by decide) dX8_closes_41 ?_
      refine V_iconst X (v := 1) (by decide) dX8_closes_42 ?_
      refine V_isub X dX8_closes_43 ?_
      exact V_iret X rfl hf7 dX8_closes_44
    · have hf5 := ift hf4 q20
      refine V_bipush X (v := -5) (by decide) dX8_closes_23 ?_
      exact V_iret X rfl hf5 dX8_closes_25
def f8_closes (h : Hp) : Re := f8_closes_e  h
theorem f8_closes_ok (hE : IW E) {h : Hp} {q : Int32 × Hp} (hf0 : f8_closes  h = some q) : SMi l E 5 yX8_closes cX8_closes 1 (some .int) [.ref (eA E 12)] h q.1 q.2 :=
  SMi.of (by decide +kernel) (Nat.le_of_ble_eq_true rfl) (fun p e s m args below meth c A X => f8_closes_e_ok hE X (r := q.1) (h' := q.2) hf0)
def f8_swept_e (x0 : Int32) (h : Hp) : Re :=
  if x0 = 1 then (some (2, h)) else (if x0 = 2 then (some (1, h)) else (some (x0, h)))
set_option maxRecDepth 20000 in
set_option maxHeartbeats 4000000 in
theorem f8_swept_e_ok (X : XC E RX8 cX8_swept 1 (some .int) A p s m args meth c) {x0 : Int32} {h : Hp} (hf0 : f8_swept_e x0 h = some (r, h')) : VM E 1 A p l e 0 s m args below meth c (Qi E A r h') 0 [(0, .int x0)] [] h := by
  unfold f8_swept_e at hf0
  have hf1 := hf0
  refine V_iload_n X 0 rfl dX8_swept_0 ?_
  refine V_iconst X (v := 1) (by decide) dX8_swept_1 ?_
  refine V_icmp_ne X (tgt := 9) (by decide) dX8_swept_2 (fun q2 => ?_) (fun q2 => ?_)
  · have hf2 := ife hf1 q2
    refine V_iload_n X 0 rfl dX8_swept_9 ?_
    refine V_iconst X (v := 2) (by decide) dX8_swept_10 ?_
    refine V_icmp_ne X (tgt := 18) (by decide) dX8_swept_11 (fun q11 => ?_) (fun q11 => ?_)
    · have hf3 := ife hf2 q11
      refine V_iload_n X 0 rfl dX8_swept_18 ?_
      exact V_iret X rfl hf3 dX8_swept_19
    · have hf3 := ift hf2 q11
      refine V_iconst X (v := 1) (by decide) dX8_swept_14 ?_
      refine V_goto X (tgt := 19) (by decide) dX8_swept_15 ?_
      exact V_iret X rfl hf3 dX8_swept_19
  · have hf2 := ift hf1 q2
    refine V_iconst X (v := 2) (by decide) dX8_swept_5 ?_
    refine V_goto X (tgt := 19) (by decide) dX8_swept_6 ?_
    exact V_iret X rfl hf2 dX8_swept_19
def f8_swept (x0 : Int32) (h : Hp) : Re := f8_swept_e x0 h
theorem f8_swept_ok {x0 : Int32} {h : Hp} {q : Int32 × Hp} (hf0 : f8_swept x0 h = some q) : SMi l E 0 yX8_swept cX8_swept 1 (some .int) [.int x0] h q.1 q.2 :=
  SMi.of (by decide +kernel) (Nat.le_of_ble_eq_true rfl) (fun p e s m args below meth c A X => f8_swept_e_ok X (r := q.1) (h' := q.2) hf0)
def f8_sweeps_B125 (k125 : Int32 → Int32 → Hp → Re) (x1 : Int32) (x2 : Int32) (h : Hp) : Re :=
  if 45 ≤ x2 then (some (x1, h)) else (if inB (18 + x2) 383 = true then (some (hu h 13 (Int32.toNatClampNeg (18 + x2)) 0)).bind fun h3 => k125 x1 (x2 + 1) h3 else none)
set_option maxRecDepth 20000 in
set_option maxHeartbeats 4000000 in
theorem f8_sweeps_B125_ok (hE : IW E) (X : XC E RX8 cX8_sweeps 4 (some .int) A p s m args meth c) {k125 : Int32 → Int32 → Hp → Re} (hk125 : ∀ (x1 : Int32) (x2 : Int32) (h : Hp), k125 x1 x2 h = some (r, h') → VM E 4 A p l e 1 s m args below meth c (Qi E A r h') 125 [(0, .ref (eA E 12)), (1, .int x1), (2, .int x2)] [] h) {x1 : Int32} {x2 : Int32} {h : Hp} (hf0 : f8_sweeps_B125 k125 x1 x2 h = some (r, h')) : VM E 4 A p l e 1 s m args below meth c (Qi E A r h') 125 [(0, .ref (eA E 12)), (1, .int x1), (2, .int x2)] [] h := by
  unfold f8_sweeps_B125 at hf0
  have hf1 := hf0
  refine V_iload_n X 2 rfl dX8_sweeps_125 ?_
  refine V_bipush X (v := 45) (by decide) dX8_sweeps_126 ?_
  refine V_icmp_ge X (tgt := 147) (by decide) dX8_sweeps_128 (fun q128 => ?_) (fun q128 => ?_)
  · have hf2 := ift hf1 q128
    refine V_iload_n X 1 rfl dX8_sweeps_147 ?_
    exact V_iret X rfl hf2 dX8_sweeps_148
  · have hf2 := ife hf1 q128
    refine V_aload_n X 0 rfl dX8_sweeps_131 ?_
    refine G_X8_0_7 hE X dX8_sweeps_132 ?_
    refine V_bipush X (v := 18) (by decide) dX8_sweeps_135 ?_
    refine V_iload_n X 2 rfl dX8_sweeps_137 ?_
    refine V_iadd X dX8_sweeps_138 ?_
    refine V_iconst X (v := 0) (by decide) dX8_sweeps_139 ?_
    obtain ⟨g102, hf102⟩ := ogd hf2
    refine V_iast X (AR_13 hE) g102 dX8_sweeps_140 ?_
    have hf5 := obs hf102
    refine V_iinc X (v := _ + 1) 2 rfl (by rfl) (by decide) rfl dX8_sweeps_141 ?_
    refine V_goto X (tgt := 125) (by decide) dX8_sweeps_144 ?_
    exact V_sub [1, 2, 0] rfl (hk125 _ _ _ hf5)
def f8_sweeps_L125 : Nat → Int32 → Int32 → Hp → Re
  | 0 => fun _ _ _ => none
  | n + 1 => f8_sweeps_B125 (f8_sweeps_L125 n)
theorem f8_sweeps_L125_s (n : Nat) (x1 : Int32) (x2 : Int32) (h : Hp) : f8_sweeps_L125 (n + 1) x1 x2 h = f8_sweeps_B125 (f8_sweeps_L125 n) x1 x2 h := rfl
theorem f8_sweeps_L125_ok (hE : IW E) (X : XC E RX8 cX8_sweeps 4 (some .int) A p s m args meth c) : ∀ (n : Nat) (x1 : Int32) (x2 : Int32) (h : Hp), f8_sweeps_L125 n x1 x2 h = some (r, h') → VM E 4 A p l e 1 s m args below meth c (Qi E A r h') 125 [(0, .ref (eA E 12)), (1, .int x1), (2, .int x2)] [] h := by
  intro n
  induction n with
  | zero =>
    intro x1 x2 h q
    have q : (none : Re) = some (r, h') := q
    cases q
  | succ n ih =>
    intro x1 x2 h q
    exact f8_sweeps_B125_ok hE X ih q
def f8_sweeps_B26 (k26 : Int32 → Int32 → Hp → Re) (x1 : Int32) (x2 : Int32) (h : Hp) : Re :=
  if 40 ≤ x2 then ((some (hu h 13 (Int32.toNatClampNeg 7) ((h 13 (Int32.toNatClampNeg 7)) + 1))).bind fun h2 => if (h2 13 (Int32.toNatClampNeg 7)) = 4 then ((some (hu h2 13 (Int32.toNatClampNeg 7) 0)).bind fun h5 => (some (hu h5 13 (Int32.toNatClampNeg 3) 0)).bind fun h7 => (some (hu h7 13 (Int32.toNatClampNeg 4) ((h7 13 (Int32.toNatClampNeg 4)) + 1))).bind fun h9 => f8_sweeps_L125 FU x1 0 h9) else (some (x1, h2))) else ((f8_p x1 (x2 / 8) (x2 - x2 / 8 * 8) h).bind fun c11 => if inB (c11.1 + 1) 383 = true then (some (hu c11.2 13 (Int32.toNatClampNeg 6) ((c11.2 13 (Int32.toNatClampNeg 6)) + (c11.2 13 (Int32.toNatClampNeg (c11.1 + 1)))))).bind fun h14 => (f8_puts c11.1 0 0 h14).bind fun c16 => k26 x1 (x2 + 1) c16.2 else none)
set_option maxRecDepth 20000 in
set_option maxHeartbeats 4000000 in
theorem f8_sweeps_B26_ok (hE : IW E) (X : XC E RX8 cX8_sweeps 4 (some .int) A p s m args meth c) {k26 : Int32 → Int32 → Hp → Re} (hk26 : ∀ (x1 : Int32) (x2 : Int32) (h : Hp), k26 x1 x2 h = some (r, h') → VM E 4 A p l e 1 s m args below meth c (Qi E A r h') 26 [(0, .ref (eA E 12)), (1, .int x1), (2, .int x2)] [] h) {x1 : Int32} {x2 : Int32} {h : Hp} (hf0 : f8_sweeps_B26 k26 x1 x2 h = some (r, h')) : VM E 4 A p l e 1 s m args below meth c (Qi E A r h') 26 [(0, .ref (eA E 12)), (1, .int x1), (2, .int x2)] [] h := by
  unfold f8_sweeps_B26 at hf0
  have hf1 := hf0
  refine V_iload_n X 2 rfl dX8_sweeps_26 ?_
  refine V_bipush X (v := 40) (by decide) dX8_sweeps_27 ?_
  refine V_icmp_ge X (tgt := 76) (by decide) dX8_sweeps_29 (fun q29 => ?_) (fun q29 => ?_)
  · have hf2 := ift hf1 q29
    refine V_aload_n X 0 rfl dX8_sweeps_76 ?_
    refine G_X8_0_7 hE X dX8_sweeps_77 ?_
    refine V_bipush X (v := 7) (by decide) dX8_sweeps_80 ?_
    refine V_dup2 X rfl rfl dX8_sweeps_82 ?_
    refine V_iald X (AR_13 hE) (by decide) dX8_sweeps_83 ?_
    refine V_iconst X (v := 1) (by decide) dX8_sweeps_84 ?_
    refine V_iadd X dX8_sweeps_85 ?_
    refine V_iast X (AR_13 hE) (by decide) dX8_sweeps_86 ?_
    have hf4 := obs hf2
    refine V_aload_n X 0 rfl dX8_sweeps_87 ?_
    refine G_X8_0_7 hE X dX8_sweeps_88 ?_
    refine V_bipush X (v := 7) (by decide) dX8_sweeps_91 ?_
    refine V_iald X (AR_13 hE) (by decide) dX8_sweeps_93 ?_
    refine V_iconst X (v := 4) (by decide) dX8_sweeps_94 ?_
    refine V_icmp_ne X (tgt := 147) (by decide) dX8_sweeps_95 (fun q95 => ?_) (fun q95 => ?_)
    · have hf5 := ife hf4 q95
      refine V_iload_n X 1 rfl dX8_sweeps_147 ?_
      exact V_iret X rfl hf5 dX8_sweeps_148
    · have hf5 := ift hf4 q95
      refine V_aload_n X 0 rfl dX8_sweeps_98 ?_
      refine G_X8_0_7 hE X dX8_sweeps_99 ?_
      refine V_bipush X (v := 7) (by decide) dX8_sweeps_102 ?_
      refine V_iconst X (v := 0) (by decide) dX8_sweeps_104 ?_
      refine V_iast X (AR_13 hE) (by decide) dX8_sweeps_105 ?_
      have hf7 := obs hf5
      refine V_aload_n X 0 rfl dX8_sweeps_106 ?_
      refine G_X8_0_7 hE X dX8_sweeps_107 ?_
      refine V_iconst X (v := 3) (by decide) dX8_sweeps_110 ?_
      refine V_iconst X (v := 0) (by decide) dX8_sweeps_111 ?_
      refine V_iast X (AR_13 hE) (by decide) dX8_sweeps_112 ?_
      have hf9 := obs hf7
      refine V_aload_n X 0 rfl dX8_sweeps_113 ?_
      refine G_X8_0_7 hE X dX8_sweeps_114 ?_
      refine V_iconst X (v := 4) (by decide) dX8_sweeps_117 ?_
      refine V_dup2 X rfl rfl dX8_sweeps_118 ?_
      refine V_iald X (AR_13 hE) (by decide) dX8_sweeps_119 ?_
      refine V_iconst X (v := 1) (by decide) dX8_sweeps_120 ?_
      refine V_iadd X dX8_sweeps_121 ?_
      refine V_iast X (AR_13 hE) (by decide) dX8_sweeps_122 ?_
      have hf11 := obs hf9
      refine V_iconst X (v := 0) (by decide) dX8_sweeps_123 ?_
      refine V_istore_n X (by decide) rfl dX8_sweeps_124 ?_
      exact V_sub [1, 2, 0] rfl (f8_sweeps_L125_ok hE X FU _ _ _ hf11)
  · have hf2 := ife hf1 q29
    refine V_iload_n X 1 rfl dX8_sweeps_32 ?_
    refine V_iload_n X 2 rfl dX8_sweeps_33 ?_
    refine V_bipush X (v := 8) (by decide) dX8_sweeps_34 ?_
    refine V_idiv X (by decide) dX8_sweeps_36 ?_
    refine V_iload_n X 2 rfl dX8_sweeps_37 ?_
    refine V_bipush X (v := 8) (by decide) dX8_sweeps_38 ?_
    refine V_irem X (by decide) dX8_sweeps_40 ?_
    obtain ⟨c11, e_c11, hf13⟩ := obd hf2
    refine V_callSi X (f8_p_ok e_c11) ys_X8_p yw_X8_p ml_X8_61 rfl rfl ⟨Nat.le_of_ble_eq_true rfl, Nat.le_of_ble_eq_true rfl⟩ ⟨Nat.zero_le _, Nat.zero_le _⟩ (Nat.le_of_ble_eq_true rfl) dX8_sweeps_41 ?_
    refine V_istore_n X (by decide) rfl dX8_sweeps_44 ?_
    refine V_aload_n X 1 rfl dX8_sweeps_45 ?_
    refine G_X8_0_7 hE X dX8_sweeps_46 ?_
    refine V_bipush X (v := 6) (by decide) dX8_sweeps_49 ?_
    refine V_dup2 X rfl rfl dX8_sweeps_51 ?_
    refine V_iald X (AR_13 hE) (by decide) dX8_sweeps_52 ?_
    refine V_aload_n X 1 rfl dX8_sweeps_53 ?_
    refine G_X8_0_7 hE X dX8_sweeps_54 ?_
    refine V_iload_n X 0 rfl dX8_sweeps_57 ?_
    refine V_iconst X (v := 1) (by decide) dX8_sweeps_58 ?_
    refine V_iadd X dX8_sweeps_59 ?_
    obtain ⟨g113, hf113⟩ := ogd hf13
    refine V_iald X (AR_13 hE) g113 dX8_sweeps_60 ?_
    refine V_iadd X dX8_sweeps_61 ?_
    refine V_iast X (AR_13 hE) (by decide) dX8_sweeps_62 ?_
    have hf16 := obs hf113
    refine V_aload_n X 1 rfl dX8_sweeps_63 ?_
    refine V_iload_n X 0 rfl dX8_sweeps_64 ?_
    refine V_iconst X (v := 0) (by decide) dX8_sweeps_65 ?_
    refine V_iconst X (v := 0) (by decide) dX8_sweeps_66 ?_
    obtain ⟨c16, e_c16, hf18⟩ := obd hf16
    refine V_callVv X (OB_12 hE) rfl rfl (f8_puts_ok hE e_c16) ys_X8_puts yw_X8_puts ml_X8_82 rfl rfl ⟨Nat.le_of_ble_eq_true rfl, Nat.le_of_ble_eq_true rfl⟩ ⟨Nat.zero_le _, Nat.zero_le _⟩ (Nat.le_of_ble_eq_true rfl) dX8_sweeps_67 ?_
    refine V_iinc X (v := _ + 1) 3 rfl (by rfl) (by decide) rfl dX8_sweeps_70 ?_
    refine V_goto X (tgt := 26) (by decide) dX8_sweeps_73 ?_
    exact V_sub [2, 3, 0] rfl (hk26 _ _ _ hf18)
def f8_sweeps_L26 : Nat → Int32 → Int32 → Hp → Re
  | 0 => fun _ _ _ => none
  | n + 1 => f8_sweeps_B26 (f8_sweeps_L26 n)
theorem f8_sweeps_L26_s (n : Nat) (x1 : Int32) (x2 : Int32) (h : Hp) : f8_sweeps_L26 (n + 1) x1 x2 h = f8_sweeps_B26 (f8_sweeps_L26 n) x1 x2 h := rfl
theorem f8_sweeps_L26_ok (hE : IW E) (X : XC E RX8 cX8_sweeps 4 (some .int) A p s m args meth c) : ∀ (n : Nat) (x1 : Int32) (x2 : Int32) (h : Hp), f8_sweeps_L26 n x1 x2 h = some (r, h') → VM E 4 A p l e 1 s m args below meth c (Qi E A r h') 26 [(0, .ref (eA E 12)), (1, .int x1), (2, .int x2)] [] h := by
  intro n
  induction n with
  | zero =>
    intro x1 x2 h q
    have q : (none : Re) = some (r, h') := q
    cases q
  | succ n ih =>
    intro x1 x2 h q
    exact f8_sweeps_B26_ok hE X ih q
def f8_sweeps_e (h : Hp) : Re :=
  if 5 ≤ (h 13 (Int32.toNatClampNeg 3)) then ((f8_swept (h 13 (Int32.toNatClampNeg 7)) h).bind fun c2 => f8_sweeps_L26 FU c2.1 0 c2.2) else (some ((-5), h))
set_option maxRecDepth 20000 in
set_option maxHeartbeats 4000000 in
theorem f8_sweeps_e_ok (hE : IW E) (X : XC E RX8 cX8_sweeps 4 (some .int) A p s m args meth c) {h : Hp} (hf0 : f8_sweeps_e  h = some (r, h')) : VM E 4 A p l e 1 s m args below meth c (Qi E A r h') 0 [(0, .ref (eA E 12))] [] h := by
  unfold f8_sweeps_e at hf0
  have hf1 := hf0
  refine V_aload_n X 0 rfl dX8_sweeps_0 ?_
  refine G_X8_0_7 hE X dX8_sweeps_1 ?_
  refine V_iconst X (v := 3) (by decide) dX8_sweeps_4 ?_
  refine V_iald X (AR_13 hE) (by decide) dX8_sweeps_5 ?_
  refine V_iconst X (v := 5) (by decide) dX8_sweeps_6 ?_
  refine V_icmp_ge X (tgt := 13) (by decide) dX8_sweeps_7 (fun q7 => ?_) (fun q7 => ?_)
  · have hf2 := ift hf1 q7
    refine V_aload_n X 0 rfl dX8_sweeps_13 ?_
    refine G_X8_0_7 hE X dX8_sweeps_14 ?_
    refine V_bipush X (v := 7) (by decide) dX8_sweeps_17 ?_
    refine V_iald X (AR_13 hE) (by decide) dX8_sweeps_19 ?_
    obtain ⟨c2, e_c2, hf4⟩ := obd hf2
    refine V_callSi X (f8_swept_ok e_c2) ys_X8_swept yw_X8_swept ml_X8_95 rfl rfl ⟨Nat.le_of_ble_eq_true rfl, Nat.le_of_ble_eq_true rfl⟩ ⟨Nat.zero_le _, Nat.zero_le _⟩ (Nat.le_of_ble_eq_true rfl) dX8_sweeps_20 ?_
    refine V_istore_n X (by decide) rfl dX8_sweeps_23 ?_
    refine V_iconst X (v := 0) (by decide) dX8_sweeps_24 ?_
    refine V_istore_n X (by decide) rfl dX8_sweeps_25 ?_
    exact V_sub [2, 1, 0] rfl (f8_sweeps_L26_ok hE X FU _ _ _ hf4)
  · have hf2 := ife hf1 q7
    refine V_bipush X (v := -5) (by decide) dX8_sweeps_10 ?_
    exact V_iret X rfl hf2 dX8_sweeps_12
def f8_sweeps (h : Hp) : Re := f8_sweeps_e  h
theorem f8_sweeps_ok (hE : IW E) {h : Hp} {q : Int32 × Hp} (hf0 : f8_sweeps  h = some q) : SMi l E 1 yX8_sweeps cX8_sweeps 4 (some .int) [.ref (eA E 12)] h q.1 q.2 :=
  SMi.of (by decide +kernel) (Nat.le_of_ble_eq_true rfl) (fun p e s m args below meth c A X => f8_sweeps_e_ok hE X (r := q.1) (h' := q.2) hf0)
def f8_set_j48 (x1 : Int32) (x2 : Int32) (y0 : Int32) (h : Hp) : Re :=
  if y0 = 0 then (some ((-2), h)) else ((f8_hold  h).bind fun c2 => if inB x1 383 = true then (some (c2.2 13 (Int32.toNatClampNeg x1) : Int32)).bind fun z5 => if inB x1 383 = true then (some (hu c2.2 13 (Int32.toNatClampNeg x1) x2)).bind fun h8 => (f8_recorded z5 h8).bind fun c10 => some (c10.1, c10.2) else none else none)
set_option maxRecDepth 20000 in
set_option maxHeartbeats 4000000 in
theorem f8_set_j48_ok (hE : IW E) (X : XC E RX8 cX8_set 5 (some .int) A p s m args meth c) {x1 : Int32} {x2 : Int32} {y0 : Int32} {h : Hp} (hf0 : f8_set_j48 x1 x2 y0 h = some (r, h')) : VM E 5 A p l e 1 s m args below meth c (Qi E A r h') 48 [(0, .ref (eA E 12)), (1, .int x1), (2, .int x2)] [.int y0] h := by
  unfold f8_set_j48 at hf0
  have hf1 := hf0
  refine V_istore_n X (by decide) rfl dX8_set_48 ?_
  refine V_iload_n X 0 rfl dX8_set_49 ?_
  refine V_if_ne X (tgt := 56) (by decide) dX8_set_50 (fun q50 => ?_) (fun q50 => ?_)
  · have hf2 := ife hf1 q50
    refine V_aload_n X 1 rfl dX8_set_56 ?_
    obtain ⟨c2, e_c2, hf4⟩ := obd hf2
    refine V_callVv X (OB_12 hE) rfl rfl (f8_hold_ok hE e_c2) ys_X8_hold yw_X8_hold ml_X8_98 rfl rfl ⟨Nat.le_of_ble_eq_true rfl, Nat.le_of_ble_eq_true rfl⟩ ⟨Nat.zero_le _, Nat.zero_le _⟩ (Nat.le_of_ble_eq_true rfl) dX8_set_57 ?_
    refine V_aload_n X 1 rfl dX8_set_60 ?_
    refine G_X8_0_7 hE X dX8_set_61 ?_
    refine V_iload_n X 2 rfl dX8_set_64 ?_
    obtain ⟨g104, hf104⟩ := ogd hf4
    refine V_iald X (AR_13 hE) g104 dX8_set_65 ?_
    refine V_istore X (by decide) rfl dX8_set_66 ?_
    have hf7 := obs hf104
    refine V_aload_n X 2 rfl dX8_set_68 ?_
    refine G_X8_0_7 hE X dX8_set_69 ?_
    refine V_iload_n X 3 rfl dX8_set_72 ?_
    refine V_iload_n X 4 rfl dX8_set_73 ?_
    obtain ⟨g107, hf107⟩ := ogd hf7
    refine V_iast X (AR_13 hE) g107 dX8_set_74 ?_
    have hf10 := obs hf107
    refine V_aload_n X 2 rfl dX8_set_75 ?_
    refine V_iload X 0 rfl dX8_set_76 ?_
    obtain ⟨c10, e_c10, hf12⟩ := obd hf10
    refine V_callVi X (OB_12 hE) rfl rfl (f8_recorded_ok hE e_c10) ys_X8_recorded yw_X8_recorded ml_X8_101 rfl rfl ⟨Nat.le_of_ble_eq_true rfl, Nat.le_of_ble_eq_true rfl⟩ ⟨Nat.zero_le _, Nat.zero_le _⟩ (Nat.le_of_ble_eq_true rfl) dX8_set_78 ?_
    exact V_iret X rfl hf12 dX8_set_81
  · have hf2 := ift hf1 q50
    refine V_bipush X (v := -2) (by decide) dX8_set_53 ?_
    exact V_iret X rfl hf2 dX8_set_55
def f8_set_j47 (x1 : Int32) (x2 : Int32) (h : Hp) : Re :=
  f8_set_j48 x1 x2 0 h
set_option maxRecDepth 20000 in
set_option maxHeartbeats 4000000 in
theorem f8_set_j47_ok (hE : IW E) (X : XC E RX8 cX8_set 5 (some .int) A p s m args meth c) {x1 : Int32} {x2 : Int32} {h : Hp} (hf0 : f8_set_j47 x1 x2 h = some (r, h')) : VM E 5 A p l e 1 s m args below meth c (Qi E A r h') 47 [(0, .ref (eA E 12)), (1, .int x1), (2, .int x2)] [] h := by
  unfold f8_set_j47 at hf0
  have hf1 := hf0
  refine V_iconst X (v := 0) (by decide) dX8_set_47 ?_
  exact V_sub [0, 1, 2] rfl (f8_set_j48_ok hE X hf1)
def f8_set_e (x1 : Int32) (x2 : Int32) (h : Hp) : Re :=
  if x1 = 0 then ((f8_in x2 1 50 h).bind fun c9 => f8_set_j48 x1 x2 c9.1 c9.2) else (if x1 = 1 then ((f8_in x2 1 99 h).bind fun c7 => f8_set_j48 x1 x2 c7.1 c7.2) else (if x1 = 2 then ((f8_in x2 0 1 h).bind fun c4 => if c4.1 = 0 then (f8_set_j47 x1 x2 c4.2) else (f8_set_j48 x1 x2 1 c4.2)) else (f8_set_j47 x1 x2 h)))
set_option maxRecDepth 20000 in
set_option maxHeartbeats 4000000 in
theorem f8_set_e_ok (hE : IW E) (X : XC E RX8 cX8_set 5 (some .int) A p s m args meth c) {x1 : Int32} {x2 : Int32} {h : Hp} (hf0 : f8_set_e x1 x2 h = some (r, h')) : VM E 5 A p l e 1 s m args below meth c (Qi E A r h') 0 [(0, .ref (eA E 12)), (1, .int x1), (2, .int x2)] [] h := by
  unfold f8_set_e at hf0
  have hf1 := hf0
  refine V_iload_n X 1 rfl dX8_set_0 ?_
  refine V_if_ne X (tgt := 14) (by decide) dX8_set_1 (fun q1 => ?_) (fun q1 => ?_)
  · have hf2 := ife hf1 q1
    refine V_iload_n X 1 rfl dX8_set_14 ?_
    refine V_iconst X (v := 1) (by decide) dX8_set_15 ?_
    refine V_icmp_ne X (tgt := 29) (by decide) dX8_set_16 (fun q16 => ?_) (fun q16 => ?_)
    · have hf3 := ife hf2 q16
      refine V_iload_n X 1 rfl dX8_set_29 ?_
      refine V_iconst X (v := 2) (by decide) dX8_set_30 ?_
      refine V_icmp_ne X (tgt := 47) (by decide) dX8_set_31 (fun q31 => ?_) (fun q31 => ?_)
      · have hf4 := ife hf3 q31
        exact V_sub [0, 1, 2] rfl (f8_set_j47_ok hE X hf4)
      · have hf4 := ift hf3 q31
        refine V_iload_n X 2 rfl dX8_set_34 ?_
        refine V_iconst X (v := 0) (by decide) dX8_set_35 ?_
        refine V_iconst X (v := 1) (by decide) dX8_set_36 ?_
        obtain ⟨c4, e_c4, hf6⟩ := obd hf4
        refine V_callSi X (f8_in_ok e_c4) ys_X8_in yw_X8_in ml_X8_39 rfl rfl ⟨Nat.le_of_ble_eq_true rfl, Nat.le_of_ble_eq_true rfl⟩ ⟨Nat.zero_le _, Nat.zero_le _⟩ (Nat.le_of_ble_eq_true rfl) dX8_set_37 ?_
        refine V_if_eq X (tgt := 47) (by decide) dX8_set_40 (fun q40 => ?_) (fun q40 => ?_)
        · have hf7 := ift hf6 q40
          exact V_sub [0, 1, 2] rfl (f8_set_j47_ok hE X hf7)
        · have hf7 := ife hf6 q40
          refine V_iconst X (v := 1) (by decide) dX8_set_43 ?_
          refine V_goto X (tgt := 48) (by decide) dX8_set_44 ?_
          exact V_sub [0, 1, 2] rfl (f8_set_j48_ok hE X hf7)
    · have hf3 := ift hf2 q16
      refine V_iload_n X 2 rfl dX8_set_19 ?_
      refine V_iconst X (v := 1) (by decide) dX8_set_20 ?_
      refine V_bipush X (v := 99) (by decide) dX8_set_21 ?_
      obtain ⟨c7, e_c7, hf9⟩ := obd hf3
      refine V_callSi X (f8_in_ok e_c7) ys_X8_in yw_X8_in ml_X8_39 rfl rfl ⟨Nat.le_of_ble_eq_true rfl, Nat.le_of_ble_eq_true rfl⟩ ⟨Nat.zero_le _, Nat.zero_le _⟩ (Nat.le_of_ble_eq_true rfl) dX8_set_23 ?_
      refine V_goto X (tgt := 48) (by decide) dX8_set_26 ?_
      exact V_sub [0, 1, 2] rfl (f8_set_j48_ok hE X hf9)
  · have hf2 := ift hf1 q1
    refine V_iload_n X 2 rfl dX8_set_4 ?_
    refine V_iconst X (v := 1) (by decide) dX8_set_5 ?_
    refine V_bipush X (v := 50) (by decide) dX8_set_6 ?_
    obtain ⟨c9, e_c9, hf11⟩ := obd hf2
    refine V_callSi X (f8_in_ok e_c9) ys_X8_in yw_X8_in ml_X8_39 rfl rfl ⟨Nat.le_of_ble_eq_true rfl, Nat.le_of_ble_eq_true rfl⟩ ⟨Nat.zero_le _, Nat.zero_le _⟩ (Nat.le_of_ble_eq_true rfl) dX8_set_8 ?_
    refine V_goto X (tgt := 48) (by decide) dX8_set_11 ?_
    exact V_sub [0, 1, 2] rfl (f8_set_j48_ok hE X hf11)
def f8_set (x1 : Int32) (x2 : Int32) (h : Hp) : Re := f8_set_e x1 x2 h
theorem f8_set_ok (hE : IW E) {x1 : Int32} {x2 : Int32} {h : Hp} {q : Int32 × Hp} (hf0 : f8_set x1 x2 h = some q) : SMi l E 1 yX8_set cX8_set 5 (some .int) [.ref (eA E 12), .int x1, .int x2] h q.1 q.2 :=
  SMi.of (by decide +kernel) (Nat.le_of_ble_eq_true rfl) (fun p e s m args below meth c A X => f8_set_e_ok hE X (r := q.1) (h' := q.2) hf0)
end DM
