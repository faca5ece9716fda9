section DM
variable {E : EN} {A : Nat → Prop} {p : Program} {l : Launch} {e : Env} {s : State} {m : MethodId} {args : Array Value} {below : List Frame} {meth : Method} {c : Code} {r : Int32} {h' : Hp}
def f7_isRing_e (x0 : Int32) (h : Hp) : Re :=
  if x0 < 0 then (rz 0 h) else (if 5 ≤ x0 then (rz 0 h) else (rz 1 h))
set_option maxRecDepth 20000 in
set_option maxHeartbeats 4000000 in
theorem f7_isRing_e_ok (X : XC E RX7 cX7_isRing 1 (some .boolean) A p s m args meth c) {x0 : Int32} {h : Hp} (hf0 : f7_isRing_e x0 h = some (r, h')) : VM E 1 A p l e 0 s m args below meth c (Qi E A r h') 0 [(0, .int x0)] [] h := by
  unfold f7_isRing_e at hf0
  have hf1 := hf0
  refine V_iload_n X 0 rfl dX7_isRing_0 ?_
  refine V_if_lt X (tgt := 13) (by decide) dX7_isRing_1 (fun q1 => ?_) (fun q1 => ?_)
  · have hf2 := ift hf1 q1
    refine V_iconst X (v := 0) (by decide) dX7_isRing_13 ?_
    exact V_zret X rfl hf2 dX7_isRing_14
  · have hf2 := ife hf1 q1
    refine V_iload_n X 0 rfl dX7_isRing_4 ?_
    refine V_iconst X (v := 5) (by decide) dX7_isRing_5 ?_
    refine V_icmp_ge X (tgt := 13) (by decide) dX7_isRing_6 (fun q6 => ?_) (fun q6 => ?_)
    · have hf3 := ift hf2 q6
      refine V_iconst X (v := 0) (by decide) dX7_isRing_13 ?_
      exact V_zret X rfl hf3 dX7_isRing_14
    · have hf3 := ife hf2 q6
      refine V_iconst X (v := 1) (by decide) dX7_isRing_9 ?_
      refine V_goto X (tgt := 14) (by decide) dX7_isRing_10 ?_
      exact V_zret X rfl hf3 dX7_isRing_14
def f7_isRing (x0 : Int32) (h : Hp) : Re := f7_isRing_e x0 h
theorem f7_isRing_ok {x0 : Int32} {h : Hp} {q : Int32 × Hp} (hf0 : f7_isRing x0 h = some q) : SMi l E 0 yX7_isRing cX7_isRing 1 (some .boolean) [.int x0] h q.1 q.2 :=
  SMi.of (by decide +kernel) (Nat.le_of_ble_eq_true rfl) (fun p e s m args below meth c A X => f7_isRing_e_ok X (r := q.1) (h' := q.2) hf0)
def f5_number_e (k : Nat) (x1 : Int32) (h : Hp) : Re :=
  if x1 < 0 then (some (0, h)) else (if 344 ≤ x1 then (some (0, h)) else (if inB x1 344 = true then some (h (k + 1) (Int32.toNatClampNeg x1), h) else none))
set_option maxRecDepth 20000 in
set_option maxHeartbeats 4000000 in
theorem f5_number_e_ok {k : Nat} (hk : SR E k) (X : XC E RX5 cX5_number 2 (some .int) A p s m args meth c) {x1 : Int32} {h : Hp} (hf0 : f5_number_e k x1 h = some (r, h')) : VM E 2 A p l e 0 s m args below meth c (Qi E A r h') 0 [(0, .ref (eA E k)), (1, .int x1)] [] h := by
  unfold f5_number_e at hf0
  have hf1 := hf0
  refine V_iload_n X 1 rfl dX5_number_0 ?_
  refine V_if_lt X (tgt := 22) (by decide) dX5_number_1 (fun q1 => ?_) (fun q1 => ?_)
  · have hf2 := ift hf1 q1
    refine V_iconst X (v := 0) (by decide) dX5_number_22 ?_
    exact V_iret X rfl hf2 dX5_number_23
  · have hf2 := ife hf1 q1
    refine V_iload_n X 1 rfl dX5_number_4 ?_
    refine V_aload_n X 0 rfl dX5_number_5 ?_
    refine G_X5_0_11 hk X dX5_number_6 ?_
    refine V_alen (j := 0) (v := 344) X hk.2 rfl (by decide) dX5_number_9 ?_
    refine V_icmp_ge X (tgt := 22) (by decide) dX5_number_10 (fun q10 => ?_) (fun q10 => ?_)
    · have hf3 := ift hf2 q10
      refine V_iconst X (v := 0) (by decide) dX5_number_22 ?_
      exact V_iret X rfl hf3 dX5_number_23
    · have hf3 := ife hf2 q10
      refine V_aload_n X 0 rfl dX5_number_13 ?_
      refine G_X5_0_11 hk X dX5_number_14 ?_
      refine V_iload_n X 1 rfl dX5_number_17 ?_
      obtain ⟨g103, hf103⟩ := ogd hf3
      refine V_iald X hk.2 g103 dX5_number_18 ?_
      refine V_goto X (tgt := 23) (by decide) dX5_number_19 ?_
      exact V_iret X rfl hf103 dX5_number_23
def f5_number (k : Nat) (x1 : Int32) (h : Hp) : Re := f5_number_e k x1 h
theorem f5_number_ok {k : Nat} (hk : SR E k) {x1 : Int32} {h : Hp} {q : Int32 × Hp} (hf0 : f5_number k x1 h = some q) : SMi l E 0 yX5_number cX5_number 2 (some .int) [.ref (eA E k), .int x1] h q.1 q.2 :=
  SMi.of (by decide +kernel) (Nat.le_of_ble_eq_true rfl) (fun p e s m args below meth c A X => f5_number_e_ok hk X (r := q.1) (h' := q.2) hf0)
def f5_isClosed_e (k : Nat) (x1 : Int32) (h : Hp) : Re :=
  (f5_number k 19 h).bind fun c1 => if c1.1 ≤ x1 then (rz 0 c1.2) else (rz 1 c1.2)
set_option maxRecDepth 20000 in
set_option maxHeartbeats 4000000 in
theorem f5_isClosed_e_ok {k : Nat} (hk : SR E k) (X : XC E RX5 cX5_isClosed 2 (some .boolean) A p s m args meth c) {x1 : Int32} {h : Hp} (hf0 : f5_isClosed_e k x1 h = some (r, h')) : VM E 2 A p l e 1 s m args below meth c (Qi E A r h') 0 [(0, .ref (eA E k)), (1, .int x1)] [] h := by
  unfold f5_isClosed_e at hf0
  have hf1 := hf0
  refine V_iload_n X 1 rfl dX5_isClosed_0 ?_
  refine V_aload_n X 0 rfl dX5_isClosed_1 ?_
  refine V_bipush X (v := 19) (by decide) dX5_isClosed_2 ?_
  obtain ⟨c1, e_c1, hf3⟩ := obd hf1
  refine V_callVi X hk.1 rfl rfl (f5_number_ok hk e_c1) ys_X5_number yw_X5_number ml_X5_22 rfl rfl ⟨Nat.le_of_ble_eq_true rfl, Nat.le_of_ble_eq_true rfl⟩ ⟨Nat.zero_le _, Nat.zero_le _⟩ (Nat.le_of_ble_eq_true rfl) dX5_isClosed_4 ?_
  refine V_icmp_ge X (tgt := 14) (by decide) dX5_isClosed_7 (fun q7 => ?_) (fun q7 => ?_)
  · have hf4 := ift hf3 q7
    refine V_iconst X (v := 0) (by decide) dX5_isClosed_14 ?_
    exact V_zret X rfl hf4 dX5_isClosed_15
  · have hf4 := ife hf3 q7
    refine V_iconst X (v := 1) (by decide) dX5_isClosed_10 ?_
    refine V_goto X (tgt := 15) (by decide) dX5_isClosed_11 ?_
    exact V_zret X rfl hf4 dX5_isClosed_15
def f5_isClosed (k : Nat) (x1 : Int32) (h : Hp) : Re := f5_isClosed_e k x1 h
theorem f5_isClosed_ok {k : Nat} (hk : SR E k) {x1 : Int32} {h : Hp} {q : Int32 × Hp} (hf0 : f5_isClosed k x1 h = some q) : SMi l E 1 yX5_isClosed cX5_isClosed 2 (some .boolean) [.ref (eA E k), .int x1] h q.1 q.2 :=
  SMi.of (by decide +kernel) (Nat.le_of_ble_eq_true rfl) (fun p e s m args below meth c A X => f5_isClosed_e_ok hk X (r := q.1) (h' := q.2) hf0)
def f7_bit_e (x0 : Int32) (h : Hp) : Re :=
  if x0 = 0 then (some (0, h)) else (some (1, h))
set_option maxRecDepth 20000 in
set_option maxHeartbeats 4000000 in
theorem f7_bit_e_ok (X : XC E RX7 cX7_bit 1 (some .int) A p s m args meth c) {x0 : Int32} {h : Hp} (hf0 : f7_bit_e x0 h = some (r, h')) : VM E 1 A p l e 0 s m args below meth c (Qi E A r h') 0 [(0, .int x0)] [] h := by
  unfold f7_bit_e at hf0
  have hf1 := hf0
  refine V_iload_n X 0 rfl dX7_bit_0 ?_
  refine V_if_eq X (tgt := 8) (by decide) dX7_bit_1 (fun q1 => ?_) (fun q1 => ?_)
  · have hf2 := ift hf1 q1
    refine V_iconst X (v := 0) (by decide) dX7_bit_8 ?_
    exact V_iret X rfl hf2 dX7_bit_9
  · have hf2 := ife hf1 q1
    refine V_iconst X (v := 1) (by decide) dX7_bit_4 ?_
    refine V_goto X (tgt := 9) (by decide) dX7_bit_5 ?_
    exact V_iret X rfl hf2 dX7_bit_9
def f7_bit (x0 : Int32) (h : Hp) : Re := f7_bit_e x0 h
theorem f7_bit_ok {x0 : Int32} {h : Hp} {q : Int32 × Hp} (hf0 : f7_bit x0 h = some q) : SMi l E 0 yX7_bit cX7_bit 1 (some .int) [.int x0] h q.1 q.2 :=
  SMi.of (by decide +kernel) (Nat.le_of_ble_eq_true rfl) (fun p e s m args below meth c A X => f7_bit_e_ok X (r := q.1) (h' := q.2) hf0)
def f5_hasPattern_e (k : Nat) (x1 : Int32) (h : Hp) : Re :=
  (f5_number k (3 + x1) h).bind fun c1 => if c1.1 = (-1) then (rz 0 c1.2) else (rz 1 c1.2)
set_option maxRecDepth 20000 in
set_option maxHeartbeats 4000000 in
theorem f5_hasPattern_e_ok {k : Nat} (hk : SR E k) (X : XC E RX5 cX5_hasPattern 2 (some .boolean) A p s m args meth c) {x1 : Int32} {h : Hp} (hf0 : f5_hasPattern_e k x1 h = some (r, h')) : VM E 2 A p l e 1 s m args below meth c (Qi E A r h') 0 [(0, .ref (eA E k)), (1, .int x1)] [] h := by
  unfold f5_hasPattern_e at hf0
  have hf1 := hf0
  refine V_aload_n X 0 rfl dX5_hasPattern_0 ?_
  refine V_iconst X (v := 3) (by decide) dX5_hasPattern_1 ?_
  refine V_iload_n X 1 rfl dX5_hasPattern_2 ?_
  refine V_iadd X dX5_hasPattern_3 ?_
  obtain ⟨c1, e_c1, hf3⟩ := obd hf1
  refine V_callVi X hk.1 rfl rfl (f5_number_ok hk e_c1) ys_X5_number yw_X5_number ml_X5_22 rfl rfl ⟨Nat.le_of_ble_eq_true rfl, Nat.le_of_ble_eq_true rfl⟩ ⟨Nat.zero_le _, Nat.zero_le _⟩ (Nat.le_of_ble_eq_true rfl) dX5_hasPattern_4 ?_
  refine V_iconst X (v := -1) (by decide) dX5_hasPattern_7 ?_
  refine V_icmp_eq X (tgt := 15) (by decide) dX5_hasPattern_8 (fun q8 => ?_) (fun q8 => ?_)
  · have hf4 := ift hf3 q8
    refine V_iconst X (v := 0) (by decide) dX5_hasPattern_15 ?_
    exact V_zret X rfl hf4 dX5_hasPattern_16
  · have hf4 := ife hf3 q8
    refine V_iconst X (v := 1) (by decide) dX5_hasPattern_11 ?_
    refine V_goto X (tgt := 16) (by decide) dX5_hasPattern_12 ?_
    exact V_zret X rfl hf4 dX5_hasPattern_16
def f5_hasPattern (k : Nat) (x1 : Int32) (h : Hp) : Re := f5_hasPattern_e k x1 h
theorem f5_hasPattern_ok {k : Nat} (hk : SR E k) {x1 : Int32} {h : Hp} {q : Int32 × Hp} (hf0 : f5_hasPattern k x1 h = some q) : SMi l E 1 yX5_hasPattern cX5_hasPattern 2 (some .boolean) [.ref (eA E k), .int x1] h q.1 q.2 :=
  SMi.of (by decide +kernel) (Nat.le_of_ble_eq_true rfl) (fun p e s m args below meth c A X => f5_hasPattern_e_ok hk X (r := q.1) (h' := q.2) hf0)
def f5_patternPlace_j21 (k : Nat) (x2 : Int32) (y0 : Int32) (h : Hp) : Re :=
  if y0 = 0 then (some (x2, h)) else (some (7 - x2, h))
set_option maxRecDepth 20000 in
set_option maxHeartbeats 4000000 in
theorem f5_patternPlace_j21_ok {k : Nat} (hk : SR E k) (X : XC E RX5 cX5_patternPlace 4 (some .int) A p s m args meth c) {x2 : Int32} {y0 : Int32} {h : Hp} (hf0 : f5_patternPlace_j21 k x2 y0 h = some (r, h')) : VM E 4 A p l e 1 s m args below meth c (Qi E A r h') 21 [(2, .int x2)] [.int y0] h := by
  unfold f5_patternPlace_j21 at hf0
  have hf1 := hf0
  refine V_istore_n X (by decide) rfl dX5_patternPlace_21 ?_
  refine V_iload_n X 0 rfl dX5_patternPlace_22 ?_
  refine V_if_eq X (tgt := 33) (by decide) dX5_patternPlace_23 (fun q23 => ?_) (fun q23 => ?_)
  · have hf2 := ift hf1 q23
    refine V_iload_n X 1 rfl dX5_patternPlace_33 ?_
    exact V_iret X rfl hf2 dX5_patternPlace_34
  · have hf2 := ife hf1 q23
    refine V_bipush X (v := 7) (by decide) dX5_patternPlace_26 ?_
    refine V_iload_n X 1 rfl dX5_patternPlace_28 ?_
    refine V_isub X dX5_patternPlace_29 ?_
    refine V_goto X (tgt := 34) (by decide) dX5_patternPlace_30 ?_
    exact V_iret X rfl hf2 dX5_patternPlace_34
def f5_patternPlace_j20 (k : Nat) (x2 : Int32) (h : Hp) : Re :=
  f5_patternPlace_j21 k x2 0 h
set_option maxRecDepth 20000 in
set_option maxHeartbeats 4000000 in
theorem f5_patternPlace_j20_ok {k : Nat} (hk : SR E k) (X : XC E RX5 cX5_patternPlace 4 (some .int) A p s m args meth c) {x2 : Int32} {h : Hp} (hf0 : f5_patternPlace_j20 k x2 h = some (r, h')) : VM E 4 A p l e 1 s m args below meth c (Qi E A r h') 20 [(2, .int x2)] [] h := by
  unfold f5_patternPlace_j20 at hf0
  have hf1 := hf0
  refine V_iconst X (v := 0) (by decide) dX5_patternPlace_20 ?_
  exact V_sub [0] rfl (f5_patternPlace_j21_ok hk X hf1)
def f5_patternPlace_e (k : Nat) (x1 : Int32) (x2 : Int32) (h : Hp) : Re :=
  (f5_number k 2 h).bind fun c1 => if c1.1 = 1 then (if (x1 - x1 / 2 * 2) = 1 then (f5_patternPlace_j21 k x2 1 c1.2) else (f5_patternPlace_j20 k x2 c1.2)) else (f5_patternPlace_j20 k x2 c1.2)
set_option maxRecDepth 20000 in
set_option maxHeartbeats 4000000 in
theorem f5_patternPlace_e_ok {k : Nat} (hk : SR E k) (X : XC E RX5 cX5_patternPlace 4 (some .int) A p s m args meth c) {x1 : Int32} {x2 : Int32} {h : Hp} (hf0 : f5_patternPlace_e k x1 x2 h = some (r, h')) : VM E 4 A p l e 1 s m args below meth c (Qi E A r h') 0 [(0, .ref (eA E k)), (1, .int x1), (2, .int x2)] [] h := by
  unfold f5_patternPlace_e at hf0
  have hf1 := hf0
  refine V_aload_n X 0 rfl dX5_patternPlace_0 ?_
  refine V_iconst X (v := 2) (by decide) dX5_patternPlace_1 ?_
  obtain ⟨c1, e_c1, hf3⟩ := obd hf1
  refine V_callVi X hk.1 rfl rfl (f5_number_ok hk e_c1) ys_X5_number yw_X5_number ml_X5_22 rfl rfl ⟨Nat.le_of_ble_eq_true rfl, Nat.le_of_ble_eq_true rfl⟩ ⟨Nat.zero_le _, Nat.zero_le _⟩ (Nat.le_of_ble_eq_true rfl) dX5_patternPlace_2 ?_
  refine V_iconst X (v := 1) (by decide) dX5_patternPlace_5 ?_
  refine V_icmp_ne X (tgt := 20) (by decide) dX5_patternPlace_6 (fun q6 => ?_) (fun q6 => ?_)
  · have hf4 := ife hf3 q6
    exact V_sub [2] rfl (f5_patternPlace_j20_ok hk X hf4)
  · have hf4 := ift hf3 q6
    refine V_iload_n X 1 rfl dX5_patternPlace_9 ?_
    refine V_iconst X (v := 2) (by decide) dX5_patternPlace_10 ?_
    refine V_irem X (by decide) dX5_patternPlace_11 ?_
    refine V_iconst X (v := 1) (by decide) dX5_patternPlace_12 ?_
    refine V_icmp_ne X (tgt := 20) (by decide) dX5_patternPlace_13 (fun q13 => ?_) (fun q13 => ?_)
    · have hf5 := ife hf4 q13
      exact V_sub [2] rfl (f5_patternPlace_j20_ok hk X hf5)
    · have hf5 := ift hf4 q13
      refine V_iconst X (v := 1) (by decide) dX5_patternPlace_16 ?_
      refine V_goto X (tgt := 21) (by decide) dX5_patternPlace_17 ?_
      exact V_sub [2] rfl (f5_patternPlace_j21_ok hk X hf5)
def f5_patternPlace (k : Nat) (x1 : Int32) (x2 : Int32) (h : Hp) : Re := f5_patternPlace_e k x1 x2 h
theorem f5_patternPlace_ok {k : Nat} (hk : SR E k) {x1 : Int32} {x2 : Int32} {h : Hp} {q : Int32 × Hp} (hf0 : f5_patternPlace k x1 x2 h = some q) : SMi l E 1 yX5_patternPlace cX5_patternPlace 4 (some .int) [.ref (eA E k), .int x1, .int x2] h q.1 q.2 :=
  SMi.of (by decide +kernel) (Nat.le_of_ble_eq_true rfl) (fun p e s m args below meth c A X => f5_patternPlace_e_ok hk X (r := q.1) (h' := q.2) hf0)
def f5_wanted_e (k : Nat) (x1 : Int32) (x2 : Int32) (x3 : Int32) (h : Hp) : Re :=
  (f5_number k (3 + x2) h).bind fun c1 => if c1.1 = (-1) then (some ((-6), c1.2)) else ((f5_patternPlace k x1 x3 c1.2).bind fun c4 => some ((c1.1 >>> ((3 * c4.1) &&& 31)) &&& 7, c4.2))
set_option maxRecDepth 20000 in
set_option maxHeartbeats 4000000 in
theorem f5_wanted_e_ok {k : Nat} (hk : SR E k) (X : XC E RX5 cX5_wanted 5 (some .int) A p s m args meth c) {x1 : Int32} {x2 : Int32} {x3 : Int32} {h : Hp} (hf0 : f5_wanted_e k x1 x2 x3 h = some (r, h')) : VM E 5 A p l e 2 s m args below meth c (Qi E A r h') 0 [(0, .ref (eA E k)), (1, .int x1), (2, .int x2), (3, .int x3)] [] h := by
  unfold f5_wanted_e at hf0
  have hf1 := hf0
  refine V_aload_n X 0 rfl dX5_wanted_0 ?_
  refine V_iconst X (v := 3) (by decide) dX5_wanted_1 ?_
  refine V_iload_n X 2 rfl dX5_wanted_2 ?_
  refine V_iadd X dX5_wanted_3 ?_
  obtain ⟨c1, e_c1, hf3⟩ := obd hf1
  refine V_callVi X hk.1 rfl rfl (f5_number_ok hk e_c1) ys_X5_number yw_X5_number ml_X5_22 rfl rfl ⟨Nat.le_of_ble_eq_true rfl, Nat.le_of_ble_eq_true rfl⟩ ⟨Nat.zero_le _, Nat.zero_le _⟩ (Nat.le_of_ble_eq_true rfl) dX5_wanted_4 ?_
  refine V_istore X (by decide) rfl dX5_wanted_7 ?_
  refine V_iload X 0 rfl dX5_wanted_9 ?_
  refine V_iconst X (v := -1) (by decide) dX5_wanted_11 ?_
  refine V_icmp_ne X (tgt := 18) (by decide) dX5_wanted_12 (fun q12 => ?_) (fun q12 => ?_)
  · have hf4 := ife hf3 q12
    refine V_iload X 0 rfl dX5_wanted_18 ?_
    refine V_iconst X (v := 3) (by decide) dX5_wanted_20 ?_
    refine V_aload_n X 1 rfl dX5_wanted_21 ?_
    refine V_iload_n X 2 rfl dX5_wanted_22 ?_
    refine V_iload_n X 4 rfl dX5_wanted_23 ?_
    obtain ⟨c4, e_c4, hf6⟩ := obd hf4
    refine V_callVi X hk.1 rfl rfl (f5_patternPlace_ok hk e_c4) ys_X5_patternPlace yw_X5_patternPlace ml_X5_40 rfl rfl ⟨Nat.le_of_ble_eq_true rfl, Nat.le_of_ble_eq_true rfl⟩ ⟨Nat.zero_le _, Nat.zero_le _⟩ (Nat.le_of_ble_eq_true rfl) dX5_wanted_24 ?_
    refine V_imul X dX5_wanted_27 ?_
    refine V_ishr X dX5_wanted_28 ?_
    refine V_bipush X (v := 7) (by decide) dX5_wanted_29 ?_
    refine V_iand X dX5_wanted_31 ?_
    exact V_iret X rfl hf6 dX5_wanted_32
  · have hf4 := ift hf3 q12
    refine V_bipush X (v := -6) (by decide) dX5_wanted_15 ?_
    exact V_iret X rfl hf4 dX5_wanted_17
def f5_wanted (k : Nat) (x1 : Int32) (x2 : Int32) (x3 : Int32) (h : Hp) : Re := f5_wanted_e k x1 x2 x3 h
theorem f5_wanted_ok {k : Nat} (hk : SR E k) {x1 : Int32} {x2 : Int32} {x3 : Int32} {h : Hp} {q : Int32 × Hp} (hf0 : f5_wanted k x1 x2 x3 h = some q) : SMi l E 2 yX5_wanted cX5_wanted 5 (some .int) [.ref (eA E k), .int x1, .int x2, .int x3] h q.1 q.2 :=
  SMi.of (by decide +kernel) (Nat.le_of_ble_eq_true rfl) (fun p e s m args below meth c A X => f5_wanted_e_ok hk X (r := q.1) (h' := q.2) hf0)
def f5_grains_e (k : Nat) (x1 : Int32) (x2 : Int32) (x3 : Int32) (h : Hp) : Re :=
  (f5_number k ((24 + (((x1 * 5) + x2) * 8)) + x3) h).bind fun c1 => some (c1.1, c1.2)
set_option maxRecDepth 20000 in
set_option maxHeartbeats 4000000 in
theorem f5_grains_e_ok {k : Nat} (hk : SR E k) (X : XC E RX5 cX5_grains 4 (some .int) A p s m args meth c) {x1 : Int32} {x2 : Int32} {x3 : Int32} {h : Hp} (hf0 : f5_grains_e k x1 x2 x3 h = some (r, h')) : VM E 4 A p l e 1 s m args below meth c (Qi E A r h') 0 [(0, .ref (eA E k)), (1, .int x1), (2, .int x2), (3, .int x3)] [] h := by
  unfold f5_grains_e at hf0
  have hf1 := hf0
  refine V_aload_n X 0 rfl dX5_grains_0 ?_
  refine V_bipush X (v := 24) (by decide) dX5_grains_1 ?_
  refine V_iload_n X 1 rfl dX5_grains_3 ?_
  refine V_iconst X (v := 5) (by decide) dX5_grains_4 ?_
  refine V_imul X dX5_grains_5 ?_
  refine V_iload_n X 2 rfl dX5_grains_6 ?_
  refine V_iadd X dX5_grains_7 ?_
  refine V_bipush X (v := 8) (by decide) dX5_grains_8 ?_
  refine V_imul X dX5_grains_10 ?_
  refine V_iadd X dX5_grains_11 ?_
  refine V_iload_n X 3 rfl dX5_grains_12 ?_
  refine V_iadd X dX5_grains_13 ?_
  obtain ⟨c1, e_c1, hf3⟩ := obd hf1
  refine V_callVi X hk.1 rfl rfl (f5_number_ok hk e_c1) ys_X5_number yw_X5_number ml_X5_22 rfl rfl ⟨Nat.le_of_ble_eq_true rfl, Nat.le_of_ble_eq_true rfl⟩ ⟨Nat.zero_le _, Nat.zero_le _⟩ (Nat.le_of_ble_eq_true rfl) dX5_grains_14 ?_
  exact V_iret X rfl hf3 dX5_grains_17
def f5_grains (k : Nat) (x1 : Int32) (x2 : Int32) (x3 : Int32) (h : Hp) : Re := f5_grains_e k x1 x2 x3 h
theorem f5_grains_ok {k : Nat} (hk : SR E k) {x1 : Int32} {x2 : Int32} {x3 : Int32} {h : Hp} {q : Int32 × Hp} (hf0 : f5_grains k x1 x2 x3 h = some q) : SMi l E 1 yX5_grains cX5_grains 4 (some .int) [.ref (eA E k), .int x1, .int x2, .int x3] h q.1 q.2 :=
  SMi.of (by decide +kernel) (Nat.le_of_ble_eq_true rfl) (fun p e s m args below meth c A X => f5_grains_e_ok hk X (r := q.1) (h' := q.2) hf0)
def f5_colour_e (k : Nat) (x1 : Int32) (x2 : Int32) (x3 : Int32) (h : Hp) : Re :=
  (f5_number k ((184 + (((x1 * 5) + x2) * 8)) + x3) h).bind fun c1 => some (c1.1, c1.2)
set_option maxRecDepth 20000 in
set_option maxHeartbeats 4000000 in
theorem f5_colour_e_ok {k : Nat} (hk : SR E k) (X : XC E RX5 cX5_colour 4 (some .int) A p s m args meth c) {x1 : Int32} {x2 : Int32} {x3 : Int32} {h : Hp} (hf0 : f5_colour_e k x1 x2 x3 h = some (r, h')) : VM E 4 A p l e 1 s m args below meth c (Qi E A r h') 0 [(0, .ref (eA E k)), (1, .int x1), (2, .int x2), (3, .int x3)] [] h := by
  unfold f5_colour_e at hf0
  have hf1 := hf0
  refine V_aload_n X 0 rfl dX5_colour_0 ?_
  refine V_sipush X (v := 184) (by decide) dX5_colour_1 ?_
  refine V_iload_n X 1 rfl dX5_colour_4 ?_
  refine V_iconst X (v := 5) (by decide) dX5_colour_5 ?_
  refine V_imul X dX5_colour_6 ?_
  refine V_iload_n X 2 rfl dX5_colour_7 ?_
  refine V_iadd X dX5_colour_8 ?_
  refine V_bipush X (v := 8) (by decide) dX5_colour_9 ?_
  refine V_imul X dX5_colour_11 ?_
  refine V_iadd X dX5_colour_12 ?_
  refine V_iload_n X 3 rfl dX5_colour_13 ?_
  refine V_iadd X dX5_colour_14 ?_
  obtain ⟨c1, e_c1, hf3⟩ := obd hf1
  refine V_callVi X hk.1 rfl rfl (f5_number_ok hk e_c1) ys_X5_number yw_X5_number ml_X5_22 rfl rfl ⟨Nat.le_of_ble_eq_true rfl, Nat.le_of_ble_eq_true rfl⟩ ⟨Nat.zero_le _, Nat.zero_le _⟩ (Nat.le_of_ble_eq_true rfl) dX5_colour_15 ?_
  exact V_iret X rfl hf3 dX5_colour_18
def f5_colour (k : Nat) (x1 : Int32) (x2 : Int32) (x3 : Int32) (h : Hp) : Re := f5_colour_e k x1 x2 x3 h
theorem f5_colour_ok {k : Nat} (hk : SR E k) {x1 : Int32} {x2 : Int32} {x3 : Int32} {h : Hp} {q : Int32 × Hp} (hf0 : f5_colour k x1 x2 x3 h = some q) : SMi l E 1 yX5_colour cX5_colour 4 (some .int) [.ref (eA E k), .int x1, .int x2, .int x3] h q.1 q.2 :=
  SMi.of (by decide +kernel) (Nat.le_of_ble_eq_true rfl) (fun p e s m args below meth c A X => f5_colour_e_ok hk X (r := q.1) (h' := q.2) hf0)
def f5_setting_e (k : Nat) (x1 : Int32) (h : Hp) : Re :=
  (f5_number k (0 + x1) h).bind fun c1 => some (c1.1, c1.2)
set_option maxRecDepth 20000 in
set_option maxHeartbeats 4000000 in
theorem f5_setting_e_ok {k : Nat} (hk : SR E k) (X : XC E RX5 cX5_setting 2 (some .int) A p s m args meth c) {x1 : Int32} {h : Hp} (hf0 : f5_setting_e k x1 h = some (r, h')) : VM E 2 A p l e 1 s m args below meth c (Qi E A r h') 0 [(0, .ref (eA E k)), (1, .int x1)] [] h := by
  unfold f5_setting_e at hf0
  have hf1 := hf0
  refine V_aload_n X 0 rfl dX5_setting_0 ?_
  refine V_iconst X (v := 0) (by decide) dX5_setting_1 ?_
  refine V_iload_n X 1 rfl dX5_setting_2 ?_
  refine V_iadd X dX5_setting_3 ?_
  obtain ⟨c1, e_c1, hf3⟩ := obd hf1
  refine V_callVi X hk.1 rfl rfl (f5_number_ok hk e_c1) ys_X5_number yw_X5_number ml_X5_22 rfl rfl ⟨Nat.le_of_ble_eq_true rfl, Nat.le_of_ble_eq_true rfl⟩ ⟨Nat.zero_le _, Nat.zero_le _⟩ (Nat.le_of_ble_eq_true rfl) dX5_setting_4 ?_
  exact V_iret X rfl hf3 dX5_setting_7
def f5_setting (k : Nat) (x1 : Int32) (h : Hp) : Re := f5_setting_e k x1 h
theorem f5_setting_ok {k : Nat} (hk : SR E k) {x1 : Int32} {h : Hp} {q : Int32 × Hp} (hf0 : f5_setting k x1 h = some q) : SMi l E 1 yX5_setting cX5_setting 2 (some .int) [.ref (eA E k), .int x1] h q.1 q.2 :=
  SMi.of (by decide +kernel) (Nat.le_of_ble_eq_true rfl) (fun p e s m args below meth c A X => f5_setting_e_ok hk X (r := q.1) (h' := q.2) hf0)
def f5_isRight_e (k : Nat) (x1 : Int32) (x2 : Int32) (x3 : Int32) (h : Hp) : Re :=
  (f5_wanted k x1 x2 x3 h).bind fun c1 => if c1.1 = (-6) then (rz 0 c1.2) else (if c1.1 = 0 then ((f5_grains k x1 x2 x3 c1.2).bind fun c13 => if c13.1 = 0 then (rz 1 c13.2) else (rz 0 c13.2)) else ((f5_colour k x1 x2 x3 c1.2).bind fun c5 => if c5.1 = c1.1 then ((f5_grains k x1 x2 x3 c5.2).bind fun c8 => (f5_setting k 0 c8.2).bind fun c10 => if c8.1 < c10.1 then (rz 0 c10.2) else (rz 1 c10.2)) else (rz 0 c5.2)))
set_option maxRecDepth 20000 in
set_option maxHeartbeats 4000000 in
theorem f5_isRight_e_ok {k : Nat} (hk : SR E k) (X : XC E RX5 cX5_isRight 5 (some .boolean) A p s m args meth c) {x1 : Int32} {x2 : Int32} {x3 : Int32} {h : Hp} (hf0 : f5_isRight_e k x1 x2 x3 h = some (r, h')) : VM E 5 A p l e 3 s m args below meth c (Qi E A r h') 0 [(0, .ref (eA E k)), (1, .int x1), (2, .int x2), (3, .int x3)] [] h := by
  unfold f5_isRight_e at hf0
  have hf1 := hf0
  refine V_aload_n X 0 rfl dX5_isRight_0 ?_
  refine V_iload_n X 1 rfl dX5_isRight_1 ?_
  refine V_iload_n X 2 rfl dX5_isRight_2 ?_
  refine V_iload_n X 3 rfl dX5_isRight_3 ?_
  obtain ⟨c1, e_c1, hf3⟩ := obd hf1
  refine V_callVi X hk.1 rfl rfl (f5_wanted_ok hk e_c1) ys_X5_wanted yw_X5_wanted ml_X5_44 rfl rfl ⟨Nat.le_of_ble_eq_true rfl, Nat.le_of_ble_eq_true rfl⟩ ⟨Nat.zero_le _, Nat.zero_le _⟩ (Nat.le_of_ble_eq_true rfl) dX5_isRight_4 ?_
  refine V_istore X (by decide) rfl dX5_isRight_7 ?_
  refine V_iload X 0 rfl dX5_isRight_9 ?_
  refine V_bipush X (v := -6) (by decide) dX5_isRight_11 ?_
  refine V_icmp_ne X (tgt := 18) (by decide) dX5_isRight_13 (fun q13 => ?_) (fun q13 => ?_)
  · have hf4 := ife hf3 q13
    refine V_iload X 0 rfl dX5_isRight_18 ?_
    refine V_if_ne X (tgt := 39) (by decide) dX5_isRight_20 (fun q20 => ?_) (fun q20 => ?_)
    · have hf5 := ife hf4 q20
      refine V_aload_n X 1 rfl dX5_isRight_39 ?_
      refine V_iload_n X 2 rfl dX5_isRight_40 ?_
      refine V_iload_n X 3 rfl dX5_isRight_41 ?_
      refine V_iload_n X 4 rfl dX5_isRight_42 ?_
      obtain ⟨c5, e_c5, hf7⟩ := obd hf5
      refine V_callVi X hk.1 rfl rfl (f5_colour_ok hk e_c5) ys_X5_colour yw_X5_colour ml_X5_51 rfl rfl ⟨Nat.le_of_ble_eq_true rfl, Nat.le_of_ble_eq_true rfl⟩ ⟨Nat.zero_le _, Nat.zero_le _⟩ (Nat.le_of_ble_eq_true rfl) dX5_isRight_43 ?_
      refine V_iload X 0 rfl dX5_isRight_46 ?_
      refine V_icmp_ne X (tgt := 70) (by decide) dX5_isRight_48 (fun q48 => ?_) (fun q48 => ?_)
      · have hf8 := ife hf7 q48
        refine V_iconst X (v := 0) (by decide) dX5_isRight_70 ?_
        exact V_zret X rfl hf8 dX5_isRight_71
      · have hf8 := ift hf7 q48
        refine V_aload_n X 1 rfl dX5_isRight_51 ?_
        refine V_iload_n X 2 rfl dX5_isRight_52 ?_
        refine V_iload_n X 3 rfl dX5_isRight_53 ?_
        refine V_iload_n X 4 rfl dX5_isRight_54 ?_
        obtain ⟨c8, e_c8, hf10⟩ := obd hf8
        refine V_callVi X hk.1 rfl rfl (f5_grains_ok hk e_c8) ys_X5_grains yw_X5_grains ml_X5_48 rfl rfl ⟨Nat.le_of_ble_eq_true rfl, Nat.le_of_ble_eq_true rfl⟩ ⟨Nat.zero_le _, Nat.zero_le _⟩ (Nat.le_of_ble_eq_true rfl) dX5_isRight_55 ?_
        refine V_aload_n X 1 rfl dX5_isRight_58 ?_
        refine V_iconst X (v := 0) (by decide) dX5_isRight_59 ?_
        obtain ⟨c10, e_c10, hf12⟩ := obd hf10
        refine V_callVi X hk.1 rfl rfl (f5_setting_ok hk e_c10) ys_X5_setting yw_X5_setting ml_X5_54 rfl rfl ⟨Nat.le_of_ble_eq_true rfl, Nat.le_of_ble_eq_true rfl⟩ ⟨Nat.zero_le _, Nat.zero_le _⟩ (Nat.le_of_ble_eq_true rfl) dX5_isRight_60 ?_
        refine V_icmp_lt X (tgt := 70) (by decide) dX5_isRight_63 (fun q63 => ?_) (fun q63 => ?_)
        · have hf13 := ift hf12 q63
          refine V_iconst X (v := 0) (by decide) dX5_isRight_70 ?_
          exact V_zret X rfl hf13 dX5_isRight_71
        · have hf13 := ife hf12 q63
          refine V_iconst X (v := 1) (by decide) dX5_isRight_66 ?_
          refine V_goto X (tgt := 71) (by decide) dX5_isRight_67 ?_
          exact V_zret X rfl hf13 dX5_isRight_71
    · have hf5 := ift hf4 q20
      refine V_aload_n X 1 rfl dX5_isRight_23 ?_
      refine V_iload_n X 2 rfl dX5_isRight_24 ?_
      refine V_iload_n X 3 rfl dX5_isRight_25 ?_
      refine V_iload_n X 4 rfl dX5_isRight_26 ?_
      obtain ⟨c13, e_c13, hf15⟩ := obd hf5
      refine V_callVi X hk.1 rfl rfl (f5_grains_ok hk e_c13) ys_X5_grains yw_X5_grains ml_X5_48 rfl rfl ⟨Nat.le_of_ble_eq_true rfl, Nat.le_of_ble_eq_true rfl⟩ ⟨Nat.zero_le _, Nat.zero_le _⟩ (Nat.le_of_ble_eq_true rfl) dX5_isRight_27 ?_
      refine V_if_ne X (tgt := 37) (by decide) dX5_isRight_30 (fun q30 => ?_) (fun q30 => ?_)
      · have hf16 := ife hf15 q30
        refine V_iconst X (v := 0) (by decide) dX5_isRight_37 ?_
        exact V_zret X rfl hf16 dX5_isRight_38
      · have hf16 := ift hf15 q30
        refine V_iconst X (v := 1) (by decide) dX5_isRight_33 ?_
        refine V_goto X (tgt := 38) (by decide) dX5_isRight_34 ?_
        exact V_zret X rfl hf16 dX5_isRight_38
  · have hf4 := ift hf3 q13
    refine V_iconst X (v := 0) (by decide) dX5_isRight_16 ?_
    exact V_zret X rfl hf4 dX5_isRight_17
def f5_isRight (k : Nat) (x1 : Int32) (x2 : Int32) (x3 : Int32) (h : Hp) : Re := f5_isRight_e k x1 x2 x3 h
theorem f5_isRight_ok {k : Nat} (hk : SR E k) {x1 : Int32} {x2 : Int32} {x3 : Int32} {h : Hp} {q : Int32 × Hp} (hf0 : f5_isRight k x1 x2 x3 h = some q) : SMi l E 3 yX5_isRight cX5_isRight 5 (some .boolean) [.ref (eA E k), .int x1, .int x2, .int x3] h q.1 q.2 :=
  SMi.of (by decide +kernel) (Nat.le_of_ble_eq_true rfl) (fun p e s m args below meth c A X => f5_isRight_e_ok hk X (r := q.1) (h' := q.2) hf0)
def f6_isWhole_B9 (k2 : Int32 → Int32 → Hp → Re) (k9 : Int32 → Int32 → Int32 → Hp → Re) (x1 : Int32) (x2 : Int32) (x3 : Int32) (h : Hp) : Re :=
  if 8 ≤ x3 then (k2 x1 (x2 + 1) h) else ((f5_isRight 1 x2 x1 x3 h).bind fun c2 => if c2.1 = 0 then (rz 0 c2.2) else (k9 x1 x2 (x3 + 1) c2.2))
set_option maxRecDepth 20000 in
set_option maxHeartbeats 4000000 in
theorem f6_isWhole_B9_ok (hE : IW E) (X : XC E RX6 cX6_isWhole 4 (some .boolean) A p s m args meth c) {k2 : Int32 → Int32 → Hp → Re} {k9 : Int32 → Int32 → Int32 → Hp → Re} (hk2 : ∀ (x1 : Int32) (x2 : Int32) (h : Hp), k2 x1 x2 h = some (r, h') → VM E 4 A p l e 4 s m args below meth c (Qi E A r h') 2 [(0, .ref (eA E 1)), (1, .int x1), (2, .int x2)] [] h) (hk9 : ∀ (x1 : Int32) (x2 : Int32) (x3 : Int32) (h : Hp), k9 x1 x2 x3 h = some (r, h') → VM E 4 A p l e 4 s m args below meth c (Qi E A r h') 9 [(0, .ref (eA E 1)), (1, .int x1), (2, .int x2), (3, .int x3)] [] h) {x1 : Int32} {x2 : Int32} {x3 : Int32} {h : Hp} (hf0 : f6_isWhole_B9 k2 k9 x1 x2 x3 h = some (r, h')) : VM E 4 A p l e 4 s m args below meth c (Qi E A r h') 9 [(0, .ref (eA E 1)), (1, .int x1), (2, .int x2), (3, .int x3)] [] h := by
  unfold f6_isWhole_B9 at hf0
  have hf1 := hf0
  refine V_iload_n X 3 rfl dX6_isWhole_9 ?_
  refine V_bipush X (v := 8) (by decide) dX6_isWhole_10 ?_
  refine V_icmp_ge X (tgt := 33) (by decide) dX6_isWhole_12 (fun q12 => ?_) (fun q12 => ?_)
  · have hf2 := ift hf1 q12
    refine V_iinc X (v := _ + 1) 2 rfl (by rfl) (by decide) rfl dX6_isWhole_33 ?_
    refine V_goto X (tgt := 2) (by decide) dX6_isWhole_36 ?_
    exact V_sub [1, 2, 0] rfl (hk2 _ _ _ hf2)
  · have hf2 := ife hf1 q12
    refine V_aload_n X 0 rfl dX6_isWhole_15 ?_
    refine V_iload_n X 2 rfl dX6_isWhole_16 ?_
    refine V_iload_n X 1 rfl dX6_isWhole_17 ?_
    refine V_iload_n X 3 rfl dX6_isWhole_18 ?_
    obtain ⟨c2, e_c2, hf4⟩ := obd hf2
    refine V_callVi X (SR_1 hE).1 rfl rfl (f5_isRight_ok (SR_1 hE) e_c2) ys_X5_isRight yw_X5_isRight ml_X6_28 rfl rfl ⟨Nat.le_of_ble_eq_true rfl, Nat.le_of_ble_eq_true rfl⟩ ⟨Nat.zero_le _, Nat.zero_le _⟩ (Nat.le_of_ble_eq_true rfl) dX6_isWhole_19 ?_
    refine V_if_ne X (tgt := 27) (by decide) dX6_isWhole_22 (fun q22 => ?_) (fun q22 => ?_)
    · have hf5 := ife hf4 q22
      refine V_iinc X (v := _ + 1) 3 rfl (by rfl) (by decide) rfl dX6_isWhole_27 ?_
      refine V_goto X (tgt := 9) (by decide) dX6_isWhole_30 ?_
      exact V_sub [1, 2, 3, 0] rfl (hk9 _ _ _ _ hf5)
    · have hf5 := ift hf4 q22
      refine V_iconst X (v := 0) (by decide) dX6_isWhole_25 ?_
      exact V_zret X rfl hf5 dX6_isWhole_26
def f6_isWhole_L9 (k2 : Int32 → Int32 → Hp → Re) : Nat → Int32 → Int32 → Int32 → Hp → Re
  | 0 => fun _ _ _ _ => none
  | n + 1 => f6_isWhole_B9 k2 (f6_isWhole_L9 k2 n)
theorem f6_isWhole_L9_s (k2 : Int32 → Int32 → Hp → Re) (n : Nat) (x1 : Int32) (x2 : Int32) (x3 : Int32) (h : Hp) : f6_isWhole_L9 k2 (n + 1) x1 x2 x3 h = f6_isWhole_B9 k2 (f6_isWhole_L9 k2 n) x1 x2 x3 h := rfl
theorem f6_isWhole_L9_ok (hE : IW E) (X : XC E RX6 cX6_isWhole 4 (some .boolean) A p s m args meth c) {k2 : Int32 → Int32 → Hp → Re} (hk2 : ∀ (x1 : Int32) (x2 : Int32) (h : Hp), k2 x1 x2 h = some (r, h') → VM E 4 A p l e 4 s m args below meth c (Qi E A r h') 2 [(0, .ref (eA E 1)), (1, .int x1), (2, .int x2)] [] h) : ∀ (n : Nat) (x1 : Int32) (x2 : Int32) (x3 : Int32) (h : Hp), f6_isWhole_L9 k2 n x1 x2 x3 h = some (r, h') → VM E 4 A p l e 4 s m args below meth c (Qi E A r h') 9 [(0, .ref (eA E 1)), (1, .int x1), (2, .int x2), (3, .int x3)] [] h := by
  intro n
  induction n with
  | zero =>
    intro x1 x2 x3 h q
    have q : (none : Re) = some (r, h') := q
    cases q
  | succ n ih =>
    intro x1 x2 x3 h q
    exact f6_isWhole_B9_ok hE X hk2 ih q
def f6_isWhole_B2 (k2 : Int32 → Int32 → Hp → Re) (x1 : Int32) (x2 : Int32) (h : Hp) : Re :=
  if 4 ≤ x2 then (rz 1 h) else (f6_isWhole_L9 k2 FU x1 x2 0 h)
set_option maxRecDepth 20000 in
set_option maxHeartbeats 4000000 in
theorem f6_isWhole_B2_ok (hE : IW E) (X : XC E RX6 cX6_isWhole 4 (some .boolean) A p s m args meth c) {k2 : Int32 → Int32 → Hp → Re} (hk2 : ∀ (x1 : Int32) (x2 : Int32) (h : Hp), k2 x1 x2 h = some (r, h') → VM E 4 A p l e 4 s m args below meth c (Qi E A r h') 2 [(0, .ref (eA E 1)), (1, .int x1), (2, .int x2)] [] h) {x1 : Int32} {x2 : Int32} {h : Hp} (hf0 : f6_isWhole_B2 k2 x1 x2 h = some (r, h')) : VM E 4 A p l e 4 s m args below meth c (Qi E A r h') 2 [(0, .ref (eA E 1)), (1, .int x1), (2, .int x2)] [] h := by
  unfold f6_isWhole_B2 at hf0
  have hf1 := hf0
  refine V_iload_n X 2 rfl dX6_isWhole_2 ?_
  refine V_iconst X (v := 4) (by decide) dX6_isWhole_3 ?_
  refine V_icmp_ge X (tgt := 39) (by decide) dX6_isWhole_4 (fun q4 => ?_) (fun q4 => ?_)
  · have hf2 := ift hf1 q4
    refine V_iconst X (v := 1) (by decide) dX6_isWhole_39 ?_
    exact V_zret X rfl hf2 dX6_isWhole_40
  · have hf2 := ife hf1 q4
    refine V_iconst X (v := 0) (by decide) dX6_isWhole_7 ?_
    refine V_istore_n X (by decide) rfl dX6_isWhole_8 ?_
    exact V_sub [1, 2, 3, 0] rfl (f6_isWhole_L9_ok hE X hk2 FU _ _ _ _ hf2)
def f6_isWhole_L2 : Nat → Int32 → Int32 → Hp → Re
  | 0 => fun _ _ _ => none
  | n + 1 => f6_isWhole_B2 (f6_isWhole_L2 n)
theorem f6_isWhole_L2_s (n : Nat) (x1 : Int32) (x2 : Int32) (h : Hp) : f6_isWhole_L2 (n + 1) x1 x2 h = f6_isWhole_B2 (f6_isWhole_L2 n) x1 x2 h := rfl
theorem f6_isWhole_L2_ok (hE : IW E) (X : XC E RX6 cX6_isWhole 4 (some .boolean) A p s m args meth c) : ∀ (n : Nat) (x1 : Int32) (x2 : Int32) (h : Hp), f6_isWhole_L2 n x1 x2 h = some (r, h') → VM E 4 A p l e 4 s m args below meth c (Qi E A r h') 2 [(0, .ref (eA E 1)), (1, .int x1), (2, .int x2)] [] h := by
  intro n
  induction n with
  | zero =>
    intro x1 x2 h q
    have q : (none : Re) = some (r, h') := q
    cases q
  | succ n ih =>
    intro x1 x2 h q
    exact f6_isWhole_B2_ok hE X ih q
def f6_isWhole_e (x1 : Int32) (h : Hp) : Re :=
  f6_isWhole_L2 FU x1 0 h
set_option maxRecDepth 20000 in
set_option maxHeartbeats 4000000 in
theorem f6_isWhole_e_ok (hE : IW E) (X : XC E RX6 cX6_isWhole 4 (some .boolean) A p s m args meth c) {x1 : Int32} {h : Hp} (hf0 : f6_isWhole_e x1 h = some (r, h')) : VM E 4 A p l e 4 s m args below meth c (Qi E A r h') 0 [(0, .ref (eA E 1)), (1, .int x1)] [] h := by
  unfold f6_isWhole_e at hf0
  have hf1 := hf0
  refine V_iconst X (v := 0) (by decide) dX6_isWhole_0 ?_
  refine V_istore_n X (by decide) rfl dX6_isWhole_1 ?_
  exact V_sub [1, 2, 0] rfl (f6_isWhole_L2_ok hE X FU _ _ _ hf1)
def f6_isWhole (x1 : Int32) (h : Hp) : Re := f6_isWhole_e x1 h
theorem f6_isWhole_ok (hE : IW E) {x1 : Int32} {h : Hp} {q : Int32 × Hp} (hf0 : f6_isWhole x1 h = some q) : SMi l E 4 yX6_isWhole cX6_isWhole 4 (some .boolean) [.ref (eA E 1), .int x1] h q.1 q.2 :=
  SMi.of (by decide +kernel) (Nat.le_of_ble_eq_true rfl) (fun p e s m args below meth c A X => f6_isWhole_e_ok hE X (r := q.1) (h' := q.2) hf0)
def f6_isUnlike_B11 (k11 : Int32 → Int32 → Int32 → Int32 → Hp → Re) (x1 : Int32) (x2 : Int32) (x3 : Int32) (x4 : Int32) (h : Hp) : Re :=
  if 4 ≤ x4 then (rz 0 h) else ((f5_patternPlace 1 x4 x2 h).bind fun c2 => (f5_colour 1 x4 x1 c2.1 c2.2).bind fun c4 => if c4.1 = x3 then (k11 x1 x2 x3 (x4 + 1) c4.2) else (rz 1 c4.2))
set_option maxRecDepth 20000 in
set_option maxHeartbeats 4000000 in
theorem f6_isUnlike_B11_ok (hE : IW E) (X : XC E RX6 cX6_isUnlike 5 (some .boolean) A p s m args meth c) {k11 : Int32 → Int32 → Int32 → Int32 → Hp → Re} (hk11 : ∀ (x1 : Int32) (x2 : Int32) (x3 : Int32) (x4 : Int32) (h : Hp), k11 x1 x2 x3 x4 h = some (r, h') → VM E 5 A p l e 2 s m args below meth c (Qi E A r h') 11 [(0, .ref (eA E 1)), (1, .int x1), (2, .int x2), (3, .int x3), (4, .int x4)] [] h) {x1 : Int32} {x2 : Int32} {x3 : Int32} {x4 : Int32} {h : Hp} (hf0 : f6_isUnlike_B11 k11 x1 x2 x3 x4 h = some (r, h')) : VM E 5 A p l e 2 s m args below meth c (Qi E A r h') 11 [(0, .ref (eA E 1)), (1, .int x1), (2, .int x2), (3, .int x3), (4, .int x4)] [] h := by
  unfold f6_isUnlike_B11 at hf0
  have hf1 := hf0
  refine V_iload X 4 rfl dX6_isUnlike_11 ?_
  refine V_iconst X (v := 4) (by decide) dX6_isUnlike_13 ?_
  refine V_icmp_ge X (tgt := 43) (by decide) dX6_isUnlike_14 (fun q14 => ?_) (fun q14 => ?_)
  · have hf2 := ift hf1 q14
    refine V_iconst X (v := 0) (by decide) dX6_isUnlike_43 ?_
    exact V_zret X rfl hf2 dX6_isUnlike_44
  · have hf2 := ife hf1 q14
    refine V_aload_n X 0 rfl dX6_isUnlike_17 ?_
    refine V_iload X 4 rfl dX6_isUnlike_18 ?_
    refine V_iload_n X 1 rfl dX6_isUnlike_20 ?_
    refine V_aload_n X 0 rfl dX6_isUnlike_21 ?_
    refine V_iload X 4 rfl dX6_isUnlike_22 ?_
    refine V_iload_n X 2 rfl dX6_isUnlike_24 ?_
    obtain ⟨c2, e_c2, hf4⟩ := obd hf2
    refine V_callVi X (SR_1 hE).1 rfl rfl (f5_patternPlace_ok (SR_1 hE) e_c2) ys_X5_patternPlace yw_X5_patternPlace ml_X6_50 rfl rfl ⟨Nat.le_of_ble_eq_true rfl, Nat.le_of_ble_eq_true rfl⟩ ⟨Nat.zero_le _, Nat.zero_le _⟩ (Nat.le_of_ble_eq_true rfl) dX6_isUnlike_25 ?_
    obtain ⟨c4, e_c4, hf6⟩ := obd hf4
    refine V_callVi X (SR_1 hE).1 rfl rfl (f5_colour_ok (SR_1 hE) e_c4) ys_X5_colour yw_X5_colour ml_X6_19 rfl rfl ⟨Nat.le_of_ble_eq_true rfl, Nat.le_of_ble_eq_true rfl⟩ ⟨Nat.zero_le _, Nat.zero_le _⟩ (Nat.le_of_ble_eq_true rfl) dX6_isUnlike_28 ?_
    refine V_iload_n X 3 rfl dX6_isUnlike_31 ?_
    refine V_icmp_eq X (tgt := 37) (by decide) dX6_isUnlike_32 (fun q32 => ?_) (fun q32 => ?_)
    · have hf7 := ift hf6 q32
      refine V_iinc X (v := _ + 1) 4 rfl (by rfl) (by decide) rfl dX6_isUnlike_37 ?_
      refine V_goto X (tgt := 11) (by decide) dX6_isUnlike_40 ?_
      exact V_sub [1, 2, 3, 4, 0] rfl (hk11 _ _ _ _ _ hf7)
    · have hf7 := ife hf6 q32
      refine V_iconst X (v := 1) (by decide) dX6_isUnlike_35 ?_
      exact V_zret X rfl hf7 dX6_isUnlike_36
def f6_isUnlike_L11 : Nat → Int32 → Int32 → Int32 → Int32 → Hp → Re
  | 0 => fun _ _ _ _ _ => none
  | n + 1 => f6_isUnlike_B11 (f6_isUnlike_L11 n)
theorem f6_isUnlike_L11_s (n : Nat) (x1 : Int32) (x2 : Int32) (x3 : Int32) (x4 : Int32) (h : Hp) : f6_isUnlike_L11 (n + 1) x1 x2 x3 x4 h = f6_isUnlike_B11 (f6_isUnlike_L11 n) x1 x2 x3 x4 h := rfl
theorem f6_isUnlike_L11_ok (hE : IW E) (X : XC E RX6 cX6_isUnlike 5 (some .boolean) A p s m args meth c) : ∀ (n : Nat) (x1 : Int32) (x2 : Int32) (x3 : Int32) (x4 : Int32) (h : Hp), f6_isUnlike_L11 n x1 x2 x3 x4 h = some (r, h') → VM E 5 A p l e 2 s m args below meth c (Qi E A r h') 11 [(0, .ref (eA E 1)), (1, .int x1), (2, .int x2), (3, .int x3), (4, .int x4)] [] h := by
  intro n
  induction n with
  | zero =>
    intro x1 x2 x3 x4 h q
    have q : (none : Re) = some (r, h') := q
    cases q
  | succ n ih =>
    intro x1 x2 x3 x4 h q
    exact f6_isUnlike_B11_ok hE X ih q
def f6_isUnlike_e (x1 : Int32) (x2 : Int32) (h : Hp) : Re :=
  (f5_colour 1 0 x1 x2 h).bind fun c1 => f6_isUnlike_L11 FU x1 x2 c1.1 1 c1.2
set_option maxRecDepth 20000 in
set_option maxHeartbeats 4000000 in
theorem f6_isUnlike_e_ok (hE : IW E) (X : XC E RX6 cX6_isUnlike 5 (some .boolean) A p s m args meth c) {x1 : Int32} {x2 : Int32} {h : Hp} (hf0 : f6_isUnlike_e x1 x2 h = some (r, h')) : VM E 5 A p l e 2 s m args below meth c (Qi E A r h') 0 [(0, .ref (eA E 1)), (1, .int x1), (2, .int x2)] [] h := by
  unfold f6_isUnlike_e at hf0
  have hf1 := hf0
  refine V_aload_n X 0 rfl dX6_isUnlike_0 ?_
  refine V_iconst X (v := 0) (by decide) dX6_isUnlike_1 ?_
  refine V_iload_n X 1 rfl dX6_isUnlike_2 ?_
  refine V_iload_n X 2 rfl dX6_isUnlike_3 ?_
  obtain ⟨c1, e_c1, hf3⟩ := obd hf1
  refine V_callVi X (SR_1 hE).1 rfl rfl (f5_colour_ok (SR_1 hE) e_c1) ys_X5_colour yw_X5_colour ml_X6_19 rfl rfl ⟨Nat.le_of_ble_eq_true rfl, Nat.le_of_ble_eq_true rfl⟩ ⟨Nat.zero_le _, Nat.zero_le _⟩ (Nat.le_of_ble_eq_true rfl) dX6_isUnlike_4 ?_
  refine V_istore_n X (by decide) rfl dX6_isUnlike_7 ?_
  refine V_iconst X (v := 1) (by decide) dX6_isUnlike_8 ?_
  refine V_istore X (by decide) rfl dX6_isUnlike_9 ?_
  exact V_sub [2, 3, 4, 1, 0] rfl (f6_isUnlike_L11_ok hE X FU _ _ _ _ _ hf3)
def f6_isUnlike (x1 : Int32) (x2 : Int32) (h : Hp) : Re := f6_isUnlike_e x1 x2 h
theorem f6_isUnlike_ok (hE : IW E) {x1 : Int32} {x2 : Int32} {h : Hp} {q : Int32 × Hp} (hf0 : f6_isUnlike x1 x2 h = some q) : SMi l E 2 yX6_isUnlike cX6_isUnlike 5 (some .boolean) [.ref (eA E 1), .int x1, .int x2] h q.1 q.2 :=
  SMi.of (by decide +kernel) (Nat.le_of_ble_eq_true rfl) (fun p e s m args below meth c A X => f6_isUnlike_e_ok hE X (r := q.1) (h' := q.2) hf0)
def f6_unlikePlaces_B4 (k4 : Int32 → Int32 → Int32 → Hp → Re) (x1 : Int32) (x2 : Int32) (x3 : Int32) (h : Hp) : Re :=
  if 8 ≤ x3 then (some (x2, h)) else ((f6_isUnlike x1 x3 h).bind fun c2 => if c2.1 = 0 then (k4 x1 x2 (x3 + 1) c2.2) else ((some (x2 ||| ((1 : Int32) <<< (x3 &&& 31)) : Int32)).bind fun z5 => k4 x1 z5 (x3 + 1) c2.2))
set_option maxRecDepth 20000 in
set_option maxHeartbeats 4000000 in
theorem f6_unlikePlaces_B4_ok (hE : IW E) (X : XC E RX6 cX6_unlikePlaces 4 (some .int) A p s m args meth c) {k4 : Int32 → Int32 → Int32 → Hp → Re} (hk4 : ∀ (x1 : Int32) (x2 : Int32) (x3 : Int32) (h : Hp), k4 x1 x2 x3 h = some (r, h') → VM E 4 A p l e 3 s m args below meth c (Qi E A r h') 4 [(0, .ref (eA E 1)), (1, .int x1), (2, .int x2), (3, .int x3)] [] h) {x1 : Int32} {x2 : Int32} {x3 : Int32} {h : Hp} (hf0 : f6_unlikePlaces_B4 k4 x1 x2 x3 h = some (r, h')) : VM E 4 A p l e 3 s m args below meth c (Qi E A r h') 4 [(0, .ref (eA E 1)), (1, .int x1), (2, .int x2), (3, .int x3)] [] h := by
  unfold f6_unlikePlaces_B4 at hf0
  have hf1 := hf0
  refine V_iload_n X 3 rfl dX6_unlikePlaces_4 ?_
  refine V_bipush X (v := 8) (by decide) dX6_unlikePlaces_5 ?_
  refine V_icmp_ge X (tgt := 31) (by decide) dX6_unlikePlaces_7 (fun q7 => ?_) (fun q7 => ?_)
  · have hf2 := ift hf1 q7
    refine V_iload_n X 2 rfl dX6_unlikePlaces_31 ?_
    exact V_iret X rfl hf2 dX6_unlikePlaces_32
  · have hf2 := ife hf1 q7
    refine V_aload_n X 0 rfl dX6_unlikePlaces_10 ?_
    refine V_iload_n X 1 rfl dX6_unlikePlaces_11 ?_
    refine V_iload_n X 3 rfl dX6_unlikePlaces_12 ?_
    obtain ⟨c2, e_c2, hf4⟩ := obd hf2
    refine V_callSi X (f6_isUnlike_ok hE e_c2) ys_X6_isUnlike yw_X6_isUnlike ml_X6_46 rfl rfl ⟨Nat.le_of_ble_eq_true rfl, Nat.le_of_ble_eq_true rfl⟩ ⟨Nat.zero_le _, Nat.zero_le _⟩ (Nat.le_of_ble_eq_true rfl) dX6_unlikePlaces_13 ?_
    refine V_if_eq X (tgt := 25) (by decide) dX6_unlikePlaces_16 (fun q16 => ?_) (fun q16 => ?_)
    · have hf5 := ift hf4 q16
      refine V_iinc X (v := _ + 1) 3 rfl (by rfl) (by decide) rfl dX6_unlikePlaces_25 ?_
      refine V_goto X (tgt := 4) (by decide) dX6_unlikePlaces_28 ?_
      exact V_sub [1, 2, 3, 0] rfl (hk4 _ _ _ _ hf5)
    · have hf5 := ife hf4 q16
      refine V_iload_n X 2 rfl dX6_unlikePlaces_19 ?_
      refine V_iconst X (v := 1) (by decide) dX6_unlikePlaces_20 ?_
      refine V_iload_n X 3 rfl dX6_unlikePlaces_21 ?_
      refine V_ishl X dX6_unlikePlaces_22 ?_
      refine V_ior X dX6_unlikePlaces_23 ?_
      refine V_istore_n X (by decide) rfl dX6_unlikePlaces_24 ?_
      have hf7 := obs hf5
      refine V_iinc X (v := _ + 1) 3 rfl (by rfl) (by decide) rfl dX6_unlikePlaces_25 ?_
      refine V_goto X (tgt := 4) (by decide) dX6_unlikePlaces_28 ?_
      exact V_sub [2, 3, 1, 0] rfl (hk4 _ _ _ _ hf7)
def f6_unlikePlaces_L4 : Nat → Int32 → Int32 → Int32 → Hp → Re
  | 0 => fun _ _ _ _ => none
  | n + 1 => f6_unlikePlaces_B4 (f6_unlikePlaces_L4 n)
theorem f6_unlikePlaces_L4_s (n : Nat) (x1 : Int32) (x2 : Int32) (x3 : Int32) (h : Hp) : f6_unlikePlaces_L4 (n + 1) x1 x2 x3 h = f6_unlikePlaces_B4 (f6_unlikePlaces_L4 n) x1 x2 x3 h := rfl
theorem f6_unlikePlaces_L4_ok (hE : IW E) (X : XC E RX6 cX6_unlikePlaces 4 (some .int) A p s m args meth c) : ∀ (n : Nat) (x1 : Int32) (x2 : Int32) (x3 : Int32) (h : Hp), f6_unlikePlaces_L4 n x1 x2 x3 h = some (r, h') → VM E 4 A p l e 3 s m args below meth c (Qi E A r h') 4 [(0, .ref (eA E 1)), (1, .int x1), (2, .int x2), (3, .int x3)] [] h := by
  intro n
  induction n with
  | zero =>
    intro x1 x2 x3 h q
    have q : (none : Re) = some (r, h') := q
    cases q
  | succ n ih =>
    intro x1 x2 x3 h q
    exact f6_unlikePlaces_B4_ok hE X ih q
def f6_unlikePlaces_e (x1 : Int32) (h : Hp) : Re :=
  f6_unlikePlaces_L4 FU x1 0 0 h
set_option maxRecDepth 20000 in
set_option maxHeartbeats 4000000 in
theorem f6_unlikePlaces_e_ok (hE : IW E) (X : XC E RX6 cX6_unlikePlaces 4 (some .int) A p s m args meth c) {x1 : Int32} {h : Hp} (hf0 : f6_unlikePlaces_e x1 h = some (r, h')) : VM E 4 A p l e 3 s m args below meth c (Qi E A r h') 0 [(0, .ref (eA E 1)), (1, .int x1)] [] h := by
  unfold f6_unlikePlaces_e at hf0
  have hf1 := hf0
  refine V_iconst X (v := 0) (by decide) dX6_unlikePlaces_0 ?_
  refine V_istore_n X (by decide) rfl dX6_unlikePlaces_1 ?_
  refine V_iconst X (v := 0) (by decide) dX6_unlikePlaces_2 ?_
  refine V_istore_n X (by decide) rfl dX6_unlikePlaces_3 ?_
  exact V_sub [2, 3, 1, 0] rfl (f6_unlikePlaces_L4_ok hE X FU _ _ _ _ hf1)
def f6_unlikePlaces (x1 : Int32) (h : Hp) : Re := f6_unlikePlaces_e x1 h
theorem f6_unlikePlaces_ok (hE : IW E) {x1 : Int32} {h : Hp} {q : Int32 × Hp} (hf0 : f6_unlikePlaces x1 h = some q) : SMi l E 3 yX6_unlikePlaces cX6_unlikePlaces 4 (some .int) [.ref (eA E 1), .int x1] h q.1 q.2 :=
  SMi.of (by decide +kernel) (Nat.le_of_ble_eq_true rfl) (fun p e s m args below meth c A X => f6_unlikePlaces_e_ok hE X (r := q.1) (h' := q.2) hf0)
def f6_matches_e (x0 : Int32) (x1 : Int32) (h : Hp) : Re :=
  if x0 = (-1) then (rz 1 h) else (if x0 = x1 then (rz 1 h) else (rz 0 h))
set_option maxRecDepth 20000 in
set_option maxHeartbeats 4000000 in
theorem f6_matches_e_ok (X : XC E RX6 cX6_matches 2 (some .boolean) A p s m args meth c) {x0 : Int32} {x1 : Int32} {h : Hp} (hf0 : f6_matches_e x0 x1 h = some (r, h')) : VM E 2 A p l e 0 s m args below meth c (Qi E A r h') 0 [(0, .int x0), (1, .int x1)] [] h := by
  unfold f6_matches_e at hf0
  have hf1 := hf0
  refine V_iload_n X 0 rfl dX6_matches_0 ?_
  refine V_iconst X (v := -1) (by decide) dX6_matches_1 ?_
  refine V_icmp_eq X (tgt := 10) (by decide) dX6_matches_2 (fun q2 => ?_) (fun q2 => ?_)
  · have hf2 := ift hf1 q2
    refine V_iconst X (v := 1) (by decide) dX6_matches_10 ?_
    refine V_goto X (tgt := 15) (by decide) dX6_matches_11 ?_
    exact V_zret X rfl hf2 dX6_matches_15
  · have hf2 := ife hf1 q2
    refine V_iload_n X 0 rfl dX6_matches_5 ?_
    refine V_iload_n X 1 rfl dX6_matches_6 ?_
    refine V_icmp_ne X (tgt := 14) (by decide) dX6_matches_7 (fun q7 => ?_) (fun q7 => ?_)
    · have hf3 := ife hf2 q7
      refine V_iconst X (v := 0) (by decide) dX6_matches_14 ?_
      exact V_zret X rfl hf3 dX6_matches_15
    · have hf3 := ift hf2 q7
      refine V_iconst X (v := 1) (by decide) dX6_matches_10 ?_
      refine V_goto X (tgt := 15) (by decide) dX6_matches_11 ?_
      exact V_zret X rfl hf3 dX6_matches_15
def f6_matches (x0 : Int32) (x1 : Int32) (h : Hp) : Re := f6_matches_e x0 x1 h
theorem f6_matches_ok {x0 : Int32} {x1 : Int32} {h : Hp} {q : Int32 × Hp} (hf0 : f6_matches x0 x1 h = some q) : SMi l E 0 yX6_matches cX6_matches 2 (some .boolean) [.int x0, .int x1] h q.1 q.2 :=
  SMi.of (by decide +kernel) (Nat.le_of_ble_eq_true rfl) (fun p e s m args below meth c A X => f6_matches_e_ok X (r := q.1) (h' := q.2) hf0)
def f7_isColour_e (x0 : Int32) (h : Hp) : Re :=
  if x0 < 1 then (rz 0 h) else (if 6 < x0 then (rz 0 h) else (rz 1 h))
set_option maxRecDepth 20000 in
set_option maxHeartbeats 4000000 in
theorem f7_isColour_e_ok (X : XC E RX7 cX7_isColour 1 (some .boolean) A p s m args meth c) {x0 : Int32} {h : Hp} (hf0 : f7_isColour_e x0 h = some (r, h')) : VM E 1 A p l e 0 s m args below meth c (Qi E A r h') 0 [(0, .int x0)] [] h := by
  unfold f7_isColour_e at hf0
  have hf1 := hf0
  refine V_iload_n X 0 rfl dX7_isColour_0 ?_
  refine V_iconst X (v := 1) (by decide) dX7_isColour_1 ?_
  refine V_icmp_lt X (tgt := 15) (by decide) dX7_isColour_2 (fun q2 => ?_) (fun q2 => ?_)
  · have hf2 := ift hf1 q2
    refine V_iconst X (v := 0) (by decide) dX7_isColour_15 ?_
    exact V_zret X rfl hf2 dX7_isColour_16
  · have hf2 := ife hf1 q2
    refine V_iload_n X 0 rfl dX7_isColour_5 ?_
    refine V_bipush X (v := 6) (by decide) dX7_isColour_6 ?_
    refine V_icmp_gt X (tgt := 15) (by decide) dX7_isColour_8 (fun q8 => ?_) (fun q8 => ?_)
    · have hf3 := ift hf2 q8
      refine V_iconst X (v := 0) (by decide) dX7_isColour_15 ?_
      exact V_zret X rfl hf3 dX7_isColour_16
    · have hf3 := ife hf2 q8
      refine V_iconst X (v := 1) (by decide) dX7_isColour_11 ?_
      refine V_goto X (tgt := 16) (by decide) dX7_isColour_12 ?_
      exact V_zret X rfl hf3 dX7_isColour_16
def f7_isColour (x0 : Int32) (h : Hp) : Re := f7_isColour_e x0 h
theorem f7_isColour_ok {x0 : Int32} {h : Hp} {q : Int32 × Hp} (hf0 : f7_isColour x0 h = some q) : SMi l E 0 yX7_isColour cX7_isColour 1 (some .boolean) [.int x0] h q.1 q.2 :=
  SMi.of (by decide +kernel) (Nat.le_of_ble_eq_true rfl) (fun p e s m args below meth c A X => f7_isColour_e_ok X (r := q.1) (h' := q.2) hf0)
def f5_missing_j42 (k : Nat) (y0 : Int32) (h : Hp) : Re :=
  (f5_setting k 0 h).bind fun c1 => some (if 0 < (c1.1 - y0) then (c1.1 - y0) else 0, c1.2)
set_option maxRecDepth 20000 in
set_option maxHeartbeats 4000000 in
theorem f5_missing_j42_ok {k : Nat} (hk : SR E k) (X : XC E RX5 cX5_missing 6 (some .int) A p s m args meth c) {y0 : Int32} {h : Hp} (hf0 : f5_missing_j42 k y0 h = some (r, h')) : VM E 6 A p l e 3 s m args below meth c (Qi E A r h') 42 [(0, .ref (eA E k))] [.int y0] h := by
  unfold f5_missing_j42 at hf0
  have hf1 := hf0
  refine V_istore X (by decide) rfl dX5_missing_42 ?_
  refine V_iconst X (v := 0) (by decide) dX5_missing_44 ?_
  refine V_aload_n X 1 rfl dX5_missing_45 ?_
  refine V_iconst X (v := 0) (by decide) dX5_missing_46 ?_
  obtain ⟨c1, e_c1, hf3⟩ := obd hf1
  refine V_callVi X hk.1 rfl rfl (f5_setting_ok hk e_c1) ys_X5_setting yw_X5_setting ml_X5_54 rfl rfl ⟨Nat.le_of_ble_eq_true rfl, Nat.le_of_ble_eq_true rfl⟩ ⟨Nat.zero_le _, Nat.zero_le _⟩ (Nat.le_of_ble_eq_true rfl) dX5_missing_47 ?_
  refine V_iload X 0 rfl dX5_missing_50 ?_
  refine V_isub X dX5_missing_52 ?_
  refine V_mmax X mm_X5_61 mm_max_st mm_ini mm_max_co (by decide) (by decide) ⟨Nat.zero_le _, Nat.zero_le _⟩ dX5_missing_53 ?_
  exact V_iret X rfl hf3 dX5_missing_56
def f5_missing_e (k : Nat) (x1 : Int32) (x2 : Int32) (x3 : Int32) (h : Hp) : Re :=
  (f5_wanted k x1 x2 x3 h).bind fun c1 => (f7_isColour c1.1 c1.2).bind fun c3 => if c3.1 = 0 then (some (0, c3.2)) else ((f5_colour k x1 x2 x3 c3.2).bind fun c6 => if c6.1 = c1.1 then ((f5_grains k x1 x2 x3 c6.2).bind fun c9 => f5_missing_j42 k c9.1 c9.2) else (f5_missing_j42 k 0 c6.2))
set_option maxRecDepth 20000 in
set_option maxHeartbeats 4000000 in
theorem f5_missing_e_ok {k : Nat} (hk : SR E k) (X : XC E RX5 cX5_missing 6 (some .int) A p s m args meth c) {x1 : Int32} {x2 : Int32} {x3 : Int32} {h : Hp} (hf0 : f5_missing_e k x1 x2 x3 h = some (r, h')) : VM E 6 A p l e 3 s m args below meth c (Qi E A r h') 0 [(0, .ref (eA E k)), (1, .int x1), (2, .int x2), (3, .int x3)] [] h := by
  unfold f5_missing_e at hf0
  have hf1 := hf0
  refine V_aload_n X 0 rfl dX5_missing_0 ?_
  refine V_iload_n X 1 rfl dX5_missing_1 ?_
  refine V_iload_n X 2 rfl dX5_missing_2 ?_
  refine V_iload_n X 3 rfl dX5_missing_3 ?_
  obtain ⟨c1, e_c1, hf3⟩ := obd hf1
  refine V_callVi X hk.1 rfl rfl (f5_wanted_ok hk e_c1) ys_X5_wanted yw_X5_wanted ml_X5_44 rfl rfl ⟨Nat.le_of_ble_eq_true rfl, Nat.le_of_ble_eq_true rfl⟩ ⟨Nat.zero_le _, Nat.zero_le _⟩ (Nat.le_of_ble_eq_true rfl) dX5_missing_4 ?_
  refine V_istore X (by decide) rfl dX5_missing_7 ?_
  refine V_iload X 0 rfl dX5_missing_9 ?_
  obtain ⟨c3, e_c3, hf5⟩ := obd hf3
  refine V_callSNi X (f7_isColour_ok e_c3) ys_X7_isColour yw_X7_isColour nl_X5_57 rfl rfl ⟨Nat.le_of_ble_eq_true rfl, Nat.le_of_ble_eq_true rfl⟩ ⟨Nat.zero_le _, Nat.zero_le _⟩ (Nat.le_of_ble_eq_true rfl) dX5_missing_11 ?_
  refine V_if_ne X (tgt := 19) (by decide) dX5_missing_14 (fun q14 => ?_) (fun q14 => ?_)
  · have hf6 := ife hf5 q14
    refine V_aload_n X 1 rfl dX5_missing_19 ?_
    refine V_iload_n X 2 rfl dX5_missing_20 ?_
    refine V_iload_n X 3 rfl dX5_missing_21 ?_
    refine V_iload_n X 4 rfl dX5_missing_22 ?_
    obtain ⟨c6, e_c6, hf8⟩ := obd hf6
    refine V_callVi X hk.1 rfl rfl (f5_colour_ok hk e_c6) ys_X5_colour yw_X5_colour ml_X5_51 rfl rfl ⟨Nat.le_of_ble_eq_true rfl, Nat.le_of_ble_eq_true rfl⟩ ⟨Nat.zero_le _, Nat.zero_le _⟩ (Nat.le_of_ble_eq_true rfl) dX5_missing_23 ?_
    refine V_iload X 0 rfl dX5_missing_26 ?_
    refine V_icmp_ne X (tgt := 41) (by decide) dX5_missing_28 (fun q28 => ?_) (fun q28 => ?_)
    · have hf9 := ife hf8 q28
      refine V_iconst X (v := 0) (by decide) dX5_missing_41 ?_
      exact V_sub [1] rfl (f5_missing_j42_ok hk X hf9)
    · have hf9 := ift hf8 q28
      refine V_aload_n X 1 rfl dX5_missing_31 ?_
      refine V_iload_n X 2 rfl dX5_missing_32 ?_
      refine V_iload_n X 3 rfl dX5_missing_33 ?_
      refine V_iload_n X 4 rfl dX5_missing_34 ?_
      obtain ⟨c9, e_c9, hf11⟩ := obd hf9
      refine V_callVi X hk.1 rfl rfl (f5_grains_ok hk e_c9) ys_X5_grains yw_X5_grains ml_X5_48 rfl rfl ⟨Nat.le_of_ble_eq_true rfl, Nat.le_of_ble_eq_true rfl⟩ ⟨Nat.zero_le _, Nat.zero_le _⟩ (Nat.le_of_ble_eq_true rfl) dX5_missing_35 ?_
      refine V_goto X (tgt := 42) (by decide) dX5_missing_38 ?_
      exact V_sub [1] rfl (f5_missing_j42_ok hk X hf11)
  · have hf6 := ift hf5 q14
    refine V_iconst X (v := 0) (by decide) dX5_missing_17 ?_
    exact V_iret X rfl hf6 dX5_missing_18
def f5_missing (k : Nat) (x1 : Int32) (x2 : Int32) (x3 : Int32) (h : Hp) : Re := f5_missing_e k x1 x2 x3 h
theorem f5_missing_ok {k : Nat} (hk : SR E k) {x1 : Int32} {x2 : Int32} {x3 : Int32} {h : Hp} {q : Int32 × Hp} (hf0 : f5_missing k x1 x2 x3 h = some q) : SMi l E 3 yX5_missing cX5_missing 6 (some .int) [.ref (eA E k), .int x1, .int x2, .int x3] h q.1 q.2 :=
  SMi.of (by decide +kernel) (Nat.le_of_ble_eq_true rfl) (fun p e s m args below meth c A X => f5_missing_e_ok hk X (r := q.1) (h' := q.2) hf0)
def f6_measured_j111 (y0 : Int32) (h : Hp) : Re :=
  (f7_bit y0 h).bind fun c1 => some (c1.1, c1.2)
set_option maxRecDepth 20000 in
set_option maxHeartbeats 4000000 in
theorem f6_measured_j111_ok (hE : IW E) (X : XC E RX6 cX6_measured 9 (some .int) A p s m args meth c) {y0 : Int32} {h : Hp} (hf0 : f6_measured_j111 y0 h = some (r, h')) : VM E 9 A p l e 4 s m args below meth c (Qi E A r h') 111 [] [.int y0] h := by
  unfold f6_measured_j111 at hf0
  have hf1 := hf0
  obtain ⟨c1, e_c1, hf3⟩ := obd hf1
  refine V_callSNi X (f7_bit_ok e_c1) ys_X7_bit yw_X7_bit nl_X6_35 rfl rfl ⟨Nat.le_of_ble_eq_true rfl, Nat.le_of_ble_eq_true rfl⟩ ⟨Nat.zero_le _, Nat.zero_le _⟩ (Nat.le_of_ble_eq_true rfl) dX6_measured_111 ?_
  exact V_iret X rfl hf3 dX6_measured_114
def f6_measured_j132 (y0 : Int32) (h : Hp) : Re :=
  (f7_bit y0 h).bind fun c1 => some (c1.1, c1.2)
set_option maxRecDepth 20000 in
set_option maxHeartbeats 4000000 in
theorem f6_measured_j132_ok (hE : IW E) (X : XC E RX6 cX6_measured 9 (some .int) A p s m args meth c) {y0 : Int32} {h : Hp} (hf0 : f6_measured_j132 y0 h = some (r, h')) : VM E 9 A p l e 4 s m args below meth c (Qi E A r h') 132 [] [.int y0] h := by
  unfold f6_measured_j132 at hf0
  have hf1 := hf0
  obtain ⟨c1, e_c1, hf3⟩ := obd hf1
  refine V_callSNi X (f7_bit_ok e_c1) ys_X7_bit yw_X7_bit nl_X6_35 rfl rfl ⟨Nat.le_of_ble_eq_true rfl, Nat.le_of_ble_eq_true rfl⟩ ⟨Nat.zero_le _, Nat.zero_le _⟩ (Nat.le_of_ble_eq_true rfl) dX6_measured_132 ?_
  exact V_iret X rfl hf3 dX6_measured_135
def f6_measured_j131 (h : Hp) : Re :=
  f6_measured_j132 0 h
set_option maxRecDepth 20000 in
set_option maxHeartbeats 4000000 in
theorem f6_measured_j131_ok (hE : IW E) (X : XC E RX6 cX6_measured 9 (some .int) A p s m args meth c) {h : Hp} (hf0 : f6_measured_j131  h = some (r, h')) : VM E 9 A p l e 4 s m args below meth c (Qi E A r h') 131 [] [] h := by
  unfold f6_measured_j131 at hf0
  have hf1 := hf0
  refine V_iconst X (v := 0) (by decide) dX6_measured_131 ?_
  exact V_sub [] rfl (f6_measured_j132_ok hE X hf1)
def f6_measured_j147 (y0 : Int32) (h : Hp) : Re :=
  (f7_bit y0 h).bind fun c1 => some (c1.1, c1.2)
set_option maxRecDepth 20000 in
set_option maxHeartbeats 4000000 in
theorem f6_measured_j147_ok (hE : IW E) (X : XC E RX6 cX6_measured 9 (some .int) A p s m args meth c) {y0 : Int32} {h : Hp} (hf0 : f6_measured_j147 y0 h = some (r, h')) : VM E 9 A p l e 4 s m args below meth c (Qi E A r h') 147 [] [.int y0] h := by
  unfold f6_measured_j147 at hf0
  have hf1 := hf0
  obtain ⟨c1, e_c1, hf3⟩ := obd hf1
  refine V_callSNi X (f7_bit_ok e_c1) ys_X7_bit yw_X7_bit nl_X6_35 rfl rfl ⟨Nat.le_of_ble_eq_true rfl, Nat.le_of_ble_eq_true rfl⟩ ⟨Nat.zero_le _, Nat.zero_le _⟩ (Nat.le_of_ble_eq_true rfl) dX6_measured_147 ?_
  exact V_iret X rfl hf3 dX6_measured_150
def f6_measured_e (x1 : Int32) (x2 : Int32) (x3 : Int32) (x4 : Int32) (x5 : Int32) (h : Hp) : Re :=
  (f5_colour 1 x3 x4 x5 h).bind fun c1 => (f5_wanted 1 x3 x4 x5 c1.2).bind fun c3 => (f5_isRight 1 x3 x4 x5 c3.2).bind fun c5 => if x1 = 0 then ((f6_matches x2 c1.1 c5.2).bind fun c9 => if c9.1 = 0 then (some (0, c9.2)) else ((f5_grains 1 x3 x4 x5 c9.2).bind fun c12 => some (c12.1, c12.2))) else if x1 = 1 then ((f7_bit c5.1 c5.2).bind fun c15 => some (c15.1, c15.2)) else if x1 = 2 then (if c5.1 = 0 then (f6_measured_j111 1 c5.2) else (f6_measured_j111 0 c5.2)) else if x1 = 3 then (if c3.1 = (-6) then (f6_measured_j131  c5.2) else (if c5.1 = 0 then (f6_measured_j132 1 c5.2) else (f6_measured_j131  c5.2))) else if x1 = 4 then (if c3.1 = x2 then (f6_measured_j147 1 c5.2) else (f6_measured_j147 0 c5.2)) else if x1 = 5 then ((f6_matches x2 c3.1 c5.2).bind fun c25 => if c25.1 = 0 then (some (0, c25.2)) else ((f5_missing 1 x3 x4 x5 c25.2).bind fun c28 => some (c28.1, c28.2))) else (some (0, c5.2))
set_option maxRecDepth 20000 in
set_option maxHeartbeats 4000000 in
theorem f6_measured_e_ok (hE : IW E) (X : XC E RX6 cX6_measured 9 (some .int) A p s m args meth c) {x1 : Int32} {x2 : Int32} {x3 : Int32} {x4 : Int32} {x5 : Int32} {h : Hp} (hf0 : f6_measured_e x1 x2 x3 x4 x5 h = some (r, h')) : VM E 9 A p l e 4 s m args below meth c (Qi E A r h') 0 [(0, .ref (eA E 1)), (1, .int x1), (2, .int x2), (3, .int x3), (4, .int x4), (5, .int x5)] [] h := by
  unfold f6_measured_e at hf0
  have hf1 := hf0
  refine V_aload_n X 0 rfl dX6_measured_0 ?_
  refine V_iload_n X 3 rfl dX6_measured_1 ?_
  refine V_iload X 4 rfl dX6_measured_2 ?_
  refine V_iload X 5 rfl dX6_measured_4 ?_
  obtain ⟨c1, e_c1, hf3⟩ := obd hf1
  refine V_callVi X (SR_1 hE).1 rfl rfl (f5_colour_ok (SR_1 hE) e_c1) ys_X5_colour yw_X5_colour ml_X6_19 rfl rfl ⟨Nat.le_of_ble_eq_true rfl, Nat.le_of_ble_eq_true rfl⟩ ⟨Nat.zero_le _, Nat.zero_le _⟩ (Nat.le_of_ble_eq_true rfl) dX6_measured_6 ?_
  refine V_istore X (by decide) rfl dX6_measured_9 ?_
  refine V_aload_n X 1 rfl dX6_measured_11 ?_
  refine V_iload_n X 4 rfl dX6_measured_12 ?_
  refine V_iload X 5 rfl dX6_measured_13 ?_
  refine V_iload X 6 rfl dX6_measured_15 ?_
  obtain ⟨c3, e_c3, hf5⟩ := obd hf3
  refine V_callVi X (SR_1 hE).1 rfl rfl (f5_wanted_ok (SR_1 hE) e_c3) ys_X5_wanted yw_X5_wanted ml_X6_25 rfl rfl ⟨Nat.le_of_ble_eq_true rfl, Nat.le_of_ble_eq_true rfl⟩ ⟨Nat.zero_le _, Nat.zero_le _⟩ (Nat.le_of_ble_eq_true rfl) dX6_measured_17 ?_
  refine V_istore X (by decide) rfl dX6_measured_20 ?_
  refine V_aload_n X 2 rfl dX6_measured_22 ?_
  refine V_iload_n X 5 rfl dX6_measured_23 ?_
  refine V_iload X 6 rfl dX6_measured_24 ?_
  refine V_iload X 7 rfl dX6_measured_26 ?_
  obtain ⟨c5, e_c5, hf7⟩ := obd hf5
  refine V_callVi X (SR_1 hE).1 rfl rfl (f5_isRight_ok (SR_1 hE) e_c5) ys_X5_isRight yw_X5_isRight ml_X6_28 rfl rfl ⟨Nat.le_of_ble_eq_true rfl, Nat.le_of_ble_eq_true rfl⟩ ⟨Nat.zero_le _, Nat.zero_le _⟩ (Nat.le_of_ble_eq_true rfl) dX6_measured_28 ?_
  refine V_istore X (by decide) rfl dX6_measured_31 ?_
  refine V_iload_n X 4 rfl dX6_measured_33 ?_
  rcases oif hf7 with ⟨q34_0, hf34_0⟩ | ⟨q34_0, hf34_0⟩
  · refine V_table X (tgt := 72) (off := 38) (by rw [q34_0]; decide) (by decide) (by decide) dX6_measured_34 ?_
    have hf9 := hf34_0
    refine V_iload_n X 5 rfl dX6_measured_72 ?_
    refine V_iload X 2 rfl dX6_measured_73 ?_
    obtain ⟨c9, e_c9, hf11⟩ := obd hf9
    refine V_callSi X (f6_matches_ok e_c9) ys_X6_matches yw_X6_matches ml_X6_9 rfl rfl ⟨Nat.le_of_ble_eq_true rfl, Nat.le_of_ble_eq_true rfl⟩ ⟨Nat.zero_le _, Nat.zero_le _⟩ (Nat.le_of_ble_eq_true rfl) dX6_measured_75 ?_
    refine V_if_eq X (tgt := 93) (by decide) dX6_measured_78 (fun q78 => ?_) (fun q78 => ?_)
    · have hf12 := ift hf11 q78
      refine V_iconst X (v := 0) (by decide) dX6_measured_93 ?_
      exact V_iret X rfl hf12 dX6_measured_94
    · have hf12 := ife hf11 q78
      refine V_aload_n X 3 rfl dX6_measured_81 ?_
      refine V_iload_n X 6 rfl dX6_measured_82 ?_
      refine V_iload X 7 rfl dX6_measured_83 ?_
      refine V_iload X 8 rfl dX6_measured_85 ?_
      obtain ⟨c12, e_c12, hf14⟩ := obd hf12
      refine V_callVi X (SR_1 hE).1 rfl rfl (f5_grains_ok (SR_1 hE) e_c12) ys_X5_grains yw_X5_grains ml_X6_32 rfl rfl ⟨Nat.le_of_ble_eq_true rfl, Nat.le_of_ble_eq_true rfl⟩ ⟨Nat.zero_le _, Nat.zero_le _⟩ (Nat.le_of_ble_eq_true rfl) dX6_measured_87 ?_
      refine V_goto X (tgt := 94) (by decide) dX6_measured_90 ?_
      exact V_iret X rfl hf14 dX6_measured_94
  rcases oif hf34_0 with ⟨q34_1, hf34_1⟩ | ⟨q34_1, hf34_1⟩
  · refine V_table X (tgt := 95) (off := 61) (by rw [q34_1]; decide) (by decide) (by decide) dX6_measured_34 ?_
    have hf15 := hf34_1
    refine V_iload X 0 rfl dX6_measured_95 ?_
    obtain ⟨c15, e_c15, hf17⟩ := obd hf15
    refine V_callSNi X (f7_bit_ok e_c15) ys_X7_bit yw_X7_bit nl_X6_35 rfl rfl ⟨Nat.le_of_ble_eq_true rfl, Nat.le_of_ble_eq_true rfl⟩ ⟨Nat.zero_le _, Nat.zero_le _⟩ (Nat.le_of_ble_eq_true rfl) dX6_measured_97 ?_
    exact V_iret X rfl hf17 dX6_measured_100
  rcases oif hf34_1 with ⟨q34_2, hf34_2⟩ | ⟨q34_2, hf34_2⟩
  · refine V_table X (tgt := 101) (off := 67) (by rw [q34_2]; decide) (by decide) (by decide) dX6_measured_34 ?_
    have hf18 := hf34_2
    refine V_iload X 0 rfl dX6_measured_101 ?_
    refine V_if_ne X (tgt := 110) (by decide) dX6_measured_103 (fun q103 => ?_) (fun q103 => ?_)
    · have hf19 := ife hf18 q103
      refine V_iconst X (v := 0) (by decide) dX6_measured_110 ?_
      exact V_sub [] rfl (f6_measured_j111_ok hE X hf19)
    · have hf19 := ift hf18 q103
      refine V_iconst X (v := 1) (by decide) dX6_measured_106 ?_
      refine V_goto X (tgt := 111) (by decide) dX6_measured_107 ?_
      exact V_sub [] rfl (f6_measured_j111_ok hE X hf19)
  rcases oif hf34_2 with ⟨q34_3, hf34_3⟩ | ⟨q34_3, hf34_3⟩
  · refine V_table X (tgt := 115) (off := 81) (by rw [q34_3]; decide) (by decide) (by decide) dX6_measured_34 ?_
    have hf20 := hf34_3
    refine V_iload X 1 rfl dX6_measured_115 ?_
    refine V_bipush X (v := -6) (by decide) dX6_measured_117 ?_
    refine V_icmp_eq X (tgt := 131) (by decide) dX6_measured_119 (fun q119 => ?_) (fun q119 => ?_)
    · have hf21 := ift hf20 q119
      exact V_sub [] rfl (f6_measured_j131_ok hE X hf21)
    · have hf21 := ife hf20 q119
      refine V_iload X 0 rfl dX6_measured_122 ?_
      refine V_if_ne X (tgt := 131) (by decide) dX6_measured_124 (fun q124 => ?_) (fun q124 => ?_)
      · have hf22 := ife hf21 q124
        exact V_sub [] rfl (f6_measured_j131_ok hE X hf22)
      · have hf22 := ift hf21 q124
        refine V_iconst X (v := 1) (by decide) dX6_measured_127 ?_
        refine V_goto X (tgt := 132) (by decide) dX6_measured_128 ?_
        exact V_sub [] rfl (f6_measured_j132_ok hE X hf22)
  rcases oif hf34_3 with ⟨q34_4, hf34_4⟩ | ⟨q34_4, hf34_4⟩
  · refine V_table X (tgt := 136) (off := 102) (by rw [q34_4]; decide) (by decide) (by decide) dX6_measured_34 ?_
    have hf23 := hf34_4
    refine V_iload X 1 rfl dX6_measured_136 ?_
    refine V_iload_n X 5 rfl dX6_measured_138 ?_
    refine V_icmp_ne X (tgt := 146) (by decide) dX6_measured_139 (fun q139 => ?_) (fun q139 => ?_)
    · have hf24 := ife hf23 q139
      refine V_iconst X (v := 0) (by decide) dX6_measured_146 ?_
      exact V_sub [] rfl (f6_measured_j147_ok hE X hf24)
    · have hf24 := ift hf23 q139
      refine V_iconst X (v := 1) (by decide) dX6_measured_142 ?_
      refine V_goto X (tgt := 147) (by decide) dX6_measured_143 ?_
      exact V_sub [] rfl (f6_measured_j147_ok hE X hf24)
  rcases oif hf34_4 with ⟨q34_5, hf34_5⟩ | ⟨q34_5, hf34_5⟩
  · refine V_table X (tgt := 151) (off := 117) (by rw [q34_5]; decide) (by decide) (by decide) dX6_measured_34 ?_
    have hf25 := hf34_5
    refine V_iload_n X 5 rfl dX6_measured_151 ?_
    refine V_iload X 1 rfl dX6_measured_152 ?_
    obtain ⟨c25, e_c25, hf27⟩ := obd hf25
    refine V_callSi X (f6_matches_ok e_c25) ys_X6_matches yw_X6_matches ml_X6_9 rfl rfl ⟨Nat.le_of_ble_eq_true rfl, Nat.le_of_ble_eq_true rfl⟩ ⟨Nat.zero_le _, Nat.zero_le _⟩ (Nat.le_of_ble_eq_true rfl) dX6_measured_154 ?_
    refine V_if_eq X (tgt := 172) (by decide) dX6_measured_157 (fun q157 => ?_) (fun q157 => ?_)
    · have hf28 := ift hf27 q157
      refine V_iconst X (v := 0) (by decide) dX6_measured_172 ?_
      exact V_iret X rfl hf28 dX6_measured_173
    · have hf28 := ife hf27 q157
      refine V_aload_n X 3 rfl dX6_measured_160 ?_
      refine V_iload_n X 6 rfl dX6_measured_161 ?_
      refine V_iload X 7 rfl dX6_measured_162 ?_
      refine V_iload X 8 rfl dX6_measured_164 ?_
      obtain ⟨c28, e_c28, hf30⟩ := obd hf28
      refine V_callVi X (SR_1 hE).1 rfl rfl (f5_missing_ok (SR_1 hE) e_c28) ys_X5_missing yw_X5_missing ml_X6_39 rfl rfl ⟨Nat.le_of_ble_eq_true rfl, Nat.le_of_ble_eq_true rfl⟩ ⟨Nat.zero_le _, Nat.zero_le _⟩ (Nat.le_of_ble_eq_true rfl) dX6_measured_166 ?_
      refine V_goto X (tgt := 173) (by decide) dX6_measured_169 ?_
      exact V_iret X rfl hf30 dX6_measured_173
  · skip
    refine V_table X (tgt := 174) (off := 140) (tsel_out (by have z0 := lv_neT q34_0 (show (0 : Int32).toInt = 0 by decide); have z1 := lv_neT q34_1 (show (1 : Int32).toInt = 1 by decide); have z2 := lv_neT q34_2 (show (2 : Int32).toInt = 2 by decide); have z3 := lv_neT q34_3 (show (3 : Int32).toInt = 3 by decide); have z4 := lv_neT q34_4 (show (4 : Int32).toInt = 4 by decide); have z5 := lv_neT q34_5 (show (5 : Int32).toInt = 5 by decide); omega)) (by decide) (by decide) dX6_measured_34 ?_
    have hf31 := hf34_5
    refine V_iconst X (v := 0) (by decide) dX6_measured_174 ?_
    exact V_iret X rfl hf31 dX6_measured_175
def f6_measured (x1 : Int32) (x2 : Int32) (x3 : Int32) (x4 : Int32) (x5 : Int32) (h : Hp) : Re := f6_measured_e x1 x2 x3 x4 x5 h
theorem f6_measured_ok (hE : IW E) {x1 : Int32} {x2 : Int32} {x3 : Int32} {x4 : Int32} {x5 : Int32} {h : Hp} {q : Int32 × Hp} (hf0 : f6_measured x1 x2 x3 x4 x5 h = some q) : SMi l E 4 yX6_measured cX6_measured 9 (some .int) [.ref (eA E 1), .int x1, .int x2, .int x3, .int x4, .int x5] h q.1 q.2 :=
  SMi.of (by decide +kernel) (Nat.le_of_ble_eq_true rfl) (fun p e s m args below meth c A X => f6_measured_e_ok hE X (r := q.1) (h' := q.2) hf0)
def f6_tally_B49 (k6 : Int32 → Int32 → Int32 → Int32 → Int32 → Int32 → Hp → Re) (k28 : Int32 → Int32 → Int32 → Int32 → Int32 → Int32 → Int32 → Hp → Re) (k49 : Int32 → Int32 → Int32 → Int32 → Int32 → Int32 → Int32 → Int32 → Hp → Re) (x1 : Int32) (x2 : Int32) (x3 : Int32) (x4 : Int32) (x5 : Int32) (x6 : Int32) (x7 : Int32) (x8 : Int32) (h : Hp) : Re :=
  if 8 ≤ x8 then (k28 x1 x2 x3 x4 x5 x6 (x7 + 1) h) else ((f6_measured x1 x2 x7 x6 x8 h).bind fun c2 => k49 x1 x2 x3 x4 (x5 + c2.1) x6 x7 (x8 + 1) c2.2)
set_option maxRecDepth 20000 in
set_option maxHeartbeats 4000000 in
theorem f6_tally_B49_ok (hE : IW E) (X : XC E RX6 cX6_tally 9 (some .int) A p s m args meth c) {k6 : Int32 → Int32 → Int32 → Int32 → Int32 → Int32 → Hp → Re} {k28 : Int32 → Int32 → Int32 → Int32 → Int32 → Int32 → Int32 → Hp → Re} {k49 : Int32 → Int32 → Int32 → Int32 → Int32 → Int32 → Int32 → Int32 → Hp → Re} (hk6 : ∀ (x1 : Int32) (x2 : Int32) (x3 : Int32) (x4 : Int32) (x5 : Int32) (x6 : Int32) (h : Hp), k6 x1 x2 x3 x4 x5 x6 h = some (r, h') → VM E 9 A p l e 5 s m args below meth c (Qi E A r h') 6 [(0, .ref (eA E 1)), (1, .int x1), (2, .int x2), (3, .int x3), (4, .int x4), (5, .int x5), (6, .int x6)] [] h) (hk28 : ∀ (x1 : Int32) (x2 : Int32) (x3 : Int32) (x4 : Int32) (x5 : Int32) (x6 : Int32) (x7 : Int32) (h : Hp), k28 x1 x2 x3 x4 x5 x6 x7 h = some (r, h') → VM E 9 A p l e 5 s m args below meth c (Qi E A r h') 28 [(0, .ref (eA E 1)), (1, .int x1), (2, .int x2), (3, .int x3), (4, .int x4), (5, .int x5), (6, .int x6), (7, .int x7)] [] h) (hk49 : ∀ (x1 : Int32) (x2 : Int32) (x3 : Int32) (x4 : Int32) (x5 : Int32) (x6 : Int32) (x7 : Int32) (x8 : Int32) (h : Hp), k49 x1 x2 x3 x4 x5 x6 x7 x8 h = some (r, h') → VM E 9 A p l e 5 s m args below meth c (Qi E A r h') 49 [(0, .ref (eA E 1)), (1, .int x1), (2, .int x2), (3, .int x3), (4, .int x4), (5, .int x5), (6, .int x6), (7, .int x7), (8, .int x8)] [] h) {x1 : Int32} {x2 : Int32} {x3 : Int32} {x4 : Int32} {x5 : Int32} {x6 : Int32} {x7 : Int32} {x8 : Int32} {h : Hp} (hf0 : f6_tally_B49 k6 k28 k49 x1 x2 x3 x4 x5 x6 x7 x8 h = some (r, h')) : VM E 9 A p l e 5 s m args below meth c (Qi E A r h') 49 [(0, .ref (eA E 1)), (1, .int x1), (2, .int x2), (3, .int x3), (4, .int x4), (5, .int x5), (6, .int x6), (7, .int x7), (8, .int x8)] [] h := by
  unfold f6_tally_B49 at hf0
  have hf1 := hf0
  refine V_iload X 8 rfl dX6_tally_49 ?_
  refine V_bipush X (v := 8) (by decide) dX6_tally_51 ?_
  refine V_icmp_ge X (tgt := 79) (by decide) dX6_tally_53 (fun q53 => ?_) (fun q53 => ?_)
  · have hf2 := ift hf1 q53
    refine V_iinc X (v := _ + 1) 7 rfl (by rfl) (by decide) rfl dX6_tally_79 ?_
    refine V_goto X (tgt := 28) (by decide) dX6_tally_82 ?_
    exact V_sub [1, 2, 3, 4, 5, 6, 7, 0] rfl (hk28 _ _ _ _ _ _ _ _ hf2)
  · have hf2 := ife hf1 q53
    refine V_iload X 5 rfl dX6_tally_56 ?_
    refine V_aload_n X 0 rfl dX6_tally_58 ?_
    refine V_iload_n X 1 rfl dX6_tally_59 ?_
    refine V_iload_n X 2 rfl dX6_tally_60 ?_
    refine V_iload X 7 rfl dX6_tally_61 ?_
    refine V_iload X 6 rfl dX6_tally_63 ?_
    refine V_iload X 8 rfl dX6_tally_65 ?_
    obtain ⟨c2, e_c2, hf4⟩ := obd hf2
    refine V_callSi X (f6_measured_ok hE e_c2) ys_X6_measured yw_X6_measured ml_X6_15 rfl rfl ⟨Nat.le_of_ble_eq_true rfl, Nat.le_of_ble_eq_true rfl⟩ ⟨Nat.zero_le _, Nat.zero_le _⟩ (Nat.le_of_ble_eq_true rfl) dX6_tally_67 ?_
    refine V_iadd X dX6_tally_70 ?_
    refine V_istore X (by decide) rfl dX6_tally_71 ?_
    refine V_iinc X (v := _ + 1) 8 rfl (by rfl) (by decide) rfl dX6_tally_73 ?_
    refine V_goto X (tgt := 49) (by decide) dX6_tally_76 ?_
    exact V_sub [2, 3, 4, 5, 6, 1, 7, 8, 0] rfl (hk49 _ _ _ _ _ _ _ _ _ hf4)
def f6_tally_L49 (k6 : Int32 → Int32 → Int32 → Int32 → Int32 → Int32 → Hp → Re) (k28 : Int32 → Int32 → Int32 → Int32 → Int32 → Int32 → Int32 → Hp → Re) : Nat → Int32 → Int32 → Int32 → Int32 → Int32 → Int32 → Int32 → Int32 → Hp → Re
  | 0 => fun _ _ _ _ _ _ _ _ _ => none
  | n + 1 => f6_tally_B49 k6 k28 (f6_tally_L49 k6 k28 n)
theorem f6_tally_L49_s (k6 : Int32 → Int32 → Int32 → Int32 → Int32 → Int32 → Hp → Re) (k28 : Int32 → Int32 → Int32 → Int32 → Int32 → Int32 → Int32 → Hp → Re) (n : Nat) (x1 : Int32) (x2 : Int32) (x3 : Int32) (x4 : Int32) (x5 : Int32) (x6 : Int32) (x7 : Int32) (x8 : Int32) (h : Hp) : f6_tally_L49 k6 k28 (n + 1) x1 x2 x3 x4 x5 x6 x7 x8 h = f6_tally_B49 k6 k28 (f6_tally_L49 k6 k28 n) x1 x2 x3 x4 x5 x6 x7 x8 h := rfl
theorem f6_tally_L49_ok (hE : IW E) (X : XC E RX6 cX6_tally 9 (some .int) A p s m args meth c) {k6 : Int32 → Int32 → Int32 → Int32 → Int32 → Int32 → Hp → Re} {k28 : Int32 → Int32 → Int32 → Int32 → Int32 → Int32 → Int32 → Hp → Re} (hk6 : ∀ (x1 : Int32) (x2 : Int32) (x3 : Int32) (x4 : Int32) (x5 : Int32) (x6 : Int32) (h : Hp), k6 x1 x2 x3 x4 x5 x6 h = some (r, h') → VM E 9 A p l e 5 s m args below meth c (Qi E A r h') 6 [(0, .ref (eA E 1)), (1, .int x1), (2, .int x2), (3, .int x3), (4, .int x4), (5, .int x5), (6, .int x6)] [] h) (hk28 : ∀ (x1 : Int32) (x2 : Int32) (x3 : Int32) (x4 : Int32) (x5 : Int32) (x6 : Int32) (x7 : Int32) (h : Hp), k28 x1 x2 x3 x4 x5 x6 x7 h = some (r, h') → VM E 9 A p l e 5 s m args below meth c (Qi E A r h') 28 [(0, .ref (eA E 1)), (1, .int x1), (2, .int x2), (3, .int x3), (4, .int x4), (5, .int x5), (6, .int x6), (7, .int x7)] [] h) : ∀ (n : Nat) (x1 : Int32) (x2 : Int32) (x3 : Int32) (x4 : Int32) (x5 : Int32) (x6 : Int32) (x7 : Int32) (x8 : Int32) (h : Hp), f6_tally_L49 k6 k28 n x1 x2 x3 x4 x5 x6 x7 x8 h = some (r, h') → VM E 9 A p l e 5 s m args below meth c (Qi E A r h') 49 [(0, .ref (eA E 1)), (1, .int x1), (2, .int x2), (3, .int x3), (4, .int x4), (5, .int x5), (6, .int x6), (7, .int x7), (8, .int x8)] [] h := by
  intro n
  induction n with
  | zero =>
    intro x1 x2 x3 x4 x5 x6 x7 x8 h q
    have q : (none : Re) = some (r, h') := q
    cases q
  | succ n ih =>
    intro x1 x2 x3 x4 x5 x6 x7 x8 h q
    exact f6_tally_B49_ok hE X hk6 hk28 ih q
def f6_tally_B28 (k6 : Int32 → Int32 → Int32 → Int32 → Int32 → Int32 → Hp → Re) (k28 : Int32 → Int32 → Int32 → Int32 → Int32 → Int32 → Int32 → Hp → Re) (x1 : Int32) (x2 : Int32) (x3 : Int32) (x4 : Int32) (x5 : Int32) (x6 : Int32) (x7 : Int32) (h : Hp) : Re :=
  if 4 ≤ x7 then (k6 x1 x2 x3 x4 x5 (x6 + 1) h) else ((f6_matches x3 x7 h).bind fun c2 => if c2.1 = 0 then (k28 x1 x2 x3 x4 x5 x6 (x7 + 1) c2.2) else (f6_tally_L49 k6 k28 FU x1 x2 x3 x4 x5 x6 x7 0 c2.2))
set_option maxRecDepth 20000 in
set_option maxHeartbeats 4000000 in
theorem f6_tally_B28_ok (hE : IW E) (X : XC E RX6 cX6_tally 9 (some .int) A p s m args meth c) {k6 : Int32 → Int32 → Int32 → Int32 → Int32 → Int32 → Hp → Re} {k28 : Int32 → Int32 → Int32 → Int32 → Int32 → Int32 → Int32 → Hp → Re} (hk6 : ∀ (x1 : Int32) (x2 : Int32) (x3 : Int32) (x4 : Int32) (x5 : Int32) (x6 : Int32) (h : Hp), k6 x1 x2 x3 x4 x5 x6 h = some (r, h') → VM E 9 A p l e 5 s m args below meth c (Qi E A r h') 6 [(0, .ref (eA E 1)), (1, .int x1), (2, .int x2), (3, .int x3), (4, .int x4), (5, .int x5), (6, .int x6)] [] h) (hk28 : ∀ (x1 : Int32) (x2 : Int32) (x3 : Int32) (x4 : Int32) (x5 : Int32) (x6 : Int32) (x7 : Int32) (h : Hp), k28 x1 x2 x3 x4 x5 x6 x7 h = some (r, h') → VM E 9 A p l e 5 s m args below meth c (Qi E A r h') 28 [(0, .ref (eA E 1)), (1, .int x1), (2, .int x2), (3, .int x3), (4, .int x4), (5, .int x5), (6, .int x6), (7, .int x7)] [] h) {x1 : Int32} {x2 : Int32} {x3 : Int32} {x4 : Int32} {x5 : Int32} {x6 : Int32} {x7 : Int32} {h : Hp} (hf0 : f6_tally_B28 k6 k28 x1 x2 x3 x4 x5 x6 x7 h = some (r, h')) : VM E 9 A p l e 5 s m args below meth c (Qi E A r h') 28 [(0, .ref (eA E 1)), (1, .int x1), (2, .int x2), (3, .int x3), (4, .int x4), (5, .int x5), (6, .int x6), (7, .int x7)] [] h := by
  unfold f6_tally_B28 at hf0
  have hf1 := hf0
  refine V_iload X 7 rfl dX6_tally_28 ?_
  refine V_iconst X (v := 4) (by decide) dX6_tally_30 ?_
  refine V_icmp_ge X (tgt := 85) (by decide) dX6_tally_31 (fun q31 => ?_) (fun q31 => ?_)
  · have hf2 := ift hf1 q31
    refine V_iinc X (v := _ + 1) 6 rfl (by rfl) (by decide) rfl dX6_tally_85 ?_
    refine V_goto X (tgt := 6) (by decide) dX6_tally_88 ?_
    exact V_sub [1, 2, 3, 4, 5, 6, 0] rfl (hk6 _ _ _ _ _ _ _ hf2)
  · have hf2 := ife hf1 q31
    refine V_iload_n X 3 rfl dX6_tally_34 ?_
    refine V_iload X 7 rfl dX6_tally_35 ?_
    obtain ⟨c2, e_c2, hf4⟩ := obd hf2
    refine V_callSi X (f6_matches_ok e_c2) ys_X6_matches yw_X6_matches ml_X6_9 rfl rfl ⟨Nat.le_of_ble_eq_true rfl, Nat.le_of_ble_eq_true rfl⟩ ⟨Nat.zero_le _, Nat.zero_le _⟩ (Nat.le_of_ble_eq_true rfl) dX6_tally_37 ?_
    refine V_if_ne X (tgt := 46) (by decide) dX6_tally_40 (fun q40 => ?_) (fun q40 => ?_)
    · have hf5 := ife hf4 q40
      refine V_iconst X (v := 0) (by decide) dX6_tally_46 ?_
      refine V_istore X (by decide) rfl dX6_tally_47 ?_
      exact V_sub [1, 2, 3, 4, 5, 6, 7, 8, 0] rfl (f6_tally_L49_ok hE X hk6 hk28 FU _ _ _ _ _ _ _ _ _ hf5)
    · have hf5 := ift hf4 q40
      refine V_goto X (tgt := 79) (by decide) dX6_tally_43 ?_
      refine V_iinc X (v := _ + 1) 7 rfl (by rfl) (by decide) rfl dX6_tally_79 ?_
      refine V_goto X (tgt := 28) (by decide) dX6_tally_82 ?_
      exact V_sub [1, 2, 3, 4, 5, 6, 7, 0] rfl (hk28 _ _ _ _ _ _ _ _ hf5)
def f6_tally_L28 (k6 : Int32 → Int32 → Int32 → Int32 → Int32 → Int32 → Hp → Re) : Nat → Int32 → Int32 → Int32 → Int32 → Int32 → Int32 → Int32 → Hp → Re
  | 0 => fun _ _ _ _ _ _ _ _ => none
  | n + 1 => f6_tally_B28 k6 (f6_tally_L28 k6 n)
theorem f6_tally_L28_s (k6 : Int32 → Int32 → Int32 → Int32 → Int32 → Int32 → Hp → Re) (n : Nat) (x1 : Int32) (x2 : Int32) (x3 : Int32) (x4 : Int32) (x5 : Int32) (x6 : Int32) (x7 : Int32) (h : Hp) : f6_tally_L28 k6 (n + 1) x1 x2 x3 x4 x5 x6 x7 h = f6_tally_B28 k6 (f6_tally_L28 k6 n) x1 x2 x3 x4 x5 x6 x7 h := rfl
theorem f6_tally_L28_ok (hE : IW E) (X : XC E RX6 cX6_tally 9 (some .int) A p s m args meth c) {k6 : Int32 → Int32 → Int32 → Int32 → Int32 → Int32 → Hp → Re} (hk6 : ∀ (x1 : Int32) (x2 : Int32) (x3 : Int32) (x4 : Int32) (x5 : Int32) (x6 : Int32) (h : Hp), k6 x1 x2 x3 x4 x5 x6 h = some (r, h') → VM E 9 A p l e 5 s m args below meth c (Qi E A r h') 6 [(0, .ref (eA E 1)), (1, .int x1), (2, .int x2), (3, .int x3), (4, .int x4), (5, .int x5), (6, .int x6)] [] h) : ∀ (n : Nat) (x1 : Int32) (x2 : Int32) (x3 : Int32) (x4 : Int32) (x5 : Int32) (x6 : Int32) (x7 : Int32) (h : Hp), f6_tally_L28 k6 n x1 x2 x3 x4 x5 x6 x7 h = some (r, h') → VM E 9 A p l e 5 s m args below meth c (Qi E A r h') 28 [(0, .ref (eA E 1)), (1, .int x1), (2, .int x2), (3, .int x3), (4, .int x4), (5, .int x5), (6, .int x6), (7, .int x7)] [] h := by
  intro n
  induction n with
  | zero =>
    intro x1 x2 x3 x4 x5 x6 x7 h q
    have q : (none : Re) = some (r, h') := q
    cases q
  | succ n ih =>
    intro x1 x2 x3 x4 x5 x6 x7 h q
    exact f6_tally_B28_ok hE X hk6 ih q
def f6_tally_B6 (k6 : Int32 → Int32 → Int32 → Int32 → Int32 → Int32 → Hp → Re) (x1 : Int32) (x2 : Int32) (x3 : Int32) (x4 : Int32) (x5 : Int32) (x6 : Int32) (h : Hp) : Re :=
  if 5 ≤ x6 then (some (x5, h)) else ((f6_matches x4 x6 h).bind fun c2 => if c2.1 = 0 then (k6 x1 x2 x3 x4 x5 (x6 + 1) c2.2) else (f6_tally_L28 k6 FU x1 x2 x3 x4 x5 x6 0 c2.2))
set_option maxRecDepth 20000 in
set_option maxHeartbeats 4000000 in
theorem f6_tally_B6_ok (hE : IW E) (X : XC E RX6 cX6_tally 9 (some .int) A p s m args meth c) {k6 : Int32 → Int32 → Int32 → Int32 → Int32 → Int32 → Hp → Re} (hk6 : ∀ (x1 : Int32) (x2 : Int32) (x3 : Int32) (x4 : Int32) (x5 : Int32) (x6 : Int32) (h : Hp), k6 x1 x2 x3 x4 x5 x6 h = some (r, h') → VM E 9 A p l e 5 s m args below meth c (Qi E A r h') 6 [(0, .ref (eA E 1)), (1, .int x1), (2, .int x2), (3, .int x3), (4, .int x4), (5, .int x5), (6, .int x6)] [] h) {x1 : Int32} {x2 : Int32} {x3 : Int32} {x4 : Int32} {x5 : Int32} {x6 : Int32} {h : Hp} (hf0 : f6_tally_B6 k6 x1 x2 x3 x4 x5 x6 h = some (r, h')) : VM E 9 A p l e 5 s m args below meth c (Qi E A r h') 6 [(0, .ref (eA E 1)), (1, .int x1), (2, .int x2), (3, .int x3), (4, .int x4), (5, .int x5), (6, .int x6)] [] h := by
  unfold f6_tally_B6 at hf0
  have hf1 := hf0
  refine V_iload X 6 rfl dX6_tally_6 ?_
  refine V_iconst X (v := 5) (by decide) dX6_tally_8 ?_
  refine V_icmp_ge X (tgt := 91) (by decide) dX6_tally_9 (fun q9 => ?_) (fun q9 => ?_)
  · have hf2 := ift hf1 q9
    refine V_iload X 5 rfl dX6_tally_91 ?_
    exact V_iret X rfl hf2 dX6_tally_93
  · have hf2 := ife hf1 q9
    refine V_iload X 4 rfl dX6_tally_12 ?_
    refine V_iload X 6 rfl dX6_tally_14 ?_
    obtain ⟨c2, e_c2, hf4⟩ := obd hf2
    refine V_callSi X (f6_matches_ok e_c2) ys_X6_matches yw_X6_matches ml_X6_9 rfl rfl ⟨Nat.le_of_ble_eq_true rfl, Nat.le_of_ble_eq_true rfl⟩ ⟨Nat.zero_le _, Nat.zero_le _⟩ (Nat.le_of_ble_eq_true rfl) dX6_tally_16 ?_
    refine V_if_ne X (tgt := 25) (by decide) dX6_tally_19 (fun q19 => ?_) (fun q19 => ?_)
    · have hf5 := ife hf4 q19
      refine V_iconst X (v := 0) (by decide) dX6_tally_25 ?_
      refine V_istore X (by decide) rfl dX6_tally_26 ?_
      exact V_sub [1, 2, 3, 4, 5, 6, 7, 0] rfl (f6_tally_L28_ok hE X hk6 FU _ _ _ _ _ _ _ _ hf5)
    · have hf5 := ift hf4 q19
      refine V_goto X (tgt := 85) (by decide) dX6_tally_22 ?_
      refine V_iinc X (v := _ + 1) 6 rfl (by rfl) (by decide) rfl dX6_tally_85 ?_
      refine V_goto X (tgt := 6) (by decide) dX6_tally_88 ?_
      exact V_sub [1, 2, 3, 4, 5, 6, 0] rfl (hk6 _ _ _ _ _ _ _ hf5)
def f6_tally_L6 : Nat → Int32 → Int32 → Int32 → Int32 → Int32 → Int32 → Hp → Re
  | 0 => fun _ _ _ _ _ _ _ => none
  | n + 1 => f6_tally_B6 (f6_tally_L6 n)
theorem f6_tally_L6_s (n : Nat) (x1 : Int32) (x2 : Int32) (x3 : Int32) (x4 : Int32) (x5 : Int32) (x6 : Int32) (h : Hp) : f6_tally_L6 (n + 1) x1 x2 x3 x4 x5 x6 h = f6_tally_B6 (f6_tally_L6 n) x1 x2 x3 x4 x5 x6 h := rfl
theorem f6_tally_L6_ok (hE : IW E) (X : XC E RX6 cX6_tally 9 (some .int) A p s m args meth c) : ∀ (n : Nat) (x1 : Int32) (x2 : Int32) (x3 : Int32) (x4 : Int32) (x5 : Int32) (x6 : Int32) (h : Hp), f6_tally_L6 n x1 x2 x3 x4 x5 x6 h = some (r, h') → VM E 9 A p l e 5 s m args below meth c (Qi E A r h') 6 [(0, .ref (eA E 1)), (1, .int x1), (2, .int x2), (3, .int x3), (4, .int x4), (5, .int x5), (6, .int x6)] [] h := by
  intro n
  induction n with
  | zero =>
    intro x1 x2 x3 x4 x5 x6 h q
    have q : (none : Re) = some (r, h') := q
    cases q
  | succ n ih =>
    intro x1 x2 x3 x4 x5 x6 h q
    exact f6_tally_B6_ok hE X ih q
def f6_tally_e (x1 : Int32) (x2 : Int32) (x3 : Int32) (x4 : Int32) (h : Hp) : Re :=
  f6_tally_L6 FU x1 x2 x3 x4 0 0 h
set_option maxRecDepth 20000 in
set_option maxHeartbeats 4000000 in
theorem f6_tally_e_ok (hE : IW E) (X : XC E RX6 cX6_tally 9 (some .int) A p s m args meth c) {x1 : Int32} {x2 : Int32} {x3 : Int32} {x4 : Int32} {h : Hp} (hf0 : f6_tally_e x1 x2 x3 x4 h = some (r, h')) : VM E 9 A p l e 5 s m args below meth c (Qi E A r h') 0 [(0, .ref (eA E 1)), (1, .int x1), (2, .int x2), (3, .int x3), (4, .int x4)] [] h := by
  unfold f6_tally_e at hf0
  have hf1 := hf0
  refine V_iconst X (v := 0) (by decide) dX6_tally_0 ?_
  refine V_istore X (by decide) rfl dX6_tally_1 ?_
  refine V_iconst X (v := 0) (by decide) dX6_tally_3 ?_
  refine V_istore X (by decide) rfl dX6_tally_4 ?_
  exact V_sub [2, 3, 4, 5, 6, 1, 0] rfl (f6_tally_L6_ok hE X FU _ _ _ _ _ _ _ hf1)
def f6_tally (x1 : Int32) (x2 : Int32) (x3 : Int32) (x4 : Int32) (h : Hp) : Re := f6_tally_e x1 x2 x3 x4 h
theorem f6_tally_ok (hE : IW E) {x1 : Int32} {x2 : Int32} {x3 : Int32} {x4 : Int32} {h : Hp} {q : Int32 × Hp} (hf0 : f6_tally x1 x2 x3 x4 h = some q) : SMi l E 5 yX6_tally cX6_tally 9 (some .int) [.ref (eA E 1), .int x1, .int x2, .int x3, .int x4] h q.1 q.2 :=
  SMi.of (by decide +kernel) (Nat.le_of_ble_eq_true rfl) (fun p e s m args below meth c A X => f6_tally_e_ok hE X (r := q.1) (h' := q.2) hf0)
def f7_ofRing_e (x1 : Int32) (x2 : Int32) (h : Hp) : Re :=
  (f7_isRing x1 h).bind fun c1 => if c1.1 = 0 then (some ((-1), c1.2)) else (if x2 = 0 then ((f5_isClosed 1 x1 c1.2).bind fun c6 => (f7_bit c6.1 c6.2).bind fun c8 => some (c8.1, c8.2)) else if x2 = 1 then ((f5_hasPattern 1 x1 c1.2).bind fun c11 => (f7_bit c11.1 c11.2).bind fun c13 => some (c13.1, c13.2)) else if x2 = 2 then ((f6_isWhole x1 c1.2).bind fun c16 => (f7_bit c16.1 c16.2).bind fun c18 => some (c18.1, c18.2)) else if x2 = 3 then ((f6_unlikePlaces x1 c1.2).bind fun c21 => some (c21.1, c21.2)) else if x2 = 4 then ((f6_tally 2 (-1) (-1) x1 c1.2).bind fun c24 => some (c24.1, c24.2)) else if x2 = 5 then ((f6_tally 0 (-1) (-1) x1 c1.2).bind fun c27 => some (c27.1, c27.2)) else if x2 = 6 then ((f6_tally 5 (-1) (-1) x1 c1.2).bind fun c30 => some (c30.1, c30.2)) else (some ((-2), c1.2)))
set_option maxRecDepth 20000 in
set_option maxHeartbeats 4000000 in
theorem f7_ofRing_e_ok (hE : IW E) (X : XC E RX7 cX7_ofRing 3 (some .int) A p s m args meth c) {x1 : Int32} {x2 : Int32} {h : Hp} (hf0 : f7_ofRing_e x1 x2 h = some (r, h')) : VM E 3 A p l e 6 s m args below meth c (Qi E A r h') 0 [(0, .ref (eA E 0)), (1, .int x1), (2, .int x2)] [] h := by
  unfold f7_ofRing_e at hf0
  have hf1 := hf0
  refine V_iload_n X 1 rfl dX7_ofRing_0 ?_
  obtain ⟨c1, e_c1, hf3⟩ := obd hf1
  refine V_callSi X (f7_isRing_ok e_c1) ys_X7_isRing yw_X7_isRing ml_X7_107 rfl rfl ⟨Nat.le_of_ble_eq_true rfl, Nat.le_of_ble_eq_true rfl⟩ ⟨Nat.zero_le _, Nat.zero_le _⟩ (Nat.le_of_ble_eq_true rfl) dX7_ofRing_1 ?_
  refine V_if_ne X (tgt := 9) (by decide) dX7_ofRing_4 (fun q4 => ?_) (fun q4 => ?_)
  · have hf4 := ife hf3 q4
    refine V_iload_n X 2 rfl dX7_ofRing_9 ?_
    rcases oif hf4 with ⟨q10_0, hf10_0⟩ | ⟨q10_0, hf10_0⟩
    · refine V_table X (tgt := 52) (off := 42) (by rw [q10_0]; decide) (by decide) (by decide) dX7_ofRing_10 ?_
      have hf6 := hf10_0
      refine V_aload_n X 0 rfl dX7_ofRing_52 ?_
      refine G_X7_0_10 hE X dX7_ofRing_53 ?_
      refine V_iload_n X 1 rfl dX7_ofRing_56 ?_
      obtain ⟨c6, e_c6, hf8⟩ := obd hf6
      refine V_callVi X (SR_1 hE).1 rfl rfl (f5_isClosed_ok (SR_1 hE) e_c6) ys_X5_isClosed yw_X5_isClosed ml_X7_111 rfl rfl ⟨Nat.le_of_ble_eq_true rfl, Nat.le_of_ble_eq_true rfl⟩ ⟨Nat.zero_le _, Nat.zero_le _⟩ (Nat.le_of_ble_eq_true rfl) dX7_ofRing_57 ?_
      obtain ⟨c8, e_c8, hf10⟩ := obd hf8
      refine V_callSi X (f7_bit_ok e_c8) ys_X7_bit yw_X7_bit ml_X7_99 rfl rfl ⟨Nat.le_of_ble_eq_true rfl, Nat.le_of_ble_eq_true rfl⟩ ⟨Nat.zero_le _, Nat.zero_le _⟩ (Nat.le_of_ble_eq_true rfl) dX7_ofRing_60 ?_
      exact V_iret X rfl hf10 dX7_ofRing_63
    rcases oif hf10_0 with ⟨q10_1, hf10_1⟩ | ⟨q10_1, hf10_1⟩
    · refine V_table X (tgt := 64) (off := 54) (by rw [q10_1]; decide) (by decide) (by decide) dX7_ofRing_10 ?_
      have hf11 := hf10_1
      refine V_aload_n X 0 rfl dX7_ofRing_64 ?_
      refine G_X7_0_10 hE X dX7_ofRing_65 ?_
      refine V_iload_n X 1 rfl dX7_ofRing_68 ?_
      obtain ⟨c11, e_c11, hf13⟩ := obd hf11
      refine V_callVi X (SR_1 hE).1 rfl rfl (f5_hasPattern_ok (SR_1 hE) e_c11) ys_X5_hasPattern yw_X5_hasPattern ml_X7_114 rfl rfl ⟨Nat.le_of_ble_eq_true rfl, Nat.le_of_ble_eq_true rfl⟩ ⟨Nat.zero_le _, Nat.zero_le _⟩ (Nat.le_of_ble_eq_true rfl) dX7_ofRing_69 ?_
      obtain ⟨c13, e_c13, hf15⟩ := obd hf13
      refine V_callSi X (f7_bit_ok e_c13) ys_X7_bit yw_X7_bit ml_X7_99 rfl rfl ⟨Nat.le_of_ble_eq_true rfl, Nat.le_of_ble_eq_true rfl⟩ ⟨Nat.zero_le _, Nat.zero_le _⟩ (Nat.le_of_ble_eq_true rfl) dX7_ofRing_72 ?_
      exact V_iret X rfl hf15 dX7_ofRing_75
    rcases oif hf10_1 with ⟨q10_2, hf10_2⟩ | ⟨q10_2, hf10_2⟩
    · refine V_table X (tgt := 76) (off := 66) (by rw [q10_2]; decide) (by decide) (by decide) dX7_ofRing_10 ?_
      have hf16 := hf10_2
      refine V_aload_n X 0 rfl dX7_ofRing_76 ?_
      refine G_X7_0_10 hE X dX7_ofRing_77 ?_
      refine V_iload_n X 1 rfl dX7_ofRing_80 ?_
      obtain ⟨c16, e_c16, hf18⟩ := obd hf16
      refine V_callSi X (f6_isWhole_ok hE e_c16) ys_X6_isWhole yw_X6_isWhole ml_X7_117 rfl rfl ⟨Nat.le_of_ble_eq_true rfl, Nat.le_of_ble_eq_true rfl⟩ ⟨Nat.zero_le _, Nat.zero_le _⟩ (Nat.le_of_ble_eq_true rfl) dX7_ofRing_81 ?_
      obtain ⟨c18, e_c18, hf20⟩ := obd hf18
      refine V_callSi X (f7_bit_ok e_c18) ys_X7_bit yw_X7_bit ml_X7_99 rfl rfl ⟨Nat.le_of_ble_eq_true rfl, Nat.le_of_ble_eq_true rfl⟩ ⟨Nat.zero_le _, Nat.zero_le _⟩ (Nat.le_of_ble_eq_true rfl) dX7_ofRing_84 ?_
      exact V_iret X rfl hf20 dX7_ofRing_87
    rcases oif hf10_2 with ⟨q10_3, hf10_3⟩ | ⟨q10_3, hf10_3⟩
    · refine V_table X (tgt := 88) (off := 78) (by rw [q10_3]; decide) (by decide) (by decide) dX7_ofRing_10 ?_
      have hf21 := hf10_3
      refine V_aload_n X 0 rfl dX7_ofRing_88 ?_
      refine G_X7_0_10 hE X dX7_ofRing_89 ?_
      refine V_iload_n X 1 rfl dX7_ofRing_92 ?_
      obtain ⟨c21, e_c21, hf23⟩ := obd hf21
      refine V_callSi X (f6_unlikePlaces_ok hE e_c21) ys_X6_unlikePlaces yw_X6_unlikePlaces ml_X7_123 rfl rfl ⟨Nat.le_of_ble_eq_true rfl, Nat.le_of_ble_eq_true rfl⟩ ⟨Nat.zero_le _, Nat.zero_le _⟩ (Nat.le_of_ble_eq_true rfl) dX7_ofRing_93 ?_
      exact V_iret X rfl hf23 dX7_ofRing_96
    rcases oif hf10_3 with ⟨q10_4, hf10_4⟩ | ⟨q10_4, hf10_4⟩
    · refine V_table X (tgt := 97) (off := 87) (by rw [q10_4]; decide) (by decide) (by decide) dX7_ofRing_10 ?_
      have hf24 := hf10_4
      refine V_aload_n X 0 rfl dX7_ofRing_97 ?_
      refine G_X7_0_10 hE X dX7_ofRing_98 ?_
      refine V_iconst X (v := 2) (by decide) dX7_ofRing_101 ?_
      refine V_iconst X (v := -1) (by decide) dX7_ofRing_102 ?_
      refine V_iconst X (v := -1) (by decide) dX7_ofRing_103 ?_
      refine V_iload_n X 1 rfl dX7_ofRing_104 ?_
      obtain ⟨c24, e_c24, hf26⟩ := obd hf24
      refine V_callSi X (f6_tally_ok hE e_c24) ys_X6_tally yw_X6_tally ml_X7_127 rfl rfl ⟨Nat.le_of_ble_eq_true rfl, Nat.le_of_ble_eq_true rfl⟩ ⟨Nat.zero_le _, Nat.zero_le _⟩ (Nat.le_of_ble_eq_true rfl) dX7_ofRing_105 ?_
      exact V_iret X rfl hf26 dX7_ofRing_108
    rcases oif hf10_4 with ⟨q10_5, hf10_5⟩ | ⟨q10_5, hf10_5⟩
    · refine V_table X (tgt := 109) (off := 99) (by rw [q10_5]; decide) (by decide) (by decide) dX7_ofRing_10 ?_
      have hf27 := hf10_5
      refine V_aload_n X 0 rfl dX7_ofRing_109 ?_
      refine G_X7_0_10 hE X dX7_ofRing_110 ?_
      refine V_iconst X (v := 0) (by decide) dX7_ofRing_113 ?_
      refine V_iconst X (v := -1) (by decide) dX7_ofRing_114 ?_
      refine V_iconst X (v := -1) (by decide) dX7_ofRing_115 ?_
      refine V_iload_n X 1 rfl dX7_ofRing_116 ?_
      obtain ⟨c27, e_c27, hf29⟩ := obd hf27
      refine V_callSi X (f6_tally_ok hE e_c27) ys_X6_tally yw_X6_tally ml_X7_127 rfl rfl ⟨Nat.le_of_ble_eq_true rfl, Nat.le_of_ble_eq_true rfl⟩ ⟨Nat.zero_le _, Nat.zero_le _⟩ (Nat.le_of_ble_eq_true rfl) dX7_ofRing_117 ?_
      exact V_iret X rfl hf29 dX7_ofRing_120
    rcases oif hf10_5 with ⟨q10_6, hf10_6⟩ | ⟨q10_6, hf10_6⟩
    · refine V_table X (tgt := 121) (off := 111) (by rw [q10_6]; decide) (by decide) (by decide) dX7_ofRing_10 ?_
      have hf30 := hf10_6
      refine V_aload_n X 0 rfl dX7_ofRing_121 ?_
      refine G_X7_0_10 hE X dX7_ofRing_122 ?_
      refine V_iconst X (v := 5) (by decide) dX7_ofRing_125 ?_
      refine V_iconst X (v := -1) (by decide) dX7_ofRing_126 ?_
      refine V_iconst X (v := -1) (by decide) dX7_ofRing_127 ?_
      refine V_iload_n X 1 rfl dX7_ofRing_128 ?_
      obtain ⟨c30, e_c30, hf32⟩ := obd hf30
      refine V_callSi X (f6_tally_ok hE e_c30) ys_X6_tally yw_X6_tally ml_X7_127 rfl rfl ⟨Nat.le_of_ble_eq_true rfl, Nat.le_of_ble_eq_true rfl⟩ ⟨Nat.zero_le _, Nat.zero_le _⟩ (Nat.le_of_ble_eq_true rfl) dX7_ofRing_129 ?_
      exact V_iret X rfl hf32 dX7_ofRing_132
    · skip
      refine V_table X (tgt := 133) (off := 123) (tsel_out (by have z0 := lv_neT q10_0 (show (0 : Int32).toInt = 0 by decide); have z1 := lv_neT q10_1 (show (1 : Int32).toInt = 1 by decide); have z2 := lv_neT q10_2 (show (2 : Int32).toInt = 2 by decide); have z3 := lv_neT q10_3 (show (3 : Int32).toInt = 3 by decide); have z4 := lv_neT q10_4 (show (4 : Int32).toInt = 4 by decide); have z5 := lv_neT q10_5 (show (5 : Int32).toInt = 5 by decide); have z6 := lv_neT q10_6 (show (6 : Int32).toInt = 6 by decide); omega)) (by decide) (by decide) dX7_ofRing_10 ?_
      have hf33 := hf10_6
      refine V_bipush X (v := -2) (by decide) dX7_ofRing_133 ?_
      exact V_iret X rfl hf33 dX7_ofRing_135
  · have hf4 := ift hf3 q4
    refine V_iconst X (v := -1) (by decide) dX7_ofRing_7 ?_
    exact V_iret X rfl hf4 dX7_ofRing_8
def f7_ofRing (x1 : Int32) (x2 : Int32) (h : Hp) : Re := f7_ofRing_e x1 x2 h
theorem f7_ofRing_ok (hE : IW E) {x1 : Int32} {x2 : Int32} {h : Hp} {q : Int32 × Hp} (hf0 : f7_ofRing x1 x2 h = some q) : SMi l E 6 yX7_ofRing cX7_ofRing 3 (some .int) [.ref (eA E 0), .int x1, .int x2] h q.1 q.2 :=
  SMi.of (by decide +kernel) (Nat.le_of_ble_eq_true rfl) (fun p e s m args below meth c A X => f7_ofRing_e_ok hE X (r := q.1) (h' := q.2) hf0)
def f7_isQuarter_e (x0 : Int32) (h : Hp) : Re :=
  if x0 < 0 then (rz 0 h) else (if 4 ≤ x0 then (rz 0 h) else (rz 1 h))
set_option maxRecDepth 20000 in
set_option maxHeartbeats 4000000 in
theorem f7_isQuarter_e_ok (X : XC E RX7 cX7_isQuarter 1 (some .boolean) A p s m args meth c) {x0 : Int32} {h : Hp} (hf0 : f7_isQuarter_e x0 h = some (r, h')) : VM E 1 A p l e 0 s m args below meth c (Qi E A r h') 0 [(0, .int x0)] [] h := by
  unfold f7_isQuarter_e at hf0
  have hf1 := hf0
  refine V_iload_n X 0 rfl dX7_isQuarter_0 ?_
  refine V_if_lt X (tgt := 13) (by decide) dX7_isQuarter_1 (fun q1 => ?_) (fun q1 => ?_)
  · have hf2 := ift hf1 q1
    refine V_iconst X (v := 0) (by decide) dX7_isQuarter_13 ?_
    exact V_zret X rfl hf2 dX7_isQuarter_14
  · have hf2 := ife hf1 q1
    refine V_iload_n X 0 rfl dX7_isQuarter_4 ?_
    refine V_iconst X (v := 4) (by decide) dX7_isQuarter_5 ?_
    refine V_icmp_ge X (tgt := 13) (by decide) dX7_isQuarter_6 (fun q6 => ?_) (fun q6 => ?_)
    · have hf3 := ift hf2 q6
      refine V_iconst X (v := 0) (by decide) dX7_isQuarter_13 ?_
      exact V_zret X rfl hf3 dX7_isQuarter_14
    · have hf3 := ife hf2 q6
      refine V_iconst X (v := 1) (by decide) dX7_isQuarter_9 ?_
      refine V_goto X (tgt := 14) (by decide) dX7_isQuarter_10 ?_
      exact V_zret X rfl hf3 dX7_isQuarter_14
def f7_isQuarter (x0 : Int32) (h : Hp) : Re := f7_isQuarter_e x0 h
theorem f7_isQuarter_ok {x0 : Int32} {h : Hp} {q : Int32 × Hp} (hf0 : f7_isQuarter x0 h = some q) : SMi l E 0 yX7_isQuarter cX7_isQuarter 1 (some .boolean) [.int x0] h q.1 q.2 :=
  SMi.of (by decide +kernel) (Nat.le_of_ble_eq_true rfl) (fun p e s m args below meth c A X => f7_isQuarter_e_ok X (r := q.1) (h' := q.2) hf0)
def f7_isPlace_e (x0 : Int32) (x1 : Int32) (x2 : Int32) (h : Hp) : Re :=
  (f7_isQuarter x0 h).bind fun c1 => if c1.1 = 0 then (rz 0 c1.2) else ((f7_isRing x1 c1.2).bind fun c4 => if c4.1 = 0 then (rz 0 c4.2) else (if x2 < 0 then (rz 0 c4.2) else (if 8 ≤ x2 then (rz 0 c4.2) else (rz 1 c4.2))))
set_option maxRecDepth 20000 in
set_option maxHeartbeats 4000000 in
theorem f7_isPlace_e_ok (X : XC E RX7 cX7_isPlace 3 (some .boolean) A p s m args meth c) {x0 : Int32} {x1 : Int32} {x2 : Int32} {h : Hp} (hf0 : f7_isPlace_e x0 x1 x2 h = some (r, h')) : VM E 3 A p l e 1 s m args below meth c (Qi E A r h') 0 [(0, .int x0), (1, .int x1), (2, .int x2)] [] h := by
  unfold f7_isPlace_e at hf0
  have hf1 := hf0
  refine V_iload_n X 0 rfl dX7_isPlace_0 ?_
  obtain ⟨c1, e_c1, hf3⟩ := obd hf1
  refine V_callSi X (f7_isQuarter_ok e_c1) ys_X7_isQuarter yw_X7_isQuarter ml_X7_130 rfl rfl ⟨Nat.le_of_ble_eq_true rfl, Nat.le_of_ble_eq_true rfl⟩ ⟨Nat.zero_le _, Nat.zero_le _⟩ (Nat.le_of_ble_eq_true rfl) dX7_isPlace_1 ?_
  refine V_if_eq X (tgt := 28) (by decide) dX7_isPlace_4 (fun q4 => ?_) (fun q4 => ?_)
  · have hf4 := ift hf3 q4
    refine V_iconst X (v := 0) (by decide) dX7_isPlace_28 ?_
    exact V_zret X rfl hf4 dX7_isPlace_29
  · have hf4 := ife hf3 q4
    refine V_iload_n X 1 rfl dX7_isPlace_7 ?_
    obtain ⟨c4, e_c4, hf6⟩ := obd hf4
    refine V_callSi X (f7_isRing_ok e_c4) ys_X7_isRing yw_X7_isRing ml_X7_107 rfl rfl ⟨Nat.le_of_ble_eq_true rfl, Nat.le_of_ble_eq_true rfl⟩ ⟨Nat.zero_le _, Nat.zero_le _⟩ (Nat.le_of_ble_eq_true rfl) dX7_isPlace_8 ?_
    refine V_if_eq X (tgt := 28) (by decide) dX7_isPlace_11 (fun q11 => ?_) (fun q11 => ?_)
    · have hf7 := ift hf6 q11
      refine V_iconst X (v := 0) (by decide) dX7_isPlace_28 ?_
      exact V_zret X rfl hf7 dX7_isPlace_29
    · have hf7 := ife hf6 q11
      refine V_iload_n X 2 rfl dX7_isPlace_14 ?_
      refine V_if_lt X (tgt := 28) (by decide) dX7_isPlace_15 (fun q15 => ?_) (fun q15 => ?_)
      · have hf8 := ift hf7 q15
        refine V_iconst X (v := 0) (by decide) dX7_isPlace_28 ?_
        exact V_zret X rfl hf8 dX7_isPlace_29
      · have hf8 := ife hf7 q15
        refine V_iload_n X 2 rfl dX7_isPlace_18 ?_
        refine V_bipush X (v := 8) (by decide) dX7_isPlace_19 ?_
        refine V_icmp_ge X (tgt := 28) (by decide) dX7_isPlace_21 (fun q21 => ?_) (fun q21 => ?_)
        · have hf9 := ift hf8 q21
          refine V_iconst X (v := 0) (by decide) dX7_isPlace_28 ?_
          exact V_zret X rfl hf9 dX7_isPlace_29
        · have hf9 := ife hf8 q21
          refine V_iconst X (v := 1) (by decide) dX7_isPlace_24 ?_
          refine V_goto X (tgt := 29) (by decide) dX7_isPlace_25 ?_
          exact V_zret X rfl hf9 dX7_isPlace_29
def f7_isPlace (x0 : Int32) (x1 : Int32) (x2 : Int32) (h : Hp) : Re := f7_isPlace_e x0 x1 x2 h
theorem f7_isPlace_ok {x0 : Int32} {x1 : Int32} {x2 : Int32} {h : Hp} {q : Int32 × Hp} (hf0 : f7_isPlace x0 x1 x2 h = some q) : SMi l E 1 yX7_isPlace cX7_isPlace 3 (some .boolean) [.int x0, .int x1, .int x2] h q.1 q.2 :=
  SMi.of (by decide +kernel) (Nat.le_of_ble_eq_true rfl) (fun p e s m args below meth c A X => f7_isPlace_e_ok X (r := q.1) (h' := q.2) hf0)
def f7_at_e (x1 : Int32) (x2 : Int32) (x3 : Int32) (x4 : Int32) (h : Hp) : Re :=
  (f7_isPlace x1 x2 x3 h).bind fun c1 => if c1.1 = 0 then (some ((-1), c1.2)) else (if x4 = 0 then ((f5_colour 1 x1 x2 x3 c1.2).bind fun c6 => some (c6.1, c6.2)) else if x4 = 1 then ((f5_grains 1 x1 x2 x3 c1.2).bind fun c9 => some (c9.1, c9.2)) else if x4 = 2 then ((f5_wanted 1 x1 x2 x3 c1.2).bind fun c12 => some (c12.1, c12.2)) else if x4 = 3 then ((f5_isRight 1 x1 x2 x3 c1.2).bind fun c15 => (f7_bit c15.1 c15.2).bind fun c17 => some (c17.1, c17.2)) else if x4 = 4 then ((f5_patternPlace 1 x1 x3 c1.2).bind fun c20 => some (c20.1, c20.2)) else (some ((-2), c1.2)))
set_option maxRecDepth 20000 in
set_option maxHeartbeats 4000000 in
theorem f7_at_e_ok (hE : IW E) (X : XC E RX7 cX7_at 5 (some .int) A p s m args meth c) {x1 : Int32} {x2 : Int32} {x3 : Int32} {x4 : Int32} {h : Hp} (hf0 : f7_at_e x1 x2 x3 x4 h = some (r, h')) : VM E 5 A p l e 4 s m args below meth c (Qi E A r h') 0 [(0, .ref (eA E 0)), (1, .int x1), (2, .int x2), (3, .int x3), (4, .int x4)] [] h := by
  unfold f7_at_e at hf0
  have hf1 := hf0
  refine V_iload_n X 1 rfl dX7_at_0 ?_
  refine V_iload_n X 2 rfl dX7_at_1 ?_
  refine V_iload_n X 3 rfl dX7_at_2 ?_
  obtain ⟨c1, e_c1, hf3⟩ := obd hf1
  refine V_callSi X (f7_isPlace_ok e_c1) ys_X7_isPlace yw_X7_isPlace ml_X7_82 rfl rfl ⟨Nat.le_of_ble_eq_true rfl, Nat.le_of_ble_eq_true rfl⟩ ⟨Nat.zero_le _, Nat.zero_le _⟩ (Nat.le_of_ble_eq_true rfl) dX7_at_3 ?_
  refine V_if_ne X (tgt := 11) (by decide) dX7_at_6 (fun q6 => ?_) (fun q6 => ?_)
  · have hf4 := ife hf3 q6
    refine V_iload X 4 rfl dX7_at_11 ?_
    rcases oif hf4 with ⟨q13_0, hf13_0⟩ | ⟨q13_0, hf13_0⟩
    · refine V_table X (tgt := 48) (off := 35) (by rw [q13_0]; decide) (by decide) (by decide) dX7_at_13 ?_
      have hf6 := hf13_0
      refine V_aload_n X 0 rfl dX7_at_48 ?_
      refine G_X7_0_10 hE X dX7_at_49 ?_
      refine V_iload_n X 1 rfl dX7_at_52 ?_
      refine V_iload_n X 2 rfl dX7_at_53 ?_
      refine V_iload_n X 3 rfl dX7_at_54 ?_
      obtain ⟨c6, e_c6, hf8⟩ := obd hf6
      refine V_callVi X (SR_1 hE).1 rfl rfl (f5_colour_ok (SR_1 hE) e_c6) ys_X5_colour yw_X5_colour ml_X7_86 rfl rfl ⟨Nat.le_of_ble_eq_true rfl, Nat.le_of_ble_eq_true rfl⟩ ⟨Nat.zero_le _, Nat.zero_le _⟩ (Nat.le_of_ble_eq_true rfl) dX7_at_55 ?_
      exact V_iret X rfl hf8 dX7_at_58
    rcases oif hf13_0 with ⟨q13_1, hf13_1⟩ | ⟨q13_1, hf13_1⟩
    · refine V_table X (tgt := 59) (off := 46) (by rw [q13_1]; decide) (by decide) (by decide) dX7_at_13 ?_
      have hf9 := hf13_1
      refine V_aload_n X 0 rfl dX7_at_59 ?_
      refine G_X7_0_10 hE X dX7_at_60 ?_
      refine V_iload_n X 1 rfl dX7_at_63 ?_
      refine V_iload_n X 2 rfl dX7_at_64 ?_
      refine V_iload_n X 3 rfl dX7_at_65 ?_
      obtain ⟨c9, e_c9, hf11⟩ := obd hf9
      refine V_callVi X (SR_1 hE).1 rfl rfl (f5_grains_ok (SR_1 hE) e_c9) ys_X5_grains yw_X5_grains ml_X7_90 rfl rfl ⟨Nat.le_of_ble_eq_true rfl, Nat.le_of_ble_eq_true rfl⟩ ⟨Nat.zero_le _, Nat.zero_le _⟩ (Nat.le_of_ble_eq_true rfl) dX7_at_66 ?_
      exact V_iret X rfl hf11 dX7_at_69
    rcases oif hf13_1 with ⟨q13_2, hf13_2⟩ | ⟨q13_2, hf13_2⟩
    · refine V_table X (tgt := 70) (off := 57) (by rw [q13_2]; decide) (by decide) (by decide) dX7_at_13 ?_
      have hf12 := hf13_2
      refine V_aload_n X 0 rfl dX7_at_70 ?_
      refine G_X7_0_10 hE X dX7_at_71 ?_
      refine V_iload_n X 1 rfl dX7_at_74 ?_
      refine V_iload_n X 2 rfl dX7_at_75 ?_
      refine V_iload_n X 3 rfl dX7_at_76 ?_
      obtain ⟨c12, e_c12, hf14⟩ := obd hf12
      refine V_callVi X (SR_1 hE).1 rfl rfl (f5_wanted_ok (SR_1 hE) e_c12) ys_X5_wanted yw_X5_wanted ml_X7_93 rfl rfl ⟨Nat.le_of_ble_eq_true rfl, Nat.le_of_ble_eq_true rfl⟩ ⟨Nat.zero_le _, Nat.zero_le _⟩ (Nat.le_of_ble_eq_true rfl) dX7_at_77 ?_
      exact V_iret X rfl hf14 dX7_at_80
    rcases oif hf13_2 with ⟨q13_3, hf13_3⟩ | ⟨q13_3, hf13_3⟩
    · refine V_table X (tgt := 81) (off := 68) (by rw [q13_3]; decide) (by decide) (by decide) dX7_at_13 ?_
      have hf15 := hf13_3
      refine V_aload_n X 0 rfl dX7_at_81 ?_
      refine G_X7_0_10 hE X dX7_at_82 ?_
      refine V_iload_n X 1 rfl dX7_at_85 ?_
      refine V_iload_n X 2 rfl dX7_at_86 ?_
      refine V_iload_n X 3 rfl dX7_at_87 ?_
      obtain ⟨c15, e_c15, hf17⟩ := obd hf15
      refine V_callVi X (SR_1 hE).1 rfl rfl (f5_isRight_ok (SR_1 hE) e_c15) ys_X5_isRight yw_X5_isRight ml_X7_96 rfl rfl ⟨Nat.le_of_ble_eq_true rfl, Nat.le_of_ble_eq_true rfl⟩ ⟨Nat.zero_le _, Nat.zero_le _⟩ (Nat.le_of_ble_eq_true rfl) dX7_at_88 ?_
      obtain ⟨c17, e_c17, hf19⟩ := obd hf17
      refine V_callSi X (f7_bit_ok e_c17) ys_X7_bit yw_X7_bit ml_X7_99 rfl rfl ⟨Nat.le_of_ble_eq_true rfl, Nat.le_of_ble_eq_true rfl⟩ ⟨Nat.zero_le _, Nat.zero_le _⟩ (Nat.le_of_ble_eq_true rfl) dX7_at_91 ?_
      exact V_iret X rfl hf19 dX7_at_94
    rcases oif hf13_3 with ⟨q13_4, hf13_4⟩ | ⟨q13_4, hf13_4⟩
    · refine V_table X (tgt := 95) (off := 82) (by rw [q13_4]; decide) (by decide) (by decide) dX7_at_13 ?_
      have hf20 := hf13_4
      refine V_aload_n X 0 rfl dX7_at_95 ?_
      refine G_X7_0_10 hE X dX7_at_96 ?_
      refine V_iload_n X 1 rfl dX7_at_99 ?_
      refine V_iload_n X 3 rfl dX7_at_100 ?_
      obtain ⟨c20, e_c20, hf22⟩ := obd hf20
      refine V_callVi X (SR_1 hE).1 rfl rfl (f5_patternPlace_ok (SR_1 hE) e_c20) ys_X5_patternPlace yw_X5_patternPlace ml_X7_103 rfl rfl ⟨Nat.le_of_ble_eq_true rfl, Nat.le_of_ble_eq_true rfl⟩ ⟨Nat.zero_le _, Nat.zero_le _⟩ (Nat.le_of_ble_eq_true rfl) dX7_at_101 ?_
      exact V_iret X rfl hf22 dX7_at_104
    · skip
      refine V_table X (tgt := 105) (off := 92) (tsel_out (by have z0 := lv_neT q13_0 (show (0 : Int32).toInt = 0 by decide); have z1 := lv_neT q13_1 (show (1 : Int32).toInt = 1 by decide); have z2 := lv_neT q13_2 (show (2 : Int32).toInt = 2 by decide); have z3 := lv_neT q13_3 (show (3 : Int32).toInt = 3 by decide); have z4 := lv_neT q13_4 (show (4 : Int32).toInt = 4 by decide); omega)) (by decide) (by decide) dX7_at_13 ?_
      have hf23 := hf13_4
      refine V_bipush X (v := -2) (by decide) dX7_at_105 ?_
      exact V_iret X rfl hf23 dX7_at_107
  · have hf4 := ift hf3 q6
    refine V_iconst X (v := -1) (by decide) dX7_at_9 ?_
    exact V_iret X rfl hf4 dX7_at_10
def f7_at (x1 : Int32) (x2 : Int32) (x3 : Int32) (x4 : Int32) (h : Hp) : Re := f7_at_e x1 x2 x3 x4 h
theorem f7_at_ok (hE : IW E) {x1 : Int32} {x2 : Int32} {x3 : Int32} {x4 : Int32} {h : Hp} {q : Int32 × Hp} (hf0 : f7_at x1 x2 x3 x4 h = some q) : SMi l E 4 yX7_at cX7_at 5 (some .int) [.ref (eA E 0), .int x1, .int x2, .int x3, .int x4] h q.1 q.2 :=
  SMi.of (by decide +kernel) (Nat.le_of_ble_eq_true rfl) (fun p e s m args below meth c A X => f7_at_e_ok hE X (r := q.1) (h' := q.2) hf0)
def f6_wholeRings_B4 (k4 : Int32 → Int32 → Hp → Re) (x1 : Int32) (x2 : Int32) (h : Hp) : Re :=
  if 5 ≤ x2 then (some (x1, h)) else ((f6_isWhole x2 h).bind fun c2 => if c2.1 = 0 then (k4 x1 (x2 + 1) c2.2) else ((some (x1 ||| ((1 : Int32) <<< (x2 &&& 31)) : Int32)).bind fun z5 => k4 z5 (x2 + 1) c2.2))
set_option maxRecDepth 20000 in
set_option maxHeartbeats 4000000 in
theorem f6_wholeRings_B4_ok (hE : IW E) (X : XC E RX6 cX6_wholeRings 3 (some .int) A p s m args meth c) {k4 : Int32 → Int32 → Hp → Re} (hk4 : ∀ (x1 : Int32) (x2 : Int32) (h : Hp), k4 x1 x2 h = some (r, h') → VM E 3 A p l e 5 s m args below meth c (Qi E A r h') 4 [(0, .ref (eA E 1)), (1, .int x1), (2, .int x2)] [] h) {x1 : Int32} {x2 : Int32} {h : Hp} (hf0 : f6_wholeRings_B4 k4 x1 x2 h = some (r, h')) : VM E 3 A p l e 5 s m args below meth c (Qi E A r h') 4 [(0, .ref (eA E 1)), (1, .int x1), (2, .int x2)] [] h := by
  unfold f6_wholeRings_B4 at hf0
  have hf1 := hf0
  refine V_iload_n X 2 rfl dX6_wholeRings_4 ?_
  refine V_iconst X (v := 5) (by decide) dX6_wholeRings_5 ?_
  refine V_icmp_ge X (tgt := 29) (by decide) dX6_wholeRings_6 (fun q6 => ?_) (fun q6 => ?_)
  · have hf2 := ift hf1 q6
    refine V_iload_n X 1 rfl dX6_wholeRings_29 ?_
    exact V_iret X rfl hf2 dX6_wholeRings_30
  · have hf2 := ife hf1 q6
    refine V_aload_n X 0 rfl dX6_wholeRings_9 ?_
    refine V_iload_n X 2 rfl dX6_wholeRings_10 ?_
    obtain ⟨c2, e_c2, hf4⟩ := obd hf2
    refine V_callSi X (f6_isWhole_ok hE e_c2) ys_X6_isWhole yw_X6_isWhole ml_X6_42 rfl rfl ⟨Nat.le_of_ble_eq_true rfl, Nat.le_of_ble_eq_true rfl⟩ ⟨Nat.zero_le _, Nat.zero_le _⟩ (Nat.le_of_ble_eq_true rfl) dX6_wholeRings_11 ?_
    refine V_if_eq X (tgt := 23) (by decide) dX6_wholeRings_14 (fun q14 => ?_) (fun q14 => ?_)
    · have hf5 := ift hf4 q14
      refine V_iinc X (v := _ + 1) 2 rfl (by rfl) (by decide) rfl dX6_wholeRings_23 ?_
      refine V_goto X (tgt := 4) (by decide) dX6_wholeRings_26 ?_
      exact V_sub [1, 2, 0] rfl (hk4 _ _ _ hf5)
    · have hf5 := ife hf4 q14
      refine V_iload_n X 1 rfl dX6_wholeRings_17 ?_
      refine V_iconst X (v := 1) (by decide) dX6_wholeRings_18 ?_
      refine V_iload_n X 2 rfl dX6_wholeRings_19 ?_
      refine V_ishl X dX6_wholeRings_20 ?_
      refine V_ior X dX6_wholeRings_21 ?_
      refine V_istore_n X (by decide) rfl dX6_wholeRings_22 ?_
      have hf7 := obs hf5
      refine V_iinc X (v := _ + 1) 2 rfl (by rfl) (by decide) rfl dX6_wholeRings_23 ?_
      refine V_goto X (tgt := 4) (by decide) dX6_wholeRings_26 ?_
      exact V_sub [2, 1, 0] rfl (hk4 _ _ _ hf7)
def f6_wholeRings_L4 : Nat → Int32 → Int32 → Hp → Re
  | 0 => fun _ _ _ => none
  | n + 1 => f6_wholeRings_B4 (f6_wholeRings_L4 n)
theorem f6_wholeRings_L4_s (n : Nat) (x1 : Int32) (x2 : Int32) (h : Hp) : f6_wholeRings_L4 (n + 1) x1 x2 h = f6_wholeRings_B4 (f6_wholeRings_L4 n) x1 x2 h := rfl
theorem f6_wholeRings_L4_ok (hE : IW E) (X : XC E RX6 cX6_wholeRings 3 (some .int) A p s m args meth c) : ∀ (n : Nat) (x1 : Int32) (x2 : Int32) (h : Hp), f6_wholeRings_L4 n x1 x2 h = some (r, h') → VM E 3 A p l e 5 s m args below meth c (Qi E A r h') 4 [(0, .ref (eA E 1)), (1, .int x1), (2, .int x2)] [] h := by
  intro n
  induction n with
  | zero =>
    intro x1 x2 h q
    have q : (none : Re) = some (r, h') := q
    cases q
  | succ n ih =>
    intro x1 x2 h q
    exact f6_wholeRings_B4_ok hE X ih q
def f6_wholeRings_e (h : Hp) : Re :=
  f6_wholeRings_L4 FU 0 0 h
set_option maxRecDepth 20000 in
set_option maxHeartbeats 4000000 in
theorem f6_wholeRings_e_ok (hE : IW E) (X : XC E RX6 cX6_wholeRings 3 (some .int) A p s m args meth c) {h : Hp} (hf0 : f6_wholeRings_e  h = some (r, h')) : VM E 3 A p l e 5 s m args below meth c (Qi E A r h') 0 [(0, .ref (eA E 1))] [] h := by
  unfold f6_wholeRings_e at hf0
  have hf1 := hf0
  refine V_iconst X (v := 0) (by decide) dX6_wholeRings_0 ?_
  refine V_istore_n X (by decide) rfl dX6_wholeRings_1 ?_
  refine V_iconst X (v := 0) (by decide) dX6_wholeRings_2 ?_
  refine V_istore_n X (by decide) rfl dX6_wholeRings_3 ?_
  exact V_sub [2, 1, 0] rfl (f6_wholeRings_L4_ok hE X FU _ _ _ hf1)
def f6_wholeRings (h : Hp) : Re := f6_wholeRings_e  h
theorem f6_wholeRings_ok (hE : IW E) {h : Hp} {q : Int32 × Hp} (hf0 : f6_wholeRings  h = some q) : SMi l E 5 yX6_wholeRings cX6_wholeRings 3 (some .int) [.ref (eA E 1)] h q.1 q.2 :=
  SMi.of (by decide +kernel) (Nat.le_of_ble_eq_true rfl) (fun p e s m args below meth c A X => f6_wholeRings_e_ok hE X (r := q.1) (h' := q.2) hf0)
def f4_length_e (h : Hp) : Re :=
  some (h 10 1, h)
set_option maxRecDepth 20000 in
set_option maxHeartbeats 4000000 in
theorem f4_length_e_ok (hE : IW E) (X : XC E RX4 cX4_length 1 (some .int) A p s m args meth c) {h : Hp} (hf0 : f4_length_e  h = some (r, h')) : VM E 1 A p l e 0 s m args below meth c (Qi E A r h') 0 [(0, .ref (eA E 10))] [] h := by
  unfold f4_length_e at hf0
  have hf1 := hf0
  refine V_aload_n X 0 rfl dX4_length_0 ?_
  refine G_X4_1_15 hE X dX4_length_1 ?_
  exact V_iret X rfl hf1 dX4_length_4
def f4_length (h : Hp) : Re := f4_length_e  h
theorem f4_length_ok (hE : IW E) {h : Hp} {q : Int32 × Hp} (hf0 : f4_length  h = some q) : SMi l E 0 yX4_length cX4_length 1 (some .int) [.ref (eA E 10)] h q.1 q.2 :=
  SMi.of (by decide +kernel) (Nat.le_of_ble_eq_true rfl) (fun p e s m args below meth c A X => f4_length_e_ok hE X (r := q.1) (h' := q.2) hf0)
def f2_undoable_e (h : Hp) : Re :=
  some (h 8 2, h)
set_option maxRecDepth 20000 in
set_option maxHeartbeats 4000000 in
theorem f2_undoable_e_ok (hE : IW E) (X : XC E RX2 cX2_undoable 1 (some .int) A p s m args meth c) {h : Hp} (hf0 : f2_undoable_e  h = some (r, h')) : VM E 1 A p l e 0 s m args below meth c (Qi E A r h') 0 [(0, .ref (eA E 8))] [] h := by
  unfold f2_undoable_e at hf0
  have hf1 := hf0
  refine V_aload_n X 0 rfl dX2_undoable_0 ?_
  refine G_X2_2_17 hE X dX2_undoable_1 ?_
  exact V_iret X rfl hf1 dX2_undoable_4
def f2_undoable (h : Hp) : Re := f2_undoable_e  h
theorem f2_undoable_ok (hE : IW E) {h : Hp} {q : Int32 × Hp} (hf0 : f2_undoable  h = some q) : SMi l E 0 yX2_undoable cX2_undoable 1 (some .int) [.ref (eA E 8)] h q.1 q.2 :=
  SMi.of (by decide +kernel) (Nat.le_of_ble_eq_true rfl) (fun p e s m args below meth c A X => f2_undoable_e_ok hE X (r := q.1) (h' := q.2) hf0)
def f7_count_e (x1 : Int32) (h : Hp) : Re :=
  if x1 = 0 then ((f5_number 1 19 h).bind fun c3 => some (c3.1, c3.2)) else if x1 = 1 then ((f5_number 1 21 h).bind fun c6 => some (c6.1, c6.2)) else if x1 = 2 then ((f5_number 1 22 h).bind fun c9 => some (c9.1, c9.2)) else if x1 = 3 then ((f5_number 1 23 h).bind fun c12 => some (c12.1, c12.2)) else if x1 = 4 then ((f6_tally 0 (-1) (-1) (-1) h).bind fun c15 => some (c15.1, c15.2)) else if x1 = 5 then ((f6_wholeRings  h).bind fun c18 => some (c18.1, c18.2)) else if x1 = 6 then ((f5_number 1 20 h).bind fun c21 => some (c21.1, c21.2)) else if x1 = 7 then ((f5_setting 1 0 h).bind fun c24 => some (c24.1, c24.2)) else if x1 = 8 then ((f5_setting 1 1 h).bind fun c27 => some (c27.1, c27.2)) else if x1 = 9 then ((f5_setting 1 2 h).bind fun c30 => some (c30.1, c30.2)) else if x1 = 10 then ((f4_length  h).bind fun c33 => some (c33.1, c33.2)) else if x1 = 11 then ((f2_undoable  h).bind fun c36 => some (c36.1, c36.2)) else (some ((-2), h))
set_option maxRecDepth 20000 in
set_option maxHeartbeats 4000000 in
theorem f7_count_e_ok (hE : IW E) (X : XC E RX7 cX7_count 2 (some .int) A p s m args meth c) {x1 : Int32} {h : Hp} (hf0 : f7_count_e x1 h = some (r, h')) : VM E 2 A p l e 6 s m args below meth c (Qi E A r h') 0 [(0, .ref (eA E 0)), (1, .int x1)] [] h := by
  unfold f7_count_e at hf0
  have hf1 := hf0
  refine V_iload_n X 1 rfl dX7_count_0 ?_
  rcases oif hf1 with ⟨q1_0, hf1_0⟩ | ⟨q1_0, hf1_0⟩
  · refine V_table X (tgt := 64) (off := 63) (by rw [q1_0]; decide) (by decide) (by decide) dX7_count_1 ?_
    have hf3 := hf1_0
    refine V_aload_n X 0 rfl dX7_count_64 ?_
    refine G_X7_0_10 hE X dX7_count_65 ?_
    refine V_bipush X (v := 19) (by decide) dX7_count_68 ?_
    obtain ⟨c3, e_c3, hf5⟩ := obd hf3
    refine V_callVi X (SR_1 hE).1 rfl rfl (f5_number_ok (SR_1 hE) e_c3) ys_X5_number yw_X5_number ml_X7_151 rfl rfl ⟨Nat.le_of_ble_eq_true rfl, Nat.le_of_ble_eq_true rfl⟩ ⟨Nat.zero_le _, Nat.zero_le _⟩ (Nat.le_of_ble_eq_true rfl) dX7_count_70 ?_
    exact V_iret X rfl hf5 dX7_count_73
  rcases oif hf1_0 with ⟨q1_1, hf1_1⟩ | ⟨q1_1, hf1_1⟩
  · refine V_table X (tgt := 74) (off := 73) (by rw [q1_1]; decide) (by decide) (by decide) dX7_count_1 ?_
    have hf6 := hf1_1
    refine V_aload_n X 0 rfl dX7_count_74 ?_
    refine G_X7_0_10 hE X dX7_count_75 ?_
    refine V_bipush X (v := 21) (by decide) dX7_count_78 ?_
    obtain ⟨c6, e_c6, hf8⟩ := obd hf6
    refine V_callVi X (SR_1 hE).1 rfl rfl (f5_number_ok (SR_1 hE) e_c6) ys_X5_number yw_X5_number ml_X7_151 rfl rfl ⟨Nat.le_of_ble_eq_true rfl, Nat.le_of_ble_eq_true rfl⟩ ⟨Nat.zero_le _, Nat.zero_le _⟩ (Nat.le_of_ble_eq_true rfl) dX7_count_80 ?_
    exact V_iret X rfl hf8 dX7_count_83
  rcases oif hf1_1 with ⟨q1_2, hf1_2⟩ | ⟨q1_2, hf1_2⟩
  · refine V_table X (tgt := 84) (off := 83) (by rw [q1_2]; decide) (by decide) (by decide) dX7_count_1 ?_
    have hf9 := hf1_2
    refine V_aload_n X 0 rfl dX7_count_84 ?_
    refine G_X7_0_10 hE X dX7_count_85 ?_
    refine V_bipush X (v := 22) (by decide) dX7_count_88 ?_
    obtain ⟨c9, e_c9, hf11⟩ := obd hf9
    refine V_callVi X (SR_1 hE).1 rfl rfl (f5_number_ok (SR_1 hE) e_c9) ys_X5_number yw_X5_number ml_X7_151 rfl rfl ⟨Nat.le_of_ble_eq_true rfl, Nat.le_of_ble_eq_true rfl⟩ ⟨Nat.zero_le _, Nat.zero_le _⟩ (Nat.le_of_ble_eq_true rfl) dX7_count_90 ?_
    exact V_iret X rfl hf11 dX7_count_93
  rcases oif hf1_2 with ⟨q1_3, hf1_3⟩ | ⟨q1_3, hf1_3⟩
  · refine V_table X (tgt := 94) (off := 93) (by rw [q1_3]; decide) (by decide) (by decide) dX7_count_1 ?_
    have hf12 := hf1_3
    refine V_aload_n X 0 rfl dX7_count_94 ?_
    refine G_X7_0_10 hE X dX7_count_95 ?_
    refine V_bipush X (v := 23) (by decide) dX7_count_98 ?_
    obtain ⟨c12, e_c12, hf14⟩ := obd hf12
    refine V_callVi X (SR_1 hE).1 rfl rfl (f5_number_ok (SR_1 hE) e_c12) ys_X5_number yw_X5_number ml_X7_151 rfl rfl ⟨Nat.le_of_ble_eq_true rfl, Nat.le_of_ble_eq_true rfl⟩ ⟨Nat.zero_le _, Nat.zero_le _⟩ (Nat.le_of_ble_eq_true rfl) dX7_count_100 ?_
    exact V_iret X rfl hf14 dX7_count_103
  rcases oif hf1_3 with ⟨q1_4, hf1_4⟩ | ⟨q1_4, hf1_4⟩
  · refine V_table X (tgt := 104) (off := 103) (by rw [q1_4]; decide) (by decide) (by decide) dX7_count_1 ?_
    have hf15 := hf1_4
    refine V_aload_n X 0 rfl dX7_count_104 ?_
    refine G_X7_0_10 hE X dX7_count_105 ?_
    refine V_iconst X (v := 0) (by decide) dX7_count_108 ?_
    refine V_iconst X (v := -1) (by decide) dX7_count_109 ?_
    refine V_iconst X (v := -1) (by decide) dX7_count_110 ?_
    refine V_iconst X (v := -1) (by decide) dX7_count_111 ?_
    obtain ⟨c15, e_c15, hf17⟩ := obd hf15
    refine V_callSi X (f6_tally_ok hE e_c15) ys_X6_tally yw_X6_tally ml_X7_127 rfl rfl ⟨Nat.le_of_ble_eq_true rfl, Nat.le_of_ble_eq_true rfl⟩ ⟨Nat.zero_le _, Nat.zero_le _⟩ (Nat.le_of_ble_eq_true rfl) dX7_count_112 ?_
    exact V_iret X rfl hf17 dX7_count_115
  rcases oif hf1_4 with ⟨q1_5, hf1_5⟩ | ⟨q1_5, hf1_5⟩
  · refine V_table X (tgt := 116) (off := 115) (by rw [q1_5]; decide) (by decide) (by decide) dX7_count_1 ?_
    have hf18 := hf1_5
    refine V_aload_n X 0 rfl dX7_count_116 ?_
    refine G_X7_0_10 hE X dX7_count_117 ?_
    obtain ⟨c18, e_c18, hf20⟩ := obd hf18
    refine V_callSi X (f6_wholeRings_ok hE e_c18) ys_X6_wholeRings yw_X6_wholeRings ml_X7_154 rfl rfl ⟨Nat.le_of_ble_eq_true rfl, Nat.le_of_ble_eq_true rfl⟩ ⟨Nat.zero_le _, Nat.zero_le _⟩ (Nat.le_of_ble_eq_true rfl) dX7_count_120 ?_
    exact V_iret X rfl hf20 dX7_count_123
  rcases oif hf1_5 with ⟨q1_6, hf1_6⟩ | ⟨q1_6, hf1_6⟩
  · refine V_table X (tgt := 124) (off := 123) (by rw [q1_6]; decide) (by decide) (by decide) dX7_count_1 ?_
    have hf21 := hf1_6
    refine V_aload_n X 0 rfl dX7_count_124 ?_
    refine G_X7_0_10 hE X dX7_count_125 ?_
    refine V_bipush X (v := 20) (by decide) dX7_count_128 ?_
    obtain ⟨c21, e_c21, hf23⟩ := obd hf21
    refine V_callVi X (SR_1 hE).1 rfl rfl (f5_number_ok (SR_1 hE) e_c21) ys_X5_number yw_X5_number ml_X7_151 rfl rfl ⟨Nat.le_of_ble_eq_true rfl, Nat.le_of_ble_eq_true rfl⟩ ⟨Nat.zero_le _, Nat.zero_le _⟩ (Nat.le_of_ble_eq_true rfl) dX7_count_130 ?_
    exact V_iret X rfl hf23 dX7_count_133
  rcases oif hf1_6 with ⟨q1_7, hf1_7⟩ | ⟨q1_7, hf1_7⟩
  · refine V_table X (tgt := 134) (off := 133) (by rw [q1_7]; decide) (by decide) (by decide) dX7_count_1 ?_
    have hf24 := hf1_7
    refine V_aload_n X 0 rfl dX7_count_134 ?_
    refine G_X7_0_10 hE X dX7_count_135 ?_
    refine V_iconst X (v := 0) (by decide) dX7_count_138 ?_
    obtain ⟨c24, e_c24, hf26⟩ := obd hf24
    refine V_callVi X (SR_1 hE).1 rfl rfl (f5_setting_ok (SR_1 hE) e_c24) ys_X5_setting yw_X5_setting ml_X7_157 rfl rfl ⟨Nat.le_of_ble_eq_true rfl, Nat.le_of_ble_eq_true rfl⟩ ⟨Nat.zero_le _, Nat.zero_le _⟩ (Nat.le_of_ble_eq_true rfl) dX7_count_139 ?_
    exact V_iret X rfl hf26 dX7_count_142
  rcases oif hf1_7 with ⟨q1_8, hf1_8⟩ | ⟨q1_8, hf1_8⟩
  · refine V_table X (tgt := 143) (off := 142) (by rw [q1_8]; decide) (by decide) (by decide) dX7_count_1 ?_
    have hf27 := hf1_8
    refine V_aload_n X 0 rfl dX7_count_143 ?_
    refine G_X7_0_10 hE X dX7_count_144 ?_
    refine V_iconst X (v := 1) (by decide) dX7_count_147 ?_
    obtain ⟨c27, e_c27, hf29⟩ := obd hf27
    refine V_callVi X (SR_1 hE).1 rfl rfl (f5_setting_ok (SR_1 hE) e_c27) ys_X5_setting yw_X5_setting ml_X7_157 rfl rfl ⟨Nat.le_of_ble_eq_true rfl, Nat.le_of_ble_eq_true rfl⟩ ⟨Nat.zero_le _, Nat.zero_le _⟩ (Nat.le_of_ble_eq_true rfl) dX7_count_148 ?_
    exact V_iret X rfl hf29 dX7_count_151
  rcases oif hf1_8 with ⟨q1_9, hf1_9⟩ | ⟨q1_9, hf1_9⟩
  · refine V_table X (tgt := 152) (off := 151) (by rw [q1_9]; decide) (by decide) (by decide) dX7_count_1 ?_
    have hf30 := hf1_9
    refine V_aload_n X 0 rfl dX7_count_152 ?_
    refine G_X7_0_10 hE X dX7_count_153 ?_
    refine V_iconst X (v := 2) (by decide) dX7_count_156 ?_
    obtain ⟨c30, e_c30, hf32⟩ := obd hf30
    refine V_callVi X (SR_1 hE).1 rfl rfl (f5_setting_ok (SR_1 hE) e_c30) ys_X5_setting yw_X5_setting ml_X7_157 rfl rfl ⟨Nat.le_of_ble_eq_true rfl, Nat.le_of_ble_eq_true rfl⟩ ⟨Nat.zero_le _, Nat.zero_le _⟩ (Nat.le_of_ble_eq_true rfl) dX7_count_157 ?_
    exact V_iret X rfl hf32 dX7_count_160
  rcases oif hf1_9 with ⟨q1_10, hf1_10⟩ | ⟨q1_10, hf1_10⟩
  · refine V_table X (tgt := 161) (off := 160) (by rw [q1_10]; decide) (by decide) (by decide) dX7_count_1 ?_
    have hf33 := hf1_10
    refine V_aload_n X 0 rfl dX7_count_161 ?_
    refine G_X7_4_36 hE X dX7_count_162 ?_
    obtain ⟨c33, e_c33, hf35⟩ := obd hf33
    refine V_callVi X (OB_10 hE) rfl rfl (f4_length_ok hE e_c33) ys_X4_length yw_X4_length ml_X7_160 rfl rfl ⟨Nat.le_of_ble_eq_true rfl, Nat.le_of_ble_eq_true rfl⟩ ⟨Nat.zero_le _, Nat.zero_le _⟩ (Nat.le_of_ble_eq_true rfl) dX7_count_165 ?_
    exact V_iret X rfl hf35 dX7_count_168
  rcases oif hf1_10 with ⟨q1_11, hf1_11⟩ | ⟨q1_11, hf1_11⟩
  · refine V_table X (tgt := 169) (off := 168) (by rw [q1_11]; decide) (by decide) (by decide) dX7_count_1 ?_
    have hf36 := hf1_11
    refine V_aload_n X 0 rfl dX7_count_169 ?_
    refine G_X7_3_29 hE X dX7_count_170 ?_
    obtain ⟨c36, e_c36, hf38⟩ := obd hf36
    refine V_callVi X (OB_8 hE) rfl rfl (f2_undoable_ok hE e_c36) ys_X2_undoable yw_X2_undoable ml_X7_164 rfl rfl ⟨Nat.le_of_ble_eq_true rfl, Nat.le_of_ble_eq_true rfl⟩ ⟨Nat.zero_le _, Nat.zero_le _⟩ (Nat.le_of_ble_eq_true rfl) dX7_count_173 ?_
    exact V_iret X rfl hf38 dX7_count_176
  · skip
    refine V_table X (tgt := 177) (off := 176) (tsel_out (by have z0 := lv_neT q1_0 (show (0 : Int32).toInt = 0 by decide); have z1 := lv_neT q1_1 (show (1 : Int32).toInt = 1 by decide); have z2 := lv_neT q1_2 (show (2 : Int32).toInt = 2 by decide); have z3 := lv_neT q1_3 (show (3 : Int32).toInt = 3 by decide); have z4 := lv_neT q1_4 (show (4 : Int32).toInt = 4 by decide); have z5 := lv_neT q1_5 (show (5 : Int32).toInt = 5 by decide); have z6 := lv_neT q1_6 (show (6 : Int32).toInt = 6 by decide); have z7 := lv_neT q1_7 (show (7 : Int32).toInt = 7 by decide); have z8 := lv_neT q1_8 (show (8 : Int32).toInt = 8 by decide); have z9 := lv_neT q1_9 (show (9 : Int32).toInt = 9 by decide); have z10 := lv_neT q1_10 (show (10 : Int32).toInt = 10 by decide); have z11 := lv_neT q1_11 (show (11 : Int32).toInt = 11 by decide); omega)) (by decide) (by decide) dX7_count_1 ?_
    have hf39 := hf1_11
    refine V_bipush X (v := -2) (by decide) dX7_count_177 ?_
    exact V_iret X rfl hf39 dX7_count_179
def f7_count (x1 : Int32) (h : Hp) : Re := f7_count_e x1 h
theorem f7_count_ok (hE : IW E) {x1 : Int32} {h : Hp} {q : Int32 × Hp} (hf0 : f7_count x1 h = some q) : SMi l E 6 yX7_count cX7_count 2 (some .int) [.ref (eA E 0), .int x1] h q.1 q.2 :=
  SMi.of (by decide +kernel) (Nat.le_of_ble_eq_true rfl) (fun p e s m args below meth c A X => f7_count_e_ok hE X (r := q.1) (h' := q.2) hf0)
def f5_heldBy_e (k : Nat) (x1 : Int32) (h : Hp) : Re :=
  (f5_number k (15 + x1) h).bind fun c1 => some (c1.1, c1.2)
set_option maxRecDepth 20000 in
set_option maxHeartbeats 4000000 in
theorem f5_heldBy_e_ok {k : Nat} (hk : SR E k) (X : XC E RX5 cX5_heldBy 2 (some .int) A p s m args meth c) {x1 : Int32} {h : Hp} (hf0 : f5_heldBy_e k x1 h = some (r, h')) : VM E 2 A p l e 1 s m args below meth c (Qi E A r h') 0 [(0, .ref (eA E k)), (1, .int x1)] [] h := by
  unfold f5_heldBy_e at hf0
  have hf1 := hf0
  refine V_aload_n X 0 rfl dX5_heldBy_0 ?_
  refine V_bipush X (v := 15) (by decide) dX5_heldBy_1 ?_
  refine V_iload_n X 1 rfl dX5_heldBy_3 ?_
  refine V_iadd X dX5_heldBy_4 ?_
  obtain ⟨c1, e_c1, hf3⟩ := obd hf1
  refine V_callVi X hk.1 rfl rfl (f5_number_ok hk e_c1) ys_X5_number yw_X5_number ml_X5_22 rfl rfl ⟨Nat.le_of_ble_eq_true rfl, Nat.le_of_ble_eq_true rfl⟩ ⟨Nat.zero_le _, Nat.zero_le _⟩ (Nat.le_of_ble_eq_true rfl) dX5_heldBy_5 ?_
  exact V_iret X rfl hf3 dX5_heldBy_8
def f5_heldBy (k : Nat) (x1 : Int32) (h : Hp) : Re := f5_heldBy_e k x1 h
theorem f5_heldBy_ok {k : Nat} (hk : SR E k) {x1 : Int32} {h : Hp} {q : Int32 × Hp} (hf0 : f5_heldBy k x1 h = some q) : SMi l E 1 yX5_heldBy cX5_heldBy 2 (some .int) [.ref (eA E k), .int x1] h q.1 q.2 :=
  SMi.of (by decide +kernel) (Nat.le_of_ble_eq_true rfl) (fun p e s m args below meth c A X => f5_heldBy_e_ok hk X (r := q.1) (h' := q.2) hf0)
def f5_isMirrored_e (k : Nat) (x1 : Int32) (h : Hp) : Re :=
  (f5_patternPlace k x1 0 h).bind fun c1 => if c1.1 = 0 then (rz 0 c1.2) else (rz 1 c1.2)
set_option maxRecDepth 20000 in
set_option maxHeartbeats 4000000 in
theorem f5_isMirrored_e_ok {k : Nat} (hk : SR E k) (X : XC E RX5 cX5_isMirrored 2 (some .boolean) A p s m args meth c) {x1 : Int32} {h : Hp} (hf0 : f5_isMirrored_e k x1 h = some (r, h')) : VM E 2 A p l e 2 s m args below meth c (Qi E A r h') 0 [(0, .ref (eA E k)), (1, .int x1)] [] h := by
  unfold f5_isMirrored_e at hf0
  have hf1 := hf0
  refine V_aload_n X 0 rfl dX5_isMirrored_0 ?_
  refine V_iload_n X 1 rfl dX5_isMirrored_1 ?_
  refine V_iconst X (v := 0) (by decide) dX5_isMirrored_2 ?_
  obtain ⟨c1, e_c1, hf3⟩ := obd hf1
  refine V_callVi X hk.1 rfl rfl (f5_patternPlace_ok hk e_c1) ys_X5_patternPlace yw_X5_patternPlace ml_X5_40 rfl rfl ⟨Nat.le_of_ble_eq_true rfl, Nat.le_of_ble_eq_true rfl⟩ ⟨Nat.zero_le _, Nat.zero_le _⟩ (Nat.le_of_ble_eq_true rfl) dX5_isMirrored_3 ?_
  refine V_if_eq X (tgt := 13) (by decide) dX5_isMirrored_6 (fun q6 => ?_) (fun q6 => ?_)
  · have hf4 := ift hf3 q6
    refine V_iconst X (v := 0) (by decide) dX5_isMirrored_13 ?_
    exact V_zret X rfl hf4 dX5_isMirrored_14
  · have hf4 := ife hf3 q6
    refine V_iconst X (v := 1) (by decide) dX5_isMirrored_9 ?_
    refine V_goto X (tgt := 14) (by decide) dX5_isMirrored_10 ?_
    exact V_zret X rfl hf4 dX5_isMirrored_14
def f5_isMirrored (k : Nat) (x1 : Int32) (h : Hp) : Re := f5_isMirrored_e k x1 h
theorem f5_isMirrored_ok {k : Nat} (hk : SR E k) {x1 : Int32} {h : Hp} {q : Int32 × Hp} (hf0 : f5_isMirrored k x1 h = some q) : SMi l E 2 yX5_isMirrored cX5_isMirrored 2 (some .boolean) [.ref (eA E k), .int x1] h q.1 q.2 :=
  SMi.of (by decide +kernel) (Nat.le_of_ble_eq_true rfl) (fun p e s m args below meth c A X => f5_isMirrored_e_ok hk X (r := q.1) (h' := q.2) hf0)
end DM
