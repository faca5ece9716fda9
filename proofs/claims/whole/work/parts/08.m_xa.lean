section DM
variable {E : EN} {A : Nat → Prop} {p : Program} {l : Launch} {e : Env} {s : State} {m : MethodId} {args : Array Value} {below : List Frame} {meth : Method} {c : Code} {r : Int32} {h' : Hp}
def f5_number_e (k : Nat) (x1 : Int32) (h : Hp) : Re :=
  if x1 < 0 then (some (0, h)) else (if 344 ≤ x1 then (some (0, h)) else (if inB x1 344 = true then some (h (k + 1) (Int32.toNatClampNeg x1), h) else none))
set_option maxRecDepth 20000 in
set_option maxHeartbeats 4000000 in
theorem f5_number_e_ok {k : Nat} (hk : SR E k) (X : XC E RX5 cX5_number 2 (some .int) A p s m args meth c) {x1 : Int32} {h : Hp} (hf0 : f5_number_e k x1 h = some (r, h')) : VM E 2 A p l e 0 s m args below meth c (Qi E A r h') 0 [(0, .ref (eA E k)), (1, .int x1)] [] h := by
  unfold f5_number_e at hf0
  have hf1 := hf0
  refine V_iload_n X 1 rfl dX5_number_0 ?_
  refine V_if_lt X (tgt := 22) (by decide) dX5_number_1 (fun q1 => ?_) (fun q1 => ?_)
  · have hf2 := ift hf1 q1
    refine V_iconst X (v := 0) (by decide) dX5_number_22 ?_
    exact V_iret X rfl hf2 dX5_number_23
  · have hf2 := ife hf1 q1
    refine V_iload_n X 1 rfl dX5_number_4 ?_
    refine V_aload_n X 0 rfl dX5_number_5 ?_
    refine G_X5_0_11 hk X dX5_number_6 ?_
    refine V_alen (j := 0) (v := 344) X hk.2 rfl (by decide) dX5_number_9 ?_
    refine V_icmp_ge X (tgt := 22) (by decide) dX5_number_10 (fun q10 => ?_) (fun q10 => ?_)
    · have hf3 := ift hf2 q10
      refine V_iconst X (v := 0) (by decide) dX5_number_22 ?_
      exact V_iret X rfl hf3 dX5_number_23
    · have hf3 := ife hf2 q10
      refine V_aload_n X 0 rfl dX5_number_13 ?_
      refine G_X5_0_11 hk X dX5_number_14 ?_
      refine V_iload_n X 1 rfl dX5_number_17 ?_
      obtain ⟨g103, hf103⟩ := ogd hf3
      refine V_iald X hk.2 g103 dX5_number_18 ?_
      refine V_goto X (tgt := 23) (by decide) dX5_number_19 ?_
      exact V_iret X rfl hf103 dX5_number_23
def f5_number (k : Nat) (x1 : Int32) (h : Hp) : Re := f5_number_e k x1 h
theorem f5_number_ok {k : Nat} (hk : SR E k) {x1 : Int32} {h : Hp} {q : Int32 × Hp} (hf0 : f5_number k x1 h = some q) : SMi l E 0 yX5_number cX5_number 2 (some .int) [.ref (eA E k), .int x1] h q.1 q.2 :=
  SMi.of (by decide +kernel) (Nat.le_of_ble_eq_true rfl) (fun p e s m args below meth c A X => f5_number_e_ok hk X (r := q.1) (h' := q.2) hf0)
def f5_grains_e (k : Nat) (x1 : Int32) (x2 : Int32) (x3 : Int32) (h : Hp) : Re :=
  (f5_number k ((24 + (((x1 * 5) + x2) * 8)) + x3) h).bind fun c1 => some (c1.1, c1.2)
set_option maxRecDepth 20000 in
set_option maxHeartbeats 4000000 in
theorem f5_grains_e_ok {k : Nat} (hk : SR E k) (X : XC E RX5 cX5_grains 4 (some .int) A p s m args meth c) {x1 : Int32} {x2 : Int32} {x3 : Int32} {h : Hp} (hf0 : f5_grains_e k x1 x2 x3 h = some (r, h')) : VM E 4 A p l e 1 s m args below meth c (Qi E A r h') 0 [(0, .ref (eA E k)), (1, .int x1), (2, .int x2), (3, .int x3)] [] h := by
  unfold f5_grains_e at hf0
  have hf1 := hf0
  refine V_aload_n X 0 rfl dX5_grains_0 ?_
  refine V_bipush X (v := 24) (by decide) dX5_grains_1 ?_
  refine V_iload_n X 1 rfl dX5_grains_3 ?_
  refine V_iconst X (v := 5) (by decide) dX5_grains_4 ?_
  refine V_imul X dX5_grains_5 ?_
  refine V_iload_n X 2 rfl dX5_grains_6 ?_
  refine V_iadd X dX5_grains_7 ?_
  refine V_bipush X (v := 8) (by decide) dX5_grains_8 ?_
  refine V_imul X dX5_grains_10 ?_
  refine V_iadd X dX5_grains_11 ?_
  refine V_iload_n X 3 rfl dX5_grains_12 ?_
  refine V_iadd X dX5_grains_13 ?_
  obtain ⟨c1, e_c1, hf3⟩ := obd hf1
  refine V_callVi X hk.1 rfl rfl (f5_number_ok hk e_c1) ys_X5_number yw_X5_number ml_X5_22 rfl rfl ⟨Nat.le_of_ble_eq_true rfl, Nat.le_of_ble_eq_true rfl⟩ ⟨Nat.zero_le _, Nat.zero_le _⟩ (Nat.le_of_ble_eq_true rfl) dX5_grains_14 ?_
  exact V_iret X rfl hf3 dX5_grains_17
def f5_grains (k : Nat) (x1 : Int32) (x2 : Int32) (x3 : Int32) (h : Hp) : Re := f5_grains_e k x1 x2 x3 h
theorem f5_grains_ok {k : Nat} (hk : SR E k) {x1 : Int32} {x2 : Int32} {x3 : Int32} {h : Hp} {q : Int32 × Hp} (hf0 : f5_grains k x1 x2 x3 h = some q) : SMi l E 1 yX5_grains cX5_grains 4 (some .int) [.ref (eA E k), .int x1, .int x2, .int x3] h q.1 q.2 :=
  SMi.of (by decide +kernel) (Nat.le_of_ble_eq_true rfl) (fun p e s m args below meth c A X => f5_grains_e_ok hk X (r := q.1) (h' := q.2) hf0)
def f5_colour_e (k : Nat) (x1 : Int32) (x2 : Int32) (x3 : Int32) (h : Hp) : Re :=
  (f5_number k ((184 + (((x1 * 5) + x2) * 8)) + x3) h).bind fun c1 => some (c1.1, c1.2)
set_option maxRecDepth 20000 in
set_option maxHeartbeats 4000000 in
theorem f5_colour_e_ok {k : Nat} (hk : SR E k) (X : XC E RX5 cX5_colour 4 (some .int) A p s m args meth c) {x1 : Int32} {x2 : Int32} {x3 : Int32} {h : Hp} (hf0 : f5_colour_e k x1 x2 x3 h = some (r, h')) : VM E 4 A p l e 1 s m args below meth c (Qi E A r h') 0 [(0, .ref (eA E k)), (1, .int x1), (2, .int x2), (3, .int x3)] [] h := by
  unfold f5_colour_e at hf0
  have hf1 := hf0
  refine V_aload_n X 0 rfl dX5_colour_0 ?_
  refine V_sipush X (v := 184) (by decide) dX5_colour_1 ?_
  refine V_iload_n X 1 rfl dX5_colour_4 ?_
  refine V_iconst X (v := 5) (by decide) dX5_colour_5 ?_
  refine V_imul X dX5_colour_6 ?_
  refine V_iload_n X 2 rfl dX5_colour_7 ?_
  refine V_iadd X dX5_colour_8 ?_
  refine V_bipush X (v := 8) (by decide) dX5_colour_9 ?_
  refine V_imul X dX5_colour_11 ?_
  refine V_iadd X dX5_colour_12 ?_
  refine V_iload_n X 3 rfl dX5_colour_13 ?_
  refine V_iadd X dX5_colour_14 ?_
  obtain ⟨c1, e_c1, hf3⟩ := obd hf1
  refine V_callVi X hk.1 rfl rfl (f5_number_ok hk e_c1) ys_X5_number yw_X5_number ml_X5_22 rfl rfl ⟨Nat.le_of_ble_eq_true rfl, Nat.le_of_ble_eq_true rfl⟩ ⟨Nat.zero_le _, Nat.zero_le _⟩ (Nat.le_of_ble_eq_true rfl) dX5_colour_15 ?_
  exact V_iret X rfl hf3 dX5_colour_18
def f5_colour (k : Nat) (x1 : Int32) (x2 : Int32) (x3 : Int32) (h : Hp) : Re := f5_colour_e k x1 x2 x3 h
theorem f5_colour_ok {k : Nat} (hk : SR E k) {x1 : Int32} {x2 : Int32} {x3 : Int32} {h : Hp} {q : Int32 × Hp} (hf0 : f5_colour k x1 x2 x3 h = some q) : SMi l E 1 yX5_colour cX5_colour 4 (some .int) [.ref (eA E k), .int x1, .int x2, .int x3] h q.1 q.2 :=
  SMi.of (by decide +kernel) (Nat.le_of_ble_eq_true rfl) (fun p e s m args below meth c A X => f5_colour_e_ok hk X (r := q.1) (h' := q.2) hf0)
def f0_rememberRing_B3 (k : Nat) (k3 : Int32 → Int32 → Int32 → Hp → Re) (x2 : Int32) (x3 : Int32) (x4 : Int32) (h : Hp) : Re :=
  if 8 ≤ x4 then (some (0, h)) else (if 8 ≤ x4 then (some (0, h)) else ((f5_grains k x2 x3 x4 h).bind fun c3 => if inB x4 8 = true then (some (hu c3.2 6 (Int32.toNatClampNeg x4) c3.1)).bind fun h6 => (f5_colour k x2 x3 x4 h6).bind fun c8 => if inB x4 8 = true then (some (hu c8.2 7 (Int32.toNatClampNeg x4) c8.1)).bind fun h11 => k3 x2 x3 (x4 + 1) h11 else none else none))
set_option maxRecDepth 20000 in
set_option maxHeartbeats 4000000 in
theorem f0_rememberRing_B3_ok {k : Nat} (hE : IW E) (hk : SR E k) (X : XC E RX0 cX0_rememberRing 5 none A p s m args meth c) {k3 : Int32 → Int32 → Int32 → Hp → Re} (hk3 : ∀ (x2 : Int32) (x3 : Int32) (x4 : Int32) (h : Hp), k3 x2 x3 x4 h = some (r, h') → VM E 5 A p l e 2 s m args below meth c (Qv E A h') 3 [(0, .ref (eA E 5)), (1, .ref (eA E k)), (2, .int x2), (3, .int x3), (4, .int x4)] [] h) {x2 : Int32} {x3 : Int32} {x4 : Int32} {h : Hp} (hf0 : f0_rememberRing_B3 k k3 x2 x3 x4 h = some (r, h')) : VM E 5 A p l e 2 s m args below meth c (Qv E A h') 3 [(0, .ref (eA E 5)), (1, .ref (eA E k)), (2, .int x2), (3, .int x3), (4, .int x4)] [] h := by
  unfold f0_rememberRing_B3 at hf0
  have hf1 := hf0
  refine V_iload X 4 rfl dX0_rememberRing_3 ?_
  refine V_aload_n X 0 rfl dX0_rememberRing_5 ?_
  refine G_X0_0_9 hE X dX0_rememberRing_6 ?_
  refine V_alen (j := 0) (v := 8) X (AR_6 hE) rfl (by decide) dX0_rememberRing_9 ?_
  refine V_icmp_ge X (tgt := 59) (by decide) dX0_rememberRing_10 (fun q10 => ?_) (fun q10 => ?_)
  · have hf2 := ift hf1 q10
    exact V_vret X rfl hf2 dX0_rememberRing_59
  · have hf2 := ife hf1 q10
    refine V_iload X 4 rfl dX0_rememberRing_13 ?_
    refine V_aload_n X 0 rfl dX0_rememberRing_15 ?_
    refine G_X0_1_15 hE X dX0_rememberRing_16 ?_
    refine V_alen (j := 0) (v := 8) X (AR_7 hE) rfl (by decide) dX0_rememberRing_19 ?_
    refine V_icmp_ge X (tgt := 59) (by decide) dX0_rememberRing_20 (fun q20 => ?_) (fun q20 => ?_)
    · have hf3 := ift hf2 q20
      exact V_vret X rfl hf3 dX0_rememberRing_59
    · have hf3 := ife hf2 q20
      refine V_aload_n X 0 rfl dX0_rememberRing_23 ?_
      refine G_X0_0_9 hE X dX0_rememberRing_24 ?_
      refine V_iload X 4 rfl dX0_rememberRing_27 ?_
      refine V_aload_n X 1 rfl dX0_rememberRing_29 ?_
      refine V_iload_n X 2 rfl dX0_rememberRing_30 ?_
      refine V_iload_n X 3 rfl dX0_rememberRing_31 ?_
      refine V_iload X 4 rfl dX0_rememberRing_32 ?_
      obtain ⟨c3, e_c3, hf5⟩ := obd hf3
      refine V_callVi X hk.1 rfl rfl (f5_grains_ok hk e_c3) ys_X5_grains yw_X5_grains ml_X0_36 rfl rfl ⟨Nat.le_of_ble_eq_true rfl, Nat.le_of_ble_eq_true rfl⟩ ⟨Nat.zero_le _, Nat.zero_le _⟩ (Nat.le_of_ble_eq_true rfl) dX0_rememberRing_34 ?_
      obtain ⟨g105, hf105⟩ := ogd hf5
      refine V_iast X (AR_6 hE) g105 dX0_rememberRing_37 ?_
      have hf8 := obs hf105
      refine V_aload_n X 0 rfl dX0_rememberRing_38 ?_
      refine G_X0_1_15 hE X dX0_rememberRing_39 ?_
      refine V_iload X 4 rfl dX0_rememberRing_42 ?_
      refine V_aload_n X 1 rfl dX0_rememberRing_44 ?_
      refine V_iload_n X 2 rfl dX0_rememberRing_45 ?_
      refine V_iload_n X 3 rfl dX0_rememberRing_46 ?_
      refine V_iload X 4 rfl dX0_rememberRing_47 ?_
      obtain ⟨c8, e_c8, hf10⟩ := obd hf8
      refine V_callVi X hk.1 rfl rfl (f5_colour_ok hk e_c8) ys_X5_colour yw_X5_colour ml_X0_40 rfl rfl ⟨Nat.le_of_ble_eq_true rfl, Nat.le_of_ble_eq_true rfl⟩ ⟨Nat.zero_le _, Nat.zero_le _⟩ (Nat.le_of_ble_eq_true rfl) dX0_rememberRing_49 ?_
      obtain ⟨g110, hf110⟩ := ogd hf10
      refine V_iast X (AR_7 hE) g110 dX0_rememberRing_52 ?_
      have hf13 := obs hf110
      refine V_iinc X (v := _ + 1) 4 rfl (by rfl) (by decide) rfl dX0_rememberRing_53 ?_
      refine V_goto X (tgt := 3) (by decide) dX0_rememberRing_56 ?_
      exact V_sub [1, 2, 3, 4, 0] rfl (hk3 _ _ _ _ hf13)
def f0_rememberRing_L3 (k : Nat) : Nat → Int32 → Int32 → Int32 → Hp → Re
  | 0 => fun _ _ _ _ => none
  | n + 1 => f0_rememberRing_B3 k (f0_rememberRing_L3 k n)
theorem f0_rememberRing_L3_s (k : Nat) (n : Nat) (x2 : Int32) (x3 : Int32) (x4 : Int32) (h : Hp) : f0_rememberRing_L3 k (n + 1) x2 x3 x4 h = f0_rememberRing_B3 k (f0_rememberRing_L3 k n) x2 x3 x4 h := rfl
theorem f0_rememberRing_L3_ok {k : Nat} (hE : IW E) (hk : SR E k) (X : XC E RX0 cX0_rememberRing 5 none A p s m args meth c) : ∀ (n : Nat) (x2 : Int32) (x3 : Int32) (x4 : Int32) (h : Hp), f0_rememberRing_L3 k n x2 x3 x4 h = some (r, h') → VM E 5 A p l e 2 s m args below meth c (Qv E A h') 3 [(0, .ref (eA E 5)), (1, .ref (eA E k)), (2, .int x2), (3, .int x3), (4, .int x4)] [] h := by
  intro n
  induction n with
  | zero =>
    intro x2 x3 x4 h q
    have q : (none : Re) = some (r, h') := q
    cases q
  | succ n ih =>
    intro x2 x3 x4 h q
    exact f0_rememberRing_B3_ok hE hk X ih q
def f0_rememberRing_e (k : Nat) (x2 : Int32) (x3 : Int32) (h : Hp) : Re :=
  f0_rememberRing_L3 k FU x2 x3 0 h
set_option maxRecDepth 20000 in
set_option maxHeartbeats 4000000 in
theorem f0_rememberRing_e_ok {k : Nat} (hE : IW E) (hk : SR E k) (X : XC E RX0 cX0_rememberRing 5 none A p s m args meth c) {x2 : Int32} {x3 : Int32} {h : Hp} (hf0 : f0_rememberRing_e k x2 x3 h = some (r, h')) : VM E 5 A p l e 2 s m args below meth c (Qv E A h') 0 [(0, .ref (eA E 5)), (1, .ref (eA E k)), (2, .int x2), (3, .int x3)] [] h := by
  unfold f0_rememberRing_e at hf0
  have hf1 := hf0
  refine V_iconst X (v := 0) (by decide) dX0_rememberRing_0 ?_
  refine V_istore X (by decide) rfl dX0_rememberRing_1 ?_
  exact V_sub [1, 2, 3, 4, 0] rfl (f0_rememberRing_L3_ok hE hk X FU _ _ _ _ hf1)
def f0_rememberRing (k : Nat) (x2 : Int32) (x3 : Int32) (h : Hp) : Re := f0_rememberRing_e k x2 x3 h
theorem f0_rememberRing_ok {k : Nat} (hE : IW E) (hk : SR E k) {x2 : Int32} {x3 : Int32} {h : Hp} {q : Int32 × Hp} (hf0 : f0_rememberRing k x2 x3 h = some q) : SMv l E 2 yX0_rememberRing cX0_rememberRing 5 [.ref (eA E 5), .ref (eA E k), .int x2, .int x3] h q.2 :=
  SMv.of (by decide +kernel) (Nat.le_of_ble_eq_true rfl) (fun p e s m args below meth c A X => f0_rememberRing_e_ok hE hk X (r := q.1) (h' := q.2) hf0)
def f5_setting_e (k : Nat) (x1 : Int32) (h : Hp) : Re :=
  (f5_number k (0 + x1) h).bind fun c1 => some (c1.1, c1.2)
set_option maxRecDepth 20000 in
set_option maxHeartbeats 4000000 in
theorem f5_setting_e_ok {k : Nat} (hk : SR E k) (X : XC E RX5 cX5_setting 2 (some .int) A p s m args meth c) {x1 : Int32} {h : Hp} (hf0 : f5_setting_e k x1 h = some (r, h')) : VM E 2 A p l e 1 s m args below meth c (Qi E A r h') 0 [(0, .ref (eA E k)), (1, .int x1)] [] h := by
  unfold f5_setting_e at hf0
  have hf1 := hf0
  refine V_aload_n X 0 rfl dX5_setting_0 ?_
  refine V_iconst X (v := 0) (by decide) dX5_setting_1 ?_
  refine V_iload_n X 1 rfl dX5_setting_2 ?_
  refine V_iadd X dX5_setting_3 ?_
  obtain ⟨c1, e_c1, hf3⟩ := obd hf1
  refine V_callVi X hk.1 rfl rfl (f5_number_ok hk e_c1) ys_X5_number yw_X5_number ml_X5_22 rfl rfl ⟨Nat.le_of_ble_eq_true rfl, Nat.le_of_ble_eq_true rfl⟩ ⟨Nat.zero_le _, Nat.zero_le _⟩ (Nat.le_of_ble_eq_true rfl) dX5_setting_4 ?_
  exact V_iret X rfl hf3 dX5_setting_7
def f5_setting (k : Nat) (x1 : Int32) (h : Hp) : Re := f5_setting_e k x1 h
theorem f5_setting_ok {k : Nat} (hk : SR E k) {x1 : Int32} {h : Hp} {q : Int32 × Hp} (hf0 : f5_setting k x1 h = some q) : SMi l E 1 yX5_setting cX5_setting 2 (some .int) [.ref (eA E k), .int x1] h q.1 q.2 :=
  SMi.of (by decide +kernel) (Nat.le_of_ble_eq_true rfl) (fun p e s m args below meth c A X => f5_setting_e_ok hk X (r := q.1) (h' := q.2) hf0)
def f0_remembered_e (ka : Nat) (x1 : Int32) (h : Hp) : Re :=
  if x1 < 0 then (some (0, h)) else (if 8 ≤ x1 then (some (0, h)) else (if inB x1 8 = true then some (h ka (Int32.toNatClampNeg x1), h) else none))
set_option maxRecDepth 20000 in
set_option maxHeartbeats 4000000 in
theorem f0_remembered_e_ok {ka : Nat} (hka : AR E ka (eI E) 8) (X : XC E RX0 cX0_remembered 2 (some .int) A p s m args meth c) {x1 : Int32} {h : Hp} (hf0 : f0_remembered_e ka x1 h = some (r, h')) : VM E 2 A p l e 0 s m args below meth c (Qi E A r h') 0 [(0, .ref (eA E ka)), (1, .int x1)] [] h := by
  unfold f0_remembered_e at hf0
  have hf1 := hf0
  refine V_iload_n X 1 rfl dX0_remembered_0 ?_
  refine V_if_lt X (tgt := 16) (by decide) dX0_remembered_1 (fun q1 => ?_) (fun q1 => ?_)
  · have hf2 := ift hf1 q1
    refine V_iconst X (v := 0) (by decide) dX0_remembered_16 ?_
    exact V_iret X rfl hf2 dX0_remembered_17
  · have hf2 := ife hf1 q1
    refine V_iload_n X 1 rfl dX0_remembered_4 ?_
    refine V_aload_n X 0 rfl dX0_remembered_5 ?_
    refine V_alen (j := 0) (v := 8) X hka rfl (by decide) dX0_remembered_6 ?_
    refine V_icmp_ge X (tgt := 16) (by decide) dX0_remembered_7 (fun q7 => ?_) (fun q7 => ?_)
    · have hf3 := ift hf2 q7
      refine V_iconst X (v := 0) (by decide) dX0_remembered_16 ?_
      exact V_iret X rfl hf3 dX0_remembered_17
    · have hf3 := ife hf2 q7
      refine V_aload_n X 0 rfl dX0_remembered_10 ?_
      refine V_iload_n X 1 rfl dX0_remembered_11 ?_
      obtain ⟨g103, hf103⟩ := ogd hf3
      refine V_iald X hka g103 dX0_remembered_12 ?_
      refine V_goto X (tgt := 17) (by decide) dX0_remembered_13 ?_
      exact V_iret X rfl hf103 dX0_remembered_17
def f0_remembered (ka : Nat) (x1 : Int32) (h : Hp) : Re := f0_remembered_e ka x1 h
theorem f0_remembered_ok {ka : Nat} (hka : AR E ka (eI E) 8) {x1 : Int32} {h : Hp} {q : Int32 × Hp} (hf0 : f0_remembered ka x1 h = some q) : SMi l E 0 yX0_remembered cX0_remembered 2 (some .int) [.ref (eA E ka), .int x1] h q.1 q.2 :=
  SMi.of (by decide +kernel) (Nat.le_of_ble_eq_true rfl) (fun p e s m args below meth c A X => f0_remembered_e_ok hka X (r := q.1) (h' := q.2) hf0)
def f0_spilled_e (x0 : Int32) (x1 : Int32) (h : Hp) : Re :=
  if x0 ≤ x1 then (some (0, h)) else (some ((x0 - x1) / 2, h))
set_option maxRecDepth 20000 in
set_option maxHeartbeats 4000000 in
theorem f0_spilled_e_ok (X : XC E RX0 cX0_spilled 2 (some .int) A p s m args meth c) {x0 : Int32} {x1 : Int32} {h : Hp} (hf0 : f0_spilled_e x0 x1 h = some (r, h')) : VM E 2 A p l e 0 s m args below meth c (Qi E A r h') 0 [(0, .int x0), (1, .int x1)] [] h := by
  unfold f0_spilled_e at hf0
  have hf1 := hf0
  refine V_iload_n X 0 rfl dX0_spilled_0 ?_
  refine V_iload_n X 1 rfl dX0_spilled_1 ?_
  refine V_icmp_le X (tgt := 13) (by decide) dX0_spilled_2 (fun q2 => ?_) (fun q2 => ?_)
  · have hf2 := ift hf1 q2
    refine V_iconst X (v := 0) (by decide) dX0_spilled_13 ?_
    exact V_iret X rfl hf2 dX0_spilled_14
  · have hf2 := ife hf1 q2
    refine V_iload_n X 0 rfl dX0_spilled_5 ?_
    refine V_iload_n X 1 rfl dX0_spilled_6 ?_
    refine V_isub X dX0_spilled_7 ?_
    refine V_iconst X (v := 2) (by decide) dX0_spilled_8 ?_
    refine V_idiv X (by decide) dX0_spilled_9 ?_
    refine V_goto X (tgt := 14) (by decide) dX0_spilled_10 ?_
    exact V_iret X rfl hf2 dX0_spilled_14
def f0_spilled (x0 : Int32) (x1 : Int32) (h : Hp) : Re := f0_spilled_e x0 x1 h
theorem f0_spilled_ok {x0 : Int32} {x1 : Int32} {h : Hp} {q : Int32 × Hp} (hf0 : f0_spilled x0 x1 h = some q) : SMi l E 0 yX0_spilled cX0_spilled 2 (some .int) [.int x0, .int x1] h q.1 q.2 :=
  SMi.of (by decide +kernel) (Nat.le_of_ble_eq_true rfl) (fun p e s m args below meth c A X => f0_spilled_e_ok X (r := q.1) (h' := q.2) hf0)
def f5_lay_e (k : Nat) (x1 : Int32) (x2 : Int32) (h : Hp) : Re :=
  if x1 < 0 then (some (0, h)) else (if 344 ≤ x1 then (some (0, h)) else (if inB x1 344 = true then (some (hu h (k + 1) (Int32.toNatClampNeg x1) x2)).bind fun h4 => some (0, h4) else none))
set_option maxRecDepth 20000 in
set_option maxHeartbeats 4000000 in
theorem f5_lay_e_ok {k : Nat} (hk : SR E k) (X : XC E RX5 cX5_lay 3 none A p s m args meth c) {x1 : Int32} {x2 : Int32} {h : Hp} (hf0 : f5_lay_e k x1 x2 h = some (r, h')) : VM E 3 A p l e 0 s m args below meth c (Qv E A h') 0 [(0, .ref (eA E k)), (1, .int x1), (2, .int x2)] [] h := by
  unfold f5_lay_e at hf0
  have hf1 := hf0
  refine V_iload_n X 1 rfl dX5_lay_0 ?_
  refine V_if_lt X (tgt := 20) (by decide) dX5_lay_1 (fun q1 => ?_) (fun q1 => ?_)
  · have hf2 := ift hf1 q1
    exact V_vret X rfl hf2 dX5_lay_20
  · have hf2 := ife hf1 q1
    refine V_iload_n X 1 rfl dX5_lay_4 ?_
    refine V_aload_n X 0 rfl dX5_lay_5 ?_
    refine G_X5_0_11 hk X dX5_lay_6 ?_
    refine V_alen (j := 0) (v := 344) X hk.2 rfl (by decide) dX5_lay_9 ?_
    refine V_icmp_ge X (tgt := 20) (by decide) dX5_lay_10 (fun q10 => ?_) (fun q10 => ?_)
    · have hf3 := ift hf2 q10
      exact V_vret X rfl hf3 dX5_lay_20
    · have hf3 := ife hf2 q10
      refine V_aload_n X 0 rfl dX5_lay_13 ?_
      refine G_X5_0_11 hk X dX5_lay_14 ?_
      refine V_iload_n X 1 rfl dX5_lay_17 ?_
      refine V_iload_n X 2 rfl dX5_lay_18 ?_
      obtain ⟨g103, hf103⟩ := ogd hf3
      refine V_iast X hk.2 g103 dX5_lay_19 ?_
      have hf6 := obs hf103
      exact V_vret X rfl hf6 dX5_lay_20
def f5_lay (k : Nat) (x1 : Int32) (x2 : Int32) (h : Hp) : Re := f5_lay_e k x1 x2 h
theorem f5_lay_ok {k : Nat} (hk : SR E k) {x1 : Int32} {x2 : Int32} {h : Hp} {q : Int32 × Hp} (hf0 : f5_lay k x1 x2 h = some q) : SMv l E 0 yX5_lay cX5_lay 3 [.ref (eA E k), .int x1, .int x2] h q.2 :=
  SMv.of (by decide +kernel) (Nat.le_of_ble_eq_true rfl) (fun p e s m args below meth c A X => f5_lay_e_ok hk X (r := q.1) (h' := q.2) hf0)
def f5_heap_j41 (k : Nat) (y0 : Int32) (y1 : Int32) (h : Hp) : Re :=
  (f5_lay k y1 y0 h).bind fun c1 => some (0, c1.2)
set_option maxRecDepth 20000 in
set_option maxHeartbeats 4000000 in
theorem f5_heap_j41_ok {k : Nat} (hk : SR E k) (X : XC E RX5 cX5_heap 7 none A p s m args meth c) {y0 : Int32} {y1 : Int32} {h : Hp} (hf0 : f5_heap_j41 k y0 y1 h = some (r, h')) : VM E 7 A p l e 1 s m args below meth c (Qv E A h') 41 [] [.int y0, .int y1, .ref (eA E k)] h := by
  unfold f5_heap_j41 at hf0
  have hf1 := hf0
  obtain ⟨c1, e_c1, hf3⟩ := obd hf1
  refine V_callVv X hk.1 rfl rfl (f5_lay_ok hk e_c1) ys_X5_lay yw_X5_lay ml_X5_15 rfl rfl ⟨Nat.le_of_ble_eq_true rfl, Nat.le_of_ble_eq_true rfl⟩ ⟨Nat.zero_le _, Nat.zero_le _⟩ (Nat.le_of_ble_eq_true rfl) dX5_heap_41 ?_
  exact V_vret X rfl hf3 dX5_heap_44
def f5_heap_e (k : Nat) (x1 : Int32) (x2 : Int32) (x3 : Int32) (x4 : Int32) (x5 : Int32) (h : Hp) : Re :=
  (f5_lay k (24 + ((((x1 * 5) + x2) * 8) + x3)) x5 h).bind fun c1 => if x5 = 0 then (f5_heap_j41 k 0 (184 + ((((x1 * 5) + x2) * 8) + x3)) c1.2) else (f5_heap_j41 k x4 (184 + ((((x1 * 5) + x2) * 8) + x3)) c1.2)
set_option maxRecDepth 20000 in
set_option maxHeartbeats 4000000 in
theorem f5_heap_e_ok {k : Nat} (hk : SR E k) (X : XC E RX5 cX5_heap 7 none A p s m args meth c) {x1 : Int32} {x2 : Int32} {x3 : Int32} {x4 : Int32} {x5 : Int32} {h : Hp} (hf0 : f5_heap_e k x1 x2 x3 x4 x5 h = some (r, h')) : VM E 7 A p l e 1 s m args below meth c (Qv E A h') 0 [(0, .ref (eA E k)), (1, .int x1), (2, .int x2), (3, .int x3), (4, .int x4), (5, .int x5)] [] h := by
  unfold f5_heap_e at hf0
  have hf1 := hf0
  refine V_iload_n X 1 rfl dX5_heap_0 ?_
  refine V_iconst X (v := 5) (by decide) dX5_heap_1 ?_
  refine V_imul X dX5_heap_2 ?_
  refine V_iload_n X 2 rfl dX5_heap_3 ?_
  refine V_iadd X dX5_heap_4 ?_
  refine V_bipush X (v := 8) (by decide) dX5_heap_5 ?_
  refine V_imul X dX5_heap_7 ?_
  refine V_iload_n X 3 rfl dX5_heap_8 ?_
  refine V_iadd X dX5_heap_9 ?_
  refine V_istore X (by decide) rfl dX5_heap_10 ?_
  refine V_aload_n X 1 rfl dX5_heap_12 ?_
  refine V_bipush X (v := 24) (by decide) dX5_heap_13 ?_
  refine V_iload X 0 rfl dX5_heap_15 ?_
  refine V_iadd X dX5_heap_17 ?_
  refine V_iload X 6 rfl dX5_heap_18 ?_
  obtain ⟨c1, e_c1, hf3⟩ := obd hf1
  refine V_callVv X hk.1 rfl rfl (f5_lay_ok hk e_c1) ys_X5_lay yw_X5_lay ml_X5_15 rfl rfl ⟨Nat.le_of_ble_eq_true rfl, Nat.le_of_ble_eq_true rfl⟩ ⟨Nat.zero_le _, Nat.zero_le _⟩ (Nat.le_of_ble_eq_true rfl) dX5_heap_20 ?_
  refine V_aload_n X 1 rfl dX5_heap_23 ?_
  refine V_sipush X (v := 184) (by decide) dX5_heap_24 ?_
  refine V_iload X 0 rfl dX5_heap_27 ?_
  refine V_iadd X dX5_heap_29 ?_
  refine V_iload X 6 rfl dX5_heap_30 ?_
  refine V_if_ne X (tgt := 39) (by decide) dX5_heap_32 (fun q32 => ?_) (fun q32 => ?_)
  · have hf4 := ife hf3 q32
    refine V_iload X 5 rfl dX5_heap_39 ?_
    exact V_sub [] rfl (f5_heap_j41_ok hk X hf4)
  · have hf4 := ift hf3 q32
    refine V_iconst X (v := 0) (by decide) dX5_heap_35 ?_
    refine V_goto X (tgt := 41) (by decide) dX5_heap_36 ?_
    exact V_sub [] rfl (f5_heap_j41_ok hk X hf4)
def f5_heap (k : Nat) (x1 : Int32) (x2 : Int32) (x3 : Int32) (x4 : Int32) (x5 : Int32) (h : Hp) : Re := f5_heap_e k x1 x2 x3 x4 x5 h
theorem f5_heap_ok {k : Nat} (hk : SR E k) {x1 : Int32} {x2 : Int32} {x3 : Int32} {x4 : Int32} {x5 : Int32} {h : Hp} {q : Int32 × Hp} (hf0 : f5_heap k x1 x2 x3 x4 x5 h = some q) : SMv l E 1 yX5_heap cX5_heap 7 [.ref (eA E k), .int x1, .int x2, .int x3, .int x4, .int x5] h q.2 :=
  SMv.of (by decide +kernel) (Nat.le_of_ble_eq_true rfl) (fun p e s m args below meth c A X => f5_heap_e_ok hk X (r := q.1) (h' := q.2) hf0)
def f0_overPlace_j170 (k : Nat) (x2 : Int32) (x3 : Int32) (x4 : Int32) (x8 : Int32) (x9 : Int32) (x11 : Int32) (x12 : Int32) (x13 : Int32) (h : Hp) : Re :=
  (f5_heap k x2 x3 x4 x8 x13 h).bind fun c1 => if x11 = 0 then (some ((x12 - x13) + x9, c1.2)) else (some ((x12 - x13) + 0, c1.2))
set_option maxRecDepth 20000 in
set_option maxHeartbeats 4000000 in
theorem f0_overPlace_j170_ok {k : Nat} (hE : IW E) (hk : SR E k) (X : XC E RX0 cX0_overPlace 14 (some .int) A p s m args meth c) {x2 : Int32} {x3 : Int32} {x4 : Int32} {x8 : Int32} {x9 : Int32} {x11 : Int32} {x12 : Int32} {x13 : Int32} {h : Hp} (hf0 : f0_overPlace_j170 k x2 x3 x4 x8 x9 x11 x12 x13 h = some (r, h')) : VM E 14 A p l e 2 s m args below meth c (Qi E A r h') 170 [(1, .ref (eA E k)), (2, .int x2), (3, .int x3), (4, .int x4), (8, .int x8), (9, .int x9), (11, .int x11), (12, .int x12), (13, .int x13)] [] h := by
  unfold f0_overPlace_j170 at hf0
  have hf1 := hf0
  refine V_aload_n X 0 rfl dX0_overPlace_170 ?_
  refine V_iload_n X 1 rfl dX0_overPlace_171 ?_
  refine V_iload_n X 2 rfl dX0_overPlace_172 ?_
  refine V_iload X 3 rfl dX0_overPlace_173 ?_
  refine V_iload X 4 rfl dX0_overPlace_175 ?_
  refine V_iload X 8 rfl dX0_overPlace_177 ?_
  obtain ⟨c1, e_c1, hf3⟩ := obd hf1
  refine V_callVv X hk.1 rfl rfl (f5_heap_ok hk e_c1) ys_X5_heap yw_X5_heap ml_X0_59 rfl rfl ⟨Nat.le_of_ble_eq_true rfl, Nat.le_of_ble_eq_true rfl⟩ ⟨Nat.zero_le _, Nat.zero_le _⟩ (Nat.le_of_ble_eq_true rfl) dX0_overPlace_179 ?_
  refine V_iload X 7 rfl dX0_overPlace_182 ?_
  refine V_iload X 8 rfl dX0_overPlace_184 ?_
  refine V_isub X dX0_overPlace_186 ?_
  refine V_iload X 6 rfl dX0_overPlace_187 ?_
  refine V_if_eq X (tgt := 196) (by decide) dX0_overPlace_189 (fun q189 => ?_) (fun q189 => ?_)
  · have hf4 := ift hf3 q189
    refine V_iload X 5 rfl dX0_overPlace_196 ?_
    refine V_iadd X dX0_overPlace_198 ?_
    exact V_iret X rfl hf4 dX0_overPlace_199
  · have hf4 := ife hf3 q189
    refine V_iconst X (v := 0) (by decide) dX0_overPlace_192 ?_
    refine V_goto X (tgt := 198) (by decide) dX0_overPlace_193 ?_
    refine V_iadd X dX0_overPlace_198 ?_
    exact V_iret X rfl hf4 dX0_overPlace_199
def f0_overPlace_j140 (k : Nat) (x2 : Int32) (x3 : Int32) (x4 : Int32) (x8 : Int32) (x9 : Int32) (x11 : Int32) (y0 : Int32) (h : Hp) : Re :=
  (f0_remembered 6 x4 h).bind fun c1 => if (if y0 < 99 then y0 else 99) = c1.1 then (f0_overPlace_j170 k x2 x3 x4 x8 x9 x11 y0 (if y0 < 99 then y0 else 99) c1.2) else ((some (hu c1.2 5 2 1)).bind fun h4 => f0_overPlace_j170 k x2 x3 x4 x8 x9 x11 y0 (if y0 < 99 then y0 else 99) h4)
set_option maxRecDepth 20000 in
set_option maxHeartbeats 4000000 in
theorem f0_overPlace_j140_ok {k : Nat} (hE : IW E) (hk : SR E k) (X : XC E RX0 cX0_overPlace 14 (some .int) A p s m args meth c) {x2 : Int32} {x3 : Int32} {x4 : Int32} {x8 : Int32} {x9 : Int32} {x11 : Int32} {y0 : Int32} {h : Hp} (hf0 : f0_overPlace_j140 k x2 x3 x4 x8 x9 x11 y0 h = some (r, h')) : VM E 14 A p l e 2 s m args below meth c (Qi E A r h') 140 [(0, .ref (eA E 5)), (1, .ref (eA E k)), (2, .int x2), (3, .int x3), (4, .int x4), (8, .int x8), (9, .int x9), (11, .int x11)] [.int y0] h := by
  unfold f0_overPlace_j140 at hf0
  have hf1 := hf0
  refine V_istore X (by decide) rfl dX0_overPlace_140 ?_
  refine V_bipush X (v := 99) (by decide) dX0_overPlace_142 ?_
  refine V_iload X 0 rfl dX0_overPlace_144 ?_
  refine V_mmin X mm_X0_54 mm_min_st mm_ini mm_min_co (by decide) (by decide) ⟨Nat.zero_le _, Nat.zero_le _⟩ dX0_overPlace_146 ?_
  refine V_istore X (by decide) rfl dX0_overPlace_149 ?_
  refine V_iload X 0 rfl dX0_overPlace_151 ?_
  refine V_aload_n X 2 rfl dX0_overPlace_153 ?_
  refine G_X0_0_9 hE X dX0_overPlace_154 ?_
  refine V_iload X 6 rfl dX0_overPlace_157 ?_
  obtain ⟨c1, e_c1, hf3⟩ := obd hf1
  refine V_callSi X (f0_remembered_ok (AR_6 hE) e_c1) ys_X0_remembered yw_X0_remembered ml_X0_46 rfl rfl ⟨Nat.le_of_ble_eq_true rfl, Nat.le_of_ble_eq_true rfl⟩ ⟨Nat.zero_le _, Nat.zero_le _⟩ (Nat.le_of_ble_eq_true rfl) dX0_overPlace_159 ?_
  refine V_icmp_eq X (tgt := 170) (by decide) dX0_overPlace_162 (fun q162 => ?_) (fun q162 => ?_)
  · have hf4 := ift hf3 q162
    exact V_sub [3, 4, 5, 6, 7, 8, 9, 1, 0] rfl (f0_overPlace_j170_ok hE hk X hf4)
  · have hf4 := ife hf3 q162
    refine V_aload_n X 2 rfl dX0_overPlace_165 ?_
    refine V_iconst X (v := 1) (by decide) dX0_overPlace_166 ?_
    refine P_X0_2_18 hE X (by decide) (by decide) dX0_overPlace_167 ?_
    have hf6 := obs hf4
    exact V_sub [3, 4, 5, 6, 7, 8, 9, 1, 0] rfl (f0_overPlace_j170_ok hE hk X hf6)
def f0_overPlace_j123 (k : Nat) (x2 : Int32) (x3 : Int32) (x4 : Int32) (x8 : Int32) (x9 : Int32) (x10 : Int32) (y0 : Int32) (h : Hp) : Re :=
  if y0 = 0 then (f0_overPlace_j140 k x2 x3 x4 x8 x9 y0 x10 h) else (f0_overPlace_j140 k x2 x3 x4 x8 x9 y0 (x10 + x9) h)
set_option maxRecDepth 20000 in
set_option maxHeartbeats 4000000 in
theorem f0_overPlace_j123_ok {k : Nat} (hE : IW E) (hk : SR E k) (X : XC E RX0 cX0_overPlace 14 (some .int) A p s m args meth c) {x2 : Int32} {x3 : Int32} {x4 : Int32} {x8 : Int32} {x9 : Int32} {x10 : Int32} {y0 : Int32} {h : Hp} (hf0 : f0_overPlace_j123 k x2 x3 x4 x8 x9 x10 y0 h = some (r, h')) : VM E 14 A p l e 2 s m args below meth c (Qi E A r h') 123 [(0, .ref (eA E 5)), (1, .ref (eA E k)), (2, .int x2), (3, .int x3), (4, .int x4), (8, .int x8), (9, .int x9), (10, .int x10)] [.int y0] h := by
  unfold f0_overPlace_j123 at hf0
  have hf1 := hf0
  refine V_istore X (by decide) rfl dX0_overPlace_123 ?_
  refine V_iload X 0 rfl dX0_overPlace_125 ?_
  refine V_if_eq X (tgt := 138) (by decide) dX0_overPlace_127 (fun q127 => ?_) (fun q127 => ?_)
  · have hf2 := ift hf1 q127
    refine V_iload X 8 rfl dX0_overPlace_138 ?_
    exact V_sub [1, 2, 3, 4, 5, 6, 7, 0] rfl (f0_overPlace_j140_ok hE hk X hf2)
  · have hf2 := ife hf1 q127
    refine V_iload X 8 rfl dX0_overPlace_130 ?_
    refine V_iload X 7 rfl dX0_overPlace_132 ?_
    refine V_iadd X dX0_overPlace_134 ?_
    refine V_goto X (tgt := 140) (by decide) dX0_overPlace_135 ?_
    exact V_sub [1, 2, 3, 4, 5, 6, 7, 0] rfl (f0_overPlace_j140_ok hE hk X hf2)
def f0_overPlace_j104 (k : Nat) (x2 : Int32) (x3 : Int32) (x4 : Int32) (x6 : Int32) (x8 : Int32) (x9 : Int32) (x10 : Int32) (h : Hp) : Re :=
  (f0_remembered 7 x6 h).bind fun c1 => if x8 = c1.1 then (f0_overPlace_j123 k x2 x3 x4 x8 x9 x10 1 c1.2) else (f0_overPlace_j123 k x2 x3 x4 x8 x9 x10 0 c1.2)
set_option maxRecDepth 20000 in
set_option maxHeartbeats 4000000 in
theorem f0_overPlace_j104_ok {k : Nat} (hE : IW E) (hk : SR E k) (X : XC E RX0 cX0_overPlace 14 (some .int) A p s m args meth c) {x2 : Int32} {x3 : Int32} {x4 : Int32} {x6 : Int32} {x8 : Int32} {x9 : Int32} {x10 : Int32} {h : Hp} (hf0 : f0_overPlace_j104 k x2 x3 x4 x6 x8 x9 x10 h = some (r, h')) : VM E 14 A p l e 2 s m args below meth c (Qi E A r h') 104 [(0, .ref (eA E 5)), (1, .ref (eA E k)), (2, .int x2), (3, .int x3), (4, .int x4), (6, .int x6), (8, .int x8), (9, .int x9), (10, .int x10)] [] h := by
  unfold f0_overPlace_j104 at hf0
  have hf1 := hf0
  refine V_iload X 6 rfl dX0_overPlace_104 ?_
  refine V_aload_n X 0 rfl dX0_overPlace_106 ?_
  refine G_X0_1_15 hE X dX0_overPlace_107 ?_
  refine V_iload X 5 rfl dX0_overPlace_110 ?_
  obtain ⟨c1, e_c1, hf3⟩ := obd hf1
  refine V_callSi X (f0_remembered_ok (AR_7 hE) e_c1) ys_X0_remembered yw_X0_remembered ml_X0_46 rfl rfl ⟨Nat.le_of_ble_eq_true rfl, Nat.le_of_ble_eq_true rfl⟩ ⟨Nat.zero_le _, Nat.zero_le _⟩ (Nat.le_of_ble_eq_true rfl) dX0_overPlace_112 ?_
  refine V_icmp_ne X (tgt := 122) (by decide) dX0_overPlace_115 (fun q115 => ?_) (fun q115 => ?_)
  · have hf4 := ife hf3 q115
    refine V_iconst X (v := 0) (by decide) dX0_overPlace_122 ?_
    exact V_sub [0, 1, 2, 3, 4, 6, 7, 8] rfl (f0_overPlace_j123_ok hE hk X hf4)
  · have hf4 := ift hf3 q115
    refine V_iconst X (v := 1) (by decide) dX0_overPlace_118 ?_
    refine V_goto X (tgt := 123) (by decide) dX0_overPlace_119 ?_
    exact V_sub [0, 1, 2, 3, 4, 6, 7, 8] rfl (f0_overPlace_j123_ok hE hk X hf4)
def f0_overPlace_j26 (k : Nat) (x2 : Int32) (x3 : Int32) (x4 : Int32) (y0 : Int32) (h : Hp) : Re :=
  (f5_setting k 1 h).bind fun c1 => (f0_remembered 7 x4 c1.2).bind fun c3 => (f0_remembered 6 y0 c3.2).bind fun c5 => (f0_spilled c5.1 c1.1 c5.2).bind fun c7 => (f0_remembered 6 x4 c7.2).bind fun c9 => (f0_remembered 6 x4 c9.2).bind fun c11 => (f0_spilled c11.1 c1.1 c11.2).bind fun c13 => if c3.1 = 0 then ((f0_remembered 7 y0 c13.2).bind fun c16 => f0_overPlace_j104 k x2 x3 x4 y0 c16.1 c7.1 (c9.1 - c13.1) c16.2) else (f0_overPlace_j104 k x2 x3 x4 y0 c3.1 c7.1 (c9.1 - c13.1) c13.2)
set_option maxRecDepth 20000 in
set_option maxHeartbeats 4000000 in
theorem f0_overPlace_j26_ok {k : Nat} (hE : IW E) (hk : SR E k) (X : XC E RX0 cX0_overPlace 14 (some .int) A p s m args meth c) {x2 : Int32} {x3 : Int32} {x4 : Int32} {y0 : Int32} {h : Hp} (hf0 : f0_overPlace_j26 k x2 x3 x4 y0 h = some (r, h')) : VM E 14 A p l e 2 s m args below meth c (Qi E A r h') 26 [(0, .ref (eA E 5)), (1, .ref (eA E k)), (2, .int x2), (3, .int x3), (4, .int x4)] [.int y0] h := by
  unfold f0_overPlace_j26 at hf0
  have hf1 := hf0
  refine V_istore X (by decide) rfl dX0_overPlace_26 ?_
  refine V_aload_n X 2 rfl dX0_overPlace_28 ?_
  refine V_iconst X (v := 1) (by decide) dX0_overPlace_29 ?_
  obtain ⟨c1, e_c1, hf3⟩ := obd hf1
  refine V_callVi X hk.1 rfl rfl (f5_setting_ok hk e_c1) ys_X5_setting yw_X5_setting ml_X0_43 rfl rfl ⟨Nat.le_of_ble_eq_true rfl, Nat.le_of_ble_eq_true rfl⟩ ⟨Nat.zero_le _, Nat.zero_le _⟩ (Nat.le_of_ble_eq_true rfl) dX0_overPlace_30 ?_
  refine V_istore X (by decide) rfl dX0_overPlace_33 ?_
  refine V_aload_n X 2 rfl dX0_overPlace_35 ?_
  refine G_X0_1_15 hE X dX0_overPlace_36 ?_
  refine V_iload X 6 rfl dX0_overPlace_39 ?_
  obtain ⟨c3, e_c3, hf5⟩ := obd hf3
  refine V_callSi X (f0_remembered_ok (AR_7 hE) e_c3) ys_X0_remembered yw_X0_remembered ml_X0_46 rfl rfl ⟨Nat.le_of_ble_eq_true rfl, Nat.le_of_ble_eq_true rfl⟩ ⟨Nat.zero_le _, Nat.zero_le _⟩ (Nat.le_of_ble_eq_true rfl) dX0_overPlace_41 ?_
  refine V_istore X (by decide) rfl dX0_overPlace_44 ?_
  refine V_aload_n X 3 rfl dX0_overPlace_46 ?_
  refine G_X0_0_9 hE X dX0_overPlace_47 ?_
  refine V_iload X 2 rfl dX0_overPlace_50 ?_
  obtain ⟨c5, e_c5, hf7⟩ := obd hf5
  refine V_callSi X (f0_remembered_ok (AR_6 hE) e_c5) ys_X0_remembered yw_X0_remembered ml_X0_46 rfl rfl ⟨Nat.le_of_ble_eq_true rfl, Nat.le_of_ble_eq_true rfl⟩ ⟨Nat.zero_le _, Nat.zero_le _⟩ (Nat.le_of_ble_eq_true rfl) dX0_overPlace_52 ?_
  refine V_iload X 1 rfl dX0_overPlace_55 ?_
  obtain ⟨c7, e_c7, hf9⟩ := obd hf7
  refine V_callSi X (f0_spilled_ok e_c7) ys_X0_spilled yw_X0_spilled ml_X0_50 rfl rfl ⟨Nat.le_of_ble_eq_true rfl, Nat.le_of_ble_eq_true rfl⟩ ⟨Nat.zero_le _, Nat.zero_le _⟩ (Nat.le_of_ble_eq_true rfl) dX0_overPlace_57 ?_
  refine V_istore X (by decide) rfl dX0_overPlace_60 ?_
  refine V_aload_n X 4 rfl dX0_overPlace_62 ?_
  refine G_X0_0_9 hE X dX0_overPlace_63 ?_
  refine V_iload X 8 rfl dX0_overPlace_66 ?_
  obtain ⟨c9, e_c9, hf11⟩ := obd hf9
  refine V_callSi X (f0_remembered_ok (AR_6 hE) e_c9) ys_X0_remembered yw_X0_remembered ml_X0_46 rfl rfl ⟨Nat.le_of_ble_eq_true rfl, Nat.le_of_ble_eq_true rfl⟩ ⟨Nat.zero_le _, Nat.zero_le _⟩ (Nat.le_of_ble_eq_true rfl) dX0_overPlace_68 ?_
  refine V_aload_n X 4 rfl dX0_overPlace_71 ?_
  refine G_X0_0_9 hE X dX0_overPlace_72 ?_
  refine V_iload X 8 rfl dX0_overPlace_75 ?_
  obtain ⟨c11, e_c11, hf13⟩ := obd hf11
  refine V_callSi X (f0_remembered_ok (AR_6 hE) e_c11) ys_X0_remembered yw_X0_remembered ml_X0_46 rfl rfl ⟨Nat.le_of_ble_eq_true rfl, Nat.le_of_ble_eq_true rfl⟩ ⟨Nat.zero_le _, Nat.zero_le _⟩ (Nat.le_of_ble_eq_true rfl) dX0_overPlace_77 ?_
  refine V_iload X 2 rfl dX0_overPlace_80 ?_
  obtain ⟨c13, e_c13, hf15⟩ := obd hf13
  refine V_callSi X (f0_spilled_ok e_c13) ys_X0_spilled yw_X0_spilled ml_X0_50 rfl rfl ⟨Nat.le_of_ble_eq_true rfl, Nat.le_of_ble_eq_true rfl⟩ ⟨Nat.zero_le _, Nat.zero_le _⟩ (Nat.le_of_ble_eq_true rfl) dX0_overPlace_82 ?_
  refine V_isub X dX0_overPlace_85 ?_
  refine V_istore X (by decide) rfl dX0_overPlace_86 ?_
  refine V_iload X 2 rfl dX0_overPlace_88 ?_
  refine V_if_ne X (tgt := 104) (by decide) dX0_overPlace_90 (fun q90 => ?_) (fun q90 => ?_)
  · have hf16 := ife hf15 q90
    exact V_sub [5, 6, 7, 8, 9, 4, 2, 1, 0] rfl (f0_overPlace_j104_ok hE hk X hf16)
  · have hf16 := ift hf15 q90
    refine V_aload_n X 5 rfl dX0_overPlace_93 ?_
    refine G_X0_1_15 hE X dX0_overPlace_94 ?_
    refine V_iload X 4 rfl dX0_overPlace_97 ?_
    obtain ⟨c16, e_c16, hf18⟩ := obd hf16
    refine V_callSi X (f0_remembered_ok (AR_7 hE) e_c16) ys_X0_remembered yw_X0_remembered ml_X0_46 rfl rfl ⟨Nat.le_of_ble_eq_true rfl, Nat.le_of_ble_eq_true rfl⟩ ⟨Nat.zero_le _, Nat.zero_le _⟩ (Nat.le_of_ble_eq_true rfl) dX0_overPlace_99 ?_
    refine V_istore X (by decide) rfl dX0_overPlace_102 ?_
    exact V_sub [5, 6, 7, 8, 9, 4, 0, 2, 1] rfl (f0_overPlace_j104_ok hE hk X hf18)
def f0_overPlace_e (k : Nat) (x2 : Int32) (x3 : Int32) (x4 : Int32) (x5 : Int32) (h : Hp) : Re :=
  if x5 = 1 then (f0_overPlace_j26 k x2 x3 x4 ((x4 + 1) - (x4 + 1) / 8 * 8) h) else (f0_overPlace_j26 k x2 x3 x4 (((x4 + 8) - 1) - ((x4 + 8) - 1) / 8 * 8) h)
set_option maxRecDepth 20000 in
set_option maxHeartbeats 4000000 in
theorem f0_overPlace_e_ok {k : Nat} (hE : IW E) (hk : SR E k) (X : XC E RX0 cX0_overPlace 14 (some .int) A p s m args meth c) {x2 : Int32} {x3 : Int32} {x4 : Int32} {x5 : Int32} {h : Hp} (hf0 : f0_overPlace_e k x2 x3 x4 x5 h = some (r, h')) : VM E 14 A p l e 2 s m args below meth c (Qi E A r h') 0 [(0, .ref (eA E 5)), (1, .ref (eA E k)), (2, .int x2), (3, .int x3), (4, .int x4), (5, .int x5)] [] h := by
  unfold f0_overPlace_e at hf0
  have hf1 := hf0
  refine V_iload X 5 rfl dX0_overPlace_0 ?_
  refine V_iconst X (v := 1) (by decide) dX0_overPlace_2 ?_
  refine V_icmp_ne X (tgt := 16) (by decide) dX0_overPlace_3 (fun q3 => ?_) (fun q3 => ?_)
  · have hf2 := ife hf1 q3
    refine V_iload X 4 rfl dX0_overPlace_16 ?_
    refine V_bipush X (v := 8) (by decide) dX0_overPlace_18 ?_
    refine V_iadd X dX0_overPlace_20 ?_
    refine V_iconst X (v := 1) (by decide) dX0_overPlace_21 ?_
    refine V_isub X dX0_overPlace_22 ?_
    refine V_bipush X (v := 8) (by decide) dX0_overPlace_23 ?_
    refine V_irem X (by decide) dX0_overPlace_25 ?_
    exact V_sub [0, 1, 2, 3, 4] rfl (f0_overPlace_j26_ok hE hk X hf2)
  · have hf2 := ift hf1 q3
    refine V_iload X 4 rfl dX0_overPlace_6 ?_
    refine V_iconst X (v := 1) (by decide) dX0_overPlace_8 ?_
    refine V_iadd X dX0_overPlace_9 ?_
    refine V_bipush X (v := 8) (by decide) dX0_overPlace_10 ?_
    refine V_irem X (by decide) dX0_overPlace_12 ?_
    refine V_goto X (tgt := 26) (by decide) dX0_overPlace_13 ?_
    exact V_sub [0, 1, 2, 3, 4] rfl (f0_overPlace_j26_ok hE hk X hf2)
def f0_overPlace (k : Nat) (x2 : Int32) (x3 : Int32) (x4 : Int32) (x5 : Int32) (h : Hp) : Re := f0_overPlace_e k x2 x3 x4 x5 h
theorem f0_overPlace_ok {k : Nat} (hE : IW E) (hk : SR E k) {x2 : Int32} {x3 : Int32} {x4 : Int32} {x5 : Int32} {h : Hp} {q : Int32 × Hp} (hf0 : f0_overPlace k x2 x3 x4 x5 h = some q) : SMi l E 2 yX0_overPlace cX0_overPlace 14 (some .int) [.ref (eA E 5), .ref (eA E k), .int x2, .int x3, .int x4, .int x5] h q.1 q.2 :=
  SMi.of (by decide +kernel) (Nat.le_of_ble_eq_true rfl) (fun p e s m args below meth c A X => f0_overPlace_e_ok hE hk X (r := q.1) (h' := q.2) hf0)
def f0_over_B33 (k : Nat) (k16 : Int32 → Int32 → Int32 → Int32 → Hp → Re) (k33 : Int32 → Int32 → Int32 → Int32 → Int32 → Hp → Re) (x2 : Int32) (x3 : Int32) (x4 : Int32) (x5 : Int32) (x6 : Int32) (h : Hp) : Re :=
  if 8 ≤ x6 then (k16 x2 x3 x4 (x5 + 1) h) else ((f0_overPlace k x2 x5 x6 x3 h).bind fun c2 => k33 x2 x3 (x4 + c2.1) x5 (x6 + 1) c2.2)
set_option maxRecDepth 20000 in
set_option maxHeartbeats 4000000 in
theorem f0_over_B33_ok {k : Nat} (hE : IW E) (hk : SR E k) (X : XC E RX0 cX0_over 7 (some .int) A p s m args meth c) {k16 : Int32 → Int32 → Int32 → Int32 → Hp → Re} {k33 : Int32 → Int32 → Int32 → Int32 → Int32 → Hp → Re} (hk16 : ∀ (x2 : Int32) (x3 : Int32) (x4 : Int32) (x5 : Int32) (h : Hp), k16 x2 x3 x4 x5 h = some (r, h') → VM E 7 A p l e 3 s m args below meth c (Qi E A r h') 16 [(0, .ref (eA E 5)), (1, .ref (eA E k)), (2, .int x2), (3, .int x3), (4, .int x4), (5, .int x5)] [] h) (hk33 : ∀ (x2 : Int32) (x3 : Int32) (x4 : Int32) (x5 : Int32) (x6 : Int32) (h : Hp), k33 x2 x3 x4 x5 x6 h = some (r, h') → VM E 7 A p l e 3 s m args below meth c (Qi E A r h') 33 [(0, .ref (eA E 5)), (1, .ref (eA E k)), (2, .int x2), (3, .int x3), (4, .int x4), (5, .int x5), (6, .int x6)] [] h) {x2 : Int32} {x3 : Int32} {x4 : Int32} {x5 : Int32} {x6 : Int32} {h : Hp} (hf0 : f0_over_B33 k k16 k33 x2 x3 x4 x5 x6 h = some (r, h')) : VM E 7 A p l e 3 s m args below meth c (Qi E A r h') 33 [(0, .ref (eA E 5)), (1, .ref (eA E k)), (2, .int x2), (3, .int x3), (4, .int x4), (5, .int x5), (6, .int x6)] [] h := by
  unfold f0_over_B33 at hf0
  have hf1 := hf0
  refine V_iload X 6 rfl dX0_over_33 ?_
  refine V_bipush X (v := 8) (by decide) dX0_over_35 ?_
  refine V_icmp_ge X (tgt := 62) (by decide) dX0_over_37 (fun q37 => ?_) (fun q37 => ?_)
  · have hf2 := ift hf1 q37
    refine V_iinc X (v := _ + 1) 5 rfl (by rfl) (by decide) rfl dX0_over_62 ?_
    refine V_goto X (tgt := 16) (by decide) dX0_over_65 ?_
    exact V_sub [1, 2, 3, 4, 5, 0] rfl (hk16 _ _ _ _ _ hf2)
  · have hf2 := ife hf1 q37
    refine V_iload X 4 rfl dX0_over_40 ?_
    refine V_aload_n X 0 rfl dX0_over_42 ?_
    refine V_aload_n X 1 rfl dX0_over_43 ?_
    refine V_iload_n X 2 rfl dX0_over_44 ?_
    refine V_iload X 5 rfl dX0_over_45 ?_
    refine V_iload X 6 rfl dX0_over_47 ?_
    refine V_iload_n X 3 rfl dX0_over_49 ?_
    obtain ⟨c2, e_c2, hf4⟩ := obd hf2
    refine V_callVi X (OB_5 hE) rfl rfl (f0_overPlace_ok hE hk e_c2) ys_X0_overPlace yw_X0_overPlace ml_X0_32 rfl rfl ⟨Nat.le_of_ble_eq_true rfl, Nat.le_of_ble_eq_true rfl⟩ ⟨Nat.zero_le _, Nat.zero_le _⟩ (Nat.le_of_ble_eq_true rfl) dX0_over_50 ?_
    refine V_iadd X dX0_over_53 ?_
    refine V_istore X (by decide) rfl dX0_over_54 ?_
    refine V_iinc X (v := _ + 1) 6 rfl (by rfl) (by decide) rfl dX0_over_56 ?_
    refine V_goto X (tgt := 33) (by decide) dX0_over_59 ?_
    exact V_sub [2, 3, 4, 5, 1, 6, 0] rfl (hk33 _ _ _ _ _ _ hf4)
def f0_over_L33 (k : Nat) (k16 : Int32 → Int32 → Int32 → Int32 → Hp → Re) : Nat → Int32 → Int32 → Int32 → Int32 → Int32 → Hp → Re
  | 0 => fun _ _ _ _ _ _ => none
  | n + 1 => f0_over_B33 k k16 (f0_over_L33 k k16 n)
theorem f0_over_L33_s (k : Nat) (k16 : Int32 → Int32 → Int32 → Int32 → Hp → Re) (n : Nat) (x2 : Int32) (x3 : Int32) (x4 : Int32) (x5 : Int32) (x6 : Int32) (h : Hp) : f0_over_L33 k k16 (n + 1) x2 x3 x4 x5 x6 h = f0_over_B33 k k16 (f0_over_L33 k k16 n) x2 x3 x4 x5 x6 h := rfl
theorem f0_over_L33_ok {k : Nat} (hE : IW E) (hk : SR E k) (X : XC E RX0 cX0_over 7 (some .int) A p s m args meth c) {k16 : Int32 → Int32 → Int32 → Int32 → Hp → Re} (hk16 : ∀ (x2 : Int32) (x3 : Int32) (x4 : Int32) (x5 : Int32) (h : Hp), k16 x2 x3 x4 x5 h = some (r, h') → VM E 7 A p l e 3 s m args below meth c (Qi E A r h') 16 [(0, .ref (eA E 5)), (1, .ref (eA E k)), (2, .int x2), (3, .int x3), (4, .int x4), (5, .int x5)] [] h) : ∀ (n : Nat) (x2 : Int32) (x3 : Int32) (x4 : Int32) (x5 : Int32) (x6 : Int32) (h : Hp), f0_over_L33 k k16 n x2 x3 x4 x5 x6 h = some (r, h') → VM E 7 A p l e 3 s m args below meth c (Qi E A r h') 33 [(0, .ref (eA E 5)), (1, .ref (eA E k)), (2, .int x2), (3, .int x3), (4, .int x4), (5, .int x5), (6, .int x6)] [] h := by
  intro n
  induction n with
  | zero =>
    intro x2 x3 x4 x5 x6 h q
    have q : (none : Re) = some (r, h') := q
    cases q
  | succ n ih =>
    intro x2 x3 x4 x5 x6 h q
    exact f0_over_B33_ok hE hk X hk16 ih q
def f0_over_B16 (k : Nat) (k16 : Int32 → Int32 → Int32 → Int32 → Hp → Re) (x2 : Int32) (x3 : Int32) (x4 : Int32) (x5 : Int32) (h : Hp) : Re :=
  if 5 ≤ x5 then (some (x4, h)) else ((f0_rememberRing k x2 x5 h).bind fun c2 => f0_over_L33 k k16 FU x2 x3 x4 x5 0 c2.2)
set_option maxRecDepth 20000 in
set_option maxHeartbeats 4000000 in
theorem f0_over_B16_ok {k : Nat} (hE : IW E) (hk : SR E k) (X : XC E RX0 cX0_over 7 (some .int) A p s m args meth c) {k16 : Int32 → Int32 → Int32 → Int32 → Hp → Re} (hk16 : ∀ (x2 : Int32) (x3 : Int32) (x4 : Int32) (x5 : Int32) (h : Hp), k16 x2 x3 x4 x5 h = some (r, h') → VM E 7 A p l e 3 s m args below meth c (Qi E A r h') 16 [(0, .ref (eA E 5)), (1, .ref (eA E k)), (2, .int x2), (3, .int x3), (4, .int x4), (5, .int x5)] [] h) {x2 : Int32} {x3 : Int32} {x4 : Int32} {x5 : Int32} {h : Hp} (hf0 : f0_over_B16 k k16 x2 x3 x4 x5 h = some (r, h')) : VM E 7 A p l e 3 s m args below meth c (Qi E A r h') 16 [(0, .ref (eA E 5)), (1, .ref (eA E k)), (2, .int x2), (3, .int x3), (4, .int x4), (5, .int x5)] [] h := by
  unfold f0_over_B16 at hf0
  have hf1 := hf0
  refine V_iload X 5 rfl dX0_over_16 ?_
  refine V_iconst X (v := 5) (by decide) dX0_over_18 ?_
  refine V_icmp_ge X (tgt := 68) (by decide) dX0_over_19 (fun q19 => ?_) (fun q19 => ?_)
  · have hf2 := ift hf1 q19
    refine V_iload X 4 rfl dX0_over_68 ?_
    exact V_iret X rfl hf2 dX0_over_70
  · have hf2 := ife hf1 q19
    refine V_aload_n X 0 rfl dX0_over_22 ?_
    refine V_aload_n X 1 rfl dX0_over_23 ?_
    refine V_iload_n X 2 rfl dX0_over_24 ?_
    refine V_iload X 5 rfl dX0_over_25 ?_
    obtain ⟨c2, e_c2, hf4⟩ := obd hf2
    refine V_callVv X (OB_5 hE) rfl rfl (f0_rememberRing_ok hE hk e_c2) ys_X0_rememberRing yw_X0_rememberRing ml_X0_28 rfl rfl ⟨Nat.le_of_ble_eq_true rfl, Nat.le_of_ble_eq_true rfl⟩ ⟨Nat.zero_le _, Nat.zero_le _⟩ (Nat.le_of_ble_eq_true rfl) dX0_over_27 ?_
    refine V_iconst X (v := 0) (by decide) dX0_over_30 ?_
    refine V_istore X (by decide) rfl dX0_over_31 ?_
    exact V_sub [1, 2, 3, 4, 5, 6, 0] rfl (f0_over_L33_ok hE hk X hk16 FU _ _ _ _ _ _ hf4)
def f0_over_L16 (k : Nat) : Nat → Int32 → Int32 → Int32 → Int32 → Hp → Re
  | 0 => fun _ _ _ _ _ => none
  | n + 1 => f0_over_B16 k (f0_over_L16 k n)
theorem f0_over_L16_s (k : Nat) (n : Nat) (x2 : Int32) (x3 : Int32) (x4 : Int32) (x5 : Int32) (h : Hp) : f0_over_L16 k (n + 1) x2 x3 x4 x5 h = f0_over_B16 k (f0_over_L16 k n) x2 x3 x4 x5 h := rfl
theorem f0_over_L16_ok {k : Nat} (hE : IW E) (hk : SR E k) (X : XC E RX0 cX0_over 7 (some .int) A p s m args meth c) : ∀ (n : Nat) (x2 : Int32) (x3 : Int32) (x4 : Int32) (x5 : Int32) (h : Hp), f0_over_L16 k n x2 x3 x4 x5 h = some (r, h') → VM E 7 A p l e 3 s m args below meth c (Qi E A r h') 16 [(0, .ref (eA E 5)), (1, .ref (eA E k)), (2, .int x2), (3, .int x3), (4, .int x4), (5, .int x5)] [] h := by
  intro n
  induction n with
  | zero =>
    intro x2 x3 x4 x5 h q
    have q : (none : Re) = some (r, h') := q
    cases q
  | succ n ih =>
    intro x2 x3 x4 x5 h q
    exact f0_over_B16_ok hE hk X ih q
def f0_over_e (k : Nat) (x2 : Int32) (x3 : Int32) (h : Hp) : Re :=
  (some (hu h 5 2 0)).bind fun h1 => (f5_number k 19 h1).bind fun c3 => f0_over_L16 k FU x2 x3 0 c3.1 c3.2
set_option maxRecDepth 20000 in
set_option maxHeartbeats 4000000 in
theorem f0_over_e_ok {k : Nat} (hE : IW E) (hk : SR E k) (X : XC E RX0 cX0_over 7 (some .int) A p s m args meth c) {x2 : Int32} {x3 : Int32} {h : Hp} (hf0 : f0_over_e k x2 x3 h = some (r, h')) : VM E 7 A p l e 3 s m args below meth c (Qi E A r h') 0 [(0, .ref (eA E 5)), (1, .ref (eA E k)), (2, .int x2), (3, .int x3)] [] h := by
  unfold f0_over_e at hf0
  have hf1 := hf0
  refine V_aload_n X 0 rfl dX0_over_0 ?_
  refine V_iconst X (v := 0) (by decide) dX0_over_1 ?_
  refine P_X0_2_18 hE X (by decide) (by decide) dX0_over_2 ?_
  have hf3 := obs hf1
  refine V_iconst X (v := 0) (by decide) dX0_over_5 ?_
  refine V_istore X (by decide) rfl dX0_over_6 ?_
  refine V_aload_n X 2 rfl dX0_over_8 ?_
  refine V_bipush X (v := 19) (by decide) dX0_over_9 ?_
  obtain ⟨c3, e_c3, hf5⟩ := obd hf3
  refine V_callVi X hk.1 rfl rfl (f5_number_ok hk e_c3) ys_X5_number yw_X5_number ml_X0_24 rfl rfl ⟨Nat.le_of_ble_eq_true rfl, Nat.le_of_ble_eq_true rfl⟩ ⟨Nat.zero_le _, Nat.zero_le _⟩ (Nat.le_of_ble_eq_true rfl) dX0_over_11 ?_
  refine V_istore X (by decide) rfl dX0_over_14 ?_
  exact V_sub [2, 3, 4, 5, 1, 0] rfl (f0_over_L16_ok hE hk X FU _ _ _ _ _ hf5)
def f0_over (k : Nat) (x2 : Int32) (x3 : Int32) (h : Hp) : Re := f0_over_e k x2 x3 h
theorem f0_over_ok {k : Nat} (hE : IW E) (hk : SR E k) {x2 : Int32} {x3 : Int32} {h : Hp} {q : Int32 × Hp} (hf0 : f0_over k x2 x3 h = some q) : SMi l E 3 yX0_over cX0_over 7 (some .int) [.ref (eA E 5), .ref (eA E k), .int x2, .int x3] h q.1 q.2 :=
  SMi.of (by decide +kernel) (Nat.le_of_ble_eq_true rfl) (fun p e s m args below meth c A X => f0_over_e_ok hE hk X (r := q.1) (h' := q.2) hf0)
def f0_changedSomething_e (h : Hp) : Re :=
  rz (h 5 2) h
set_option maxRecDepth 20000 in
set_option maxHeartbeats 4000000 in
theorem f0_changedSomething_e_ok (hE : IW E) (X : XC E RX0 cX0_changedSomething 1 (some .boolean) A p s m args meth c) {h : Hp} (hf0 : f0_changedSomething_e  h = some (r, h')) : VM E 1 A p l e 0 s m args below meth c (Qi E A r h') 0 [(0, .ref (eA E 5))] [] h := by
  unfold f0_changedSomething_e at hf0
  have hf1 := hf0
  refine V_aload_n X 0 rfl dX0_changedSomething_0 ?_
  refine G_X0_2_18 hE X dX0_changedSomething_1 ?_
  exact V_zret X rfl hf1 dX0_changedSomething_4
def f0_changedSomething (h : Hp) : Re := f0_changedSomething_e  h
theorem f0_changedSomething_ok (hE : IW E) {h : Hp} {q : Int32 × Hp} (hf0 : f0_changedSomething  h = some q) : SMi l E 0 yX0_changedSomething cX0_changedSomething 1 (some .boolean) [.ref (eA E 5)] h q.1 q.2 :=
  SMi.of (by decide +kernel) (Nat.le_of_ble_eq_true rfl) (fun p e s m args below meth c A X => f0_changedSomething_e_ok hE X (r := q.1) (h' := q.2) hf0)
def f1_quarterOfTurn_e (x0 : Int32) (h : Hp) : Re :=
  if x0 < 0 then (some ((-1), h)) else (if 4 ≤ x0 then (some ((-1), h)) else (if inB x0 4 = true then some (swo.getD (Int32.toNatClampNeg x0) 0, h) else none))
set_option maxRecDepth 20000 in
set_option maxHeartbeats 4000000 in
theorem f1_quarterOfTurn_e_ok (X : XC E RX1 cX1_quarterOfTurn 1 (some .int) A p s m args meth c) {x0 : Int32} {h : Hp} (hf0 : f1_quarterOfTurn_e x0 h = some (r, h')) : VM E 1 A p l e 0 s m args below meth c (Qi E A r h') 0 [(0, .int x0)] [] h := by
  unfold f1_quarterOfTurn_e at hf0
  have hf1 := hf0
  refine V_iload_n X 0 rfl dX1_quarterOfTurn_0 ?_
  refine V_if_lt X (tgt := 20) (by decide) dX1_quarterOfTurn_1 (fun q1 => ?_) (fun q1 => ?_)
  · have hf2 := ift hf1 q1
    refine V_iconst X (v := -1) (by decide) dX1_quarterOfTurn_20 ?_
    exact V_iret X rfl hf2 dX1_quarterOfTurn_21
  · have hf2 := ife hf1 q1
    refine V_iload_n X 0 rfl dX1_quarterOfTurn_4 ?_
    refine V_gsw X gs_X1_9 dX1_quarterOfTurn_5 ?_
    refine V_tlen X dX1_quarterOfTurn_8 ?_
    refine V_icmp_ge X (tgt := 20) (by decide) dX1_quarterOfTurn_9 (fun q9 => ?_) (fun q9 => ?_)
    · have hf3 := ift hf2 q9
      refine V_iconst X (v := -1) (by decide) dX1_quarterOfTurn_20 ?_
      exact V_iret X rfl hf3 dX1_quarterOfTurn_21
    · have hf3 := ife hf2 q9
      refine V_gsw X gs_X1_9 dX1_quarterOfTurn_12 ?_
      refine V_iload_n X 0 rfl dX1_quarterOfTurn_15 ?_
      obtain ⟨g3, hf3⟩ := ogd hf3
      refine V_tiald X g3 dX1_quarterOfTurn_16 ?_
      refine V_goto X (tgt := 21) (by decide) dX1_quarterOfTurn_17 ?_
      exact V_iret X rfl hf3 dX1_quarterOfTurn_21
def f1_quarterOfTurn (x0 : Int32) (h : Hp) : Re := f1_quarterOfTurn_e x0 h
theorem f1_quarterOfTurn_ok {x0 : Int32} {h : Hp} {q : Int32 × Hp} (hf0 : f1_quarterOfTurn x0 h = some q) : SMi l E 0 yX1_quarterOfTurn cX1_quarterOfTurn 1 (some .int) [.int x0] h q.1 q.2 :=
  SMi.of (by decide +kernel) (Nat.le_of_ble_eq_true rfl) (fun p e s m args below meth c A X => f1_quarterOfTurn_e_ok X (r := q.1) (h' := q.2) hf0)
def f1_isSettingValue_e (x0 : Int32) (x1 : Int32) (h : Hp) : Re :=
  if x0 = 0 then (if x1 < 1 then (rz 0 h) else (if 50 < x1 then (rz 0 h) else (rz 1 h))) else if x0 = 1 then (if x1 < 1 then (rz 0 h) else (if 99 < x1 then (rz 0 h) else (rz 1 h))) else if x0 = 2 then (if x1 = 0 then (rz 1 h) else (if x1 = 1 then (rz 1 h) else (rz 0 h))) else (rz 0 h)
set_option maxRecDepth 20000 in
set_option maxHeartbeats 4000000 in
theorem f1_isSettingValue_e_ok (X : XC E RX1 cX1_isSettingValue 2 (some .boolean) A p s m args meth c) {x0 : Int32} {x1 : Int32} {h : Hp} (hf0 : f1_isSettingValue_e x0 x1 h = some (r, h')) : VM E 2 A p l e 0 s m args below meth c (Qi E A r h') 0 [(0, .int x0), (1, .int x1)] [] h := by
  unfold f1_isSettingValue_e at hf0
  have hf1 := hf0
  refine V_iload_n X 0 rfl dX1_isSettingValue_0 ?_
  rcases oif hf1 with ⟨q1_0, hf1_0⟩ | ⟨q1_0, hf1_0⟩
  · refine V_table X (tgt := 28) (off := 27) (by rw [q1_0]; decide) (by decide) (by decide) dX1_isSettingValue_1 ?_
    have hf3 := hf1_0
    refine V_iload_n X 1 rfl dX1_isSettingValue_28 ?_
    refine V_iconst X (v := 1) (by decide) dX1_isSettingValue_29 ?_
    refine V_icmp_lt X (tgt := 43) (by decide) dX1_isSettingValue_30 (fun q30 => ?_) (fun q30 => ?_)
    · have hf4 := ift hf3 q30
      refine V_iconst X (v := 0) (by decide) dX1_isSettingValue_43 ?_
      exact V_zret X rfl hf4 dX1_isSettingValue_44
    · have hf4 := ife hf3 q30
      refine V_iload_n X 1 rfl dX1_isSettingValue_33 ?_
      refine V_bipush X (v := 50) (by decide) dX1_isSettingValue_34 ?_
      refine V_icmp_gt X (tgt := 43) (by decide) dX1_isSettingValue_36 (fun q36 => ?_) (fun q36 => ?_)
      · have hf5 := ift hf4 q36
        refine V_iconst X (v := 0) (by decide) dX1_isSettingValue_43 ?_
        exact V_zret X rfl hf5 dX1_isSettingValue_44
      · have hf5 := ife hf4 q36
        refine V_iconst X (v := 1) (by decide) dX1_isSettingValue_39 ?_
        refine V_goto X (tgt := 44) (by decide) dX1_isSettingValue_40 ?_
        exact V_zret X rfl hf5 dX1_isSettingValue_44
  rcases oif hf1_0 with ⟨q1_1, hf1_1⟩ | ⟨q1_1, hf1_1⟩
  · refine V_table X (tgt := 45) (off := 44) (by rw [q1_1]; decide) (by decide) (by decide) dX1_isSettingValue_1 ?_
    have hf6 := hf1_1
    refine V_iload_n X 1 rfl dX1_isSettingValue_45 ?_
    refine V_iconst X (v := 1) (by decide) dX1_isSettingValue_46 ?_
    refine V_icmp_lt X (tgt := 60) (by decide) dX1_isSettingValue_47 (fun q47 => ?_) (fun q47 => ?_)
    · have hf7 := ift hf6 q47
      refine V_iconst X (v := 0) (by decide) dX1_isSettingValue_60 ?_
      exact V_zret X rfl hf7 dX1_isSettingValue_61
    · have hf7 := ife hf6 q47
      refine V_iload_n X 1 rfl dX1_isSettingValue_50 ?_
      refine V_bipush X (v := 99) (by decide) dX1_isSettingValue_51 ?_
      refine V_icmp_gt X (tgt := 60) (by decide) dX1_isSettingValue_53 (fun q53 => ?_) (fun q53 => ?_)
      · have hf8 := ift hf7 q53
        refine V_iconst X (v := 0) (by decide) dX1_isSettingValue_60 ?_
        exact V_zret X rfl hf8 dX1_isSettingValue_61
      · have hf8 := ife hf7 q53
        refine V_iconst X (v := 1) (by decide) dX1_isSettingValue_56 ?_
        refine V_goto X (tgt := 61) (by decide) dX1_isSettingValue_57 ?_
        exact V_zret X rfl hf8 dX1_isSettingValue_61
  rcases oif hf1_1 with ⟨q1_2, hf1_2⟩ | ⟨q1_2, hf1_2⟩
  · refine V_table X (tgt := 62) (off := 61) (by rw [q1_2]; decide) (by decide) (by decide) dX1_isSettingValue_1 ?_
    have hf9 := hf1_2
    refine V_iload_n X 1 rfl dX1_isSettingValue_62 ?_
    refine V_if_eq X (tgt := 71) (by decide) dX1_isSettingValue_63 (fun q63 => ?_) (fun q63 => ?_)
    · have hf10 := ift hf9 q63
      refine V_iconst X (v := 1) (by decide) dX1_isSettingValue_71 ?_
      refine V_goto X (tgt := 76) (by decide) dX1_isSettingValue_72 ?_
      exact V_zret X rfl hf10 dX1_isSettingValue_76
    · have hf10 := ife hf9 q63
      refine V_iload_n X 1 rfl dX1_isSettingValue_66 ?_
      refine V_iconst X (v := 1) (by decide) dX1_isSettingValue_67 ?_
      refine V_icmp_ne X (tgt := 75) (by decide) dX1_isSettingValue_68 (fun q68 => ?_) (fun q68 => ?_)
      · have hf11 := ife hf10 q68
        refine V_iconst X (v := 0) (by decide) dX1_isSettingValue_75 ?_
        exact V_zret X rfl hf11 dX1_isSettingValue_76
      · have hf11 := ift hf10 q68
        refine V_iconst X (v := 1) (by decide) dX1_isSettingValue_71 ?_
        refine V_goto X (tgt := 76) (by decide) dX1_isSettingValue_72 ?_
        exact V_zret X rfl hf11 dX1_isSettingValue_76
  · skip
    refine V_table X (tgt := 77) (off := 76) (tsel_out (by have z0 := lv_neT q1_0 (show (0 : Int32).toInt = 0 by decide); have z1 := lv_neT q1_1 (show (1 : Int32).toInt = 1 by decide); have z2 := lv_neT q1_2 (show (2 : Int32).toInt = 2 by decide); omega)) (by decide) (by decide) dX1_isSettingValue_1 ?_
    have hf12 := hf1_2
    refine V_iconst X (v := 0) (by decide) dX1_isSettingValue_77 ?_
    exact V_zret X rfl hf12 dX1_isSettingValue_78
def f1_isSettingValue (x0 : Int32) (x1 : Int32) (h : Hp) : Re := f1_isSettingValue_e x0 x1 h
theorem f1_isSettingValue_ok {x0 : Int32} {x1 : Int32} {h : Hp} {q : Int32 × Hp} (hf0 : f1_isSettingValue x0 x1 h = some q) : SMi l E 0 yX1_isSettingValue cX1_isSettingValue 2 (some .boolean) [.int x0, .int x1] h q.1 q.2 :=
  SMi.of (by decide +kernel) (Nat.le_of_ble_eq_true rfl) (fun p e s m args below meth c A X => f1_isSettingValue_e_ok X (r := q.1) (h' := q.2) hf0)
def f1_changeSetting_e (x1 : Int32) (x2 : Int32) (h : Hp) : Re :=
  (f1_isSettingValue x1 x2 h).bind fun c1 => if c1.1 = 0 then (some ((-2), c1.2)) else ((f5_setting 1 x1 c1.2).bind fun c4 => (f5_lay 1 (0 + x1) x2 c4.2).bind fun c6 => some (c4.1, c6.2))
set_option maxRecDepth 20000 in
set_option maxHeartbeats 4000000 in
theorem f1_changeSetting_e_ok (hE : IW E) (X : XC E RX1 cX1_changeSetting 4 (some .int) A p s m args meth c) {x1 : Int32} {x2 : Int32} {h : Hp} (hf0 : f1_changeSetting_e x1 x2 h = some (r, h')) : VM E 4 A p l e 2 s m args below meth c (Qi E A r h') 0 [(0, .ref (eA E 1)), (1, .int x1), (2, .int x2)] [] h := by
  unfold f1_changeSetting_e at hf0
  have hf1 := hf0
  refine V_iload_n X 1 rfl dX1_changeSetting_0 ?_
  refine V_iload_n X 2 rfl dX1_changeSetting_1 ?_
  obtain ⟨c1, e_c1, hf3⟩ := obd hf1
  refine V_callSi X (f1_isSettingValue_ok e_c1) ys_X1_isSettingValue yw_X1_isSettingValue ml_X1_15 rfl rfl ⟨Nat.le_of_ble_eq_true rfl, Nat.le_of_ble_eq_true rfl⟩ ⟨Nat.zero_le _, Nat.zero_le _⟩ (Nat.le_of_ble_eq_true rfl) dX1_changeSetting_2 ?_
  refine V_if_ne X (tgt := 11) (by decide) dX1_changeSetting_5 (fun q5 => ?_) (fun q5 => ?_)
  · have hf4 := ife hf3 q5
    refine V_aload_n X 0 rfl dX1_changeSetting_11 ?_
    refine V_iload_n X 1 rfl dX1_changeSetting_12 ?_
    obtain ⟨c4, e_c4, hf6⟩ := obd hf4
    refine V_callVi X (SR_1 hE).1 rfl rfl (f5_setting_ok (SR_1 hE) e_c4) ys_X5_setting yw_X5_setting ml_X1_19 rfl rfl ⟨Nat.le_of_ble_eq_true rfl, Nat.le_of_ble_eq_true rfl⟩ ⟨Nat.zero_le _, Nat.zero_le _⟩ (Nat.le_of_ble_eq_true rfl) dX1_changeSetting_13 ?_
    refine V_istore_n X (by decide) rfl dX1_changeSetting_16 ?_
    refine V_aload_n X 1 rfl dX1_changeSetting_17 ?_
    refine V_iconst X (v := 0) (by decide) dX1_changeSetting_18 ?_
    refine V_iload_n X 2 rfl dX1_changeSetting_19 ?_
    refine V_iadd X dX1_changeSetting_20 ?_
    refine V_iload_n X 3 rfl dX1_changeSetting_21 ?_
    obtain ⟨c6, e_c6, hf8⟩ := obd hf6
    refine V_callVv X (SR_1 hE).1 rfl rfl (f5_lay_ok (SR_1 hE) e_c6) ys_X5_lay yw_X5_lay ml_X1_25 rfl rfl ⟨Nat.le_of_ble_eq_true rfl, Nat.le_of_ble_eq_true rfl⟩ ⟨Nat.zero_le _, Nat.zero_le _⟩ (Nat.le_of_ble_eq_true rfl) dX1_changeSetting_22 ?_
    refine V_iload_n X 0 rfl dX1_changeSetting_25 ?_
    exact V_iret X rfl hf8 dX1_changeSetting_26
  · have hf4 := ift hf3 q5
    refine V_bipush X (v := -2) (by decide) dX1_changeSetting_8 ?_
    exact V_iret X rfl hf4 dX1_changeSetting_10
def f1_changeSetting (x1 : Int32) (x2 : Int32) (h : Hp) : Re := f1_changeSetting_e x1 x2 h
theorem f1_changeSetting_ok (hE : IW E) {x1 : Int32} {x2 : Int32} {h : Hp} {q : Int32 × Hp} (hf0 : f1_changeSetting x1 x2 h = some q) : SMi l E 2 yX1_changeSetting cX1_changeSetting 4 (some .int) [.ref (eA E 1), .int x1, .int x2] h q.1 q.2 :=
  SMi.of (by decide +kernel) (Nat.le_of_ble_eq_true rfl) (fun p e s m args below meth c A X => f1_changeSetting_e_ok hE X (r := q.1) (h' := q.2) hf0)
def f7_isRing_e (x0 : Int32) (h : Hp) : Re :=
  if x0 < 0 then (rz 0 h) else (if 5 ≤ x0 then (rz 0 h) else (rz 1 h))
set_option maxRecDepth 20000 in
set_option maxHeartbeats 4000000 in
theorem f7_isRing_e_ok (X : XC E RX7 cX7_isRing 1 (some .boolean) A p s m args meth c) {x0 : Int32} {h : Hp} (hf0 : f7_isRing_e x0 h = some (r, h')) : VM E 1 A p l e 0 s m args below meth c (Qi E A r h') 0 [(0, .int x0)] [] h := by
  unfold f7_isRing_e at hf0
  have hf1 := hf0
  refine V_iload_n X 0 rfl dX7_isRing_0 ?_
  refine V_if_lt X (tgt := 13) (by decide) dX7_isRing_1 (fun q1 => ?_) (fun q1 => ?_)
  · have hf2 := ift hf1 q1
    refine V_iconst X (v := 0) (by decide) dX7_isRing_13 ?_
    exact V_zret X rfl hf2 dX7_isRing_14
  · have hf2 := ife hf1 q1
    refine V_iload_n X 0 rfl dX7_isRing_4 ?_
    refine V_iconst X (v := 5) (by decide) dX7_isRing_5 ?_
    refine V_icmp_ge X (tgt := 13) (by decide) dX7_isRing_6 (fun q6 => ?_) (fun q6 => ?_)
    · have hf3 := ift hf2 q6
      refine V_iconst X (v := 0) (by decide) dX7_isRing_13 ?_
      exact V_zret X rfl hf3 dX7_isRing_14
    · have hf3 := ife hf2 q6
      refine V_iconst X (v := 1) (by decide) dX7_isRing_9 ?_
      refine V_goto X (tgt := 14) (by decide) dX7_isRing_10 ?_
      exact V_zret X rfl hf3 dX7_isRing_14
def f7_isRing (x0 : Int32) (h : Hp) : Re := f7_isRing_e x0 h
theorem f7_isRing_ok {x0 : Int32} {h : Hp} {q : Int32 × Hp} (hf0 : f7_isRing x0 h = some q) : SMi l E 0 yX7_isRing cX7_isRing 1 (some .boolean) [.int x0] h q.1 q.2 :=
  SMi.of (by decide +kernel) (Nat.le_of_ble_eq_true rfl) (fun p e s m args below meth c A X => f7_isRing_e_ok X (r := q.1) (h' := q.2) hf0)
def f1_isColourRow_B4 (k4 : Int32 → Int32 → Hp → Re) (x1 : Int32) (x2 : Int32) (h : Hp) : Re :=
  if 8 ≤ x2 then (if x1 = 0 then (rz 1 h) else (rz 0 h)) else (if (x1 &&& 7) ≤ 6 then (k4 (x1 >>> (3 &&& 31)) (x2 + 1) h) else (rz 0 h))
set_option maxRecDepth 20000 in
set_option maxHeartbeats 4000000 in
theorem f1_isColourRow_B4_ok (X : XC E RX1 cX1_isColourRow 3 (some .boolean) A p s m args meth c) {k4 : Int32 → Int32 → Hp → Re} (hk4 : ∀ (x1 : Int32) (x2 : Int32) (h : Hp), k4 x1 x2 h = some (r, h') → VM E 3 A p l e 0 s m args below meth c (Qi E A r h') 4 [(1, .int x1), (2, .int x2)] [] h) {x1 : Int32} {x2 : Int32} {h : Hp} (hf0 : f1_isColourRow_B4 k4 x1 x2 h = some (r, h')) : VM E 3 A p l e 0 s m args below meth c (Qi E A r h') 4 [(1, .int x1), (2, .int x2)] [] h := by
  unfold f1_isColourRow_B4 at hf0
  have hf1 := hf0
  refine V_iload_n X 1 rfl dX1_isColourRow_4 ?_
  refine V_bipush X (v := 8) (by decide) dX1_isColourRow_5 ?_
  refine V_icmp_ge X (tgt := 31) (by decide) dX1_isColourRow_7 (fun q7 => ?_) (fun q7 => ?_)
  · have hf2 := ift hf1 q7
    refine V_iload_n X 0 rfl dX1_isColourRow_31 ?_
    refine V_if_ne X (tgt := 39) (by decide) dX1_isColourRow_32 (fun q32 => ?_) (fun q32 => ?_)
    · have hf3 := ife hf2 q32
      refine V_iconst X (v := 0) (by decide) dX1_isColourRow_39 ?_
      exact V_zret X rfl hf3 dX1_isColourRow_40
    · have hf3 := ift hf2 q32
      refine V_iconst X (v := 1) (by decide) dX1_isColourRow_35 ?_
      refine V_goto X (tgt := 40) (by decide) dX1_isColourRow_36 ?_
      exact V_zret X rfl hf3 dX1_isColourRow_40
  · have hf2 := ife hf1 q7
    refine V_iload_n X 0 rfl dX1_isColourRow_10 ?_
    refine V_bipush X (v := 7) (by decide) dX1_isColourRow_11 ?_
    refine V_iand X dX1_isColourRow_13 ?_
    refine V_bipush X (v := 6) (by decide) dX1_isColourRow_14 ?_
    refine V_icmp_le X (tgt := 21) (by decide) dX1_isColourRow_16 (fun q16 => ?_) (fun q16 => ?_)
    · have hf4 := ift hf2 q16
      refine V_iload_n X 0 rfl dX1_isColourRow_21 ?_
      refine V_iconst X (v := 3) (by decide) dX1_isColourRow_22 ?_
      refine V_ishr X dX1_isColourRow_23 ?_
      refine V_istore_n X (by decide) rfl dX1_isColourRow_24 ?_
      refine V_iinc X (v := _ + 1) 1 rfl (by rfl) (by decide) rfl dX1_isColourRow_25 ?_
      refine V_goto X (tgt := 4) (by decide) dX1_isColourRow_28 ?_
      exact V_sub [1, 0] rfl (hk4 _ _ _ hf4)
    · have hf4 := ife hf2 q16
      refine V_iconst X (v := 0) (by decide) dX1_isColourRow_19 ?_
      exact V_zret X rfl hf4 dX1_isColourRow_20
def f1_isColourRow_L4 : Nat → Int32 → Int32 → Hp → Re
  | 0 => fun _ _ _ => none
  | n + 1 => f1_isColourRow_B4 (f1_isColourRow_L4 n)
theorem f1_isColourRow_L4_s (n : Nat) (x1 : Int32) (x2 : Int32) (h : Hp) : f1_isColourRow_L4 (n + 1) x1 x2 h = f1_isColourRow_B4 (f1_isColourRow_L4 n) x1 x2 h := rfl
theorem f1_isColourRow_L4_ok (X : XC E RX1 cX1_isColourRow 3 (some .boolean) A p s m args meth c) : ∀ (n : Nat) (x1 : Int32) (x2 : Int32) (h : Hp), f1_isColourRow_L4 n x1 x2 h = some (r, h') → VM E 3 A p l e 0 s m args below meth c (Qi E A r h') 4 [(1, .int x1), (2, .int x2)] [] h := by
  intro n
  induction n with
  | zero =>
    intro x1 x2 h q
    have q : (none : Re) = some (r, h') := q
    cases q
  | succ n ih =>
    intro x1 x2 h q
    exact f1_isColourRow_B4_ok X ih q
def f1_isColourRow_e (x0 : Int32) (h : Hp) : Re :=
  f1_isColourRow_L4 FU x0 0 h
set_option maxRecDepth 20000 in
set_option maxHeartbeats 4000000 in
theorem f1_isColourRow_e_ok (X : XC E RX1 cX1_isColourRow 3 (some .boolean) A p s m args meth c) {x0 : Int32} {h : Hp} (hf0 : f1_isColourRow_e x0 h = some (r, h')) : VM E 3 A p l e 0 s m args below meth c (Qi E A r h') 0 [(0, .int x0)] [] h := by
  unfold f1_isColourRow_e at hf0
  have hf1 := hf0
  refine V_iload_n X 0 rfl dX1_isColourRow_0 ?_
  refine V_istore_n X (by decide) rfl dX1_isColourRow_1 ?_
  refine V_iconst X (v := 0) (by decide) dX1_isColourRow_2 ?_
  refine V_istore_n X (by decide) rfl dX1_isColourRow_3 ?_
  exact V_sub [1, 0] rfl (f1_isColourRow_L4_ok X FU _ _ _ hf1)
def f1_isColourRow (x0 : Int32) (h : Hp) : Re := f1_isColourRow_e x0 h
theorem f1_isColourRow_ok {x0 : Int32} {h : Hp} {q : Int32 × Hp} (hf0 : f1_isColourRow x0 h = some q) : SMi l E 0 yX1_isColourRow cX1_isColourRow 3 (some .boolean) [.int x0] h q.1 q.2 :=
  SMi.of (by decide +kernel) (Nat.le_of_ble_eq_true rfl) (fun p e s m args below meth c A X => f1_isColourRow_e_ok X (r := q.1) (h' := q.2) hf0)
def f5_isClosed_e (k : Nat) (x1 : Int32) (h : Hp) : Re :=
  (f5_number k 19 h).bind fun c1 => if c1.1 ≤ x1 then (rz 0 c1.2) else (rz 1 c1.2)
set_option maxRecDepth 20000 in
set_option maxHeartbeats 4000000 in
theorem f5_isClosed_e_ok {k : Nat} (hk : SR E k) (X : XC E RX5 cX5_isClosed 2 (some .boolean) A p s m args meth c) {x1 : Int32} {h : Hp} (hf0 : f5_isClosed_e k x1 h = some (r, h')) : VM E 2 A p l e 1 s m args below meth c (Qi E A r h') 0 [(0, .ref (eA E k)), (1, .int x1)] [] h := by
  unfold f5_isClosed_e at hf0
  have hf1 := hf0
  refine V_iload_n X 1 rfl dX5_isClosed_0 ?_
  refine V_aload_n X 0 rfl dX5_isClosed_1 ?_
  refine V_bipush X (v := 19) (by decide) dX5_isClosed_2 ?_
  obtain ⟨c1, e_c1, hf3⟩ := obd hf1
  refine V_callVi X hk.1 rfl rfl (f5_number_ok hk e_c1) ys_X5_number yw_X5_number ml_X5_22 rfl rfl ⟨Nat.le_of_ble_eq_true rfl, Nat.le_of_ble_eq_true rfl⟩ ⟨Nat.zero_le _, Nat.zero_le _⟩ (Nat.le_of_ble_eq_true rfl) dX5_isClosed_4 ?_
  refine V_icmp_ge X (tgt := 14) (by decide) dX5_isClosed_7 (fun q7 => ?_) (fun q7 => ?_)
  · have hf4 := ift hf3 q7
    refine V_iconst X (v := 0) (by decide) dX5_isClosed_14 ?_
    exact V_zret X rfl hf4 dX5_isClosed_15
  · have hf4 := ife hf3 q7
    refine V_iconst X (v := 1) (by decide) dX5_isClosed_10 ?_
    refine V_goto X (tgt := 15) (by decide) dX5_isClosed_11 ?_
    exact V_zret X rfl hf4 dX5_isClosed_15
def f5_isClosed (k : Nat) (x1 : Int32) (h : Hp) : Re := f5_isClosed_e k x1 h
theorem f5_isClosed_ok {k : Nat} (hk : SR E k) {x1 : Int32} {h : Hp} {q : Int32 × Hp} (hf0 : f5_isClosed k x1 h = some q) : SMi l E 1 yX5_isClosed cX5_isClosed 2 (some .boolean) [.ref (eA E k), .int x1] h q.1 q.2 :=
  SMi.of (by decide +kernel) (Nat.le_of_ble_eq_true rfl) (fun p e s m args below meth c A X => f5_isClosed_e_ok hk X (r := q.1) (h' := q.2) hf0)
def f5_hasPattern_e (k : Nat) (x1 : Int32) (h : Hp) : Re :=
  (f5_number k (3 + x1) h).bind fun c1 => if c1.1 = (-1) then (rz 0 c1.2) else (rz 1 c1.2)
set_option maxRecDepth 20000 in
set_option maxHeartbeats 4000000 in
theorem f5_hasPattern_e_ok {k : Nat} (hk : SR E k) (X : XC E RX5 cX5_hasPattern 2 (some .boolean) A p s m args meth c) {x1 : Int32} {h : Hp} (hf0 : f5_hasPattern_e k x1 h = some (r, h')) : VM E 2 A p l e 1 s m args below meth c (Qi E A r h') 0 [(0, .ref (eA E k)), (1, .int x1)] [] h := by
  unfold f5_hasPattern_e at hf0
  have hf1 := hf0
  refine V_aload_n X 0 rfl dX5_hasPattern_0 ?_
  refine V_iconst X (v := 3) (by decide) dX5_hasPattern_1 ?_
  refine V_iload_n X 1 rfl dX5_hasPattern_2 ?_
  refine V_iadd X dX5_hasPattern_3 ?_
  obtain ⟨c1, e_c1, hf3⟩ := obd hf1
  refine V_callVi X hk.1 rfl rfl (f5_number_ok hk e_c1) ys_X5_number yw_X5_number ml_X5_22 rfl rfl ⟨Nat.le_of_ble_eq_true rfl, Nat.le_of_ble_eq_true rfl⟩ ⟨Nat.zero_le _, Nat.zero_le _⟩ (Nat.le_of_ble_eq_true rfl) dX5_hasPattern_4 ?_
  refine V_iconst X (v := -1) (by decide) dX5_hasPattern_7 ?_
  refine V_icmp_eq X (tgt := 15) (by decide) dX5_hasPattern_8 (fun q8 => ?_) (fun q8 => ?_)
  · have hf4 := ift hf3 q8
    refine V_iconst X (v := 0) (by decide) dX5_hasPattern_15 ?_
    exact V_zret X rfl hf4 dX5_hasPattern_16
  · have hf4 := ife hf3 q8
    refine V_iconst X (v := 1) (by decide) dX5_hasPattern_11 ?_
    refine V_goto X (tgt := 16) (by decide) dX5_hasPattern_12 ?_
    exact V_zret X rfl hf4 dX5_hasPattern_16
def f5_hasPattern (k : Nat) (x1 : Int32) (h : Hp) : Re := f5_hasPattern_e k x1 h
theorem f5_hasPattern_ok {k : Nat} (hk : SR E k) {x1 : Int32} {h : Hp} {q : Int32 × Hp} (hf0 : f5_hasPattern k x1 h = some q) : SMi l E 1 yX5_hasPattern cX5_hasPattern 2 (some .boolean) [.ref (eA E k), .int x1] h q.1 q.2 :=
  SMi.of (by decide +kernel) (Nat.le_of_ble_eq_true rfl) (fun p e s m args below meth c A X => f5_hasPattern_e_ok hk X (r := q.1) (h' := q.2) hf0)
def f7_bit_e (x0 : Int32) (h : Hp) : Re :=
  if x0 = 0 then (some (0, h)) else (some (1, h))
set_option maxRecDepth 20000 in
set_option maxHeartbeats 4000000 in
theorem f7_bit_e_ok (X : XC E RX7 cX7_bit 1 (some .int) A p s m args meth c) {x0 : Int32} {h : Hp} (hf0 : f7_bit_e x0 h = some (r, h')) : VM E 1 A p l e 0 s m args below meth c (Qi E A r h') 0 [(0, .int x0)] [] h := by
  unfold f7_bit_e at hf0
  have hf1 := hf0
  refine V_iload_n X 0 rfl dX7_bit_0 ?_
  refine V_if_eq X (tgt := 8) (by decide) dX7_bit_1 (fun q1 => ?_) (fun q1 => ?_)
  · have hf2 := ift hf1 q1
    refine V_iconst X (v := 0) (by decide) dX7_bit_8 ?_
    exact V_iret X rfl hf2 dX7_bit_9
  · have hf2 := ife hf1 q1
    refine V_iconst X (v := 1) (by decide) dX7_bit_4 ?_
    refine V_goto X (tgt := 9) (by decide) dX7_bit_5 ?_
    exact V_iret X rfl hf2 dX7_bit_9
def f7_bit (x0 : Int32) (h : Hp) : Re := f7_bit_e x0 h
theorem f7_bit_ok {x0 : Int32} {h : Hp} {q : Int32 × Hp} (hf0 : f7_bit x0 h = some q) : SMi l E 0 yX7_bit cX7_bit 1 (some .int) [.int x0] h q.1 q.2 :=
  SMi.of (by decide +kernel) (Nat.le_of_ble_eq_true rfl) (fun p e s m args below meth c A X => f7_bit_e_ok X (r := q.1) (h' := q.2) hf0)
def f1_layPattern_e (x1 : Int32) (x2 : Int32) (h : Hp) : Re :=
  (f7_isRing x1 h).bind fun c1 => if c1.1 = 0 then (some ((-1), c1.2)) else ((f1_isColourRow x2 c1.2).bind fun c4 => if c4.1 = 0 then (some ((-2), c4.2)) else ((f5_isClosed 1 x1 c4.2).bind fun c7 => if c7.1 = 0 then ((f5_hasPattern 1 x1 c7.2).bind fun c10 => (f7_bit c10.1 c10.2).bind fun c12 => (f5_lay 1 (3 + x1) x2 c12.2).bind fun c14 => some (c12.1, c14.2)) else (some ((-5), c7.2))))
set_option maxRecDepth 20000 in
set_option maxHeartbeats 4000000 in
theorem f1_layPattern_e_ok (hE : IW E) (X : XC E RX1 cX1_layPattern 4 (some .int) A p s m args meth c) {x1 : Int32} {x2 : Int32} {h : Hp} (hf0 : f1_layPattern_e x1 x2 h = some (r, h')) : VM E 4 A p l e 2 s m args below meth c (Qi E A r h') 0 [(0, .ref (eA E 1)), (1, .int x1), (2, .int x2)] [] h := by
  unfold f1_layPattern_e at hf0
  have hf1 := hf0
  refine V_iload_n X 1 rfl dX1_layPattern_0 ?_
  obtain ⟨c1, e_c1, hf3⟩ := obd hf1
  refine V_callSNi X (f7_isRing_ok e_c1) ys_X7_isRing yw_X7_isRing nl_X1_29 rfl rfl ⟨Nat.le_of_ble_eq_true rfl, Nat.le_of_ble_eq_true rfl⟩ ⟨Nat.zero_le _, Nat.zero_le _⟩ (Nat.le_of_ble_eq_true rfl) dX1_layPattern_1 ?_
  refine V_if_ne X (tgt := 9) (by decide) dX1_layPattern_4 (fun q4 => ?_) (fun q4 => ?_)
  · have hf4 := ife hf3 q4
    refine V_iload_n X 2 rfl dX1_layPattern_9 ?_
    obtain ⟨c4, e_c4, hf6⟩ := obd hf4
    refine V_callSi X (f1_isColourRow_ok e_c4) ys_X1_isColourRow yw_X1_isColourRow ml_X1_33 rfl rfl ⟨Nat.le_of_ble_eq_true rfl, Nat.le_of_ble_eq_true rfl⟩ ⟨Nat.zero_le _, Nat.zero_le _⟩ (Nat.le_of_ble_eq_true rfl) dX1_layPattern_10 ?_
    refine V_if_ne X (tgt := 19) (by decide) dX1_layPattern_13 (fun q13 => ?_) (fun q13 => ?_)
    · have hf7 := ife hf6 q13
      refine V_aload_n X 0 rfl dX1_layPattern_19 ?_
      refine V_iload_n X 1 rfl dX1_layPattern_20 ?_
      obtain ⟨c7, e_c7, hf9⟩ := obd hf7
      refine V_callVi X (SR_1 hE).1 rfl rfl (f5_isClosed_ok (SR_1 hE) e_c7) ys_X5_isClosed yw_X5_isClosed ml_X1_36 rfl rfl ⟨Nat.le_of_ble_eq_true rfl, Nat.le_of_ble_eq_true rfl⟩ ⟨Nat.zero_le _, Nat.zero_le _⟩ (Nat.le_of_ble_eq_true rfl) dX1_layPattern_21 ?_
      refine V_if_eq X (tgt := 30) (by decide) dX1_layPattern_24 (fun q24 => ?_) (fun q24 => ?_)
      · have hf10 := ift hf9 q24
        refine V_aload_n X 0 rfl dX1_layPattern_30 ?_
        refine V_iload_n X 1 rfl dX1_layPattern_31 ?_
        obtain ⟨c10, e_c10, hf12⟩ := obd hf10
        refine V_callVi X (SR_1 hE).1 rfl rfl (f5_hasPattern_ok (SR_1 hE) e_c10) ys_X5_hasPattern yw_X5_hasPattern ml_X1_39 rfl rfl ⟨Nat.le_of_ble_eq_true rfl, Nat.le_of_ble_eq_true rfl⟩ ⟨Nat.zero_le _, Nat.zero_le _⟩ (Nat.le_of_ble_eq_true rfl) dX1_layPattern_32 ?_
        obtain ⟨c12, e_c12, hf14⟩ := obd hf12
        refine V_callSNi X (f7_bit_ok e_c12) ys_X7_bit yw_X7_bit nl_X1_42 rfl rfl ⟨Nat.le_of_ble_eq_true rfl, Nat.le_of_ble_eq_true rfl⟩ ⟨Nat.zero_le _, Nat.zero_le _⟩ (Nat.le_of_ble_eq_true rfl) dX1_layPattern_35 ?_
        refine V_istore_n X (by decide) rfl dX1_layPattern_38 ?_
        refine V_aload_n X 1 rfl dX1_layPattern_39 ?_
        refine V_iconst X (v := 3) (by decide) dX1_layPattern_40 ?_
        refine V_iload_n X 2 rfl dX1_layPattern_41 ?_
        refine V_iadd X dX1_layPattern_42 ?_
        refine V_iload_n X 3 rfl dX1_layPattern_43 ?_
        obtain ⟨c14, e_c14, hf16⟩ := obd hf14
        refine V_callVv X (SR_1 hE).1 rfl rfl (f5_lay_ok (SR_1 hE) e_c14) ys_X5_lay yw_X5_lay ml_X1_25 rfl rfl ⟨Nat.le_of_ble_eq_true rfl, Nat.le_of_ble_eq_true rfl⟩ ⟨Nat.zero_le _, Nat.zero_le _⟩ (Nat.le_of_ble_eq_true rfl) dX1_layPattern_44 ?_
        refine V_iload_n X 0 rfl dX1_layPattern_47 ?_
        exact V_iret X rfl hf16 dX1_layPattern_48
      · have hf10 := ife hf9 q24
        refine V_bipush X (v := -5) (by decide) dX1_layPattern_27 ?_
        exact V_iret X rfl hf10 dX1_layPattern_29
    · have hf7 := ift hf6 q13
      refine V_bipush X (v := -2) (by decide) dX1_layPattern_16 ?_
      exact V_iret X rfl hf7 dX1_layPattern_18
  · have hf4 := ift hf3 q4
    refine V_iconst X (v := -1) (by decide) dX1_layPattern_7 ?_
    exact V_iret X rfl hf4 dX1_layPattern_8
def f1_layPattern (x1 : Int32) (x2 : Int32) (h : Hp) : Re := f1_layPattern_e x1 x2 h
theorem f1_layPattern_ok (hE : IW E) {x1 : Int32} {x2 : Int32} {h : Hp} {q : Int32 × Hp} (hf0 : f1_layPattern x1 x2 h = some q) : SMi l E 2 yX1_layPattern cX1_layPattern 4 (some .int) [.ref (eA E 1), .int x1, .int x2] h q.1 q.2 :=
  SMi.of (by decide +kernel) (Nat.le_of_ble_eq_true rfl) (fun p e s m args below meth c A X => f1_layPattern_e_ok hE X (r := q.1) (h' := q.2) hf0)
def f7_isQuarter_e (x0 : Int32) (h : Hp) : Re :=
  if x0 < 0 then (rz 0 h) else (if 4 ≤ x0 then (rz 0 h) else (rz 1 h))
set_option maxRecDepth 20000 in
set_option maxHeartbeats 4000000 in
theorem f7_isQuarter_e_ok (X : XC E RX7 cX7_isQuarter 1 (some .boolean) A p s m args meth c) {x0 : Int32} {h : Hp} (hf0 : f7_isQuarter_e x0 h = some (r, h')) : VM E 1 A p l e 0 s m args below meth c (Qi E A r h') 0 [(0, .int x0)] [] h := by
  unfold f7_isQuarter_e at hf0
  have hf1 := hf0
  refine V_iload_n X 0 rfl dX7_isQuarter_0 ?_
  refine V_if_lt X (tgt := 13) (by decide) dX7_isQuarter_1 (fun q1 => ?_) (fun q1 => ?_)
  · have hf2 := ift hf1 q1
    refine V_iconst X (v := 0) (by decide) dX7_isQuarter_13 ?_
    exact V_zret X rfl hf2 dX7_isQuarter_14
  · have hf2 := ife hf1 q1
    refine V_iload_n X 0 rfl dX7_isQuarter_4 ?_
    refine V_iconst X (v := 4) (by decide) dX7_isQuarter_5 ?_
    refine V_icmp_ge X (tgt := 13) (by decide) dX7_isQuarter_6 (fun q6 => ?_) (fun q6 => ?_)
    · have hf3 := ift hf2 q6
      refine V_iconst X (v := 0) (by decide) dX7_isQuarter_13 ?_
      exact V_zret X rfl hf3 dX7_isQuarter_14
    · have hf3 := ife hf2 q6
      refine V_iconst X (v := 1) (by decide) dX7_isQuarter_9 ?_
      refine V_goto X (tgt := 14) (by decide) dX7_isQuarter_10 ?_
      exact V_zret X rfl hf3 dX7_isQuarter_14
def f7_isQuarter (x0 : Int32) (h : Hp) : Re := f7_isQuarter_e x0 h
theorem f7_isQuarter_ok {x0 : Int32} {h : Hp} {q : Int32 × Hp} (hf0 : f7_isQuarter x0 h = some q) : SMi l E 0 yX7_isQuarter cX7_isQuarter 1 (some .boolean) [.int x0] h q.1 q.2 :=
  SMi.of (by decide +kernel) (Nat.le_of_ble_eq_true rfl) (fun p e s m args below meth c A X => f7_isQuarter_e_ok X (r := q.1) (h' := q.2) hf0)
def f7_isColour_e (x0 : Int32) (h : Hp) : Re :=
  if x0 < 1 then (rz 0 h) else (if 6 < x0 then (rz 0 h) else (rz 1 h))
set_option maxRecDepth 20000 in
set_option maxHeartbeats 4000000 in
theorem f7_isColour_e_ok (X : XC E RX7 cX7_isColour 1 (some .boolean) A p s m args meth c) {x0 : Int32} {h : Hp} (hf0 : f7_isColour_e x0 h = some (r, h')) : VM E 1 A p l e 0 s m args below meth c (Qi E A r h') 0 [(0, .int x0)] [] h := by
  unfold f7_isColour_e at hf0
  have hf1 := hf0
  refine V_iload_n X 0 rfl dX7_isColour_0 ?_
  refine V_iconst X (v := 1) (by decide) dX7_isColour_1 ?_
  refine V_icmp_lt X (tgt := 15) (by decide) dX7_isColour_2 (fun q2 => ?_) (fun q2 => ?_)
  · have hf2 := ift hf1 q2
    refine V_iconst X (v := 0) (by decide) dX7_isColour_15 ?_
    exact V_zret X rfl hf2 dX7_isColour_16
  · have hf2 := ife hf1 q2
    refine V_iload_n X 0 rfl dX7_isColour_5 ?_
    refine V_bipush X (v := 6) (by decide) dX7_isColour_6 ?_
    refine V_icmp_gt X (tgt := 15) (by decide) dX7_isColour_8 (fun q8 => ?_) (fun q8 => ?_)
    · have hf3 := ift hf2 q8
      refine V_iconst X (v := 0) (by decide) dX7_isColour_15 ?_
      exact V_zret X rfl hf3 dX7_isColour_16
    · have hf3 := ife hf2 q8
      refine V_iconst X (v := 1) (by decide) dX7_isColour_11 ?_
      refine V_goto X (tgt := 16) (by decide) dX7_isColour_12 ?_
      exact V_zret X rfl hf3 dX7_isColour_16
def f7_isColour (x0 : Int32) (h : Hp) : Re := f7_isColour_e x0 h
theorem f7_isColour_ok {x0 : Int32} {h : Hp} {q : Int32 × Hp} (hf0 : f7_isColour x0 h = some q) : SMi l E 0 yX7_isColour cX7_isColour 1 (some .boolean) [.int x0] h q.1 q.2 :=
  SMi.of (by decide +kernel) (Nat.le_of_ble_eq_true rfl) (fun p e s m args below meth c A X => f7_isColour_e_ok X (r := q.1) (h' := q.2) hf0)
def f5_heldBy_e (k : Nat) (x1 : Int32) (h : Hp) : Re :=
  (f5_number k (15 + x1) h).bind fun c1 => some (c1.1, c1.2)
set_option maxRecDepth 20000 in
set_option maxHeartbeats 4000000 in
theorem f5_heldBy_e_ok {k : Nat} (hk : SR E k) (X : XC E RX5 cX5_heldBy 2 (some .int) A p s m args meth c) {x1 : Int32} {h : Hp} (hf0 : f5_heldBy_e k x1 h = some (r, h')) : VM E 2 A p l e 1 s m args below meth c (Qi E A r h') 0 [(0, .ref (eA E k)), (1, .int x1)] [] h := by
  unfold f5_heldBy_e at hf0
  have hf1 := hf0
  refine V_aload_n X 0 rfl dX5_heldBy_0 ?_
  refine V_bipush X (v := 15) (by decide) dX5_heldBy_1 ?_
  refine V_iload_n X 1 rfl dX5_heldBy_3 ?_
  refine V_iadd X dX5_heldBy_4 ?_
  obtain ⟨c1, e_c1, hf3⟩ := obd hf1
  refine V_callVi X hk.1 rfl rfl (f5_number_ok hk e_c1) ys_X5_number yw_X5_number ml_X5_22 rfl rfl ⟨Nat.le_of_ble_eq_true rfl, Nat.le_of_ble_eq_true rfl⟩ ⟨Nat.zero_le _, Nat.zero_le _⟩ (Nat.le_of_ble_eq_true rfl) dX5_heldBy_5 ?_
  exact V_iret X rfl hf3 dX5_heldBy_8
def f5_heldBy (k : Nat) (x1 : Int32) (h : Hp) : Re := f5_heldBy_e k x1 h
theorem f5_heldBy_ok {k : Nat} (hk : SR E k) {x1 : Int32} {h : Hp} {q : Int32 × Hp} (hf0 : f5_heldBy k x1 h = some q) : SMi l E 1 yX5_heldBy cX5_heldBy 2 (some .int) [.ref (eA E k), .int x1] h q.1 q.2 :=
  SMi.of (by decide +kernel) (Nat.le_of_ble_eq_true rfl) (fun p e s m args below meth c A X => f5_heldBy_e_ok hk X (r := q.1) (h' := q.2) hf0)
def f5_holderOf_B2 (k : Nat) (k2 : Int32 → Int32 → Hp → Re) (x1 : Int32) (x2 : Int32) (h : Hp) : Re :=
  if 4 ≤ x2 then (some ((-6), h)) else ((f5_heldBy k x2 h).bind fun c2 => if c2.1 = x1 then (some (x2, c2.2)) else (k2 x1 (x2 + 1) c2.2))
set_option maxRecDepth 20000 in
set_option maxHeartbeats 4000000 in
theorem f5_holderOf_B2_ok {k : Nat} (hk : SR E k) (X : XC E RX5 cX5_holderOf 3 (some .int) A p s m args meth c) {k2 : Int32 → Int32 → Hp → Re} (hk2 : ∀ (x1 : Int32) (x2 : Int32) (h : Hp), k2 x1 x2 h = some (r, h') → VM E 3 A p l e 2 s m args below meth c (Qi E A r h') 2 [(0, .ref (eA E k)), (1, .int x1), (2, .int x2)] [] h) {x1 : Int32} {x2 : Int32} {h : Hp} (hf0 : f5_holderOf_B2 k k2 x1 x2 h = some (r, h')) : VM E 3 A p l e 2 s m args below meth c (Qi E A r h') 2 [(0, .ref (eA E k)), (1, .int x1), (2, .int x2)] [] h := by
  unfold f5_holderOf_B2 at hf0
  have hf1 := hf0
  refine V_iload_n X 2 rfl dX5_holderOf_2 ?_
  refine V_iconst X (v := 4) (by decide) dX5_holderOf_3 ?_
  refine V_icmp_ge X (tgt := 24) (by decide) dX5_holderOf_4 (fun q4 => ?_) (fun q4 => ?_)
  · have hf2 := ift hf1 q4
    refine V_bipush X (v := -6) (by decide) dX5_holderOf_24 ?_
    exact V_iret X rfl hf2 dX5_holderOf_26
  · have hf2 := ife hf1 q4
    refine V_aload_n X 0 rfl dX5_holderOf_7 ?_
    refine V_iload_n X 2 rfl dX5_holderOf_8 ?_
    obtain ⟨c2, e_c2, hf4⟩ := obd hf2
    refine V_callVi X hk.1 rfl rfl (f5_heldBy_ok hk e_c2) ys_X5_heldBy yw_X5_heldBy ml_X5_32 rfl rfl ⟨Nat.le_of_ble_eq_true rfl, Nat.le_of_ble_eq_true rfl⟩ ⟨Nat.zero_le _, Nat.zero_le _⟩ (Nat.le_of_ble_eq_true rfl) dX5_holderOf_9 ?_
    refine V_iload_n X 1 rfl dX5_holderOf_12 ?_
    refine V_icmp_ne X (tgt := 18) (by decide) dX5_holderOf_13 (fun q13 => ?_) (fun q13 => ?_)
    · have hf5 := ife hf4 q13
      refine V_iinc X (v := _ + 1) 2 rfl (by rfl) (by decide) rfl dX5_holderOf_18 ?_
      refine V_goto X (tgt := 2) (by decide) dX5_holderOf_21 ?_
      exact V_sub [1, 2, 0] rfl (hk2 _ _ _ hf5)
    · have hf5 := ift hf4 q13
      refine V_iload_n X 2 rfl dX5_holderOf_16 ?_
      exact V_iret X rfl hf5 dX5_holderOf_17
def f5_holderOf_L2 (k : Nat) : Nat → Int32 → Int32 → Hp → Re
  | 0 => fun _ _ _ => none
  | n + 1 => f5_holderOf_B2 k (f5_holderOf_L2 k n)
theorem f5_holderOf_L2_s (k : Nat) (n : Nat) (x1 : Int32) (x2 : Int32) (h : Hp) : f5_holderOf_L2 k (n + 1) x1 x2 h = f5_holderOf_B2 k (f5_holderOf_L2 k n) x1 x2 h := rfl
theorem f5_holderOf_L2_ok {k : Nat} (hk : SR E k) (X : XC E RX5 cX5_holderOf 3 (some .int) A p s m args meth c) : ∀ (n : Nat) (x1 : Int32) (x2 : Int32) (h : Hp), f5_holderOf_L2 k n x1 x2 h = some (r, h') → VM E 3 A p l e 2 s m args below meth c (Qi E A r h') 2 [(0, .ref (eA E k)), (1, .int x1), (2, .int x2)] [] h := by
  intro n
  induction n with
  | zero =>
    intro x1 x2 h q
    have q : (none : Re) = some (r, h') := q
    cases q
  | succ n ih =>
    intro x1 x2 h q
    exact f5_holderOf_B2_ok hk X ih q
def f5_holderOf_e (k : Nat) (x1 : Int32) (h : Hp) : Re :=
  f5_holderOf_L2 k FU x1 0 h
set_option maxRecDepth 20000 in
set_option maxHeartbeats 4000000 in
theorem f5_holderOf_e_ok {k : Nat} (hk : SR E k) (X : XC E RX5 cX5_holderOf 3 (some .int) A p s m args meth c) {x1 : Int32} {h : Hp} (hf0 : f5_holderOf_e k x1 h = some (r, h')) : VM E 3 A p l e 2 s m args below meth c (Qi E A r h') 0 [(0, .ref (eA E k)), (1, .int x1)] [] h := by
  unfold f5_holderOf_e at hf0
  have hf1 := hf0
  refine V_iconst X (v := 0) (by decide) dX5_holderOf_0 ?_
  refine V_istore_n X (by decide) rfl dX5_holderOf_1 ?_
  exact V_sub [1, 2, 0] rfl (f5_holderOf_L2_ok hk X FU _ _ _ hf1)
def f5_holderOf (k : Nat) (x1 : Int32) (h : Hp) : Re := f5_holderOf_e k x1 h
theorem f5_holderOf_ok {k : Nat} (hk : SR E k) {x1 : Int32} {h : Hp} {q : Int32 × Hp} (hf0 : f5_holderOf k x1 h = some q) : SMi l E 2 yX5_holderOf cX5_holderOf 3 (some .int) [.ref (eA E k), .int x1] h q.1 q.2 :=
  SMi.of (by decide +kernel) (Nat.le_of_ble_eq_true rfl) (fun p e s m args below meth c A X => f5_holderOf_e_ok hk X (r := q.1) (h' := q.2) hf0)
def f1_takeFunnel_j52 (x1 : Int32) (x2 : Int32) (h : Hp) : Re :=
  (f5_heldBy 1 x1 h).bind fun c1 => (f5_lay 1 (15 + x1) x2 c1.2).bind fun c3 => some (c1.1, c3.2)
set_option maxRecDepth 20000 in
set_option maxHeartbeats 4000000 in
theorem f1_takeFunnel_j52_ok (hE : IW E) (X : XC E RX1 cX1_takeFunnel 5 (some .int) A p s m args meth c) {x1 : Int32} {x2 : Int32} {h : Hp} (hf0 : f1_takeFunnel_j52 x1 x2 h = some (r, h')) : VM E 5 A p l e 3 s m args below meth c (Qi E A r h') 52 [(0, .ref (eA E 1)), (1, .int x1), (2, .int x2)] [] h := by
  unfold f1_takeFunnel_j52 at hf0
  have hf1 := hf0
  refine V_aload_n X 0 rfl dX1_takeFunnel_52 ?_
  refine V_iload_n X 1 rfl dX1_takeFunnel_53 ?_
  obtain ⟨c1, e_c1, hf3⟩ := obd hf1
  refine V_callVi X (SR_1 hE).1 rfl rfl (f5_heldBy_ok (SR_1 hE) e_c1) ys_X5_heldBy yw_X5_heldBy ml_X1_55 rfl rfl ⟨Nat.le_of_ble_eq_true rfl, Nat.le_of_ble_eq_true rfl⟩ ⟨Nat.zero_le _, Nat.zero_le _⟩ (Nat.le_of_ble_eq_true rfl) dX1_takeFunnel_54 ?_
  refine V_istore X (by decide) rfl dX1_takeFunnel_57 ?_
  refine V_aload_n X 1 rfl dX1_takeFunnel_59 ?_
  refine V_bipush X (v := 15) (by decide) dX1_takeFunnel_60 ?_
  refine V_iload_n X 2 rfl dX1_takeFunnel_62 ?_
  refine V_iadd X dX1_takeFunnel_63 ?_
  refine V_iload_n X 3 rfl dX1_takeFunnel_64 ?_
  obtain ⟨c3, e_c3, hf5⟩ := obd hf3
  refine V_callVv X (SR_1 hE).1 rfl rfl (f5_lay_ok (SR_1 hE) e_c3) ys_X5_lay yw_X5_lay ml_X1_25 rfl rfl ⟨Nat.le_of_ble_eq_true rfl, Nat.le_of_ble_eq_true rfl⟩ ⟨Nat.zero_le _, Nat.zero_le _⟩ (Nat.le_of_ble_eq_true rfl) dX1_takeFunnel_65 ?_
  refine V_iload X 0 rfl dX1_takeFunnel_68 ?_
  exact V_iret X rfl hf5 dX1_takeFunnel_70
def f1_takeFunnel_j37 (x1 : Int32) (x2 : Int32) (y0 : Int32) (h : Hp) : Re :=
  if y0 = (-6) then (f1_takeFunnel_j52 x1 x2 h) else (if y0 = x1 then (f1_takeFunnel_j52 x1 x2 h) else (some ((-5), h)))
set_option maxRecDepth 20000 in
set_option maxHeartbeats 4000000 in
theorem f1_takeFunnel_j37_ok (hE : IW E) (X : XC E RX1 cX1_takeFunnel 5 (some .int) A p s m args meth c) {x1 : Int32} {x2 : Int32} {y0 : Int32} {h : Hp} (hf0 : f1_takeFunnel_j37 x1 x2 y0 h = some (r, h')) : VM E 5 A p l e 3 s m args below meth c (Qi E A r h') 37 [(0, .ref (eA E 1)), (1, .int x1), (2, .int x2)] [.int y0] h := by
  unfold f1_takeFunnel_j37 at hf0
  have hf1 := hf0
  refine V_istore_n X (by decide) rfl dX1_takeFunnel_37 ?_
  refine V_iload_n X 0 rfl dX1_takeFunnel_38 ?_
  refine V_bipush X (v := -6) (by decide) dX1_takeFunnel_39 ?_
  refine V_icmp_eq X (tgt := 52) (by decide) dX1_takeFunnel_41 (fun q41 => ?_) (fun q41 => ?_)
  · have hf2 := ift hf1 q41
    exact V_sub [1, 2, 3] rfl (f1_takeFunnel_j52_ok hE X hf2)
  · have hf2 := ife hf1 q41
    refine V_iload_n X 0 rfl dX1_takeFunnel_44 ?_
    refine V_iload_n X 2 rfl dX1_takeFunnel_45 ?_
    refine V_icmp_eq X (tgt := 52) (by decide) dX1_takeFunnel_46 (fun q46 => ?_) (fun q46 => ?_)
    · have hf3 := ift hf2 q46
      exact V_sub [1, 2, 3] rfl (f1_takeFunnel_j52_ok hE X hf3)
    · have hf3 := ife hf2 q46
      refine V_bipush X (v := -5) (by decide) dX1_takeFunnel_49 ?_
      exact V_iret X rfl hf3 dX1_takeFunnel_51
def f1_takeFunnel_j23 (x1 : Int32) (x2 : Int32) (h : Hp) : Re :=
  if x2 = 0 then (f1_takeFunnel_j37 x1 x2 (-6) h) else ((f5_holderOf 1 x2 h).bind fun c2 => f1_takeFunnel_j37 x1 x2 c2.1 c2.2)
set_option maxRecDepth 20000 in
set_option maxHeartbeats 4000000 in
theorem f1_takeFunnel_j23_ok (hE : IW E) (X : XC E RX1 cX1_takeFunnel 5 (some .int) A p s m args meth c) {x1 : Int32} {x2 : Int32} {h : Hp} (hf0 : f1_takeFunnel_j23 x1 x2 h = some (r, h')) : VM E 5 A p l e 3 s m args below meth c (Qi E A r h') 23 [(0, .ref (eA E 1)), (1, .int x1), (2, .int x2)] [] h := by
  unfold f1_takeFunnel_j23 at hf0
  have hf1 := hf0
  refine V_iload_n X 2 rfl dX1_takeFunnel_23 ?_
  refine V_if_ne X (tgt := 32) (by decide) dX1_takeFunnel_24 (fun q24 => ?_) (fun q24 => ?_)
  · have hf2 := ife hf1 q24
    refine V_aload_n X 0 rfl dX1_takeFunnel_32 ?_
    refine V_iload_n X 2 rfl dX1_takeFunnel_33 ?_
    obtain ⟨c2, e_c2, hf4⟩ := obd hf2
    refine V_callVi X (SR_1 hE).1 rfl rfl (f5_holderOf_ok (SR_1 hE) e_c2) ys_X5_holderOf yw_X5_holderOf ml_X1_52 rfl rfl ⟨Nat.le_of_ble_eq_true rfl, Nat.le_of_ble_eq_true rfl⟩ ⟨Nat.zero_le _, Nat.zero_le _⟩ (Nat.le_of_ble_eq_true rfl) dX1_takeFunnel_34 ?_
    exact V_sub [0, 1, 2] rfl (f1_takeFunnel_j37_ok hE X hf4)
  · have hf2 := ift hf1 q24
    refine V_bipush X (v := -6) (by decide) dX1_takeFunnel_27 ?_
    refine V_goto X (tgt := 37) (by decide) dX1_takeFunnel_29 ?_
    exact V_sub [0, 1, 2] rfl (f1_takeFunnel_j37_ok hE X hf2)
def f1_takeFunnel_e (x1 : Int32) (x2 : Int32) (h : Hp) : Re :=
  (f7_isQuarter x1 h).bind fun c1 => if c1.1 = 0 then (some ((-1), c1.2)) else (if x2 = 0 then (f1_takeFunnel_j23 x1 x2 c1.2) else ((f7_isColour x2 c1.2).bind fun c5 => if c5.1 = 0 then (some ((-2), c5.2)) else (f1_takeFunnel_j23 x1 x2 c5.2)))
set_option maxRecDepth 20000 in
set_option maxHeartbeats 4000000 in
theorem f1_takeFunnel_e_ok (hE : IW E) (X : XC E RX1 cX1_takeFunnel 5 (some .int) A p s m args meth c) {x1 : Int32} {x2 : Int32} {h : Hp} (hf0 : f1_takeFunnel_e x1 x2 h = some (r, h')) : VM E 5 A p l e 3 s m args below meth c (Qi E A r h') 0 [(0, .ref (eA E 1)), (1, .int x1), (2, .int x2)] [] h := by
  unfold f1_takeFunnel_e at hf0
  have hf1 := hf0
  refine V_iload_n X 1 rfl dX1_takeFunnel_0 ?_
  obtain ⟨c1, e_c1, hf3⟩ := obd hf1
  refine V_callSNi X (f7_isQuarter_ok e_c1) ys_X7_isQuarter yw_X7_isQuarter nl_X1_46 rfl rfl ⟨Nat.le_of_ble_eq_true rfl, Nat.le_of_ble_eq_true rfl⟩ ⟨Nat.zero_le _, Nat.zero_le _⟩ (Nat.le_of_ble_eq_true rfl) dX1_takeFunnel_1 ?_
  refine V_if_ne X (tgt := 9) (by decide) dX1_takeFunnel_4 (fun q4 => ?_) (fun q4 => ?_)
  · have hf4 := ife hf3 q4
    refine V_iload_n X 2 rfl dX1_takeFunnel_9 ?_
    refine V_if_eq X (tgt := 23) (by decide) dX1_takeFunnel_10 (fun q10 => ?_) (fun q10 => ?_)
    · have hf5 := ift hf4 q10
      exact V_sub [0, 1, 2] rfl (f1_takeFunnel_j23_ok hE X hf5)
    · have hf5 := ife hf4 q10
      refine V_iload_n X 2 rfl dX1_takeFunnel_13 ?_
      obtain ⟨c5, e_c5, hf7⟩ := obd hf5
      refine V_callSNi X (f7_isColour_ok e_c5) ys_X7_isColour yw_X7_isColour nl_X1_49 rfl rfl ⟨Nat.le_of_ble_eq_true rfl, Nat.le_of_ble_eq_true rfl⟩ ⟨Nat.zero_le _, Nat.zero_le _⟩ (Nat.le_of_ble_eq_true rfl) dX1_takeFunnel_14 ?_
      refine V_if_ne X (tgt := 23) (by decide) dX1_takeFunnel_17 (fun q17 => ?_) (fun q17 => ?_)
      · have hf8 := ife hf7 q17
        exact V_sub [0, 1, 2] rfl (f1_takeFunnel_j23_ok hE X hf8)
      · have hf8 := ift hf7 q17
        refine V_bipush X (v := -2) (by decide) dX1_takeFunnel_20 ?_
        exact V_iret X rfl hf8 dX1_takeFunnel_22
  · have hf4 := ift hf3 q4
    refine V_iconst X (v := -1) (by decide) dX1_takeFunnel_7 ?_
    exact V_iret X rfl hf4 dX1_takeFunnel_8
def f1_takeFunnel (x1 : Int32) (x2 : Int32) (h : Hp) : Re := f1_takeFunnel_e x1 x2 h
theorem f1_takeFunnel_ok (hE : IW E) {x1 : Int32} {x2 : Int32} {h : Hp} {q : Int32 × Hp} (hf0 : f1_takeFunnel x1 x2 h = some q) : SMi l E 3 yX1_takeFunnel cX1_takeFunnel 5 (some .int) [.ref (eA E 1), .int x1, .int x2] h q.1 q.2 :=
  SMi.of (by decide +kernel) (Nat.le_of_ble_eq_true rfl) (fun p e s m args below meth c A X => f1_takeFunnel_e_ok hE X (r := q.1) (h' := q.2) hf0)
def f5_funnel_e (k : Nat) (x1 : Int32) (h : Hp) : Re :=
  (f5_number k (8 + x1) h).bind fun c1 => some (c1.1, c1.2)
set_option maxRecDepth 20000 in
set_option maxHeartbeats 4000000 in
theorem f5_funnel_e_ok {k : Nat} (hk : SR E k) (X : XC E RX5 cX5_funnel 2 (some .int) A p s m args meth c) {x1 : Int32} {h : Hp} (hf0 : f5_funnel_e k x1 h = some (r, h')) : VM E 2 A p l e 1 s m args below meth c (Qi E A r h') 0 [(0, .ref (eA E k)), (1, .int x1)] [] h := by
  unfold f5_funnel_e at hf0
  have hf1 := hf0
  refine V_aload_n X 0 rfl dX5_funnel_0 ?_
  refine V_bipush X (v := 8) (by decide) dX5_funnel_1 ?_
  refine V_iload_n X 1 rfl dX5_funnel_3 ?_
  refine V_iadd X dX5_funnel_4 ?_
  obtain ⟨c1, e_c1, hf3⟩ := obd hf1
  refine V_callVi X hk.1 rfl rfl (f5_number_ok hk e_c1) ys_X5_number yw_X5_number ml_X5_22 rfl rfl ⟨Nat.le_of_ble_eq_true rfl, Nat.le_of_ble_eq_true rfl⟩ ⟨Nat.zero_le _, Nat.zero_le _⟩ (Nat.le_of_ble_eq_true rfl) dX5_funnel_5 ?_
  exact V_iret X rfl hf3 dX5_funnel_8
def f5_funnel (k : Nat) (x1 : Int32) (h : Hp) : Re := f5_funnel_e k x1 h
theorem f5_funnel_ok {k : Nat} (hk : SR E k) {x1 : Int32} {h : Hp} {q : Int32 × Hp} (hf0 : f5_funnel k x1 h = some q) : SMi l E 1 yX5_funnel cX5_funnel 2 (some .int) [.ref (eA E k), .int x1] h q.1 q.2 :=
  SMi.of (by decide +kernel) (Nat.le_of_ble_eq_true rfl) (fun p e s m args below meth c A X => f5_funnel_e_ok hk X (r := q.1) (h' := q.2) hf0)
def f1_fillFunnel_e (x1 : Int32) (x2 : Int32) (h : Hp) : Re :=
  (f7_isColour x1 h).bind fun c1 => if c1.1 = 0 then (some ((-1), c1.2)) else (if x2 < 1 then (some ((-2), c1.2)) else (if x2 ≤ 9999 then ((f5_funnel 1 x1 c1.2).bind fun c6 => (some (if (c6.1 + x2) < 9999 then (c6.1 + x2) else 9999 : Int32)).bind fun z8 => (f5_lay 1 (8 + x1) z8 c6.2).bind fun c10 => some (z8, c10.2)) else (some ((-2), c1.2))))
set_option maxRecDepth 20000 in
set_option maxHeartbeats 4000000 in
theorem f1_fillFunnel_e_ok (hE : IW E) (X : XC E RX1 cX1_fillFunnel 4 (some .int) A p s m args meth c) {x1 : Int32} {x2 : Int32} {h : Hp} (hf0 : f1_fillFunnel_e x1 x2 h = some (r, h')) : VM E 4 A p l e 2 s m args below meth c (Qi E A r h') 0 [(0, .ref (eA E 1)), (1, .int x1), (2, .int x2)] [] h := by
  unfold f1_fillFunnel_e at hf0
  have hf1 := hf0
  refine V_iload_n X 1 rfl dX1_fillFunnel_0 ?_
  obtain ⟨c1, e_c1, hf3⟩ := obd hf1
  refine V_callSNi X (f7_isColour_ok e_c1) ys_X7_isColour yw_X7_isColour nl_X1_49 rfl rfl ⟨Nat.le_of_ble_eq_true rfl, Nat.le_of_ble_eq_true rfl⟩ ⟨Nat.zero_le _, Nat.zero_le _⟩ (Nat.le_of_ble_eq_true rfl) dX1_fillFunnel_1 ?_
  refine V_if_ne X (tgt := 9) (by decide) dX1_fillFunnel_4 (fun q4 => ?_) (fun q4 => ?_)
  · have hf4 := ife hf3 q4
    refine V_iload_n X 2 rfl dX1_fillFunnel_9 ?_
    refine V_iconst X (v := 1) (by decide) dX1_fillFunnel_10 ?_
    refine V_icmp_lt X (tgt := 21) (by decide) dX1_fillFunnel_11 (fun q11 => ?_) (fun q11 => ?_)
    · have hf5 := ift hf4 q11
      refine V_bipush X (v := -2) (by decide) dX1_fillFunnel_21 ?_
      exact V_iret X rfl hf5 dX1_fillFunnel_23
    · have hf5 := ife hf4 q11
      refine V_iload_n X 2 rfl dX1_fillFunnel_14 ?_
      refine V_sipush X (v := 9999) (by decide) dX1_fillFunnel_15 ?_
      refine V_icmp_le X (tgt := 24) (by decide) dX1_fillFunnel_18 (fun q18 => ?_) (fun q18 => ?_)
      · have hf6 := ift hf5 q18
        refine V_sipush X (v := 9999) (by decide) dX1_fillFunnel_24 ?_
        refine V_aload_n X 0 rfl dX1_fillFunnel_27 ?_
        refine V_iload_n X 1 rfl dX1_fillFunnel_28 ?_
        obtain ⟨c6, e_c6, hf8⟩ := obd hf6
        refine V_callVi X (SR_1 hE).1 rfl rfl (f5_funnel_ok (SR_1 hE) e_c6) ys_X5_funnel yw_X5_funnel ml_X1_58 rfl rfl ⟨Nat.le_of_ble_eq_true rfl, Nat.le_of_ble_eq_true rfl⟩ ⟨Nat.zero_le _, Nat.zero_le _⟩ (Nat.le_of_ble_eq_true rfl) dX1_fillFunnel_29 ?_
        refine V_iload_n X 2 rfl dX1_fillFunnel_32 ?_
        refine V_iadd X dX1_fillFunnel_33 ?_
        refine V_mmin X mm_X1_61 mm_min_st mm_ini mm_min_co (by decide) (by decide) ⟨Nat.zero_le _, Nat.zero_le _⟩ dX1_fillFunnel_34 ?_
        refine V_istore_n X (by decide) rfl dX1_fillFunnel_37 ?_
        have hf10 := obs hf8
        refine V_aload_n X 1 rfl dX1_fillFunnel_38 ?_
        refine V_bipush X (v := 8) (by decide) dX1_fillFunnel_39 ?_
        refine V_iload_n X 2 rfl dX1_fillFunnel_41 ?_
        refine V_iadd X dX1_fillFunnel_42 ?_
        refine V_iload_n X 0 rfl dX1_fillFunnel_43 ?_
        obtain ⟨c10, e_c10, hf12⟩ := obd hf10
        refine V_callVv X (SR_1 hE).1 rfl rfl (f5_lay_ok (SR_1 hE) e_c10) ys_X5_lay yw_X5_lay ml_X1_25 rfl rfl ⟨Nat.le_of_ble_eq_true rfl, Nat.le_of_ble_eq_true rfl⟩ ⟨Nat.zero_le _, Nat.zero_le _⟩ (Nat.le_of_ble_eq_true rfl) dX1_fillFunnel_44 ?_
        refine V_iload_n X 0 rfl dX1_fillFunnel_47 ?_
        exact V_iret X rfl hf12 dX1_fillFunnel_48
      · have hf6 := ife hf5 q18
        refine V_bipush X (v := -2) (by decide) dX1_fillFunnel_21 ?_
        exact V_iret X rfl hf6 dX1_fillFunnel_23
  · have hf4 := ift hf3 q4
    refine V_iconst X (v := -1) (by decide) dX1_fillFunnel_7 ?_
    exact V_iret X rfl hf4 dX1_fillFunnel_8
def f1_fillFunnel (x1 : Int32) (x2 : Int32) (h : Hp) : Re := f1_fillFunnel_e x1 x2 h
theorem f1_fillFunnel_ok (hE : IW E) {x1 : Int32} {x2 : Int32} {h : Hp} {q : Int32 × Hp} (hf0 : f1_fillFunnel x1 x2 h = some q) : SMi l E 2 yX1_fillFunnel cX1_fillFunnel 4 (some .int) [.ref (eA E 1), .int x1, .int x2] h q.1 q.2 :=
  SMi.of (by decide +kernel) (Nat.le_of_ble_eq_true rfl) (fun p e s m args below meth c A X => f1_fillFunnel_e_ok hE X (r := q.1) (h' := q.2) hf0)
def f7_isPlace_e (x0 : Int32) (x1 : Int32) (x2 : Int32) (h : Hp) : Re :=
  (f7_isQuarter x0 h).bind fun c1 => if c1.1 = 0 then (rz 0 c1.2) else ((f7_isRing x1 c1.2).bind fun c4 => if c4.1 = 0 then (rz 0 c4.2) else (if x2 < 0 then (rz 0 c4.2) else (if 8 ≤ x2 then (rz 0 c4.2) else (rz 1 c4.2))))
set_option maxRecDepth 20000 in
set_option maxHeartbeats 4000000 in
theorem f7_isPlace_e_ok (X : XC E RX7 cX7_isPlace 3 (some .boolean) A p s m args meth c) {x0 : Int32} {x1 : Int32} {x2 : Int32} {h : Hp} (hf0 : f7_isPlace_e x0 x1 x2 h = some (r, h')) : VM E 3 A p l e 1 s m args below meth c (Qi E A r h') 0 [(0, .int x0), (1, .int x1), (2, .int x2)] [] h := by
  unfold f7_isPlace_e at hf0
  have hf1 := hf0
  refine V_iload_n X 0 rfl dX7_isPlace_0 ?_
  obtain ⟨c1, e_c1, hf3⟩ := obd hf1
  refine V_callSi X (f7_isQuarter_ok e_c1) ys_X7_isQuarter yw_X7_isQuarter ml_X7_130 rfl rfl ⟨Nat.le_of_ble_eq_true rfl, Nat.le_of_ble_eq_true rfl⟩ ⟨Nat.zero_le _, Nat.zero_le _⟩ (Nat.le_of_ble_eq_true rfl) dX7_isPlace_1 ?_
  refine V_if_eq X (tgt := 28) (by decide) dX7_isPlace_4 (fun q4 => ?_) (fun q4 => ?_)
  · have hf4 := ift hf3 q4
    refine V_iconst X (v := 0) (by decide) dX7_isPlace_28 ?_
    exact V_zret X rfl hf4 dX7_isPlace_29
  · have hf4 := ife hf3 q4
    refine V_iload_n X 1 rfl dX7_isPlace_7 ?_
    obtain ⟨c4, e_c4, hf6⟩ := obd hf4
    refine V_callSi X (f7_isRing_ok e_c4) ys_X7_isRing yw_X7_isRing ml_X7_107 rfl rfl ⟨Nat.le_of_ble_eq_true rfl, Nat.le_of_ble_eq_true rfl⟩ ⟨Nat.zero_le _, Nat.zero_le _⟩ (Nat.le_of_ble_eq_true rfl) dX7_isPlace_8 ?_
    refine V_if_eq X (tgt := 28) (by decide) dX7_isPlace_11 (fun q11 => ?_) (fun q11 => ?_)
    · have hf7 := ift hf6 q11
      refine V_iconst X (v := 0) (by decide) dX7_isPlace_28 ?_
      exact V_zret X rfl hf7 dX7_isPlace_29
    · have hf7 := ife hf6 q11
      refine V_iload_n X 2 rfl dX7_isPlace_14 ?_
      refine V_if_lt X (tgt := 28) (by decide) dX7_isPlace_15 (fun q15 => ?_) (fun q15 => ?_)
      · have hf8 := ift hf7 q15
        refine V_iconst X (v := 0) (by decide) dX7_isPlace_28 ?_
        exact V_zret X rfl hf8 dX7_isPlace_29
      · have hf8 := ife hf7 q15
        refine V_iload_n X 2 rfl dX7_isPlace_18 ?_
        refine V_bipush X (v := 8) (by decide) dX7_isPlace_19 ?_
        refine V_icmp_ge X (tgt := 28) (by decide) dX7_isPlace_21 (fun q21 => ?_) (fun q21 => ?_)
        · have hf9 := ift hf8 q21
          refine V_iconst X (v := 0) (by decide) dX7_isPlace_28 ?_
          exact V_zret X rfl hf9 dX7_isPlace_29
        · have hf9 := ife hf8 q21
          refine V_iconst X (v := 1) (by decide) dX7_isPlace_24 ?_
          refine V_goto X (tgt := 29) (by decide) dX7_isPlace_25 ?_
          exact V_zret X rfl hf9 dX7_isPlace_29
def f7_isPlace (x0 : Int32) (x1 : Int32) (x2 : Int32) (h : Hp) : Re := f7_isPlace_e x0 x1 x2 h
theorem f7_isPlace_ok {x0 : Int32} {x1 : Int32} {x2 : Int32} {h : Hp} {q : Int32 × Hp} (hf0 : f7_isPlace x0 x1 x2 h = some q) : SMi l E 1 yX7_isPlace cX7_isPlace 3 (some .boolean) [.int x0, .int x1, .int x2] h q.1 q.2 :=
  SMi.of (by decide +kernel) (Nat.le_of_ble_eq_true rfl) (fun p e s m args below meth c A X => f7_isPlace_e_ok X (r := q.1) (h' := q.2) hf0)
def f5_raise_e (k : Nat) (x1 : Int32) (x2 : Int32) (h : Hp) : Re :=
  (f5_number k x1 h).bind fun c1 => (f5_lay k x1 (c1.1 + x2) c1.2).bind fun c3 => some (0, c3.2)
set_option maxRecDepth 20000 in
set_option maxHeartbeats 4000000 in
theorem f5_raise_e_ok {k : Nat} (hk : SR E k) (X : XC E RX5 cX5_raise 3 none A p s m args meth c) {x1 : Int32} {x2 : Int32} {h : Hp} (hf0 : f5_raise_e k x1 x2 h = some (r, h')) : VM E 3 A p l e 1 s m args below meth c (Qv E A h') 0 [(0, .ref (eA E k)), (1, .int x1), (2, .int x2)] [] h := by
  unfold f5_raise_e at hf0
  have hf1 := hf0
  refine V_aload_n X 0 rfl dX5_raise_0 ?_
  refine V_iload_n X 1 rfl dX5_raise_1 ?_
  refine V_aload_n X 0 rfl dX5_raise_2 ?_
  refine V_iload_n X 1 rfl dX5_raise_3 ?_
  obtain ⟨c1, e_c1, hf3⟩ := obd hf1
  refine V_callVi X hk.1 rfl rfl (f5_number_ok hk e_c1) ys_X5_number yw_X5_number ml_X5_22 rfl rfl ⟨Nat.le_of_ble_eq_true rfl, Nat.le_of_ble_eq_true rfl⟩ ⟨Nat.zero_le _, Nat.zero_le _⟩ (Nat.le_of_ble_eq_true rfl) dX5_raise_4 ?_
  refine V_iload_n X 2 rfl dX5_raise_7 ?_
  refine V_iadd X dX5_raise_8 ?_
  obtain ⟨c3, e_c3, hf5⟩ := obd hf3
  refine V_callVv X hk.1 rfl rfl (f5_lay_ok hk e_c3) ys_X5_lay yw_X5_lay ml_X5_15 rfl rfl ⟨Nat.le_of_ble_eq_true rfl, Nat.le_of_ble_eq_true rfl⟩ ⟨Nat.zero_le _, Nat.zero_le _⟩ (Nat.le_of_ble_eq_true rfl) dX5_raise_9 ?_
  exact V_vret X rfl hf5 dX5_raise_12
def f5_raise (k : Nat) (x1 : Int32) (x2 : Int32) (h : Hp) : Re := f5_raise_e k x1 x2 h
theorem f5_raise_ok {k : Nat} (hk : SR E k) {x1 : Int32} {x2 : Int32} {h : Hp} {q : Int32 × Hp} (hf0 : f5_raise k x1 x2 h = some q) : SMv l E 1 yX5_raise cX5_raise 3 [.ref (eA E k), .int x1, .int x2] h q.2 :=
  SMv.of (by decide +kernel) (Nat.le_of_ble_eq_true rfl) (fun p e s m args below meth c A X => f5_raise_e_ok hk X (r := q.1) (h' := q.2) hf0)
def f1_pourGrains_j74 (x1 : Int32) (x2 : Int32) (x3 : Int32) (x4 : Int32) (x5 : Int32) (h : Hp) : Re :=
  (f5_funnel 1 x5 h).bind fun c1 => if x4 ≤ c1.1 then ((f5_grains 1 x1 x2 x3 c1.2).bind fun c4 => if (c4.1 + x4) ≤ 99 then ((f5_heap 1 x1 x2 x3 x5 (c4.1 + x4) c4.2).bind fun c7 => (f5_raise 1 (8 + x5) (-x4) c7.2).bind fun c9 => (f5_raise 1 22 x4 c9.2).bind fun c11 => some (c4.1 + x4, c11.2)) else (some ((-4), c4.2))) else (some ((-5), c1.2))
set_option maxRecDepth 20000 in
set_option maxHeartbeats 4000000 in
theorem f1_pourGrains_j74_ok (hE : IW E) (X : XC E RX1 cX1_pourGrains 8 (some .int) A p s m args meth c) {x1 : Int32} {x2 : Int32} {x3 : Int32} {x4 : Int32} {x5 : Int32} {h : Hp} (hf0 : f1_pourGrains_j74 x1 x2 x3 x4 x5 h = some (r, h')) : VM E 8 A p l e 2 s m args below meth c (Qi E A r h') 74 [(0, .ref (eA E 1)), (1, .int x1), (2, .int x2), (3, .int x3), (4, .int x4), (5, .int x5)] [] h := by
  unfold f1_pourGrains_j74 at hf0
  have hf1 := hf0
  refine V_aload_n X 0 rfl dX1_pourGrains_74 ?_
  refine V_iload X 5 rfl dX1_pourGrains_75 ?_
  obtain ⟨c1, e_c1, hf3⟩ := obd hf1
  refine V_callVi X (SR_1 hE).1 rfl rfl (f5_funnel_ok (SR_1 hE) e_c1) ys_X5_funnel yw_X5_funnel ml_X1_58 rfl rfl ⟨Nat.le_of_ble_eq_true rfl, Nat.le_of_ble_eq_true rfl⟩ ⟨Nat.zero_le _, Nat.zero_le _⟩ (Nat.le_of_ble_eq_true rfl) dX1_pourGrains_77 ?_
  refine V_iload X 4 rfl dX1_pourGrains_80 ?_
  refine V_icmp_ge X (tgt := 88) (by decide) dX1_pourGrains_82 (fun q82 => ?_) (fun q82 => ?_)
  · have hf4 := ift hf3 q82
    refine V_aload_n X 0 rfl dX1_pourGrains_88 ?_
    refine V_iload_n X 1 rfl dX1_pourGrains_89 ?_
    refine V_iload_n X 2 rfl dX1_pourGrains_90 ?_
    refine V_iload_n X 3 rfl dX1_pourGrains_91 ?_
    obtain ⟨c4, e_c4, hf6⟩ := obd hf4
    refine V_callVi X (SR_1 hE).1 rfl rfl (f5_grains_ok (SR_1 hE) e_c4) ys_X5_grains yw_X5_grains ml_X1_75 rfl rfl ⟨Nat.le_of_ble_eq_true rfl, Nat.le_of_ble_eq_true rfl⟩ ⟨Nat.zero_le _, Nat.zero_le _⟩ (Nat.le_of_ble_eq_true rfl) dX1_pourGrains_92 ?_
    refine V_iload X 4 rfl dX1_pourGrains_95 ?_
    refine V_iadd X dX1_pourGrains_97 ?_
    refine V_istore X (by decide) rfl dX1_pourGrains_98 ?_
    refine V_iload X 0 rfl dX1_pourGrains_100 ?_
    refine V_bipush X (v := 99) (by decide) dX1_pourGrains_102 ?_
    refine V_icmp_le X (tgt := 110) (by decide) dX1_pourGrains_104 (fun q104 => ?_) (fun q104 => ?_)
    · have hf7 := ift hf6 q104
      refine V_aload_n X 1 rfl dX1_pourGrains_110 ?_
      refine V_iload_n X 2 rfl dX1_pourGrains_111 ?_
      refine V_iload_n X 3 rfl dX1_pourGrains_112 ?_
      refine V_iload_n X 4 rfl dX1_pourGrains_113 ?_
      refine V_iload X 6 rfl dX1_pourGrains_114 ?_
      refine V_iload X 0 rfl dX1_pourGrains_116 ?_
      obtain ⟨c7, e_c7, hf9⟩ := obd hf7
      refine V_callVv X (SR_1 hE).1 rfl rfl (f5_heap_ok (SR_1 hE) e_c7) ys_X5_heap yw_X5_heap ml_X1_78 rfl rfl ⟨Nat.le_of_ble_eq_true rfl, Nat.le_of_ble_eq_true rfl⟩ ⟨Nat.zero_le _, Nat.zero_le _⟩ (Nat.le_of_ble_eq_true rfl) dX1_pourGrains_118 ?_
      refine V_aload_n X 1 rfl dX1_pourGrains_121 ?_
      refine V_bipush X (v := 8) (by decide) dX1_pourGrains_122 ?_
      refine V_iload X 6 rfl dX1_pourGrains_124 ?_
      refine V_iadd X dX1_pourGrains_126 ?_
      refine V_iload X 5 rfl dX1_pourGrains_127 ?_
      refine V_ineg X dX1_pourGrains_129 ?_
      obtain ⟨c9, e_c9, hf11⟩ := obd hf9
      refine V_callVv X (SR_1 hE).1 rfl rfl (f5_raise_ok (SR_1 hE) e_c9) ys_X5_raise yw_X5_raise ml_X1_82 rfl rfl ⟨Nat.le_of_ble_eq_true rfl, Nat.le_of_ble_eq_true rfl⟩ ⟨Nat.zero_le _, Nat.zero_le _⟩ (Nat.le_of_ble_eq_true rfl) dX1_pourGrains_130 ?_
      refine V_aload_n X 1 rfl dX1_pourGrains_133 ?_
      refine V_bipush X (v := 22) (by decide) dX1_pourGrains_134 ?_
      refine V_iload X 5 rfl dX1_pourGrains_136 ?_
      obtain ⟨c11, e_c11, hf13⟩ := obd hf11
      refine V_callVv X (SR_1 hE).1 rfl rfl (f5_raise_ok (SR_1 hE) e_c11) ys_X5_raise yw_X5_raise ml_X1_82 rfl rfl ⟨Nat.le_of_ble_eq_true rfl, Nat.le_of_ble_eq_true rfl⟩ ⟨Nat.zero_le _, Nat.zero_le _⟩ (Nat.le_of_ble_eq_true rfl) dX1_pourGrains_138 ?_
      refine V_iload X 0 rfl dX1_pourGrains_141 ?_
      exact V_iret X rfl hf13 dX1_pourGrains_143
    · have hf7 := ife hf6 q104
      refine V_bipush X (v := -4) (by decide) dX1_pourGrains_107 ?_
      exact V_iret X rfl hf7 dX1_pourGrains_109
  · have hf4 := ife hf3 q82
    refine V_bipush X (v := -5) (by decide) dX1_pourGrains_85 ?_
    exact V_iret X rfl hf4 dX1_pourGrains_87
def f1_pourGrains_e (x1 : Int32) (x2 : Int32) (x3 : Int32) (x4 : Int32) (h : Hp) : Re :=
  (f7_isPlace x1 x2 x3 h).bind fun c1 => if c1.1 = 0 then (some ((-1), c1.2)) else (if x4 < 1 then (some ((-2), c1.2)) else (if x4 ≤ 99 then ((f5_heldBy 1 x1 c1.2).bind fun c6 => (f5_colour 1 x1 x2 x3 c6.2).bind fun c8 => if c6.1 = 0 then (some ((-5), c8.2)) else ((f5_isClosed 1 x2 c8.2).bind fun c11 => if c11.1 = 0 then (if c8.1 = 0 then (f1_pourGrains_j74 x1 x2 x3 x4 c6.1 c11.2) else (if c8.1 = c6.1 then (f1_pourGrains_j74 x1 x2 x3 x4 c6.1 c11.2) else (some ((-5), c11.2)))) else (some ((-5), c11.2)))) else (some ((-2), c1.2))))
set_option maxRecDepth 20000 in
set_option maxHeartbeats 4000000 in
theorem f1_pourGrains_e_ok (hE : IW E) (X : XC E RX1 cX1_pourGrains 8 (some .int) A p s m args meth c) {x1 : Int32} {x2 : Int32} {x3 : Int32} {x4 : Int32} {h : Hp} (hf0 : f1_pourGrains_e x1 x2 x3 x4 h = some (r, h')) : VM E 8 A p l e 2 s m args below meth c (Qi E A r h') 0 [(0, .ref (eA E 1)), (1, .int x1), (2, .int x2), (3, .int x3), (4, .int x4)] [] h := by
  unfold f1_pourGrains_e at hf0
  have hf1 := hf0
  refine V_iload_n X 1 rfl dX1_pourGrains_0 ?_
  refine V_iload_n X 2 rfl dX1_pourGrains_1 ?_
  refine V_iload_n X 3 rfl dX1_pourGrains_2 ?_
  obtain ⟨c1, e_c1, hf3⟩ := obd hf1
  refine V_callSNi X (f7_isPlace_ok e_c1) ys_X7_isPlace yw_X7_isPlace nl_X1_67 rfl rfl ⟨Nat.le_of_ble_eq_true rfl, Nat.le_of_ble_eq_true rfl⟩ ⟨Nat.zero_le _, Nat.zero_le _⟩ (Nat.le_of_ble_eq_true rfl) dX1_pourGrains_3 ?_
  refine V_if_ne X (tgt := 11) (by decide) dX1_pourGrains_6 (fun q6 => ?_) (fun q6 => ?_)
  · have hf4 := ife hf3 q6
    refine V_iload X 4 rfl dX1_pourGrains_11 ?_
    refine V_iconst X (v := 1) (by decide) dX1_pourGrains_13 ?_
    refine V_icmp_lt X (tgt := 24) (by decide) dX1_pourGrains_14 (fun q14 => ?_) (fun q14 => ?_)
    · have hf5 := ift hf4 q14
      refine V_bipush X (v := -2) (by decide) dX1_pourGrains_24 ?_
      exact V_iret X rfl hf5 dX1_pourGrains_26
    · have hf5 := ife hf4 q14
      refine V_iload X 4 rfl dX1_pourGrains_17 ?_
      refine V_bipush X (v := 99) (by decide) dX1_pourGrains_19 ?_
      refine V_icmp_le X (tgt := 27) (by decide) dX1_pourGrains_21 (fun q21 => ?_) (fun q21 => ?_)
      · have hf6 := ift hf5 q21
        refine V_aload_n X 0 rfl dX1_pourGrains_27 ?_
        refine V_iload_n X 1 rfl dX1_pourGrains_28 ?_
        obtain ⟨c6, e_c6, hf8⟩ := obd hf6
        refine V_callVi X (SR_1 hE).1 rfl rfl (f5_heldBy_ok (SR_1 hE) e_c6) ys_X5_heldBy yw_X5_heldBy ml_X1_55 rfl rfl ⟨Nat.le_of_ble_eq_true rfl, Nat.le_of_ble_eq_true rfl⟩ ⟨Nat.zero_le _, Nat.zero_le _⟩ (Nat.le_of_ble_eq_true rfl) dX1_pourGrains_29 ?_
        refine V_istore X (by decide) rfl dX1_pourGrains_32 ?_
        refine V_aload_n X 1 rfl dX1_pourGrains_34 ?_
        refine V_iload_n X 2 rfl dX1_pourGrains_35 ?_
        refine V_iload_n X 3 rfl dX1_pourGrains_36 ?_
        refine V_iload_n X 4 rfl dX1_pourGrains_37 ?_
        obtain ⟨c8, e_c8, hf10⟩ := obd hf8
        refine V_callVi X (SR_1 hE).1 rfl rfl (f5_colour_ok (SR_1 hE) e_c8) ys_X5_colour yw_X5_colour ml_X1_71 rfl rfl ⟨Nat.le_of_ble_eq_true rfl, Nat.le_of_ble_eq_true rfl⟩ ⟨Nat.zero_le _, Nat.zero_le _⟩ (Nat.le_of_ble_eq_true rfl) dX1_pourGrains_38 ?_
        refine V_istore X (by decide) rfl dX1_pourGrains_41 ?_
        refine V_iload X 1 rfl dX1_pourGrains_43 ?_
        refine V_if_eq X (tgt := 56) (by decide) dX1_pourGrains_45 (fun q45 => ?_) (fun q45 => ?_)
        · have hf11 := ift hf10 q45
          refine V_bipush X (v := -5) (by decide) dX1_pourGrains_56 ?_
          exact V_iret X rfl hf11 dX1_pourGrains_58
        · have hf11 := ife hf10 q45
          refine V_aload_n X 2 rfl dX1_pourGrains_48 ?_
          refine V_iload_n X 4 rfl dX1_pourGrains_49 ?_
          obtain ⟨c11, e_c11, hf13⟩ := obd hf11
          refine V_callVi X (SR_1 hE).1 rfl rfl (f5_isClosed_ok (SR_1 hE) e_c11) ys_X5_isClosed yw_X5_isClosed ml_X1_36 rfl rfl ⟨Nat.le_of_ble_eq_true rfl, Nat.le_of_ble_eq_true rfl⟩ ⟨Nat.zero_le _, Nat.zero_le _⟩ (Nat.le_of_ble_eq_true rfl) dX1_pourGrains_50 ?_
          refine V_if_eq X (tgt := 59) (by decide) dX1_pourGrains_53 (fun q53 => ?_) (fun q53 => ?_)
          · have hf14 := ift hf13 q53
            refine V_iload X 0 rfl dX1_pourGrains_59 ?_
            refine V_if_eq X (tgt := 74) (by decide) dX1_pourGrains_61 (fun q61 => ?_) (fun q61 => ?_)
            · have hf15 := ift hf14 q61
              exact V_sub [2, 3, 4, 5, 6, 1] rfl (f1_pourGrains_j74_ok hE X hf15)
            · have hf15 := ife hf14 q61
              refine V_iload X 0 rfl dX1_pourGrains_64 ?_
              refine V_iload X 1 rfl dX1_pourGrains_66 ?_
              refine V_icmp_eq X (tgt := 74) (by decide) dX1_pourGrains_68 (fun q68 => ?_) (fun q68 => ?_)
              · have hf16 := ift hf15 q68
                exact V_sub [2, 3, 4, 5, 6, 1] rfl (f1_pourGrains_j74_ok hE X hf16)
              · have hf16 := ife hf15 q68
                refine V_bipush X (v := -5) (by decide) dX1_pourGrains_71 ?_
                exact V_iret X rfl hf16 dX1_pourGrains_73
          · have hf14 := ife hf13 q53
            refine V_bipush X (v := -5) (by decide) dX1_pourGrains_56 ?_
            exact V_iret X rfl hf14 dX1_pourGrains_58
      · have hf6 := ife hf5 q21
        refine V_bipush X (v := -2) (by decide) dX1_pourGrains_24 ?_
        exact V_iret X rfl hf6 dX1_pourGrains_26
  · have hf4 := ift hf3 q6
    refine V_iconst X (v := -1) (by decide) dX1_pourGrains_9 ?_
    exact V_iret X rfl hf4 dX1_pourGrains_10
def f1_pourGrains (x1 : Int32) (x2 : Int32) (x3 : Int32) (x4 : Int32) (h : Hp) : Re := f1_pourGrains_e x1 x2 x3 x4 h
theorem f1_pourGrains_ok (hE : IW E) {x1 : Int32} {x2 : Int32} {x3 : Int32} {x4 : Int32} {h : Hp} {q : Int32 × Hp} (hf0 : f1_pourGrains x1 x2 x3 x4 h = some q) : SMi l E 2 yX1_pourGrains cX1_pourGrains 8 (some .int) [.ref (eA E 1), .int x1, .int x2, .int x3, .int x4] h q.1 q.2 :=
  SMi.of (by decide +kernel) (Nat.le_of_ble_eq_true rfl) (fun p e s m args below meth c A X => f1_pourGrains_e_ok hE X (r := q.1) (h' := q.2) hf0)
def f1_scrapeBare_e (x1 : Int32) (x2 : Int32) (x3 : Int32) (h : Hp) : Re :=
  (f7_isPlace x1 x2 x3 h).bind fun c1 => if c1.1 = 0 then (some ((-1), c1.2)) else ((f5_grains 1 x1 x2 x3 c1.2).bind fun c4 => (f5_isClosed 1 x2 c4.2).bind fun c6 => if c6.1 = 0 then (if c4.1 = 0 then (some ((-5), c6.2)) else ((f5_heap 1 x1 x2 x3 0 0 c6.2).bind fun c10 => (f5_raise 1 23 c4.1 c10.2).bind fun c12 => some (c4.1, c12.2))) else (some ((-5), c6.2)))
set_option maxRecDepth 20000 in
set_option maxHeartbeats 4000000 in
theorem f1_scrapeBare_e_ok (hE : IW E) (X : XC E RX1 cX1_scrapeBare 5 (some .int) A p s m args meth c) {x1 : Int32} {x2 : Int32} {x3 : Int32} {h : Hp} (hf0 : f1_scrapeBare_e x1 x2 x3 h = some (r, h')) : VM E 5 A p l e 2 s m args below meth c (Qi E A r h') 0 [(0, .ref (eA E 1)), (1, .int x1), (2, .int x2), (3, .int x3)] [] h := by
  unfold f1_scrapeBare_e at hf0
  have hf1 := hf0
  refine V_iload_n X 1 rfl dX1_scrapeBare_0 ?_
  refine V_iload_n X 2 rfl dX1_scrapeBare_1 ?_
  refine V_iload_n X 3 rfl dX1_scrapeBare_2 ?_
  obtain ⟨c1, e_c1, hf3⟩ := obd hf1
  refine V_callSNi X (f7_isPlace_ok e_c1) ys_X7_isPlace yw_X7_isPlace nl_X1_67 rfl rfl ⟨Nat.le_of_ble_eq_true rfl, Nat.le_of_ble_eq_true rfl⟩ ⟨Nat.zero_le _, Nat.zero_le _⟩ (Nat.le_of_ble_eq_true rfl) dX1_scrapeBare_3 ?_
  refine V_if_ne X (tgt := 11) (by decide) dX1_scrapeBare_6 (fun q6 => ?_) (fun q6 => ?_)
  · have hf4 := ife hf3 q6
    refine V_aload_n X 0 rfl dX1_scrapeBare_11 ?_
    refine V_iload_n X 1 rfl dX1_scrapeBare_12 ?_
    refine V_iload_n X 2 rfl dX1_scrapeBare_13 ?_
    refine V_iload_n X 3 rfl dX1_scrapeBare_14 ?_
    obtain ⟨c4, e_c4, hf6⟩ := obd hf4
    refine V_callVi X (SR_1 hE).1 rfl rfl (f5_grains_ok (SR_1 hE) e_c4) ys_X5_grains yw_X5_grains ml_X1_75 rfl rfl ⟨Nat.le_of_ble_eq_true rfl, Nat.le_of_ble_eq_true rfl⟩ ⟨Nat.zero_le _, Nat.zero_le _⟩ (Nat.le_of_ble_eq_true rfl) dX1_scrapeBare_15 ?_
    refine V_istore X (by decide) rfl dX1_scrapeBare_18 ?_
    refine V_aload_n X 1 rfl dX1_scrapeBare_20 ?_
    refine V_iload_n X 3 rfl dX1_scrapeBare_21 ?_
    obtain ⟨c6, e_c6, hf8⟩ := obd hf6
    refine V_callVi X (SR_1 hE).1 rfl rfl (f5_isClosed_ok (SR_1 hE) e_c6) ys_X5_isClosed yw_X5_isClosed ml_X1_36 rfl rfl ⟨Nat.le_of_ble_eq_true rfl, Nat.le_of_ble_eq_true rfl⟩ ⟨Nat.zero_le _, Nat.zero_le _⟩ (Nat.le_of_ble_eq_true rfl) dX1_scrapeBare_22 ?_
    refine V_if_ne X (tgt := 33) (by decide) dX1_scrapeBare_25 (fun q25 => ?_) (fun q25 => ?_)
    · have hf9 := ife hf8 q25
      refine V_bipush X (v := -5) (by decide) dX1_scrapeBare_33 ?_
      exact V_iret X rfl hf9 dX1_scrapeBare_35
    · have hf9 := ift hf8 q25
      refine V_iload X 0 rfl dX1_scrapeBare_28 ?_
      refine V_if_ne X (tgt := 36) (by decide) dX1_scrapeBare_30 (fun q30 => ?_) (fun q30 => ?_)
      · have hf10 := ife hf9 q30
        refine V_aload_n X 1 rfl dX1_scrapeBare_36 ?_
        refine V_iload_n X 2 rfl dX1_scrapeBare_37 ?_
        refine V_iload_n X 3 rfl dX1_scrapeBare_38 ?_
        refine V_iload_n X 4 rfl dX1_scrapeBare_39 ?_
        refine V_iconst X (v := 0) (by decide) dX1_scrapeBare_40 ?_
        refine V_iconst X (v := 0) (by decide) dX1_scrapeBare_41 ?_
        obtain ⟨c10, e_c10, hf12⟩ := obd hf10
        refine V_callVv X (SR_1 hE).1 rfl rfl (f5_heap_ok (SR_1 hE) e_c10) ys_X5_heap yw_X5_heap ml_X1_78 rfl rfl ⟨Nat.le_of_ble_eq_true rfl, Nat.le_of_ble_eq_true rfl⟩ ⟨Nat.zero_le _, Nat.zero_le _⟩ (Nat.le_of_ble_eq_true rfl) dX1_scrapeBare_42 ?_
        refine V_aload_n X 1 rfl dX1_scrapeBare_45 ?_
        refine V_bipush X (v := 23) (by decide) dX1_scrapeBare_46 ?_
        refine V_iload X 0 rfl dX1_scrapeBare_48 ?_
        obtain ⟨c12, e_c12, hf14⟩ := obd hf12
        refine V_callVv X (SR_1 hE).1 rfl rfl (f5_raise_ok (SR_1 hE) e_c12) ys_X5_raise yw_X5_raise ml_X1_82 rfl rfl ⟨Nat.le_of_ble_eq_true rfl, Nat.le_of_ble_eq_true rfl⟩ ⟨Nat.zero_le _, Nat.zero_le _⟩ (Nat.le_of_ble_eq_true rfl) dX1_scrapeBare_50 ?_
        refine V_iload X 0 rfl dX1_scrapeBare_53 ?_
        exact V_iret X rfl hf14 dX1_scrapeBare_55
      · have hf10 := ift hf9 q30
        refine V_bipush X (v := -5) (by decide) dX1_scrapeBare_33 ?_
        exact V_iret X rfl hf10 dX1_scrapeBare_35
  · have hf4 := ift hf3 q6
    refine V_iconst X (v := -1) (by decide) dX1_scrapeBare_9 ?_
    exact V_iret X rfl hf4 dX1_scrapeBare_10
def f1_scrapeBare (x1 : Int32) (x2 : Int32) (x3 : Int32) (h : Hp) : Re := f1_scrapeBare_e x1 x2 x3 h
theorem f1_scrapeBare_ok (hE : IW E) {x1 : Int32} {x2 : Int32} {x3 : Int32} {h : Hp} {q : Int32 × Hp} (hf0 : f1_scrapeBare x1 x2 x3 h = some q) : SMi l E 2 yX1_scrapeBare cX1_scrapeBare 5 (some .int) [.ref (eA E 1), .int x1, .int x2, .int x3] h q.1 q.2 :=
  SMi.of (by decide +kernel) (Nat.le_of_ble_eq_true rfl) (fun p e s m args below meth c A X => f1_scrapeBare_e_ok hE X (r := q.1) (h' := q.2) hf0)
def f7_isDirection_e (x0 : Int32) (h : Hp) : Re :=
  if x0 = 0 then (rz 1 h) else (if x0 = 1 then (rz 1 h) else (rz 0 h))
set_option maxRecDepth 20000 in
set_option maxHeartbeats 4000000 in
theorem f7_isDirection_e_ok (X : XC E RX7 cX7_isDirection 1 (some .boolean) A p s m args meth c) {x0 : Int32} {h : Hp} (hf0 : f7_isDirection_e x0 h = some (r, h')) : VM E 1 A p l e 0 s m args below meth c (Qi E A r h') 0 [(0, .int x0)] [] h := by
  unfold f7_isDirection_e at hf0
  have hf1 := hf0
  refine V_iload_n X 0 rfl dX7_isDirection_0 ?_
  refine V_if_eq X (tgt := 9) (by decide) dX7_isDirection_1 (fun q1 => ?_) (fun q1 => ?_)
  · have hf2 := ift hf1 q1
    refine V_iconst X (v := 1) (by decide) dX7_isDirection_9 ?_
    refine V_goto X (tgt := 14) (by decide) dX7_isDirection_10 ?_
    exact V_zret X rfl hf2 dX7_isDirection_14
  · have hf2 := ife hf1 q1
    refine V_iload_n X 0 rfl dX7_isDirection_4 ?_
    refine V_iconst X (v := 1) (by decide) dX7_isDirection_5 ?_
    refine V_icmp_ne X (tgt := 13) (by decide) dX7_isDirection_6 (fun q6 => ?_) (fun q6 => ?_)
    · have hf3 := ife hf2 q6
      refine V_iconst X (v := 0) (by decide) dX7_isDirection_13 ?_
      exact V_zret X rfl hf3 dX7_isDirection_14
    · have hf3 := ift hf2 q6
      refine V_iconst X (v := 1) (by decide) dX7_isDirection_9 ?_
      refine V_goto X (tgt := 14) (by decide) dX7_isDirection_10 ?_
      exact V_zret X rfl hf3 dX7_isDirection_14
def f7_isDirection (x0 : Int32) (h : Hp) : Re := f7_isDirection_e x0 h
theorem f7_isDirection_ok {x0 : Int32} {h : Hp} {q : Int32 × Hp} (hf0 : f7_isDirection x0 h = some q) : SMi l E 0 yX7_isDirection cX7_isDirection 1 (some .boolean) [.int x0] h q.1 q.2 :=
  SMi.of (by decide +kernel) (Nat.le_of_ble_eq_true rfl) (fun p e s m args below meth c A X => f7_isDirection_e_ok X (r := q.1) (h' := q.2) hf0)
def f1_blow_e (x2 : Int32) (x3 : Int32) (h : Hp) : Re :=
  (f7_isQuarter x2 h).bind fun c1 => if c1.1 = 0 then (some ((-1), c1.2)) else ((f7_isDirection x3 c1.2).bind fun c4 => if c4.1 = 0 then (some ((-2), c4.2)) else ((f0_over 1 x2 x3 c4.2).bind fun c7 => (f5_raise 1 23 c7.1 c7.2).bind fun c9 => some (c7.1, c9.2)))
set_option maxRecDepth 20000 in
set_option maxHeartbeats 4000000 in
theorem f1_blow_e_ok (hE : IW E) (X : XC E RX1 cX1_blow 5 (some .int) A p s m args meth c) {x2 : Int32} {x3 : Int32} {h : Hp} (hf0 : f1_blow_e x2 x3 h = some (r, h')) : VM E 5 A p l e 4 s m args below meth c (Qi E A r h') 0 [(0, .ref (eA E 1)), (1, .ref (eA E 5)), (2, .int x2), (3, .int x3)] [] h := by
  unfold f1_blow_e at hf0
  have hf1 := hf0
  refine V_iload_n X 2 rfl dX1_blow_0 ?_
  obtain ⟨c1, e_c1, hf3⟩ := obd hf1
  refine V_callSNi X (f7_isQuarter_ok e_c1) ys_X7_isQuarter yw_X7_isQuarter nl_X1_46 rfl rfl ⟨Nat.le_of_ble_eq_true rfl, Nat.le_of_ble_eq_true rfl⟩ ⟨Nat.zero_le _, Nat.zero_le _⟩ (Nat.le_of_ble_eq_true rfl) dX1_blow_1 ?_
  refine V_if_ne X (tgt := 9) (by decide) dX1_blow_4 (fun q4 => ?_) (fun q4 => ?_)
  · have hf4 := ife hf3 q4
    refine V_iload_n X 3 rfl dX1_blow_9 ?_
    obtain ⟨c4, e_c4, hf6⟩ := obd hf4
    refine V_callSNi X (f7_isDirection_ok e_c4) ys_X7_isDirection yw_X7_isDirection nl_X1_85 rfl rfl ⟨Nat.le_of_ble_eq_true rfl, Nat.le_of_ble_eq_true rfl⟩ ⟨Nat.zero_le _, Nat.zero_le _⟩ (Nat.le_of_ble_eq_true rfl) dX1_blow_10 ?_
    refine V_if_ne X (tgt := 19) (by decide) dX1_blow_13 (fun q13 => ?_) (fun q13 => ?_)
    · have hf7 := ife hf6 q13
      refine V_aload_n X 1 rfl dX1_blow_19 ?_
      refine V_aload_n X 0 rfl dX1_blow_20 ?_
      refine V_iload_n X 2 rfl dX1_blow_21 ?_
      refine V_iload_n X 3 rfl dX1_blow_22 ?_
      obtain ⟨c7, e_c7, hf9⟩ := obd hf7
      refine V_callVi X (OB_5 hE) rfl rfl (f0_over_ok hE (SR_1 hE) e_c7) ys_X0_over yw_X0_over ml_X1_88 rfl rfl ⟨Nat.le_of_ble_eq_true rfl, Nat.le_of_ble_eq_true rfl⟩ ⟨Nat.zero_le _, Nat.zero_le _⟩ (Nat.le_of_ble_eq_true rfl) dX1_blow_23 ?_
      refine V_istore X (by decide) rfl dX1_blow_26 ?_
      refine V_aload_n X 1 rfl dX1_blow_28 ?_
      refine V_bipush X (v := 23) (by decide) dX1_blow_29 ?_
      refine V_iload X 0 rfl dX1_blow_31 ?_
      obtain ⟨c9, e_c9, hf11⟩ := obd hf9
      refine V_callVv X (SR_1 hE).1 rfl rfl (f5_raise_ok (SR_1 hE) e_c9) ys_X5_raise yw_X5_raise ml_X1_82 rfl rfl ⟨Nat.le_of_ble_eq_true rfl, Nat.le_of_ble_eq_true rfl⟩ ⟨Nat.zero_le _, Nat.zero_le _⟩ (Nat.le_of_ble_eq_true rfl) dX1_blow_33 ?_
      refine V_iload X 0 rfl dX1_blow_36 ?_
      exact V_iret X rfl hf11 dX1_blow_38
    · have hf7 := ift hf6 q13
      refine V_bipush X (v := -2) (by decide) dX1_blow_16 ?_
      exact V_iret X rfl hf7 dX1_blow_18
  · have hf4 := ift hf3 q4
    refine V_iconst X (v := -1) (by decide) dX1_blow_7 ?_
    exact V_iret X rfl hf4 dX1_blow_8
def f1_blow (x2 : Int32) (x3 : Int32) (h : Hp) : Re := f1_blow_e x2 x3 h
theorem f1_blow_ok (hE : IW E) {x2 : Int32} {x3 : Int32} {h : Hp} {q : Int32 × Hp} (hf0 : f1_blow x2 x3 h = some q) : SMi l E 4 yX1_blow cX1_blow 5 (some .int) [.ref (eA E 1), .ref (eA E 5), .int x2, .int x3] h q.1 q.2 :=
  SMi.of (by decide +kernel) (Nat.le_of_ble_eq_true rfl) (fun p e s m args below meth c A X => f1_blow_e_ok hE X (r := q.1) (h' := q.2) hf0)
def f5_patternPlace_j21 (k : Nat) (x2 : Int32) (y0 : Int32) (h : Hp) : Re :=
  if y0 = 0 then (some (x2, h)) else (some (7 - x2, h))
set_option maxRecDepth 20000 in
set_option maxHeartbeats 4000000 in
theorem f5_patternPlace_j21_ok {k : Nat} (hk : SR E k) (X : XC E RX5 cX5_patternPlace 4 (some .int) A p s m args meth c) {x2 : Int32} {y0 : Int32} {h : Hp} (hf0 : f5_patternPlace_j21 k x2 y0 h = some (r, h')) : VM E 4 A p l e 1 s m args below meth c (Qi E A r h') 21 [(2, .int x2)] [.int y0] h := by
  unfold f5_patternPlace_j21 at hf0
  have hf1 := hf0
  refine V_istore_n X (by decide) rfl dX5_patternPlace_21 ?_
  refine V_iload_n X 0 rfl dX5_patternPlace_22 ?_
  refine V_if_eq X (tgt := 33) (by decide) dX5_patternPlace_23 (fun q23 => ?_) (fun q23 => ?_)
  · have hf2 := ift hf1 q23
    refine V_iload_n X 1 rfl dX5_patternPlace_33 ?_
    exact V_iret X rfl hf2 dX5_patternPlace_34
  · have hf2 := ife hf1 q23
    refine V_bipush X (v := 7) (by decide) dX5_patternPlace_26 ?_
    refine V_iload_n X 1 rfl dX5_patternPlace_28 ?_
    refine V_isub X dX5_patternPlace_29 ?_
    refine V_goto X (tgt := 34) (by decide) dX5_patternPlace_30 ?_
    exact V_iret X rfl hf2 dX5_patternPlace_34
def f5_patternPlace_j20 (k : Nat) (x2 : Int32) (h : Hp) : Re :=
  f5_patternPlace_j21 k x2 0 h
set_option maxRecDepth 20000 in
set_option maxHeartbeats 4000000 in
theorem f5_patternPlace_j20_ok {k : Nat} (hk : SR E k) (X : XC E RX5 cX5_patternPlace 4 (some .int) A p s m args meth c) {x2 : Int32} {h : Hp} (hf0 : f5_patternPlace_j20 k x2 h = some (r, h')) : VM E 4 A p l e 1 s m args below meth c (Qi E A r h') 20 [(2, .int x2)] [] h := by
  unfold f5_patternPlace_j20 at hf0
  have hf1 := hf0
  refine V_iconst X (v := 0) (by decide) dX5_patternPlace_20 ?_
  exact V_sub [0] rfl (f5_patternPlace_j21_ok hk X hf1)
def f5_patternPlace_e (k : Nat) (x1 : Int32) (x2 : Int32) (h : Hp) : Re :=
  (f5_number k 2 h).bind fun c1 => if c1.1 = 1 then (if (x1 - x1 / 2 * 2) = 1 then (f5_patternPlace_j21 k x2 1 c1.2) else (f5_patternPlace_j20 k x2 c1.2)) else (f5_patternPlace_j20 k x2 c1.2)
set_option maxRecDepth 20000 in
set_option maxHeartbeats 4000000 in
theorem f5_patternPlace_e_ok {k : Nat} (hk : SR E k) (X : XC E RX5 cX5_patternPlace 4 (some .int) A p s m args meth c) {x1 : Int32} {x2 : Int32} {h : Hp} (hf0 : f5_patternPlace_e k x1 x2 h = some (r, h')) : VM E 4 A p l e 1 s m args below meth c (Qi E A r h') 0 [(0, .ref (eA E k)), (1, .int x1), (2, .int x2)] [] h := by
  unfold f5_patternPlace_e at hf0
  have hf1 := hf0
  refine V_aload_n X 0 rfl dX5_patternPlace_0 ?_
  refine V_iconst X (v := 2) (by decide) dX5_patternPlace_1 ?_
  obtain ⟨c1, e_c1, hf3⟩ := obd hf1
  refine V_callVi X hk.1 rfl rfl (f5_number_ok hk e_c1) ys_X5_number yw_X5_number ml_X5_22 rfl rfl ⟨Nat.le_of_ble_eq_true rfl, Nat.le_of_ble_eq_true rfl⟩ ⟨Nat.zero_le _, Nat.zero_le _⟩ (Nat.le_of_ble_eq_true rfl) dX5_patternPlace_2 ?_
  refine V_iconst X (v := 1) (by decide) dX5_patternPlace_5 ?_
  refine V_icmp_ne X (tgt := 20) (by decide) dX5_patternPlace_6 (fun q6 => ?_) (fun q6 => ?_)
  · have hf4 := ife hf3 q6
    exact V_sub [2] rfl (f5_patternPlace_j20_ok hk X hf4)
  · have hf4 := ift hf3 q6
    refine V_iload_n X 1 rfl dX5_patternPlace_9 ?_
    refine V_iconst X (v := 2) (by decide) dX5_patternPlace_10 ?_
    refine V_irem X (by decide) dX5_patternPlace_11 ?_
    refine V_iconst X (v := 1) (by decide) dX5_patternPlace_12 ?_
    refine V_icmp_ne X (tgt := 20) (by decide) dX5_patternPlace_13 (fun q13 => ?_) (fun q13 => ?_)
    · have hf5 := ife hf4 q13
      exact V_sub [2] rfl (f5_patternPlace_j20_ok hk X hf5)
    · have hf5 := ift hf4 q13
      refine V_iconst X (v := 1) (by decide) dX5_patternPlace_16 ?_
      refine V_goto X (tgt := 21) (by decide) dX5_patternPlace_17 ?_
      exact V_sub [2] rfl (f5_patternPlace_j21_ok hk X hf5)
def f5_patternPlace (k : Nat) (x1 : Int32) (x2 : Int32) (h : Hp) : Re := f5_patternPlace_e k x1 x2 h
theorem f5_patternPlace_ok {k : Nat} (hk : SR E k) {x1 : Int32} {x2 : Int32} {h : Hp} {q : Int32 × Hp} (hf0 : f5_patternPlace k x1 x2 h = some q) : SMi l E 1 yX5_patternPlace cX5_patternPlace 4 (some .int) [.ref (eA E k), .int x1, .int x2] h q.1 q.2 :=
  SMi.of (by decide +kernel) (Nat.le_of_ble_eq_true rfl) (fun p e s m args below meth c A X => f5_patternPlace_e_ok hk X (r := q.1) (h' := q.2) hf0)
def f5_wanted_e (k : Nat) (x1 : Int32) (x2 : Int32) (x3 : Int32) (h : Hp) : Re :=
  (f5_number k (3 + x2) h).bind fun c1 => if c1.1 = (-1) then (some ((-6), c1.2)) else ((f5_patternPlace k x1 x3 c1.2).bind fun c4 => some ((c1.1 >>> ((3 * c4.1) &&& 31)) &&& 7, c4.2))
set_option maxRecDepth 20000 in
set_option maxHeartbeats 4000000 in
theorem f5_wanted_e_ok {k : Nat} (hk : SR E k) (X : XC E RX5 cX5_wanted 5 (some .int) A p s m args meth c) {x1 : Int32} {x2 : Int32} {x3 : Int32} {h : Hp} (hf0 : f5_wanted_e k x1 x2 x3 h = some (r, h')) : VM E 5 A p l e 2 s m args below meth c (Qi E A r h') 0 [(0, .ref (eA E k)), (1, .int x1), (2, .int x2), (3, .int x3)] [] h := by
  unfold f5_wanted_e at hf0
  have hf1 := hf0
  refine V_aload_n X 0 rfl dX5_wanted_0 ?_
  refine V_iconst X (v := 3) (by decide) dX5_wanted_1 ?_
  refine V_iload_n X 2 rfl dX5_wanted_2 ?_
  refine V_iadd X dX5_wanted_3 ?_
  obtain ⟨c1, e_c1, hf3⟩ := obd hf1
  refine V_callVi X hk.1 rfl rfl (f5_number_ok hk e_c1) ys_X5_number yw_X5_number ml_X5_22 rfl rfl ⟨Nat.le_of_ble_eq_true rfl, Nat.le_of_ble_eq_true rfl⟩ ⟨Nat.zero_le _, Nat.zero_le _⟩ (Nat.le_of_ble_eq_true rfl) dX5_wanted_4 ?_
  refine V_istore X (by decide) rfl dX5_wanted_7 ?_
  refine V_iload X 0 rfl dX5_wanted_9 ?_
  refine V_iconst X (v := -1) (by decide) dX5_wanted_11 ?_
  refine V_icmp_ne X (tgt := 18) (by decide) dX5_wanted_12 (fun q12 => ?_) (fun q12 => ?_)
  · have hf4 := ife hf3 q12
    refine V_iload X 0 rfl dX5_wanted_18 ?_
    refine V_iconst X (v := 3) (by decide) dX5_wanted_20 ?_
    refine V_aload_n X 1 rfl dX5_wanted_21 ?_
    refine V_iload_n X 2 rfl dX5_wanted_22 ?_
    refine V_iload_n X 4 rfl dX5_wanted_23 ?_
    obtain ⟨c4, e_c4, hf6⟩ := obd hf4
    refine V_callVi X hk.1 rfl rfl (f5_patternPlace_ok hk e_c4) ys_X5_patternPlace yw_X5_patternPlace ml_X5_40 rfl rfl ⟨Nat.le_of_ble_eq_true rfl, Nat.le_of_ble_eq_true rfl⟩ ⟨Nat.zero_le _, Nat.zero_le _⟩ (Nat.le_of_ble_eq_true rfl) dX5_wanted_24 ?_
    refine V_imul X dX5_wanted_27 ?_
    refine V_ishr X dX5_wanted_28 ?_
    refine V_bipush X (v := 7) (by decide) dX5_wanted_29 ?_
    refine V_iand X dX5_wanted_31 ?_
    exact V_iret X rfl hf6 dX5_wanted_32
  · have hf4 := ift hf3 q12
    refine V_bipush X (v := -6) (by decide) dX5_wanted_15 ?_
    exact V_iret X rfl hf4 dX5_wanted_17
def f5_wanted (k : Nat) (x1 : Int32) (x2 : Int32) (x3 : Int32) (h : Hp) : Re := f5_wanted_e k x1 x2 x3 h
theorem f5_wanted_ok {k : Nat} (hk : SR E k) {x1 : Int32} {x2 : Int32} {x3 : Int32} {h : Hp} {q : Int32 × Hp} (hf0 : f5_wanted k x1 x2 x3 h = some q) : SMi l E 2 yX5_wanted cX5_wanted 5 (some .int) [.ref (eA E k), .int x1, .int x2, .int x3] h q.1 q.2 :=
  SMi.of (by decide +kernel) (Nat.le_of_ble_eq_true rfl) (fun p e s m args below meth c A X => f5_wanted_e_ok hk X (r := q.1) (h' := q.2) hf0)
def f5_isRight_e (k : Nat) (x1 : Int32) (x2 : Int32) (x3 : Int32) (h : Hp) : Re :=
  (f5_wanted k x1 x2 x3 h).bind fun c1 => if c1.1 = (-6) then (rz 0 c1.2) else (if c1.1 = 0 then ((f5_grains k x1 x2 x3 c1.2).bind fun c13 => if c13.1 = 0 then (rz 1 c13.2) else (rz 0 c13.2)) else ((f5_colour k x1 x2 x3 c1.2).bind fun c5 => if c5.1 = c1.1 then ((f5_grains k x1 x2 x3 c5.2).bind fun c8 => (f5_setting k 0 c8.2).bind fun c10 => if c8.1 < c10.1 then (rz 0 c10.2) else (rz 1 c10.2)) else (rz 0 c5.2)))
set_option maxRecDepth 20000 in
set_option maxHeartbeats 4000000 in
theorem f5_isRight_e_ok {k : Nat} (hk : SR E k) (X : XC E RX5 cX5_isRight 5 (some .boolean) A p s m args meth c) {x1 : Int32} {x2 : Int32} {x3 : Int32} {h : Hp} (hf0 : f5_isRight_e k x1 x2 x3 h = some (r, h')) : VM E 5 A p l e 3 s m args below meth c (Qi E A r h') 0 [(0, .ref (eA E k)), (1, .int x1), (2, .int x2), (3, .int x3)] [] h := by
  unfold f5_isRight_e at hf0
  have hf1 := hf0
  refine V_aload_n X 0 rfl dX5_isRight_0 ?_
  refine V_iload_n X 1 rfl dX5_isRight_1 ?_
  refine V_iload_n X 2 rfl dX5_isRight_2 ?_
  refine V_iload_n X 3 rfl dX5_isRight_3 ?_
  obtain ⟨c1, e_c1, hf3⟩ := obd hf1
  refine V_callVi X hk.1 rfl rfl (f5_wanted_ok hk e_c1) ys_X5_wanted yw_X5_wanted ml_X5_44 rfl rfl ⟨Nat.le_of_ble_eq_true rfl, Nat.le_of_ble_eq_true rfl⟩ ⟨Nat.zero_le _, Nat.zero_le _⟩ (Nat.le_of_ble_eq_true rfl) dX5_isRight_4 ?_
  refine V_istore X (by decide) rfl dX5_isRight_7 ?_
  refine V_iload X 0 rfl dX5_isRight_9 ?_
  refine V_bipush X (v := -6) (by decide) dX5_isRight_11 ?_
  refine V_icmp_ne X (tgt := 18) (by decide) dX5_isRight_13 (fun q13 => ?_) (fun q13 => ?_)
  · have hf4 := ife hf3 q13
    refine V_iload X 0 rfl dX5_isRight_18 ?_
    refine V_if_ne X (tgt := 39) (by decide) dX5_isRight_20 (fun q20 => ?_) (fun q20 => ?_)
    · have hf5 := ife hf4 q20
      refine V_aload_n X 1 rfl dX5_isRight_39 ?_
      refine V_iload_n X 2 rfl dX5_isRight_40 ?_
      refine V_iload_n X 3 rfl dX5_isRight_41 ?_
      refine V_iload_n X 4 rfl dX5_isRight_42 ?_
      obtain ⟨c5, e_c5, hf7⟩ := obd hf5
      refine V_callVi X hk.1 rfl rfl (f5_colour_ok hk e_c5) ys_X5_colour yw_X5_colour ml_X5_51 rfl rfl ⟨Nat.le_of_ble_eq_true rfl, Nat.le_of_ble_eq_true rfl⟩ ⟨Nat.zero_le _, Nat.zero_le _⟩ (Nat.le_of_ble_eq_true rfl) dX5_isRight_43 ?_
      refine V_iload X 0 rfl dX5_isRight_46 ?_
      refine V_icmp_ne X (tgt := 70) (by decide) dX5_isRight_48 (fun q48 => ?_) (fun q48 => ?_)
      · have hf8 := ife hf7 q48
        refine V_iconst X (v := 0) (by decide) dX5_isRight_70 ?_
        exact V_zret X rfl hf8 dX5_isRight_71
      · have hf8 := ift hf7 q48
        refine V_aload_n X 1 rfl dX5_isRight_51 ?_
        refine V_iload_n X 2 rfl dX5_isRight_52 ?_
        refine V_iload_n X 3 rfl dX5_isRight_53 ?_
        refine V_iload_n X 4 rfl dX5_isRight_54 ?_
        obtain ⟨c8, e_c8, hf10⟩ := obd hf8
        refine V_callVi X hk.1 rfl rfl (f5_grains_ok hk e_c8) ys_X5_grains yw_X5_grains ml_X5_48 rfl rfl ⟨Nat.le_of_ble_eq_true rfl, Nat.le_of_ble_eq_true rfl⟩ ⟨Nat.zero_le _, Nat.zero_le _⟩ (Nat.le_of_ble_eq_true rfl) dX5_isRight_55 ?_
        refine V_aload_n X 1 rfl dX5_isRight_58 ?_
        refine V_iconst X (v := 0) (by decide) dX5_isRight_59 ?_
        obtain ⟨c10, e_c10, hf12⟩ := obd hf10
        refine V_callVi X hk.1 rfl rfl (f5_setting_ok hk e_c10) ys_X5_setting yw_X5_setting ml_X5_54 rfl rfl ⟨Nat.le_of_ble_eq_true rfl, Nat.le_of_ble_eq_true rfl⟩ ⟨Nat.zero_le _, Nat.zero_le _⟩ (Nat.le_of_ble_eq_true rfl) dX5_isRight_60 ?_
        refine V_icmp_lt X (tgt := 70) (by decide) dX5_isRight_63 (fun q63 => ?_) (fun q63 => ?_)
        · have hf13 := ift hf12 q63
          refine V_iconst X (v := 0) (by decide) dX5_isRight_70 ?_
          exact V_zret X rfl hf13 dX5_isRight_71
        · have hf13 := ife hf12 q63
          refine V_iconst X (v := 1) (by decide) dX5_isRight_66 ?_
          refine V_goto X (tgt := 71) (by decide) dX5_isRight_67 ?_
          exact V_zret X rfl hf13 dX5_isRight_71
    · have hf5 := ift hf4 q20
      refine V_aload_n X 1 rfl dX5_isRight_23 ?_
      refine V_iload_n X 2 rfl dX5_isRight_24 ?_
      refine V_iload_n X 3 rfl dX5_isRight_25 ?_
      refine V_iload_n X 4 rfl dX5_isRight_26 ?_
      obtain ⟨c13, e_c13, hf15⟩ := obd hf5
      refine V_callVi X hk.1 rfl rfl (f5_grains_ok hk e_c13) ys_X5_grains yw_X5_grains ml_X5_48 rfl rfl ⟨Nat.le_of_ble_eq_true rfl, Nat.le_of_ble_eq_true rfl⟩ ⟨Nat.zero_le _, Nat.zero_le _⟩ (Nat.le_of_ble_eq_true rfl) dX5_isRight_27 ?_
      refine V_if_ne X (tgt := 37) (by decide) dX5_isRight_30 (fun q30 => ?_) (fun q30 => ?_)
      · have hf16 := ife hf15 q30
        refine V_iconst X (v := 0) (by decide) dX5_isRight_37 ?_
        exact V_zret X rfl hf16 dX5_isRight_38
      · have hf16 := ift hf15 q30
        refine V_iconst X (v := 1) (by decide) dX5_isRight_33 ?_
        refine V_goto X (tgt := 38) (by decide) dX5_isRight_34 ?_
        exact V_zret X rfl hf16 dX5_isRight_38
  · have hf4 := ift hf3 q13
    refine V_iconst X (v := 0) (by decide) dX5_isRight_16 ?_
    exact V_zret X rfl hf4 dX5_isRight_17
def f5_isRight (k : Nat) (x1 : Int32) (x2 : Int32) (x3 : Int32) (h : Hp) : Re := f5_isRight_e k x1 x2 x3 h
theorem f5_isRight_ok {k : Nat} (hk : SR E k) {x1 : Int32} {x2 : Int32} {x3 : Int32} {h : Hp} {q : Int32 × Hp} (hf0 : f5_isRight k x1 x2 x3 h = some q) : SMi l E 3 yX5_isRight cX5_isRight 5 (some .boolean) [.ref (eA E k), .int x1, .int x2, .int x3] h q.1 q.2 :=
  SMi.of (by decide +kernel) (Nat.le_of_ble_eq_true rfl) (fun p e s m args below meth c A X => f5_isRight_e_ok hk X (r := q.1) (h' := q.2) hf0)
def f6_isWhole_B9 (k2 : Int32 → Int32 → Hp → Re) (k9 : Int32 → Int32 → Int32 → Hp → Re) (x1 : Int32) (x2 : Int32) (x3 : Int32) (h : Hp) : Re :=
  if 8 ≤ x3 then (k2 x1 (x2 + 1) h) else ((f5_isRight 1 x2 x1 x3 h).bind fun c2 => if c2.1 = 0 then (rz 0 c2.2) else (k9 x1 x2 (x3 + 1) c2.2))
set_option maxRecDepth 20000 in
set_option maxHeartbeats 4000000 in
theorem f6_isWhole_B9_ok (hE : IW E) (X : XC E RX6 cX6_isWhole 4 (some .boolean) A p s m args meth c) {k2 : Int32 → Int32 → Hp → Re} {k9 : Int32 → Int32 → Int32 → Hp → Re} (hk2 : ∀ (x1 : Int32) (x2 : Int32) (h : Hp), k2 x1 x2 h = some (r, h') → VM E 4 A p l e 4 s m args below meth c (Qi E A r h') 2 [(0, .ref (eA E 1)), (1, .int x1), (2, .int x2)] [] h) (hk9 : ∀ (x1 : Int32) (x2 : Int32) (x3 : Int32) (h : Hp), k9 x1 x2 x3 h = some (r, h') → VM E 4 A p l e 4 s m args below meth c (Qi E A r h') 9 [(0, .ref (eA E 1)), (1, .int x1), (2, .int x2), (3, .int x3)] [] h) {x1 : Int32} {x2 : Int32} {x3 : Int32} {h : Hp} (hf0 : f6_isWhole_B9 k2 k9 x1 x2 x3 h = some (r, h')) : VM E 4 A p l e 4 s m args below meth c (Qi E A r h') 9 [(0, .ref (eA E 1)), (1, .int x1), (2, .int x2), (3, .int x3)] [] h := by
  unfold f6_isWhole_B9 at hf0
  have hf1 := hf0
  refine V_iload_n X 3 rfl dX6_isWhole_9 ?_
  refine V_bipush X (v := 8) (by decide) dX6_isWhole_10 ?_
  refine V_icmp_ge X (tgt := 33) (by decide) dX6_isWhole_12 (fun q12 => ?_) (fun q12 => ?_)
  · have hf2 := ift hf1 q12
    refine V_iinc X (v := _ + 1) 2 rfl (by rfl) (by decide) rfl dX6_isWhole_33 ?_
    refine V_goto X (tgt := 2) (by decide) dX6_isWhole_36 ?_
    exact V_sub [1, 2, 0] rfl (hk2 _ _ _ hf2)
  · have hf2 := ife hf1 q12
    refine V_aload_n X 0 rfl dX6_isWhole_15 ?_
    refine V_iload_n X 2 rfl dX6_isWhole_16 ?_
    refine V_iload_n X 1 rfl dX6_isWhole_17 ?_
    refine V_iload_n X 3 rfl dX6_isWhole_18 ?_
    obtain ⟨c2, e_c2, hf4⟩ := obd hf2
    refine V_callVi X (SR_1 hE).1 rfl rfl (f5_isRight_ok (SR_1 hE) e_c2) ys_X5_isRight yw_X5_isRight ml_X6_28 rfl rfl ⟨Nat.le_of_ble_eq_true rfl, Nat.le_of_ble_eq_true rfl⟩ ⟨Nat.zero_le _, Nat.zero_le _⟩ (Nat.le_of_ble_eq_true rfl) dX6_isWhole_19 ?_
    refine V_if_ne X (tgt := 27) (by decide) dX6_isWhole_22 (fun q22 => ?_) (fun q22 => ?_)
    · have hf5 := ife hf4 q22
      refine V_iinc X (v := _ + 1) 3 rfl (by rfl) (by decide) rfl dX6_isWhole_27 ?_
      refine V_goto X (tgt := 9) (by decide) dX6_isWhole_30 ?_
      exact V_sub [1, 2, 3, 0] rfl (hk9 _ _ _ _ hf5)
    · have hf5 := ift hf4 q22
      refine V_iconst X (v := 0) (by decide) dX6_isWhole_25 ?_
      exact V_zret X rfl hf5 dX6_isWhole_26
def f6_isWhole_L9 (k2 : Int32 → Int32 → Hp → Re) : Nat → Int32 → Int32 → Int32 → Hp → Re
  | 0 => fun _ _ _ _ => none
  | n + 1 => f6_isWhole_B9 k2 (f6_isWhole_L9 k2 n)
theorem f6_isWhole_L9_s (k2 : Int32 → Int32 → Hp → Re) (n : Nat) (x1 : Int32) (x2 : Int32) (x3 : Int32) (h : Hp) : f6_isWhole_L9 k2 (n + 1) x1 x2 x3 h = f6_isWhole_B9 k2 (f6_isWhole_L9 k2 n) x1 x2 x3 h := rfl
theorem f6_isWhole_L9_ok (hE : IW E) (X : XC E RX6 cX6_isWhole 4 (some .boolean) A p s m args meth c) {k2 : Int32 → Int32 → Hp → Re} (hk2 : ∀ (x1 : Int32) (x2 : Int32) (h : Hp), k2 x1 x2 h = some (r, h') → VM E 4 A p l e 4 s m args below meth c (Qi E A r h') 2 [(0, .ref (eA E 1)), (1, .int x1), (2, .int x2)] [] h) : ∀ (n : Nat) (x1 : Int32) (x2 : Int32) (x3 : Int32) (h : Hp), f6_isWhole_L9 k2 n x1 x2 x3 h = some (r, h') → VM E 4 A p l e 4 s m args below meth c (Qi E A r h') 9 [(0, .ref (eA E 1)), (1, .int x1), (2, .int x2), (3, .int x3)] [] h := by
  intro n
  induction n with
  | zero =>
    intro x1 x2 x3 h q
    have q : (none : Re) = some (r, h') := q
    cases q
  | succ n ih =>
    intro x1 x2 x3 h q
    exact f6_isWhole_B9_ok hE X hk2 ih q
def f6_isWhole_B2 (k2 : Int32 → Int32 → Hp → Re) (x1 : Int32) (x2 : Int32) (h : Hp) : Re :=
  if 4 ≤ x2 then (rz 1 h) else (f6_isWhole_L9 k2 FU x1 x2 0 h)
set_option maxRecDepth 20000 in
set_option maxHeartbeats 4000000 in
theorem f6_isWhole_B2_ok (hE : IW E) (X : XC E RX6 cX6_isWhole 4 (some .boolean) A p s m args meth c) {k2 : Int32 → Int32 → Hp → Re} (hk2 : ∀ (x1 : Int32) (x2 : Int32) (h : Hp), k2 x1 x2 h = some (r, h') → VM E 4 A p l e 4 s m args below meth c (Qi E A r h') 2 [(0, .ref (eA E 1)), (1, .int x1), (2, .int x2)] [] h) {x1 : Int32} {x2 : Int32} {h : Hp} (hf0 : f6_isWhole_B2 k2 x1 x2 h = some (r, h')) : VM E 4 A p l e 4 s m args below meth c (Qi E A r h') 2 [(0, .ref (eA E 1)), (1, .int x1), (2, .int x2)] [] h := by
  unfold f6_isWhole_B2 at hf0
  have hf1 := hf0
  refine V_iload_n X 2 rfl dX6_isWhole_2 ?_
  refine V_iconst X (v := 4) (by decide) dX6_isWhole_3 ?_
  refine V_icmp_ge X (tgt := 39) (by decide) dX6_isWhole_4 (fun q4 => ?_) (fun q4 => ?_)
  · have hf2 := ift hf1 q4
    refine V_iconst X (v := 1) (by decide) dX6_isWhole_39 ?_
    exact V_zret X rfl hf2 dX6_isWhole_40
  · have hf2 := ife hf1 q4
    refine V_iconst X (v := 0) (by decide) dX6_isWhole_7 ?_
    refine V_istore_n X (by decide) rfl dX6_isWhole_8 ?_
    exact V_sub [1, 2, 3, 0] rfl (f6_isWhole_L9_ok hE X hk2 FU _ _ _ _ hf2)
def f6_isWhole_L2 : Nat → Int32 → Int32 → Hp → Re
  | 0 => fun _ _ _ => none
  | n + 1 => f6_isWhole_B2 (f6_isWhole_L2 n)
theorem f6_isWhole_L2_s (n : Nat) (x1 : Int32) (x2 : Int32) (h : Hp) : f6_isWhole_L2 (n + 1) x1 x2 h = f6_isWhole_B2 (f6_isWhole_L2 n) x1 x2 h := rfl
theorem f6_isWhole_L2_ok (hE : IW E) (X : XC E RX6 cX6_isWhole 4 (some .boolean) A p s m args meth c) : ∀ (n : Nat) (x1 : Int32) (x2 : Int32) (h : Hp), f6_isWhole_L2 n x1 x2 h = some (r, h') → VM E 4 A p l e 4 s m args below meth c (Qi E A r h') 2 [(0, .ref (eA E 1)), (1, .int x1), (2, .int x2)] [] h := by
  intro n
  induction n with
  | zero =>
    intro x1 x2 h q
    have q : (none : Re) = some (r, h') := q
    cases q
  | succ n ih =>
    intro x1 x2 h q
    exact f6_isWhole_B2_ok hE X ih q
def f6_isWhole_e (x1 : Int32) (h : Hp) : Re :=
  f6_isWhole_L2 FU x1 0 h
set_option maxRecDepth 20000 in
set_option maxHeartbeats 4000000 in
theorem f6_isWhole_e_ok (hE : IW E) (X : XC E RX6 cX6_isWhole 4 (some .boolean) A p s m args meth c) {x1 : Int32} {h : Hp} (hf0 : f6_isWhole_e x1 h = some (r, h')) : VM E 4 A p l e 4 s m args below meth c (Qi E A r h') 0 [(0, .ref (eA E 1)), (1, .int x1)] [] h := by
  unfold f6_isWhole_e at hf0
  have hf1 := hf0
  refine V_iconst X (v := 0) (by decide) dX6_isWhole_0 ?_
  refine V_istore_n X (by decide) rfl dX6_isWhole_1 ?_
  exact V_sub [1, 2, 0] rfl (f6_isWhole_L2_ok hE X FU _ _ _ hf1)
def f6_isWhole (x1 : Int32) (h : Hp) : Re := f6_isWhole_e x1 h
theorem f6_isWhole_ok (hE : IW E) {x1 : Int32} {h : Hp} {q : Int32 × Hp} (hf0 : f6_isWhole x1 h = some q) : SMi l E 4 yX6_isWhole cX6_isWhole 4 (some .boolean) [.ref (eA E 1), .int x1] h q.1 q.2 :=
  SMi.of (by decide +kernel) (Nat.le_of_ble_eq_true rfl) (fun p e s m args below meth c A X => f6_isWhole_e_ok hE X (r := q.1) (h' := q.2) hf0)
def f1_closeRing_e (h : Hp) : Re :=
  (f5_number 1 19 h).bind fun c1 => if 5 ≤ c1.1 then (some ((-5), c1.2)) else ((f6_isWhole c1.1 c1.2).bind fun c4 => if c4.1 = 0 then (some ((-5), c4.2)) else ((f5_lay 1 19 (c1.1 + 1) c4.2).bind fun c7 => some (c1.1, c7.2)))
set_option maxRecDepth 20000 in
set_option maxHeartbeats 4000000 in
theorem f1_closeRing_e_ok (hE : IW E) (X : XC E RX1 cX1_closeRing 2 (some .int) A p s m args meth c) {h : Hp} (hf0 : f1_closeRing_e  h = some (r, h')) : VM E 2 A p l e 5 s m args below meth c (Qi E A r h') 0 [(0, .ref (eA E 1))] [] h := by
  unfold f1_closeRing_e at hf0
  have hf1 := hf0
  refine V_aload_n X 0 rfl dX1_closeRing_0 ?_
  refine V_bipush X (v := 19) (by decide) dX1_closeRing_1 ?_
  obtain ⟨c1, e_c1, hf3⟩ := obd hf1
  refine V_callVi X (SR_1 hE).1 rfl rfl (f5_number_ok (SR_1 hE) e_c1) ys_X5_number yw_X5_number ml_X1_94 rfl rfl ⟨Nat.le_of_ble_eq_true rfl, Nat.le_of_ble_eq_true rfl⟩ ⟨Nat.zero_le _, Nat.zero_le _⟩ (Nat.le_of_ble_eq_true rfl) dX1_closeRing_3 ?_
  refine V_istore_n X (by decide) rfl dX1_closeRing_6 ?_
  refine V_iload_n X 0 rfl dX1_closeRing_7 ?_
  refine V_iconst X (v := 5) (by decide) dX1_closeRing_8 ?_
  refine V_icmp_ge X (tgt := 20) (by decide) dX1_closeRing_9 (fun q9 => ?_) (fun q9 => ?_)
  · have hf4 := ift hf3 q9
    refine V_bipush X (v := -5) (by decide) dX1_closeRing_20 ?_
    exact V_iret X rfl hf4 dX1_closeRing_22
  · have hf4 := ife hf3 q9
    refine V_aload_n X 1 rfl dX1_closeRing_12 ?_
    refine V_iload_n X 0 rfl dX1_closeRing_13 ?_
    obtain ⟨c4, e_c4, hf6⟩ := obd hf4
    refine V_callSi X (f6_isWhole_ok hE e_c4) ys_X6_isWhole yw_X6_isWhole ml_X1_97 rfl rfl ⟨Nat.le_of_ble_eq_true rfl, Nat.le_of_ble_eq_true rfl⟩ ⟨Nat.zero_le _, Nat.zero_le _⟩ (Nat.le_of_ble_eq_true rfl) dX1_closeRing_14 ?_
    refine V_if_ne X (tgt := 23) (by decide) dX1_closeRing_17 (fun q17 => ?_) (fun q17 => ?_)
    · have hf7 := ife hf6 q17
      refine V_aload_n X 1 rfl dX1_closeRing_23 ?_
      refine V_bipush X (v := 19) (by decide) dX1_closeRing_24 ?_
      refine V_iload_n X 0 rfl dX1_closeRing_26 ?_
      refine V_iconst X (v := 1) (by decide) dX1_closeRing_27 ?_
      refine V_iadd X dX1_closeRing_28 ?_
      obtain ⟨c7, e_c7, hf9⟩ := obd hf7
      refine V_callVv X (SR_1 hE).1 rfl rfl (f5_lay_ok (SR_1 hE) e_c7) ys_X5_lay yw_X5_lay ml_X1_25 rfl rfl ⟨Nat.le_of_ble_eq_true rfl, Nat.le_of_ble_eq_true rfl⟩ ⟨Nat.zero_le _, Nat.zero_le _⟩ (Nat.le_of_ble_eq_true rfl) dX1_closeRing_29 ?_
      refine V_iload_n X 0 rfl dX1_closeRing_32 ?_
      exact V_iret X rfl hf9 dX1_closeRing_33
    · have hf7 := ift hf6 q17
      refine V_bipush X (v := -5) (by decide) dX1_closeRing_20 ?_
      exact V_iret X rfl hf7 dX1_closeRing_22
def f1_closeRing (h : Hp) : Re := f1_closeRing_e  h
theorem f1_closeRing_ok (hE : IW E) {h : Hp} {q : Int32 × Hp} (hf0 : f1_closeRing  h = some q) : SMi l E 5 yX1_closeRing cX1_closeRing 2 (some .int) [.ref (eA E 1)] h q.1 q.2 :=
  SMi.of (by decide +kernel) (Nat.le_of_ble_eq_true rfl) (fun p e s m args below meth c A X => f1_closeRing_e_ok hE X (r := q.1) (h' := q.2) hf0)
end DM
