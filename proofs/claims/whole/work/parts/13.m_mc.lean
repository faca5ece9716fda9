section DM
variable {E : EN} {A : Nat → Prop} {p : Program} {l : Launch} {e : Env} {s : State} {m : MethodId} {args : Array Value} {below : List Frame} {meth : Method} {c : Code} {r : Int32} {h' : Hp}
def f8_changes_j58 (k22 : Int32 → Int32 → Int32 → Hp → Re) (x1 : Int32) (x5 : Int32) (h : Hp) : Re :=
  k22 x1 1 (x5 + 1) h
set_option maxRecDepth 20000 in
set_option maxHeartbeats 4000000 in
theorem f8_changes_j58_ok (hE : IW E) (X : XC E RX8 cX8_changes 6 (some .boolean) A p s m args meth c) {k22 : Int32 → Int32 → Int32 → Hp → Re} (hk22 : ∀ (x1 : Int32) (x4 : Int32) (x5 : Int32) (h : Hp), k22 x1 x4 x5 h = some (r, h') → VM E 6 A p l e 3 s m args below meth c (Qi E A r h') 22 [(0, .ref (eA E 12)), (1, .int x1), (4, .int x4), (5, .int x5)] [] h) {x1 : Int32} {x5 : Int32} {h : Hp} (hf0 : f8_changes_j58 k22 x1 x5 h = some (r, h')) : VM E 6 A p l e 3 s m args below meth c (Qi E A r h') 58 [(0, .ref (eA E 12)), (1, .int x1), (5, .int x5)] [] h := by
  unfold f8_changes_j58 at hf0
  have hf1 := hf0
  refine V_iconst X (v := 1) (by decide) dX8_changes_58 ?_
  refine V_goto X (tgt := 63) (by decide) dX8_changes_59 ?_
  refine V_istore X (by decide) rfl dX8_changes_63 ?_
  refine V_iinc X (v := _ + 1) 3 rfl (by rfl) (by decide) rfl dX8_changes_65 ?_
  refine V_goto X (tgt := 22) (by decide) dX8_changes_68 ?_
  exact V_sub [2, 3, 1, 0] rfl (hk22 _ _ _ _ hf1)
def f8_changes_B22 (k22 : Int32 → Int32 → Int32 → Hp → Re) (x1 : Int32) (x4 : Int32) (x5 : Int32) (h : Hp) : Re :=
  (f8_p x1 4 7 h).bind fun c1 => if (c1.1 + 2) ≤ x5 then (rz x4 c1.2) else (if x4 = 0 then (if inB x5 383 = true then if inB x5 383 = true then if (c1.2 13 (Int32.toNatClampNeg x5)) = (c1.2 14 (Int32.toNatClampNeg x5)) then (k22 x1 0 (x5 + 1) c1.2) else (f8_changes_j58 k22 x1 x5 c1.2) else none else none) else (f8_changes_j58 k22 x1 x5 c1.2))
set_option maxRecDepth 20000 in
set_option maxHeartbeats 4000000 in
theorem f8_changes_B22_ok (hE : IW E) (X : XC E RX8 cX8_changes 6 (some .boolean) A p s m args meth c) {k22 : Int32 → Int32 → Int32 → Hp → Re} (hk22 : ∀ (x1 : Int32) (x4 : Int32) (x5 : Int32) (h : Hp), k22 x1 x4 x5 h = some (r, h') → VM E 6 A p l e 3 s m args below meth c (Qi E A r h') 22 [(0, .ref (eA E 12)), (1, .int x1), (4, .int x4), (5, .int x5)] [] h) {x1 : Int32} {x4 : Int32} {x5 : Int32} {h : Hp} (hf0 : f8_changes_B22 k22 x1 x4 x5 h = some (r, h')) : VM E 6 A p l e 3 s m args below meth c (Qi E A r h') 22 [(0, .ref (eA E 12)), (1, .int x1), (4, .int x4), (5, .int x5)] [] h := by
  unfold f8_changes_B22 at hf0
  have hf1 := hf0
  refine V_iload X 3 rfl dX8_changes_22 ?_
  refine V_iload_n X 1 rfl dX8_changes_24 ?_
  refine V_iconst X (v := 4) (by decide) dX8_changes_25 ?_
  refine V_bipush X (v := 7) (by decide) dX8_changes_26 ?_
  obtain ⟨c1, e_c1, hf3⟩ := obd hf1
  refine V_callSi X (f8_p_ok e_c1) ys_X8_p yw_X8_p ml_X8_61 rfl rfl ⟨Nat.le_of_ble_eq_true rfl, Nat.le_of_ble_eq_true rfl⟩ ⟨Nat.zero_le _, Nat.zero_le _⟩ (Nat.le_of_ble_eq_true rfl) dX8_changes_28 ?_
  refine V_iconst X (v := 2) (by decide) dX8_changes_31 ?_
  refine V_iadd X dX8_changes_32 ?_
  refine V_icmp_ge X (tgt := 71) (by decide) dX8_changes_33 (fun q33 => ?_) (fun q33 => ?_)
  · have hf4 := ift hf3 q33
    refine V_iload X 2 rfl dX8_changes_71 ?_
    exact V_zret X rfl hf4 dX8_changes_73
  · have hf4 := ife hf3 q33
    refine V_iload X 2 rfl dX8_changes_36 ?_
    refine V_if_ne X (tgt := 58) (by decide) dX8_changes_38 (fun q38 => ?_) (fun q38 => ?_)
    · have hf5 := ife hf4 q38
      exact V_sub [0, 1, 3] rfl (f8_changes_j58_ok hE X hk22 hf5)
    · have hf5 := ift hf4 q38
      refine V_aload_n X 0 rfl dX8_changes_41 ?_
      refine G_X8_0_7 hE X dX8_changes_42 ?_
      refine V_iload X 3 rfl dX8_changes_45 ?_
      obtain ⟨g105, hf105⟩ := ogd hf5
      refine V_iald X (AR_13 hE) g105 dX8_changes_47 ?_
      refine V_aload_n X 0 rfl dX8_changes_48 ?_
      refine G_X8_1_13 hE X dX8_changes_49 ?_
      refine V_iload X 3 rfl dX8_changes_52 ?_
      obtain ⟨g106, hf106⟩ := ogd hf105
      refine V_iald X (AR_14 hE) g106 dX8_changes_54 ?_
      refine V_icmp_eq X (tgt := 62) (by decide) dX8_changes_55 (fun q55 => ?_) (fun q55 => ?_)
      · have hf8 := ift hf106 q55
        refine V_iconst X (v := 0) (by decide) dX8_changes_62 ?_
        refine V_istore X (by decide) rfl dX8_changes_63 ?_
        refine V_iinc X (v := _ + 1) 3 rfl (by rfl) (by decide) rfl dX8_changes_65 ?_
        refine V_goto X (tgt := 22) (by decide) dX8_changes_68 ?_
        exact V_sub [2, 3, 1, 0] rfl (hk22 _ _ _ _ hf8)
      · have hf8 := ife hf106 q55
        exact V_sub [0, 1, 3] rfl (f8_changes_j58_ok hE X hk22 hf8)
def f8_changes_L22 : Nat → Int32 → Int32 → Int32 → Hp → Re
  | 0 => fun _ _ _ _ => none
  | n + 1 => f8_changes_B22 (f8_changes_L22 n)
theorem f8_changes_L22_s (n : Nat) (x1 : Int32) (x4 : Int32) (x5 : Int32) (h : Hp) : f8_changes_L22 (n + 1) x1 x4 x5 h = f8_changes_B22 (f8_changes_L22 n) x1 x4 x5 h := rfl
theorem f8_changes_L22_ok (hE : IW E) (X : XC E RX8 cX8_changes 6 (some .boolean) A p s m args meth c) : ∀ (n : Nat) (x1 : Int32) (x4 : Int32) (x5 : Int32) (h : Hp), f8_changes_L22 n x1 x4 x5 h = some (r, h') → VM E 6 A p l e 3 s m args below meth c (Qi E A r h') 22 [(0, .ref (eA E 12)), (1, .int x1), (4, .int x4), (5, .int x5)] [] h := by
  intro n
  induction n with
  | zero =>
    intro x1 x4 x5 h q
    have q : (none : Re) = some (r, h') := q
    cases q
  | succ n ih =>
    intro x1 x4 x5 h q
    exact f8_changes_B22_ok hE X ih q
def f8_changes_e (x1 : Int32) (x2 : Int32) (h : Hp) : Re :=
  (f8_hold  h).bind fun c1 => (f8_breathes x1 x2 c1.2).bind fun c3 => (f8_p x1 0 0 c3.2).bind fun c5 => f8_changes_L22 FU x1 0 c5.1 c5.2
set_option maxRecDepth 20000 in
set_option maxHeartbeats 4000000 in
theorem f8_changes_e_ok (hE : IW E) (X : XC E RX8 cX8_changes 6 (some .boolean) A p s m args meth c) {x1 : Int32} {x2 : Int32} {h : Hp} (hf0 : f8_changes_e x1 x2 h = some (r, h')) : VM E 6 A p l e 3 s m args below meth c (Qi E A r h') 0 [(0, .ref (eA E 12)), (1, .int x1), (2, .int x2)] [] h := by
  unfold f8_changes_e at hf0
  have hf1 := hf0
  refine V_aload_n X 0 rfl dX8_changes_0 ?_
  obtain ⟨c1, e_c1, hf3⟩ := obd hf1
  refine V_callVv X (OB_12 hE) rfl rfl (f8_hold_ok hE e_c1) ys_X8_hold yw_X8_hold ml_X8_98 rfl rfl ⟨Nat.le_of_ble_eq_true rfl, Nat.le_of_ble_eq_true rfl⟩ ⟨Nat.zero_le _, Nat.zero_le _⟩ (Nat.le_of_ble_eq_true rfl) dX8_changes_1 ?_
  refine V_aload_n X 0 rfl dX8_changes_4 ?_
  refine V_iload_n X 1 rfl dX8_changes_5 ?_
  refine V_iload_n X 2 rfl dX8_changes_6 ?_
  obtain ⟨c3, e_c3, hf5⟩ := obd hf3
  refine V_callVi X (OB_12 hE) rfl rfl (f8_breathes_ok hE e_c3) ys_X8_breathes yw_X8_breathes ml_X8_120 rfl rfl ⟨Nat.le_of_ble_eq_true rfl, Nat.le_of_ble_eq_true rfl⟩ ⟨Nat.zero_le _, Nat.zero_le _⟩ (Nat.le_of_ble_eq_true rfl) dX8_changes_7 ?_
  refine V_istore_n X (by decide) rfl dX8_changes_10 ?_
  refine V_iconst X (v := 0) (by decide) dX8_changes_11 ?_
  refine V_istore X (by decide) rfl dX8_changes_12 ?_
  refine V_iload_n X 3 rfl dX8_changes_14 ?_
  refine V_iconst X (v := 0) (by decide) dX8_changes_15 ?_
  refine V_iconst X (v := 0) (by decide) dX8_changes_16 ?_
  obtain ⟨c5, e_c5, hf7⟩ := obd hf5
  refine V_callSi X (f8_p_ok e_c5) ys_X8_p yw_X8_p ml_X8_61 rfl rfl ⟨Nat.le_of_ble_eq_true rfl, Nat.le_of_ble_eq_true rfl⟩ ⟨Nat.zero_le _, Nat.zero_le _⟩ (Nat.le_of_ble_eq_true rfl) dX8_changes_17 ?_
  refine V_istore X (by decide) rfl dX8_changes_20 ?_
  exact V_sub [3, 4, 1, 0] rfl (f8_changes_L22_ok hE X FU _ _ _ _ hf7)
def f8_changes (x1 : Int32) (x2 : Int32) (h : Hp) : Re := f8_changes_e x1 x2 h
theorem f8_changes_ok (hE : IW E) {x1 : Int32} {x2 : Int32} {h : Hp} {q : Int32 × Hp} (hf0 : f8_changes x1 x2 h = some q) : SMi l E 3 yX8_changes cX8_changes 6 (some .boolean) [.ref (eA E 12), .int x1, .int x2] h q.1 q.2 :=
  SMi.of (by decide +kernel) (Nat.le_of_ble_eq_true rfl) (fun p e s m args below meth c A X => f8_changes_e_ok hE X (r := q.1) (h' := q.2) hf0)
def f8_settles_j49 (x3 : Int32) (h : Hp) : Re :=
  (f8_putBack  h).bind fun c1 => if x3 ≤ 200 then (some (x3, c1.2)) else (some ((-6), c1.2))
set_option maxRecDepth 20000 in
set_option maxHeartbeats 4000000 in
theorem f8_settles_j49_ok (hE : IW E) (X : XC E RX8 cX8_settles 4 (some .int) A p s m args meth c) {x3 : Int32} {h : Hp} (hf0 : f8_settles_j49 x3 h = some (r, h')) : VM E 4 A p l e 4 s m args below meth c (Qi E A r h') 49 [(0, .ref (eA E 12)), (3, .int x3)] [] h := by
  unfold f8_settles_j49 at hf0
  have hf1 := hf0
  refine V_aload_n X 0 rfl dX8_settles_49 ?_
  obtain ⟨c1, e_c1, hf3⟩ := obd hf1
  refine V_callVv X (OB_12 hE) rfl rfl (f8_putBack_ok hE e_c1) ys_X8_putBack yw_X8_putBack ml_X8_164 rfl rfl ⟨Nat.le_of_ble_eq_true rfl, Nat.le_of_ble_eq_true rfl⟩ ⟨Nat.zero_le _, Nat.zero_le _⟩ (Nat.le_of_ble_eq_true rfl) dX8_settles_50 ?_
  refine V_iload_n X 1 rfl dX8_settles_53 ?_
  refine V_sipush X (v := 200) (by decide) dX8_settles_54 ?_
  refine V_icmp_le X (tgt := 65) (by decide) dX8_settles_57 (fun q57 => ?_) (fun q57 => ?_)
  · have hf4 := ift hf3 q57
    refine V_iload_n X 1 rfl dX8_settles_65 ?_
    exact V_iret X rfl hf4 dX8_settles_66
  · have hf4 := ife hf3 q57
    refine V_bipush X (v := -6) (by decide) dX8_settles_60 ?_
    refine V_goto X (tgt := 66) (by decide) dX8_settles_62 ?_
    exact V_iret X rfl hf4 dX8_settles_66
def f8_settles_B27 (k27 : Int32 → Int32 → Int32 → Hp → Re) (x1 : Int32) (x2 : Int32) (x3 : Int32) (h : Hp) : Re :=
  if 200 < x3 then (f8_settles_j49 x3 h) else ((f8_changes x1 x2 h).bind fun c2 => if c2.1 = 0 then (f8_settles_j49 x3 c2.2) else (k27 x1 x2 (x3 + 1) c2.2))
set_option maxRecDepth 20000 in
set_option maxHeartbeats 4000000 in
theorem f8_settles_B27_ok (hE : IW E) (X : XC E RX8 cX8_settles 4 (some .int) A p s m args meth c) {k27 : Int32 → Int32 → Int32 → Hp → Re} (hk27 : ∀ (x1 : Int32) (x2 : Int32) (x3 : Int32) (h : Hp), k27 x1 x2 x3 h = some (r, h') → VM E 4 A p l e 4 s m args below meth c (Qi E A r h') 27 [(0, .ref (eA E 12)), (1, .int x1), (2, .int x2), (3, .int x3)] [] h) {x1 : Int32} {x2 : Int32} {x3 : Int32} {h : Hp} (hf0 : f8_settles_B27 k27 x1 x2 x3 h = some (r, h')) : VM E 4 A p l e 4 s m args below meth c (Qi E A r h') 27 [(0, .ref (eA E 12)), (1, .int x1), (2, .int x2), (3, .int x3)] [] h := by
  unfold f8_settles_B27 at hf0
  have hf1 := hf0
  refine V_iload_n X 3 rfl dX8_settles_27 ?_
  refine V_sipush X (v := 200) (by decide) dX8_settles_28 ?_
  refine V_icmp_gt X (tgt := 49) (by decide) dX8_settles_31 (fun q31 => ?_) (fun q31 => ?_)
  · have hf2 := ift hf1 q31
    exact V_sub [0, 3] rfl (f8_settles_j49_ok hE X hf2)
  · have hf2 := ife hf1 q31
    refine V_aload_n X 0 rfl dX8_settles_34 ?_
    refine V_iload_n X 1 rfl dX8_settles_35 ?_
    refine V_iload_n X 2 rfl dX8_settles_36 ?_
    obtain ⟨c2, e_c2, hf4⟩ := obd hf2
    refine V_callVi X (OB_12 hE) rfl rfl (f8_changes_ok hE e_c2) ys_X8_changes yw_X8_changes ml_X8_167 rfl rfl ⟨Nat.le_of_ble_eq_true rfl, Nat.le_of_ble_eq_true rfl⟩ ⟨Nat.zero_le _, Nat.zero_le _⟩ (Nat.le_of_ble_eq_true rfl) dX8_settles_37 ?_
    refine V_if_eq X (tgt := 49) (by decide) dX8_settles_40 (fun q40 => ?_) (fun q40 => ?_)
    · have hf5 := ift hf4 q40
      exact V_sub [0, 3] rfl (f8_settles_j49_ok hE X hf5)
    · have hf5 := ife hf4 q40
      refine V_iinc X (v := _ + 1) 3 rfl (by rfl) (by decide) rfl dX8_settles_43 ?_
      refine V_goto X (tgt := 27) (by decide) dX8_settles_46 ?_
      exact V_sub [1, 2, 3, 0] rfl (hk27 _ _ _ _ hf5)
def f8_settles_L27 : Nat → Int32 → Int32 → Int32 → Hp → Re
  | 0 => fun _ _ _ _ => none
  | n + 1 => f8_settles_B27 (f8_settles_L27 n)
theorem f8_settles_L27_s (n : Nat) (x1 : Int32) (x2 : Int32) (x3 : Int32) (h : Hp) : f8_settles_L27 (n + 1) x1 x2 x3 h = f8_settles_B27 (f8_settles_L27 n) x1 x2 x3 h := rfl
theorem f8_settles_L27_ok (hE : IW E) (X : XC E RX8 cX8_settles 4 (some .int) A p s m args meth c) : ∀ (n : Nat) (x1 : Int32) (x2 : Int32) (x3 : Int32) (h : Hp), f8_settles_L27 n x1 x2 x3 h = some (r, h') → VM E 4 A p l e 4 s m args below meth c (Qi E A r h') 27 [(0, .ref (eA E 12)), (1, .int x1), (2, .int x2), (3, .int x3)] [] h := by
  intro n
  induction n with
  | zero =>
    intro x1 x2 x3 h q
    have q : (none : Re) = some (r, h') := q
    cases q
  | succ n ih =>
    intro x1 x2 x3 h q
    exact f8_settles_B27_ok hE X ih q
def f8_settles_e (x1 : Int32) (x2 : Int32) (h : Hp) : Re :=
  (f8_isQuarter x1 h).bind fun c1 => if c1.1 = 0 then (some ((-1), c1.2)) else ((f8_in x2 0 1 c1.2).bind fun c4 => if c4.1 = 0 then (some ((-2), c4.2)) else ((f8_keepTrial  c4.2).bind fun c7 => f8_settles_L27 FU x1 x2 0 c7.2))
set_option maxRecDepth 20000 in
set_option maxHeartbeats 4000000 in
theorem f8_settles_e_ok (hE : IW E) (X : XC E RX8 cX8_settles 4 (some .int) A p s m args meth c) {x1 : Int32} {x2 : Int32} {h : Hp} (hf0 : f8_settles_e x1 x2 h = some (r, h')) : VM E 4 A p l e 4 s m args below meth c (Qi E A r h') 0 [(0, .ref (eA E 12)), (1, .int x1), (2, .int x2)] [] h := by
  unfold f8_settles_e at hf0
  have hf1 := hf0
  refine V_iload_n X 1 rfl dX8_settles_0 ?_
  obtain ⟨c1, e_c1, hf3⟩ := obd hf1
  refine V_callSi X (f8_isQuarter_ok e_c1) ys_X8_isQuarter yw_X8_isQuarter ml_X8_43 rfl rfl ⟨Nat.le_of_ble_eq_true rfl, Nat.le_of_ble_eq_true rfl⟩ ⟨Nat.zero_le _, Nat.zero_le _⟩ (Nat.le_of_ble_eq_true rfl) dX8_settles_1 ?_
  refine V_if_ne X (tgt := 9) (by decide) dX8_settles_4 (fun q4 => ?_) (fun q4 => ?_)
  · have hf4 := ife hf3 q4
    refine V_iload_n X 2 rfl dX8_settles_9 ?_
    refine V_iconst X (v := 0) (by decide) dX8_settles_10 ?_
    refine V_iconst X (v := 1) (by decide) dX8_settles_11 ?_
    obtain ⟨c4, e_c4, hf6⟩ := obd hf4
    refine V_callSi X (f8_in_ok e_c4) ys_X8_in yw_X8_in ml_X8_39 rfl rfl ⟨Nat.le_of_ble_eq_true rfl, Nat.le_of_ble_eq_true rfl⟩ ⟨Nat.zero_le _, Nat.zero_le _⟩ (Nat.le_of_ble_eq_true rfl) dX8_settles_12 ?_
    refine V_if_ne X (tgt := 21) (by decide) dX8_settles_15 (fun q15 => ?_) (fun q15 => ?_)
    · have hf7 := ife hf6 q15
      refine V_aload_n X 0 rfl dX8_settles_21 ?_
      obtain ⟨c7, e_c7, hf9⟩ := obd hf7
      refine V_callVv X (OB_12 hE) rfl rfl (f8_keepTrial_ok hE e_c7) ys_X8_keepTrial yw_X8_keepTrial ml_X8_157 rfl rfl ⟨Nat.le_of_ble_eq_true rfl, Nat.le_of_ble_eq_true rfl⟩ ⟨Nat.zero_le _, Nat.zero_le _⟩ (Nat.le_of_ble_eq_true rfl) dX8_settles_22 ?_
      refine V_iconst X (v := 0) (by decide) dX8_settles_25 ?_
      refine V_istore_n X (by decide) rfl dX8_settles_26 ?_
      exact V_sub [1, 2, 3, 0] rfl (f8_settles_L27_ok hE X FU _ _ _ _ hf9)
    · have hf7 := ift hf6 q15
      refine V_bipush X (v := -2) (by decide) dX8_settles_18 ?_
      exact V_iret X rfl hf7 dX8_settles_20
  · have hf4 := ift hf3 q4
    refine V_iconst X (v := -1) (by decide) dX8_settles_7 ?_
    exact V_iret X rfl hf4 dX8_settles_8
def f8_settles (x1 : Int32) (x2 : Int32) (h : Hp) : Re := f8_settles_e x1 x2 h
theorem f8_settles_ok (hE : IW E) {x1 : Int32} {x2 : Int32} {h : Hp} {q : Int32 × Hp} (hf0 : f8_settles x1 x2 h = some q) : SMi l E 4 yX8_settles cX8_settles 4 (some .int) [.ref (eA E 12), .int x1, .int x2] h q.1 q.2 :=
  SMi.of (by decide +kernel) (Nat.le_of_ble_eq_true rfl) (fun p e s m args below meth c A X => f8_settles_e_ok hE X (r := q.1) (h' := q.2) hf0)
def f8_best_B4 (k4 : Int32 → Int32 → Hp → Re) (x1 : Int32) (x2 : Int32) (h : Hp) : Re :=
  if 4 ≤ x2 then (some (x1, h)) else ((f8_ofPlacesIn x2 11 h).bind fun c2 => (f8_ofPlacesIn x1 11 c2.2).bind fun c4 => if c2.1 ≤ c4.1 then (k4 x1 (x2 + 1) c4.2) else (k4 x2 (x2 + 1) c4.2))
set_option maxRecDepth 20000 in
set_option maxHeartbeats 4000000 in
theorem f8_best_B4_ok (hE : IW E) (X : XC E RX8 cX8_best 3 (some .int) A p s m args meth c) {k4 : Int32 → Int32 → Hp → Re} (hk4 : ∀ (x1 : Int32) (x2 : Int32) (h : Hp), k4 x1 x2 h = some (r, h') → VM E 3 A p l e 5 s m args below meth c (Qi E A r h') 4 [(0, .ref (eA E 12)), (1, .int x1), (2, .int x2)] [] h) {x1 : Int32} {x2 : Int32} {h : Hp} (hf0 : f8_best_B4 k4 x1 x2 h = some (r, h')) : VM E 3 A p l e 5 s m args below meth c (Qi E A r h') 4 [(0, .ref (eA E 12)), (1, .int x1), (2, .int x2)] [] h := by
  unfold f8_best_B4 at hf0
  have hf1 := hf0
  refine V_iload_n X 2 rfl dX8_best_4 ?_
  refine V_iconst X (v := 4) (by decide) dX8_best_5 ?_
  refine V_icmp_ge X (tgt := 38) (by decide) dX8_best_6 (fun q6 => ?_) (fun q6 => ?_)
  · have hf2 := ift hf1 q6
    refine V_iload_n X 1 rfl dX8_best_38 ?_
    exact V_iret X rfl hf2 dX8_best_39
  · have hf2 := ife hf1 q6
    refine V_aload_n X 0 rfl dX8_best_9 ?_
    refine V_iload_n X 2 rfl dX8_best_10 ?_
    refine V_bipush X (v := 11) (by decide) dX8_best_11 ?_
    obtain ⟨c2, e_c2, hf4⟩ := obd hf2
    refine V_callVi X (OB_12 hE) rfl rfl (f8_ofPlacesIn_ok hE e_c2) ys_X8_ofPlacesIn yw_X8_ofPlacesIn ml_X8_139 rfl rfl ⟨Nat.le_of_ble_eq_true rfl, Nat.le_of_ble_eq_true rfl⟩ ⟨Nat.zero_le _, Nat.zero_le _⟩ (Nat.le_of_ble_eq_true rfl) dX8_best_13 ?_
    refine V_aload_n X 0 rfl dX8_best_16 ?_
    refine V_iload_n X 1 rfl dX8_best_17 ?_
    refine V_bipush X (v := 11) (by decide) dX8_best_18 ?_
    obtain ⟨c4, e_c4, hf6⟩ := obd hf4
    refine V_callVi X (OB_12 hE) rfl rfl (f8_ofPlacesIn_ok hE e_c4) ys_X8_ofPlacesIn yw_X8_ofPlacesIn ml_X8_139 rfl rfl ⟨Nat.le_of_ble_eq_true rfl, Nat.le_of_ble_eq_true rfl⟩ ⟨Nat.zero_le _, Nat.zero_le _⟩ (Nat.le_of_ble_eq_true rfl) dX8_best_20 ?_
    refine V_icmp_le X (tgt := 30) (by decide) dX8_best_23 (fun q23 => ?_) (fun q23 => ?_)
    · have hf7 := ift hf6 q23
      refine V_iload_n X 1 rfl dX8_best_30 ?_
      refine V_istore_n X (by decide) rfl dX8_best_31 ?_
      refine V_iinc X (v := _ + 1) 2 rfl (by rfl) (by decide) rfl dX8_best_32 ?_
      refine V_goto X (tgt := 4) (by decide) dX8_best_35 ?_
      exact V_sub [2, 1, 0] rfl (hk4 _ _ _ hf7)
    · have hf7 := ife hf6 q23
      refine V_iload_n X 2 rfl dX8_best_26 ?_
      refine V_goto X (tgt := 31) (by decide) dX8_best_27 ?_
      refine V_istore_n X (by decide) rfl dX8_best_31 ?_
      refine V_iinc X (v := _ + 1) 2 rfl (by rfl) (by decide) rfl dX8_best_32 ?_
      refine V_goto X (tgt := 4) (by decide) dX8_best_35 ?_
      exact V_sub [2, 1, 0] rfl (hk4 _ _ _ hf7)
def f8_best_L4 : Nat → Int32 → Int32 → Hp → Re
  | 0 => fun _ _ _ => none
  | n + 1 => f8_best_B4 (f8_best_L4 n)
theorem f8_best_L4_s (n : Nat) (x1 : Int32) (x2 : Int32) (h : Hp) : f8_best_L4 (n + 1) x1 x2 h = f8_best_B4 (f8_best_L4 n) x1 x2 h := rfl
theorem f8_best_L4_ok (hE : IW E) (X : XC E RX8 cX8_best 3 (some .int) A p s m args meth c) : ∀ (n : Nat) (x1 : Int32) (x2 : Int32) (h : Hp), f8_best_L4 n x1 x2 h = some (r, h') → VM E 3 A p l e 5 s m args below meth c (Qi E A r h') 4 [(0, .ref (eA E 12)), (1, .int x1), (2, .int x2)] [] h := by
  intro n
  induction n with
  | zero =>
    intro x1 x2 h q
    have q : (none : Re) = some (r, h') := q
    cases q
  | succ n ih =>
    intro x1 x2 h q
    exact f8_best_B4_ok hE X ih q
def f8_best_e (h : Hp) : Re :=
  f8_best_L4 FU 0 1 h
set_option maxRecDepth 20000 in
set_option maxHeartbeats 4000000 in
theorem f8_best_e_ok (hE : IW E) (X : XC E RX8 cX8_best 3 (some .int) A p s m args meth c) {h : Hp} (hf0 : f8_best_e  h = some (r, h')) : VM E 3 A p l e 5 s m args below meth c (Qi E A r h') 0 [(0, .ref (eA E 12))] [] h := by
  unfold f8_best_e at hf0
  have hf1 := hf0
  refine V_iconst X (v := 0) (by decide) dX8_best_0 ?_
  refine V_istore_n X (by decide) rfl dX8_best_1 ?_
  refine V_iconst X (v := 1) (by decide) dX8_best_2 ?_
  refine V_istore_n X (by decide) rfl dX8_best_3 ?_
  exact V_sub [2, 1, 0] rfl (f8_best_L4_ok hE X FU _ _ _ hf1)
def f8_best (h : Hp) : Re := f8_best_e  h
theorem f8_best_ok (hE : IW E) {h : Hp} {q : Int32 × Hp} (hf0 : f8_best  h = some q) : SMi l E 5 yX8_best cX8_best 3 (some .int) [.ref (eA E 12)] h q.1 q.2 :=
  SMi.of (by decide +kernel) (Nat.le_of_ble_eq_true rfl) (fun p e s m args below meth c A X => f8_best_e_ok hE X (r := q.1) (h' := q.2) hf0)
def f8_isSign_e (x1 : Int32) (x2 : Int32) (h : Hp) : Re :=
  if (h 12 9) ≤ (h 12 12) then (rz 0 h) else (if inB (h 12 12) 80 = true then if (h 21 (Int32.toNatClampNeg (h 12 12))) < x1 then (rz 0 h) else (if inB (h 12 12) 80 = true then if x2 < (h 21 (Int32.toNatClampNeg (h 12 12))) then (rz 0 h) else (rz 1 h) else none) else none)
set_option maxRecDepth 20000 in
set_option maxHeartbeats 4000000 in
theorem f8_isSign_e_ok (hE : IW E) (X : XC E RX8 cX8_isSign 3 (some .boolean) A p s m args meth c) {x1 : Int32} {x2 : Int32} {h : Hp} (hf0 : f8_isSign_e x1 x2 h = some (r, h')) : VM E 3 A p l e 0 s m args below meth c (Qi E A r h') 0 [(0, .ref (eA E 12)), (1, .int x1), (2, .int x2)] [] h := by
  unfold f8_isSign_e at hf0
  have hf1 := hf0
  refine V_aload_n X 0 rfl dX8_isSign_0 ?_
  refine G_X8_12_171 hE X dX8_isSign_1 ?_
  refine V_aload_n X 0 rfl dX8_isSign_4 ?_
  refine G_X8_9_154 hE X dX8_isSign_5 ?_
  refine V_icmp_ge X (tgt := 41) (by decide) dX8_isSign_8 (fun q8 => ?_) (fun q8 => ?_)
  · have hf2 := ift hf1 q8
    refine V_iconst X (v := 0) (by decide) dX8_isSign_41 ?_
    exact V_zret X rfl hf2 dX8_isSign_42
  · have hf2 := ife hf1 q8
    refine V_aload_n X 0 rfl dX8_isSign_11 ?_
    refine G_X8_8_35 hE X dX8_isSign_12 ?_
    refine V_aload_n X 0 rfl dX8_isSign_15 ?_
    refine G_X8_12_171 hE X dX8_isSign_16 ?_
    obtain ⟨g102, hf102⟩ := ogd hf2
    refine V_cald X (AR_21 hE) g102 dX8_isSign_19 ?_
    refine V_iload_n X 1 rfl dX8_isSign_20 ?_
    refine V_icmp_lt X (tgt := 41) (by decide) dX8_isSign_21 (fun q21 => ?_) (fun q21 => ?_)
    · have hf4 := ift hf102 q21
      refine V_iconst X (v := 0) (by decide) dX8_isSign_41 ?_
      exact V_zret X rfl hf4 dX8_isSign_42
    · have hf4 := ife hf102 q21
      refine V_aload_n X 0 rfl dX8_isSign_24 ?_
      refine G_X8_8_35 hE X dX8_isSign_25 ?_
      refine V_aload_n X 0 rfl dX8_isSign_28 ?_
      refine G_X8_12_171 hE X dX8_isSign_29 ?_
      obtain ⟨g104, hf104⟩ := ogd hf4
      refine V_cald X (AR_21 hE) g104 dX8_isSign_32 ?_
      refine V_iload_n X 2 rfl dX8_isSign_33 ?_
      refine V_icmp_gt X (tgt := 41) (by decide) dX8_isSign_34 (fun q34 => ?_) (fun q34 => ?_)
      · have hf6 := ift hf104 q34
        refine V_iconst X (v := 0) (by decide) dX8_isSign_41 ?_
        exact V_zret X rfl hf6 dX8_isSign_42
      · have hf6 := ife hf104 q34
        refine V_iconst X (v := 1) (by decide) dX8_isSign_37 ?_
        refine V_goto X (tgt := 42) (by decide) dX8_isSign_38 ?_
        exact V_zret X rfl hf6 dX8_isSign_42
def f8_isSign (x1 : Int32) (x2 : Int32) (h : Hp) : Re := f8_isSign_e x1 x2 h
theorem f8_isSign_ok (hE : IW E) {x1 : Int32} {x2 : Int32} {h : Hp} {q : Int32 × Hp} (hf0 : f8_isSign x1 x2 h = some q) : SMi l E 0 yX8_isSign cX8_isSign 3 (some .boolean) [.ref (eA E 12), .int x1, .int x2] h q.1 q.2 :=
  SMi.of (by decide +kernel) (Nat.le_of_ble_eq_true rfl) (fun p e s m args below meth c A X => f8_isSign_e_ok hE X (r := q.1) (h' := q.2) hf0)
def f8_accepts_e (x1 : Int32) (h : Hp) : Re :=
  (f8_isSign x1 x1 h).bind fun c1 => if c1.1 = 0 then ((some (hu c1.2 12 12 ((c1.2 12 12) + 0))).bind fun h4 => rz c1.1 h4) else ((some (hu c1.2 12 12 ((c1.2 12 12) + 1))).bind fun h6 => rz c1.1 h6)
set_option maxRecDepth 20000 in
set_option maxHeartbeats 4000000 in
theorem f8_accepts_e_ok (hE : IW E) (X : XC E RX8 cX8_accepts 3 (some .boolean) A p s m args meth c) {x1 : Int32} {h : Hp} (hf0 : f8_accepts_e x1 h = some (r, h')) : VM E 3 A p l e 1 s m args below meth c (Qi E A r h') 0 [(0, .ref (eA E 12)), (1, .int x1)] [] h := by
  unfold f8_accepts_e at hf0
  have hf1 := hf0
  refine V_aload_n X 0 rfl dX8_accepts_0 ?_
  refine V_iload_n X 1 rfl dX8_accepts_1 ?_
  refine V_iload_n X 1 rfl dX8_accepts_2 ?_
  obtain ⟨c1, e_c1, hf3⟩ := obd hf1
  refine V_callVi X (OB_12 hE) rfl rfl (f8_isSign_ok hE e_c1) ys_X8_isSign yw_X8_isSign ml_X8_174 rfl rfl ⟨Nat.le_of_ble_eq_true rfl, Nat.le_of_ble_eq_true rfl⟩ ⟨Nat.zero_le _, Nat.zero_le _⟩ (Nat.le_of_ble_eq_true rfl) dX8_accepts_3 ?_
  refine V_istore_n X (by decide) rfl dX8_accepts_6 ?_
  refine V_aload_n X 1 rfl dX8_accepts_7 ?_
  refine V_dup X rfl dX8_accepts_8 ?_
  refine G_X8_12_171 hE X dX8_accepts_9 ?_
  refine V_iload_n X 0 rfl dX8_accepts_12 ?_
  refine V_if_eq X (tgt := 20) (by decide) dX8_accepts_13 (fun q13 => ?_) (fun q13 => ?_)
  · have hf4 := ift hf3 q13
    refine V_iconst X (v := 0) (by decide) dX8_accepts_20 ?_
    refine V_iadd X dX8_accepts_21 ?_
    refine P_X8_12_171 hE X dX8_accepts_22 ?_
    have hf6 := obs hf4
    refine V_iload_n X 0 rfl dX8_accepts_25 ?_
    exact V_zret X rfl hf6 dX8_accepts_26
  · have hf4 := ife hf3 q13
    refine V_iconst X (v := 1) (by decide) dX8_accepts_16 ?_
    refine V_goto X (tgt := 21) (by decide) dX8_accepts_17 ?_
    refine V_iadd X dX8_accepts_21 ?_
    refine P_X8_12_171 hE X dX8_accepts_22 ?_
    have hf8 := obs hf4
    refine V_iload_n X 0 rfl dX8_accepts_25 ?_
    exact V_zret X rfl hf8 dX8_accepts_26
def f8_accepts (x1 : Int32) (h : Hp) : Re := f8_accepts_e x1 h
theorem f8_accepts_ok (hE : IW E) {x1 : Int32} {h : Hp} {q : Int32 × Hp} (hf0 : f8_accepts x1 h = some q) : SMi l E 1 yX8_accepts cX8_accepts 3 (some .boolean) [.ref (eA E 12), .int x1] h q.1 q.2 :=
  SMi.of (by decide +kernel) (Nat.le_of_ble_eq_true rfl) (fun p e s m args below meth c A X => f8_accepts_e_ok hE X (r := q.1) (h' := q.2) hf0)
def f8_digit_j41 (x4 : Int32) (y0 : Int32) (y1 : Int32) (h : Hp) : Re :=
  if inB y1 210 = true then (some (hu h 20 (Int32.toNatClampNeg y1) y0)).bind fun h2 => if x4 = 0 then ((some (hu h2 12 12 ((h2 12 12) + 0))).bind fun h5 => rz x4 h5) else ((some (hu h2 12 12 ((h2 12 12) + 1))).bind fun h7 => rz x4 h7) else none
set_option maxRecDepth 20000 in
set_option maxHeartbeats 4000000 in
theorem f8_digit_j41_ok (hE : IW E) (X : XC E RX8 cX8_digit 5 (some .boolean) A p s m args meth c) {x4 : Int32} {y0 : Int32} {y1 : Int32} {h : Hp} (hf0 : f8_digit_j41 x4 y0 y1 h = some (r, h')) : VM E 5 A p l e 1 s m args below meth c (Qi E A r h') 41 [(0, .ref (eA E 12)), (4, .int x4)] [.int y0, .int y1, .ref (eA E 20)] h := by
  unfold f8_digit_j41 at hf0
  have hf1 := hf0
  obtain ⟨g101, hf101⟩ := ogd hf1
  refine V_iast X (AR_20 hE) g101 dX8_digit_41 ?_
  have hf4 := obs hf101
  refine V_aload_n X 0 rfl dX8_digit_42 ?_
  refine V_dup X rfl dX8_digit_43 ?_
  refine G_X8_12_171 hE X dX8_digit_44 ?_
  refine V_iload X 1 rfl dX8_digit_47 ?_
  refine V_if_eq X (tgt := 56) (by decide) dX8_digit_49 (fun q49 => ?_) (fun q49 => ?_)
  · have hf5 := ift hf4 q49
    refine V_iconst X (v := 0) (by decide) dX8_digit_56 ?_
    refine V_iadd X dX8_digit_57 ?_
    refine P_X8_12_171 hE X dX8_digit_58 ?_
    have hf7 := obs hf5
    refine V_iload X 1 rfl dX8_digit_61 ?_
    exact V_zret X rfl hf7 dX8_digit_63
  · have hf5 := ife hf4 q49
    refine V_iconst X (v := 1) (by decide) dX8_digit_52 ?_
    refine V_goto X (tgt := 57) (by decide) dX8_digit_53 ?_
    refine V_iadd X dX8_digit_57 ?_
    refine P_X8_12_171 hE X dX8_digit_58 ?_
    have hf9 := obs hf5
    refine V_iload X 1 rfl dX8_digit_61 ?_
    exact V_zret X rfl hf9 dX8_digit_63
def f8_digit_e (x1 : Int32) (x2 : Int32) (x3 : Int32) (h : Hp) : Re :=
  (f8_isSign x2 x3 h).bind fun c1 => if c1.1 = 0 then (f8_digit_j41 c1.1 0 ((5 * (c1.2 12 11)) + x1) c1.2) else (if inB (c1.2 12 12) 80 = true then f8_digit_j41 c1.1 ((c1.2 21 (Int32.toNatClampNeg (c1.2 12 12))) - 48) ((5 * (c1.2 12 11)) + x1) c1.2 else none)
set_option maxRecDepth 20000 in
set_option maxHeartbeats 4000000 in
theorem f8_digit_e_ok (hE : IW E) (X : XC E RX8 cX8_digit 5 (some .boolean) A p s m args meth c) {x1 : Int32} {x2 : Int32} {x3 : Int32} {h : Hp} (hf0 : f8_digit_e x1 x2 x3 h = some (r, h')) : VM E 5 A p l e 1 s m args below meth c (Qi E A r h') 0 [(0, .ref (eA E 12)), (1, .int x1), (2, .int x2), (3, .int x3)] [] h := by
  unfold f8_digit_e at hf0
  have hf1 := hf0
  refine V_aload_n X 0 rfl dX8_digit_0 ?_
  refine V_iload_n X 2 rfl dX8_digit_1 ?_
  refine V_iload_n X 3 rfl dX8_digit_2 ?_
  obtain ⟨c1, e_c1, hf3⟩ := obd hf1
  refine V_callVi X (OB_12 hE) rfl rfl (f8_isSign_ok hE e_c1) ys_X8_isSign yw_X8_isSign ml_X8_174 rfl rfl ⟨Nat.le_of_ble_eq_true rfl, Nat.le_of_ble_eq_true rfl⟩ ⟨Nat.zero_le _, Nat.zero_le _⟩ (Nat.le_of_ble_eq_true rfl) dX8_digit_3 ?_
  refine V_istore X (by decide) rfl dX8_digit_6 ?_
  refine V_aload_n X 1 rfl dX8_digit_8 ?_
  refine G_X8_7_32 hE X dX8_digit_9 ?_
  refine V_iconst X (v := 5) (by decide) dX8_digit_12 ?_
  refine V_aload_n X 1 rfl dX8_digit_13 ?_
  refine G_X8_11_178 hE X dX8_digit_14 ?_
  refine V_imul X dX8_digit_17 ?_
  refine V_iload_n X 2 rfl dX8_digit_18 ?_
  refine V_iadd X dX8_digit_19 ?_
  refine V_iload X 0 rfl dX8_digit_20 ?_
  refine V_if_eq X (tgt := 40) (by decide) dX8_digit_22 (fun q22 => ?_) (fun q22 => ?_)
  · have hf4 := ift hf3 q22
    refine V_iconst X (v := 0) (by decide) dX8_digit_40 ?_
    exact V_sub [1, 0] rfl (f8_digit_j41_ok hE X hf4)
  · have hf4 := ife hf3 q22
    refine V_aload_n X 1 rfl dX8_digit_25 ?_
    refine G_X8_8_35 hE X dX8_digit_26 ?_
    refine V_aload_n X 1 rfl dX8_digit_29 ?_
    refine G_X8_12_171 hE X dX8_digit_30 ?_
    obtain ⟨g104, hf104⟩ := ogd hf4
    refine V_cald X (AR_21 hE) g104 dX8_digit_33 ?_
    refine V_bipush X (v := 48) (by decide) dX8_digit_34 ?_
    refine V_isub X dX8_digit_36 ?_
    refine V_goto X (tgt := 41) (by decide) dX8_digit_37 ?_
    exact V_sub [1, 0] rfl (f8_digit_j41_ok hE X hf104)
def f8_digit (x1 : Int32) (x2 : Int32) (x3 : Int32) (h : Hp) : Re := f8_digit_e x1 x2 x3 h
theorem f8_digit_ok (hE : IW E) {x1 : Int32} {x2 : Int32} {x3 : Int32} {h : Hp} {q : Int32 × Hp} (hf0 : f8_digit x1 x2 x3 h = some q) : SMi l E 1 yX8_digit cX8_digit 5 (some .boolean) [.ref (eA E 12), .int x1, .int x2, .int x3] h q.1 q.2 :=
  SMi.of (by decide +kernel) (Nat.le_of_ble_eq_true rfl) (fun p e s m args below meth c A X => f8_digit_e_ok hE X (r := q.1) (h' := q.2) hf0)
def f8_number_e (x1 : Int32) (h : Hp) : Re :=
  (f8_digit x1 48 57 h).bind fun c1 => if c1.1 = 0 then (rz 0 c1.2) else (if inB ((5 * (c1.2 12 11)) + x1) 210 = true then (some (c1.2 20 (Int32.toNatClampNeg ((5 * (c1.2 12 11)) + x1)) : Int32)).bind fun z5 => if z5 ≤ 0 then (rz 1 c1.2) else ((f8_isSign 48 57 c1.2).bind fun c8 => if c8.1 = 0 then (rz 1 c8.2) else (if inB (c8.2 12 12) 80 = true then if inB ((5 * (c8.2 12 11)) + x1) 210 = true then (some (hu c8.2 20 (Int32.toNatClampNeg ((5 * (c8.2 12 11)) + x1)) (((10 * z5) + (c8.2 21 (Int32.toNatClampNeg (c8.2 12 12)))) - 48))).bind fun h13 => (some (hu h13 12 12 ((h13 12 12) + 1))).bind fun h15 => rz 1 h15 else none else none)) else none)
set_option maxRecDepth 20000 in
set_option maxHeartbeats 4000000 in
theorem f8_number_e_ok (hE : IW E) (X : XC E RX8 cX8_number 3 (some .boolean) A p s m args meth c) {x1 : Int32} {h : Hp} (hf0 : f8_number_e x1 h = some (r, h')) : VM E 3 A p l e 2 s m args below meth c (Qi E A r h') 0 [(0, .ref (eA E 12)), (1, .int x1)] [] h := by
  unfold f8_number_e at hf0
  have hf1 := hf0
  refine V_aload_n X 0 rfl dX8_number_0 ?_
  refine V_iload_n X 1 rfl dX8_number_1 ?_
  refine V_bipush X (v := 48) (by decide) dX8_number_2 ?_
  refine V_bipush X (v := 57) (by decide) dX8_number_4 ?_
  obtain ⟨c1, e_c1, hf3⟩ := obd hf1
  refine V_callVi X (OB_12 hE) rfl rfl (f8_digit_ok hE e_c1) ys_X8_digit yw_X8_digit ml_X8_181 rfl rfl ⟨Nat.le_of_ble_eq_true rfl, Nat.le_of_ble_eq_true rfl⟩ ⟨Nat.zero_le _, Nat.zero_le _⟩ (Nat.le_of_ble_eq_true rfl) dX8_number_6 ?_
  refine V_if_ne X (tgt := 14) (by decide) dX8_number_9 (fun q9 => ?_) (fun q9 => ?_)
  · have hf4 := ife hf3 q9
    refine V_aload_n X 0 rfl dX8_number_14 ?_
    refine G_X8_7_32 hE X dX8_number_15 ?_
    refine V_iconst X (v := 5) (by decide) dX8_number_18 ?_
    refine V_aload_n X 0 rfl dX8_number_19 ?_
    refine G_X8_11_178 hE X dX8_number_20 ?_
    refine V_imul X dX8_number_23 ?_
    refine V_iload_n X 1 rfl dX8_number_24 ?_
    refine V_iadd X dX8_number_25 ?_
    obtain ⟨g104, hf104⟩ := ogd hf4
    refine V_iald X (AR_20 hE) g104 dX8_number_26 ?_
    refine V_istore_n X (by decide) rfl dX8_number_27 ?_
    have hf7 := obs hf104
    refine V_iload_n X 0 rfl dX8_number_28 ?_
    refine V_if_le X (tgt := 83) (by decide) dX8_number_29 (fun q29 => ?_) (fun q29 => ?_)
    · have hf8 := ift hf7 q29
      refine V_iconst X (v := 1) (by decide) dX8_number_83 ?_
      exact V_zret X rfl hf8 dX8_number_84
    · have hf8 := ife hf7 q29
      refine V_aload_n X 1 rfl dX8_number_32 ?_
      refine V_bipush X (v := 48) (by decide) dX8_number_33 ?_
      refine V_bipush X (v := 57) (by decide) dX8_number_35 ?_
      obtain ⟨c8, e_c8, hf10⟩ := obd hf8
      refine V_callVi X (OB_12 hE) rfl rfl (f8_isSign_ok hE e_c8) ys_X8_isSign yw_X8_isSign ml_X8_174 rfl rfl ⟨Nat.le_of_ble_eq_true rfl, Nat.le_of_ble_eq_true rfl⟩ ⟨Nat.zero_le _, Nat.zero_le _⟩ (Nat.le_of_ble_eq_true rfl) dX8_number_37 ?_
      refine V_if_eq X (tgt := 83) (by decide) dX8_number_40 (fun q40 => ?_) (fun q40 => ?_)
      · have hf11 := ift hf10 q40
        refine V_iconst X (v := 1) (by decide) dX8_number_83 ?_
        exact V_zret X rfl hf11 dX8_number_84
      · have hf11 := ife hf10 q40
        refine V_aload_n X 1 rfl dX8_number_43 ?_
        refine G_X8_7_32 hE X dX8_number_44 ?_
        refine V_iconst X (v := 5) (by decide) dX8_number_47 ?_
        refine V_aload_n X 1 rfl dX8_number_48 ?_
        refine G_X8_11_178 hE X dX8_number_49 ?_
        refine V_imul X dX8_number_52 ?_
        refine V_iload_n X 2 rfl dX8_number_53 ?_
        refine V_iadd X dX8_number_54 ?_
        refine V_bipush X (v := 10) (by decide) dX8_number_55 ?_
        refine V_iload_n X 0 rfl dX8_number_57 ?_
        refine V_imul X dX8_number_58 ?_
        refine V_aload_n X 1 rfl dX8_number_59 ?_
        refine G_X8_8_35 hE X dX8_number_60 ?_
        refine V_aload_n X 1 rfl dX8_number_63 ?_
        refine G_X8_12_171 hE X dX8_number_64 ?_
        obtain ⟨g111, hf111⟩ := ogd hf11
        refine V_cald X (AR_21 hE) g111 dX8_number_67 ?_
        refine V_iadd X dX8_number_68 ?_
        refine V_bipush X (v := 48) (by decide) dX8_number_69 ?_
        refine V_isub X dX8_number_71 ?_
        obtain ⟨g112, hf112⟩ := ogd hf111
        refine V_iast X (AR_20 hE) g112 dX8_number_72 ?_
        have hf15 := obs hf112
        refine V_aload_n X 1 rfl dX8_number_73 ?_
        refine V_dup X rfl dX8_number_74 ?_
        refine G_X8_12_171 hE X dX8_number_75 ?_
        refine V_iconst X (v := 1) (by decide) dX8_number_78 ?_
        refine V_iadd X dX8_number_79 ?_
        refine P_X8_12_171 hE X dX8_number_80 ?_
        have hf17 := obs hf15
        refine V_iconst X (v := 1) (by decide) dX8_number_83 ?_
        exact V_zret X rfl hf17 dX8_number_84
  · have hf4 := ift hf3 q9
    refine V_iconst X (v := 0) (by decide) dX8_number_12 ?_
    exact V_zret X rfl hf4 dX8_number_13
def f8_number (x1 : Int32) (h : Hp) : Re := f8_number_e x1 h
theorem f8_number_ok (hE : IW E) {x1 : Int32} {h : Hp} {q : Int32 × Hp} (hf0 : f8_number x1 h = some q) : SMi l E 2 yX8_number cX8_number 3 (some .boolean) [.ref (eA E 12), .int x1] h q.1 q.2 :=
  SMi.of (by decide +kernel) (Nat.le_of_ble_eq_true rfl) (fun p e s m args below meth c A X => f8_number_e_ok hE X (r := q.1) (h' := q.2) hf0)
def f8_colours_j60 (x1 : Int32) (x2 : Int32) (h : Hp) : Re :=
  if inB ((5 * (h 12 11)) + 2) 210 = true then (some (hu h 20 (Int32.toNatClampNeg ((5 * (h 12 11)) + 2)) x1)).bind fun h2 => rz x2 h2 else none
set_option maxRecDepth 20000 in
set_option maxHeartbeats 4000000 in
theorem f8_colours_j60_ok (hE : IW E) (X : XC E RX8 cX8_colours 4 (some .boolean) A p s m args meth c) {x1 : Int32} {x2 : Int32} {h : Hp} (hf0 : f8_colours_j60 x1 x2 h = some (r, h')) : VM E 4 A p l e 2 s m args below meth c (Qi E A r h') 60 [(0, .ref (eA E 12)), (1, .int x1), (2, .int x2)] [] h := by
  unfold f8_colours_j60 at hf0
  have hf1 := hf0
  refine V_aload_n X 0 rfl dX8_colours_60 ?_
  refine G_X8_7_32 hE X dX8_colours_61 ?_
  refine V_iconst X (v := 5) (by decide) dX8_colours_64 ?_
  refine V_aload_n X 0 rfl dX8_colours_65 ?_
  refine G_X8_11_178 hE X dX8_colours_66 ?_
  refine V_imul X dX8_colours_69 ?_
  refine V_iconst X (v := 2) (by decide) dX8_colours_70 ?_
  refine V_iadd X dX8_colours_71 ?_
  refine V_iload_n X 1 rfl dX8_colours_72 ?_
  obtain ⟨g101, hf101⟩ := ogd hf1
  refine V_iast X (AR_20 hE) g101 dX8_colours_73 ?_
  have hf4 := obs hf101
  refine V_iload_n X 2 rfl dX8_colours_74 ?_
  exact V_zret X rfl hf4 dX8_colours_75
def f8_colours_B6 (k6 : Int32 → Int32 → Int32 → Hp → Re) (x1 : Int32) (x2 : Int32) (x3 : Int32) (h : Hp) : Re :=
  if 8 ≤ x3 then (f8_colours_j60 x1 x2 h) else (if x2 = 0 then (f8_colours_j60 x1 x2 h) else ((f8_digit 3 48 54 h).bind fun c3 => if c3.1 = 0 then (k6 (x1 + 0) c3.1 (x3 + 1) c3.2) else (if inB ((5 * (c3.2 12 11)) + 3) 210 = true then (some (x1 + ((c3.2 20 (Int32.toNatClampNeg ((5 * (c3.2 12 11)) + 3))) <<< ((3 * x3) &&& 31)) : Int32)).bind fun z7 => k6 z7 c3.1 (x3 + 1) c3.2 else none)))
set_option maxRecDepth 20000 in
set_option maxHeartbeats 4000000 in
theorem f8_colours_B6_ok (hE : IW E) (X : XC E RX8 cX8_colours 4 (some .boolean) A p s m args meth c) {k6 : Int32 → Int32 → Int32 → Hp → Re} (hk6 : ∀ (x1 : Int32) (x2 : Int32) (x3 : Int32) (h : Hp), k6 x1 x2 x3 h = some (r, h') → VM E 4 A p l e 2 s m args below meth c (Qi E A r h') 6 [(0, .ref (eA E 12)), (1, .int x1), (2, .int x2), (3, .int x3)] [] h) {x1 : Int32} {x2 : Int32} {x3 : Int32} {h : Hp} (hf0 : f8_colours_B6 k6 x1 x2 x3 h = some (r, h')) : VM E 4 A p l e 2 s m args below meth c (Qi E A r h') 6 [(0, .ref (eA E 12)), (1, .int x1), (2, .int x2), (3, .int x3)] [] h := by
  unfold f8_colours_B6 at hf0
  have hf1 := hf0
  refine V_iload_n X 3 rfl dX8_colours_6 ?_
  refine V_bipush X (v := 8) (by decide) dX8_colours_7 ?_
  refine V_icmp_ge X (tgt := 60) (by decide) dX8_colours_9 (fun q9 => ?_) (fun q9 => ?_)
  · have hf2 := ift hf1 q9
    exact V_sub [0, 1, 2] rfl (f8_colours_j60_ok hE X hf2)
  · have hf2 := ife hf1 q9
    refine V_iload_n X 2 rfl dX8_colours_12 ?_
    refine V_if_eq X (tgt := 60) (by decide) dX8_colours_13 (fun q13 => ?_) (fun q13 => ?_)
    · have hf3 := ift hf2 q13
      exact V_sub [0, 1, 2] rfl (f8_colours_j60_ok hE X hf3)
    · have hf3 := ife hf2 q13
      refine V_aload_n X 0 rfl dX8_colours_16 ?_
      refine V_iconst X (v := 3) (by decide) dX8_colours_17 ?_
      refine V_bipush X (v := 48) (by decide) dX8_colours_18 ?_
      refine V_bipush X (v := 54) (by decide) dX8_colours_20 ?_
      obtain ⟨c3, e_c3, hf5⟩ := obd hf3
      refine V_callVi X (OB_12 hE) rfl rfl (f8_digit_ok hE e_c3) ys_X8_digit yw_X8_digit ml_X8_181 rfl rfl ⟨Nat.le_of_ble_eq_true rfl, Nat.le_of_ble_eq_true rfl⟩ ⟨Nat.zero_le _, Nat.zero_le _⟩ (Nat.le_of_ble_eq_true rfl) dX8_colours_22 ?_
      refine V_istore_n X (by decide) rfl dX8_colours_25 ?_
      refine V_iload_n X 2 rfl dX8_colours_26 ?_
      refine V_iload_n X 0 rfl dX8_colours_27 ?_
      refine V_if_eq X (tgt := 51) (by decide) dX8_colours_28 (fun q28 => ?_) (fun q28 => ?_)
      · have hf6 := ift hf5 q28
        refine V_iconst X (v := 0) (by decide) dX8_colours_51 ?_
        refine V_iadd X dX8_colours_52 ?_
        refine V_istore_n X (by decide) rfl dX8_colours_53 ?_
        refine V_iinc X (v := _ + 1) 3 rfl (by rfl) (by decide) rfl dX8_colours_54 ?_
        refine V_goto X (tgt := 6) (by decide) dX8_colours_57 ?_
        exact V_sub [3, 1, 2, 0] rfl (hk6 _ _ _ _ hf6)
      · have hf6 := ife hf5 q28
        refine V_aload_n X 1 rfl dX8_colours_31 ?_
        refine G_X8_7_32 hE X dX8_colours_32 ?_
        refine V_iconst X (v := 5) (by decide) dX8_colours_35 ?_
        refine V_aload_n X 1 rfl dX8_colours_36 ?_
        refine G_X8_11_178 hE X dX8_colours_37 ?_
        refine V_imul X dX8_colours_40 ?_
        refine V_iconst X (v := 3) (by decide) dX8_colours_41 ?_
        refine V_iadd X dX8_colours_42 ?_
        obtain ⟨g106, hf106⟩ := ogd hf6
        refine V_iald X (AR_20 hE) g106 dX8_colours_43 ?_
        refine V_iconst X (v := 3) (by decide) dX8_colours_44 ?_
        refine V_iload_n X 3 rfl dX8_colours_45 ?_
        refine V_imul X dX8_colours_46 ?_
        refine V_ishl X dX8_colours_47 ?_
        refine V_goto X (tgt := 52) (by decide) dX8_colours_48 ?_
        refine V_iadd X dX8_colours_52 ?_
        refine V_istore_n X (by decide) rfl dX8_colours_53 ?_
        have hf9 := obs hf106
        refine V_iinc X (v := _ + 1) 3 rfl (by rfl) (by decide) rfl dX8_colours_54 ?_
        refine V_goto X (tgt := 6) (by decide) dX8_colours_57 ?_
        exact V_sub [3, 1, 2, 0] rfl (hk6 _ _ _ _ hf9)
def f8_colours_L6 : Nat → Int32 → Int32 → Int32 → Hp → Re
  | 0 => fun _ _ _ _ => none
  | n + 1 => f8_colours_B6 (f8_colours_L6 n)
theorem f8_colours_L6_s (n : Nat) (x1 : Int32) (x2 : Int32) (x3 : Int32) (h : Hp) : f8_colours_L6 (n + 1) x1 x2 x3 h = f8_colours_B6 (f8_colours_L6 n) x1 x2 x3 h := rfl
theorem f8_colours_L6_ok (hE : IW E) (X : XC E RX8 cX8_colours 4 (some .boolean) A p s m args meth c) : ∀ (n : Nat) (x1 : Int32) (x2 : Int32) (x3 : Int32) (h : Hp), f8_colours_L6 n x1 x2 x3 h = some (r, h') → VM E 4 A p l e 2 s m args below meth c (Qi E A r h') 6 [(0, .ref (eA E 12)), (1, .int x1), (2, .int x2), (3, .int x3)] [] h := by
  intro n
  induction n with
  | zero =>
    intro x1 x2 x3 h q
    have q : (none : Re) = some (r, h') := q
    cases q
  | succ n ih =>
    intro x1 x2 x3 h q
    exact f8_colours_B6_ok hE X ih q
def f8_colours_e (h : Hp) : Re :=
  f8_colours_L6 FU 0 1 0 h
set_option maxRecDepth 20000 in
set_option maxHeartbeats 4000000 in
theorem f8_colours_e_ok (hE : IW E) (X : XC E RX8 cX8_colours 4 (some .boolean) A p s m args meth c) {h : Hp} (hf0 : f8_colours_e  h = some (r, h')) : VM E 4 A p l e 2 s m args below meth c (Qi E A r h') 0 [(0, .ref (eA E 12))] [] h := by
  unfold f8_colours_e at hf0
  have hf1 := hf0
  refine V_iconst X (v := 0) (by decide) dX8_colours_0 ?_
  refine V_istore_n X (by decide) rfl dX8_colours_1 ?_
  refine V_iconst X (v := 1) (by decide) dX8_colours_2 ?_
  refine V_istore_n X (by decide) rfl dX8_colours_3 ?_
  refine V_iconst X (v := 0) (by decide) dX8_colours_4 ?_
  refine V_istore_n X (by decide) rfl dX8_colours_5 ?_
  exact V_sub [3, 2, 1, 0] rfl (f8_colours_L6_ok hE X FU _ _ _ _ hf1)
def f8_colours (h : Hp) : Re := f8_colours_e  h
theorem f8_colours_ok (hE : IW E) {h : Hp} {q : Int32 × Hp} (hf0 : f8_colours  h = some q) : SMi l E 2 yX8_colours cX8_colours 4 (some .boolean) [.ref (eA E 12)] h q.1 q.2 :=
  SMi.of (by decide +kernel) (Nat.le_of_ble_eq_true rfl) (fun p e s m args below meth c A X => f8_colours_e_ok hE X (r := q.1) (h' := q.2) hf0)
def f8_direction_j28 (x1 : Int32) (y0 : Int32) (y1 : Int32) (h : Hp) : Re :=
  if inB y1 210 = true then (some (hu h 20 (Int32.toNatClampNeg y1) y0)).bind fun h2 => if x1 = 0 then ((f8_accepts 45 h2).bind fun c5 => if c5.1 = 0 then (rz 0 c5.2) else (rz 1 c5.2)) else (rz 1 h2) else none
set_option maxRecDepth 20000 in
set_option maxHeartbeats 4000000 in
theorem f8_direction_j28_ok (hE : IW E) (X : XC E RX8 cX8_direction 2 (some .boolean) A p s m args meth c) {x1 : Int32} {y0 : Int32} {y1 : Int32} {h : Hp} (hf0 : f8_direction_j28 x1 y0 y1 h = some (r, h')) : VM E 2 A p l e 2 s m args below meth c (Qi E A r h') 28 [(0, .ref (eA E 12)), (1, .int x1)] [.int y0, .int y1, .ref (eA E 20)] h := by
  unfold f8_direction_j28 at hf0
  have hf1 := hf0
  obtain ⟨g101, hf101⟩ := ogd hf1
  refine V_iast X (AR_20 hE) g101 dX8_direction_28 ?_
  have hf4 := obs hf101
  refine V_iload_n X 1 rfl dX8_direction_29 ?_
  refine V_if_ne X (tgt := 42) (by decide) dX8_direction_30 (fun q30 => ?_) (fun q30 => ?_)
  · have hf5 := ife hf4 q30
    refine V_iconst X (v := 1) (by decide) dX8_direction_42 ?_
    refine V_goto X (tgt := 47) (by decide) dX8_direction_43 ?_
    exact V_zret X rfl hf5 dX8_direction_47
  · have hf5 := ift hf4 q30
    refine V_aload_n X 0 rfl dX8_direction_33 ?_
    refine V_bipush X (v := 45) (by decide) dX8_direction_34 ?_
    obtain ⟨c5, e_c5, hf7⟩ := obd hf5
    refine V_callVi X (OB_12 hE) rfl rfl (f8_accepts_ok hE e_c5) ys_X8_accepts yw_X8_accepts ml_X8_185 rfl rfl ⟨Nat.le_of_ble_eq_true rfl, Nat.le_of_ble_eq_true rfl⟩ ⟨Nat.zero_le _, Nat.zero_le _⟩ (Nat.le_of_ble_eq_true rfl) dX8_direction_36 ?_
    refine V_if_eq X (tgt := 46) (by decide) dX8_direction_39 (fun q39 => ?_) (fun q39 => ?_)
    · have hf8 := ift hf7 q39
      refine V_iconst X (v := 0) (by decide) dX8_direction_46 ?_
      exact V_zret X rfl hf8 dX8_direction_47
    · have hf8 := ife hf7 q39
      refine V_iconst X (v := 1) (by decide) dX8_direction_42 ?_
      refine V_goto X (tgt := 47) (by decide) dX8_direction_43 ?_
      exact V_zret X rfl hf8 dX8_direction_47
def f8_direction_e (h : Hp) : Re :=
  (f8_accepts 43 h).bind fun c1 => if c1.1 = 0 then (f8_direction_j28 c1.1 1 ((5 * (c1.2 12 11)) + 2) c1.2) else (f8_direction_j28 c1.1 0 ((5 * (c1.2 12 11)) + 2) c1.2)
set_option maxRecDepth 20000 in
set_option maxHeartbeats 4000000 in
theorem f8_direction_e_ok (hE : IW E) (X : XC E RX8 cX8_direction 2 (some .boolean) A p s m args meth c) {h : Hp} (hf0 : f8_direction_e  h = some (r, h')) : VM E 2 A p l e 2 s m args below meth c (Qi E A r h') 0 [(0, .ref (eA E 12))] [] h := by
  unfold f8_direction_e at hf0
  have hf1 := hf0
  refine V_aload_n X 0 rfl dX8_direction_0 ?_
  refine V_bipush X (v := 43) (by decide) dX8_direction_1 ?_
  obtain ⟨c1, e_c1, hf3⟩ := obd hf1
  refine V_callVi X (OB_12 hE) rfl rfl (f8_accepts_ok hE e_c1) ys_X8_accepts yw_X8_accepts ml_X8_185 rfl rfl ⟨Nat.le_of_ble_eq_true rfl, Nat.le_of_ble_eq_true rfl⟩ ⟨Nat.zero_le _, Nat.zero_le _⟩ (Nat.le_of_ble_eq_true rfl) dX8_direction_3 ?_
  refine V_istore_n X (by decide) rfl dX8_direction_6 ?_
  refine V_aload_n X 1 rfl dX8_direction_7 ?_
  refine G_X8_7_32 hE X dX8_direction_8 ?_
  refine V_iconst X (v := 5) (by decide) dX8_direction_11 ?_
  refine V_aload_n X 1 rfl dX8_direction_12 ?_
  refine G_X8_11_178 hE X dX8_direction_13 ?_
  refine V_imul X dX8_direction_16 ?_
  refine V_iconst X (v := 2) (by decide) dX8_direction_17 ?_
  refine V_iadd X dX8_direction_18 ?_
  refine V_iload_n X 0 rfl dX8_direction_19 ?_
  refine V_if_eq X (tgt := 27) (by decide) dX8_direction_20 (fun q20 => ?_) (fun q20 => ?_)
  · have hf4 := ift hf3 q20
    refine V_iconst X (v := 1) (by decide) dX8_direction_27 ?_
    exact V_sub [1, 0] rfl (f8_direction_j28_ok hE X hf4)
  · have hf4 := ife hf3 q20
    refine V_iconst X (v := 0) (by decide) dX8_direction_23 ?_
    refine V_goto X (tgt := 28) (by decide) dX8_direction_24 ?_
    exact V_sub [1, 0] rfl (f8_direction_j28_ok hE X hf4)
def f8_direction (h : Hp) : Re := f8_direction_e  h
theorem f8_direction_ok (hE : IW E) {h : Hp} {q : Int32 × Hp} (hf0 : f8_direction  h = some q) : SMi l E 2 yX8_direction cX8_direction 2 (some .boolean) [.ref (eA E 12)] h q.1 q.2 :=
  SMi.of (by decide +kernel) (Nat.le_of_ble_eq_true rfl) (fun p e s m args below meth c A X => f8_direction_e_ok hE X (r := q.1) (h' := q.2) hf0)
def f8_readsOrder_j292 (x1 : Int32) (h : Hp) : Re :=
  if x1 = 0 then ((some (hu h 12 11 ((h 12 11) + 0))).bind fun h2 => rz x1 h2) else ((some (hu h 12 11 ((h 12 11) + 1))).bind fun h4 => rz x1 h4)
set_option maxRecDepth 20000 in
set_option maxHeartbeats 4000000 in
theorem f8_readsOrder_j292_ok (hE : IW E) (X : XC E RX8 cX8_readsOrder 2 (some .boolean) A p s m args meth c) {x1 : Int32} {h : Hp} (hf0 : f8_readsOrder_j292 x1 h = some (r, h')) : VM E 2 A p l e 3 s m args below meth c (Qi E A r h') 292 [(0, .ref (eA E 12)), (1, .int x1)] [] h := by
  unfold f8_readsOrder_j292 at hf0
  have hf1 := hf0
  refine V_aload_n X 0 rfl dX8_readsOrder_292 ?_
  refine V_dup X rfl dX8_readsOrder_293 ?_
  refine G_X8_11_178 hE X dX8_readsOrder_294 ?_
  refine V_iload_n X 1 rfl dX8_readsOrder_297 ?_
  refine V_if_eq X (tgt := 305) (by decide) dX8_readsOrder_298 (fun q298 => ?_) (fun q298 => ?_)
  · have hf2 := ift hf1 q298
    refine V_iconst X (v := 0) (by decide) dX8_readsOrder_305 ?_
    refine V_iadd X dX8_readsOrder_306 ?_
    refine P_X8_11_178 hE X dX8_readsOrder_307 ?_
    have hf4 := obs hf2
    refine V_iload_n X 1 rfl dX8_readsOrder_310 ?_
    exact V_zret X rfl hf4 dX8_readsOrder_311
  · have hf2 := ife hf1 q298
    refine V_iconst X (v := 1) (by decide) dX8_readsOrder_301 ?_
    refine V_goto X (tgt := 306) (by decide) dX8_readsOrder_302 ?_
    refine V_iadd X dX8_readsOrder_306 ?_
    refine P_X8_11_178 hE X dX8_readsOrder_307 ?_
    have hf6 := obs hf2
    refine V_iload_n X 1 rfl dX8_readsOrder_310 ?_
    exact V_zret X rfl hf6 dX8_readsOrder_311
def f8_readsOrder_j281 (y0 : Int32) (h : Hp) : Re :=
  f8_readsOrder_j292 y0 h
set_option maxRecDepth 20000 in
set_option maxHeartbeats 4000000 in
theorem f8_readsOrder_j281_ok (hE : IW E) (X : XC E RX8 cX8_readsOrder 2 (some .boolean) A p s m args meth c) {y0 : Int32} {h : Hp} (hf0 : f8_readsOrder_j281 y0 h = some (r, h')) : VM E 2 A p l e 3 s m args below meth c (Qi E A r h') 281 [(0, .ref (eA E 12))] [.int y0] h := by
  unfold f8_readsOrder_j281 at hf0
  have hf1 := hf0
  refine V_istore_n X (by decide) rfl dX8_readsOrder_281 ?_
  refine V_goto X (tgt := 292) (by decide) dX8_readsOrder_282 ?_
  exact V_sub [1, 0] rfl (f8_readsOrder_j292_ok hE X hf1)
def f8_readsOrder_j280 (h : Hp) : Re :=
  f8_readsOrder_j281 0 h
set_option maxRecDepth 20000 in
set_option maxHeartbeats 4000000 in
theorem f8_readsOrder_j280_ok (hE : IW E) (X : XC E RX8 cX8_readsOrder 2 (some .boolean) A p s m args meth c) {h : Hp} (hf0 : f8_readsOrder_j280  h = some (r, h')) : VM E 2 A p l e 3 s m args below meth c (Qi E A r h') 280 [(0, .ref (eA E 12))] [] h := by
  unfold f8_readsOrder_j280 at hf0
  have hf1 := hf0
  refine V_iconst X (v := 0) (by decide) dX8_readsOrder_280 ?_
  exact V_sub [0] rfl (f8_readsOrder_j281_ok hE X hf1)
def f8_readsOrder_j244 (y0 : Int32) (h : Hp) : Re :=
  f8_readsOrder_j292 y0 h
set_option maxRecDepth 20000 in
set_option maxHeartbeats 4000000 in
theorem f8_readsOrder_j244_ok (hE : IW E) (X : XC E RX8 cX8_readsOrder 2 (some .boolean) A p s m args meth c) {y0 : Int32} {h : Hp} (hf0 : f8_readsOrder_j244 y0 h = some (r, h')) : VM E 2 A p l e 3 s m args below meth c (Qi E A r h') 244 [(0, .ref (eA E 12))] [.int y0] h := by
  unfold f8_readsOrder_j244 at hf0
  have hf1 := hf0
  refine V_istore_n X (by decide) rfl dX8_readsOrder_244 ?_
  refine V_goto X (tgt := 292) (by decide) dX8_readsOrder_245 ?_
  exact V_sub [1, 0] rfl (f8_readsOrder_j292_ok hE X hf1)
def f8_readsOrder_j243 (h : Hp) : Re :=
  f8_readsOrder_j244 0 h
set_option maxRecDepth 20000 in
set_option maxHeartbeats 4000000 in
theorem f8_readsOrder_j243_ok (hE : IW E) (X : XC E RX8 cX8_readsOrder 2 (some .boolean) A p s m args meth c) {h : Hp} (hf0 : f8_readsOrder_j243  h = some (r, h')) : VM E 2 A p l e 3 s m args below meth c (Qi E A r h') 243 [(0, .ref (eA E 12))] [] h := by
  unfold f8_readsOrder_j243 at hf0
  have hf1 := hf0
  refine V_iconst X (v := 0) (by decide) dX8_readsOrder_243 ?_
  exact V_sub [0] rfl (f8_readsOrder_j244_ok hE X hf1)
def f8_readsOrder_j198 (y0 : Int32) (h : Hp) : Re :=
  f8_readsOrder_j292 y0 h
set_option maxRecDepth 20000 in
set_option maxHeartbeats 4000000 in
theorem f8_readsOrder_j198_ok (hE : IW E) (X : XC E RX8 cX8_readsOrder 2 (some .boolean) A p s m args meth c) {y0 : Int32} {h : Hp} (hf0 : f8_readsOrder_j198 y0 h = some (r, h')) : VM E 2 A p l e 3 s m args below meth c (Qi E A r h') 198 [(0, .ref (eA E 12))] [.int y0] h := by
  unfold f8_readsOrder_j198 at hf0
  have hf1 := hf0
  refine V_istore_n X (by decide) rfl dX8_readsOrder_198 ?_
  refine V_goto X (tgt := 292) (by decide) dX8_readsOrder_199 ?_
  exact V_sub [1, 0] rfl (f8_readsOrder_j292_ok hE X hf1)
def f8_readsOrder_j197 (h : Hp) : Re :=
  f8_readsOrder_j198 0 h
set_option maxRecDepth 20000 in
set_option maxHeartbeats 4000000 in
theorem f8_readsOrder_j197_ok (hE : IW E) (X : XC E RX8 cX8_readsOrder 2 (some .boolean) A p s m args meth c) {h : Hp} (hf0 : f8_readsOrder_j197  h = some (r, h')) : VM E 2 A p l e 3 s m args below meth c (Qi E A r h') 197 [(0, .ref (eA E 12))] [] h := by
  unfold f8_readsOrder_j197 at hf0
  have hf1 := hf0
  refine V_iconst X (v := 0) (by decide) dX8_readsOrder_197 ?_
  exact V_sub [0] rfl (f8_readsOrder_j198_ok hE X hf1)
def f8_readsOrder_j144 (y0 : Int32) (h : Hp) : Re :=
  f8_readsOrder_j292 y0 h
set_option maxRecDepth 20000 in
set_option maxHeartbeats 4000000 in
theorem f8_readsOrder_j144_ok (hE : IW E) (X : XC E RX8 cX8_readsOrder 2 (some .boolean) A p s m args meth c) {y0 : Int32} {h : Hp} (hf0 : f8_readsOrder_j144 y0 h = some (r, h')) : VM E 2 A p l e 3 s m args below meth c (Qi E A r h') 144 [(0, .ref (eA E 12))] [.int y0] h := by
  unfold f8_readsOrder_j144 at hf0
  have hf1 := hf0
  refine V_istore_n X (by decide) rfl dX8_readsOrder_144 ?_
  refine V_goto X (tgt := 292) (by decide) dX8_readsOrder_145 ?_
  exact V_sub [1, 0] rfl (f8_readsOrder_j292_ok hE X hf1)
def f8_readsOrder_j143 (h : Hp) : Re :=
  f8_readsOrder_j144 0 h
set_option maxRecDepth 20000 in
set_option maxHeartbeats 4000000 in
theorem f8_readsOrder_j143_ok (hE : IW E) (X : XC E RX8 cX8_readsOrder 2 (some .boolean) A p s m args meth c) {h : Hp} (hf0 : f8_readsOrder_j143  h = some (r, h')) : VM E 2 A p l e 3 s m args below meth c (Qi E A r h') 143 [(0, .ref (eA E 12))] [] h := by
  unfold f8_readsOrder_j143 at hf0
  have hf1 := hf0
  refine V_iconst X (v := 0) (by decide) dX8_readsOrder_143 ?_
  exact V_sub [0] rfl (f8_readsOrder_j144_ok hE X hf1)
def f8_readsOrder_j73 (y0 : Int32) (h : Hp) : Re :=
  f8_readsOrder_j292 y0 h
set_option maxRecDepth 20000 in
set_option maxHeartbeats 4000000 in
theorem f8_readsOrder_j73_ok (hE : IW E) (X : XC E RX8 cX8_readsOrder 2 (some .boolean) A p s m args meth c) {y0 : Int32} {h : Hp} (hf0 : f8_readsOrder_j73 y0 h = some (r, h')) : VM E 2 A p l e 3 s m args below meth c (Qi E A r h') 73 [(0, .ref (eA E 12))] [.int y0] h := by
  unfold f8_readsOrder_j73 at hf0
  have hf1 := hf0
  refine V_istore_n X (by decide) rfl dX8_readsOrder_73 ?_
  refine V_goto X (tgt := 292) (by decide) dX8_readsOrder_74 ?_
  exact V_sub [1, 0] rfl (f8_readsOrder_j292_ok hE X hf1)
def f8_readsOrder_j72 (h : Hp) : Re :=
  f8_readsOrder_j73 0 h
set_option maxRecDepth 20000 in
set_option maxHeartbeats 4000000 in
theorem f8_readsOrder_j72_ok (hE : IW E) (X : XC E RX8 cX8_readsOrder 2 (some .boolean) A p s m args meth c) {h : Hp} (hf0 : f8_readsOrder_j72  h = some (r, h')) : VM E 2 A p l e 3 s m args below meth c (Qi E A r h') 72 [(0, .ref (eA E 12))] [] h := by
  unfold f8_readsOrder_j72 at hf0
  have hf1 := hf0
  refine V_iconst X (v := 0) (by decide) dX8_readsOrder_72 ?_
  exact V_sub [0] rfl (f8_readsOrder_j73_ok hE X hf1)
def f8_readsOrder_j34 (y0 : Int32) (y1 : Int32) (h : Hp) : Re :=
  if inB y1 210 = true then (some (hu h 20 (Int32.toNatClampNeg y1) y0)).bind fun h2 => (f8_accepts 104 h2).bind fun c4 => if c4.1 = 0 then ((f8_accepts 112 c4.2).bind fun c7 => if c7.1 = 0 then ((f8_accepts 115 c7.2).bind fun c10 => if c10.1 = 0 then ((f8_accepts 116 c10.2).bind fun c13 => if c13.1 = 0 then ((f8_accepts 98 c13.2).bind fun c16 => if c16.1 = 0 then ((f8_accepts 99 c16.2).bind fun c19 => f8_readsOrder_j292 c19.1 c19.2) else ((f8_digit 1 48 57 c16.2).bind fun c21 => if c21.1 = 0 then (f8_readsOrder_j280  c21.2) else ((f8_direction  c21.2).bind fun c24 => if c24.1 = 0 then (f8_readsOrder_j280  c24.2) else (f8_readsOrder_j281 1 c24.2)))) else ((f8_digit 1 48 57 c13.2).bind fun c27 => if c27.1 = 0 then (f8_readsOrder_j243  c27.2) else ((f8_accepts 61 c27.2).bind fun c30 => if c30.1 = 0 then (f8_readsOrder_j243  c30.2) else ((f8_colours  c30.2).bind fun c33 => if c33.1 = 0 then (f8_readsOrder_j243  c33.2) else (f8_readsOrder_j244 1 c33.2))))) else ((f8_digit 1 48 57 c10.2).bind fun c36 => if c36.1 = 0 then (f8_readsOrder_j197  c36.2) else ((f8_digit 2 48 57 c36.2).bind fun c39 => if c39.1 = 0 then (f8_readsOrder_j197  c39.2) else ((f8_digit 3 48 57 c39.2).bind fun c42 => if c42.1 = 0 then (f8_readsOrder_j197  c42.2) else (f8_readsOrder_j198 1 c42.2))))) else ((f8_digit 1 48 57 c7.2).bind fun c45 => if c45.1 = 0 then (f8_readsOrder_j143  c45.2) else ((f8_digit 2 48 57 c45.2).bind fun c48 => if c48.1 = 0 then (f8_readsOrder_j143  c48.2) else ((f8_digit 3 48 57 c48.2).bind fun c51 => if c51.1 = 0 then (f8_readsOrder_j143  c51.2) else ((f8_accepts 42 c51.2).bind fun c54 => if c54.1 = 0 then (f8_readsOrder_j143  c54.2) else ((f8_number 4 c54.2).bind fun c57 => if c57.1 = 0 then (f8_readsOrder_j143  c57.2) else (f8_readsOrder_j144 1 c57.2))))))) else ((f8_digit 1 48 57 c4.2).bind fun c60 => if c60.1 = 0 then (f8_readsOrder_j72  c60.2) else ((f8_digit 2 49 54 c60.2).bind fun c63 => if c63.1 = 0 then (f8_readsOrder_j72  c63.2) else (f8_readsOrder_j73 1 c63.2))) else none
set_option maxRecDepth 20000 in
set_option maxHeartbeats 4000000 in
theorem f8_readsOrder_j34_ok (hE : IW E) (X : XC E RX8 cX8_readsOrder 2 (some .boolean) A p s m args meth c) {y0 : Int32} {y1 : Int32} {h : Hp} (hf0 : f8_readsOrder_j34 y0 y1 h = some (r, h')) : VM E 2 A p l e 3 s m args below meth c (Qi E A r h') 34 [(0, .ref (eA E 12))] [.int y0, .int y1, .ref (eA E 20)] h := by
  unfold f8_readsOrder_j34 at hf0
  have hf1 := hf0
  obtain ⟨g101, hf101⟩ := ogd hf1
  refine V_iast X (AR_20 hE) g101 dX8_readsOrder_34 ?_
  have hf4 := obs hf101
  refine V_aload_n X 0 rfl dX8_readsOrder_35 ?_
  refine V_bipush X (v := 104) (by decide) dX8_readsOrder_36 ?_
  obtain ⟨c4, e_c4, hf6⟩ := obd hf4
  refine V_callVi X (OB_12 hE) rfl rfl (f8_accepts_ok hE e_c4) ys_X8_accepts yw_X8_accepts ml_X8_185 rfl rfl ⟨Nat.le_of_ble_eq_true rfl, Nat.le_of_ble_eq_true rfl⟩ ⟨Nat.zero_le _, Nat.zero_le _⟩ (Nat.le_of_ble_eq_true rfl) dX8_readsOrder_38 ?_
  refine V_if_eq X (tgt := 77) (by decide) dX8_readsOrder_41 (fun q41 => ?_) (fun q41 => ?_)
  · have hf7 := ift hf6 q41
    refine V_aload_n X 0 rfl dX8_readsOrder_77 ?_
    refine V_bipush X (v := 112) (by decide) dX8_readsOrder_78 ?_
    obtain ⟨c7, e_c7, hf9⟩ := obd hf7
    refine V_callVi X (OB_12 hE) rfl rfl (f8_accepts_ok hE e_c7) ys_X8_accepts yw_X8_accepts ml_X8_185 rfl rfl ⟨Nat.le_of_ble_eq_true rfl, Nat.le_of_ble_eq_true rfl⟩ ⟨Nat.zero_le _, Nat.zero_le _⟩ (Nat.le_of_ble_eq_true rfl) dX8_readsOrder_80 ?_
    refine V_if_eq X (tgt := 148) (by decide) dX8_readsOrder_83 (fun q83 => ?_) (fun q83 => ?_)
    · have hf10 := ift hf9 q83
      refine V_aload_n X 0 rfl dX8_readsOrder_148 ?_
      refine V_bipush X (v := 115) (by decide) dX8_readsOrder_149 ?_
      obtain ⟨c10, e_c10, hf12⟩ := obd hf10
      refine V_callVi X (OB_12 hE) rfl rfl (f8_accepts_ok hE e_c10) ys_X8_accepts yw_X8_accepts ml_X8_185 rfl rfl ⟨Nat.le_of_ble_eq_true rfl, Nat.le_of_ble_eq_true rfl⟩ ⟨Nat.zero_le _, Nat.zero_le _⟩ (Nat.le_of_ble_eq_true rfl) dX8_readsOrder_151 ?_
      refine V_if_eq X (tgt := 202) (by decide) dX8_readsOrder_154 (fun q154 => ?_) (fun q154 => ?_)
      · have hf13 := ift hf12 q154
        refine V_aload_n X 0 rfl dX8_readsOrder_202 ?_
        refine V_bipush X (v := 116) (by decide) dX8_readsOrder_203 ?_
        obtain ⟨c13, e_c13, hf15⟩ := obd hf13
        refine V_callVi X (OB_12 hE) rfl rfl (f8_accepts_ok hE e_c13) ys_X8_accepts yw_X8_accepts ml_X8_185 rfl rfl ⟨Nat.le_of_ble_eq_true rfl, Nat.le_of_ble_eq_true rfl⟩ ⟨Nat.zero_le _, Nat.zero_le _⟩ (Nat.le_of_ble_eq_true rfl) dX8_readsOrder_205 ?_
        refine V_if_eq X (tgt := 248) (by decide) dX8_readsOrder_208 (fun q208 => ?_) (fun q208 => ?_)
        · have hf16 := ift hf15 q208
          refine V_aload_n X 0 rfl dX8_readsOrder_248 ?_
          refine V_bipush X (v := 98) (by decide) dX8_readsOrder_249 ?_
          obtain ⟨c16, e_c16, hf18⟩ := obd hf16
          refine V_callVi X (OB_12 hE) rfl rfl (f8_accepts_ok hE e_c16) ys_X8_accepts yw_X8_accepts ml_X8_185 rfl rfl ⟨Nat.le_of_ble_eq_true rfl, Nat.le_of_ble_eq_true rfl⟩ ⟨Nat.zero_le _, Nat.zero_le _⟩ (Nat.le_of_ble_eq_true rfl) dX8_readsOrder_251 ?_
          refine V_if_eq X (tgt := 285) (by decide) dX8_readsOrder_254 (fun q254 => ?_) (fun q254 => ?_)
          · have hf19 := ift hf18 q254
            refine V_aload_n X 0 rfl dX8_readsOrder_285 ?_
            refine V_bipush X (v := 99) (by decide) dX8_readsOrder_286 ?_
            obtain ⟨c19, e_c19, hf21⟩ := obd hf19
            refine V_callVi X (OB_12 hE) rfl rfl (f8_accepts_ok hE e_c19) ys_X8_accepts yw_X8_accepts ml_X8_185 rfl rfl ⟨Nat.le_of_ble_eq_true rfl, Nat.le_of_ble_eq_true rfl⟩ ⟨Nat.zero_le _, Nat.zero_le _⟩ (Nat.le_of_ble_eq_true rfl) dX8_readsOrder_288 ?_
            refine V_istore_n X (by decide) rfl dX8_readsOrder_291 ?_
            exact V_sub [1, 0] rfl (f8_readsOrder_j292_ok hE X hf21)
          · have hf19 := ife hf18 q254
            refine V_aload_n X 0 rfl dX8_readsOrder_257 ?_
            refine V_iconst X (v := 1) (by decide) dX8_readsOrder_258 ?_
            refine V_bipush X (v := 48) (by decide) dX8_readsOrder_259 ?_
            refine V_bipush X (v := 57) (by decide) dX8_readsOrder_261 ?_
            obtain ⟨c21, e_c21, hf23⟩ := obd hf19
            refine V_callVi X (OB_12 hE) rfl rfl (f8_digit_ok hE e_c21) ys_X8_digit yw_X8_digit ml_X8_181 rfl rfl ⟨Nat.le_of_ble_eq_true rfl, Nat.le_of_ble_eq_true rfl⟩ ⟨Nat.zero_le _, Nat.zero_le _⟩ (Nat.le_of_ble_eq_true rfl) dX8_readsOrder_263 ?_
            refine V_if_eq X (tgt := 280) (by decide) dX8_readsOrder_266 (fun q266 => ?_) (fun q266 => ?_)
            · have hf24 := ift hf23 q266
              exact V_sub [0] rfl (f8_readsOrder_j280_ok hE X hf24)
            · have hf24 := ife hf23 q266
              refine V_aload_n X 0 rfl dX8_readsOrder_269 ?_
              obtain ⟨c24, e_c24, hf26⟩ := obd hf24
              refine V_callVi X (OB_12 hE) rfl rfl (f8_direction_ok hE e_c24) ys_X8_direction yw_X8_direction ml_X8_196 rfl rfl ⟨Nat.le_of_ble_eq_true rfl, Nat.le_of_ble_eq_true rfl⟩ ⟨Nat.zero_le _, Nat.zero_le _⟩ (Nat.le_of_ble_eq_true rfl) dX8_readsOrder_270 ?_
              refine V_if_eq X (tgt := 280) (by decide) dX8_readsOrder_273 (fun q273 => ?_) (fun q273 => ?_)
              · have hf27 := ift hf26 q273
                exact V_sub [0] rfl (f8_readsOrder_j280_ok hE X hf27)
              · have hf27 := ife hf26 q273
                refine V_iconst X (v := 1) (by decide) dX8_readsOrder_276 ?_
                refine V_goto X (tgt := 281) (by decide) dX8_readsOrder_277 ?_
                exact V_sub [0] rfl (f8_readsOrder_j281_ok hE X hf27)
        · have hf16 := ife hf15 q208
          refine V_aload_n X 0 rfl dX8_readsOrder_211 ?_
          refine V_iconst X (v := 1) (by decide) dX8_readsOrder_212 ?_
          refine V_bipush X (v := 48) (by decide) dX8_readsOrder_213 ?_
          refine V_bipush X (v := 57) (by decide) dX8_readsOrder_215 ?_
          obtain ⟨c27, e_c27, hf29⟩ := obd hf16
          refine V_callVi X (OB_12 hE) rfl rfl (f8_digit_ok hE e_c27) ys_X8_digit yw_X8_digit ml_X8_181 rfl rfl ⟨Nat.le_of_ble_eq_true rfl, Nat.le_of_ble_eq_true rfl⟩ ⟨Nat.zero_le _, Nat.zero_le _⟩ (Nat.le_of_ble_eq_true rfl) dX8_readsOrder_217 ?_
          refine V_if_eq X (tgt := 243) (by decide) dX8_readsOrder_220 (fun q220 => ?_) (fun q220 => ?_)
          · have hf30 := ift hf29 q220
            exact V_sub [0] rfl (f8_readsOrder_j243_ok hE X hf30)
          · have hf30 := ife hf29 q220
            refine V_aload_n X 0 rfl dX8_readsOrder_223 ?_
            refine V_bipush X (v := 61) (by decide) dX8_readsOrder_224 ?_
            obtain ⟨c30, e_c30, hf32⟩ := obd hf30
            refine V_callVi X (OB_12 hE) rfl rfl (f8_accepts_ok hE e_c30) ys_X8_accepts yw_X8_accepts ml_X8_185 rfl rfl ⟨Nat.le_of_ble_eq_true rfl, Nat.le_of_ble_eq_true rfl⟩ ⟨Nat.zero_le _, Nat.zero_le _⟩ (Nat.le_of_ble_eq_true rfl) dX8_readsOrder_226 ?_
            refine V_if_eq X (tgt := 243) (by decide) dX8_readsOrder_229 (fun q229 => ?_) (fun q229 => ?_)
            · have hf33 := ift hf32 q229
              exact V_sub [0] rfl (f8_readsOrder_j243_ok hE X hf33)
            · have hf33 := ife hf32 q229
              refine V_aload_n X 0 rfl dX8_readsOrder_232 ?_
              obtain ⟨c33, e_c33, hf35⟩ := obd hf33
              refine V_callVi X (OB_12 hE) rfl rfl (f8_colours_ok hE e_c33) ys_X8_colours yw_X8_colours ml_X8_192 rfl rfl ⟨Nat.le_of_ble_eq_true rfl, Nat.le_of_ble_eq_true rfl⟩ ⟨Nat.zero_le _, Nat.zero_le _⟩ (Nat.le_of_ble_eq_true rfl) dX8_readsOrder_233 ?_
              refine V_if_eq X (tgt := 243) (by decide) dX8_readsOrder_236 (fun q236 => ?_) (fun q236 => ?_)
              · have hf36 := ift hf35 q236
                exact V_sub [0] rfl (f8_readsOrder_j243_ok hE X hf36)
              · have hf36 := ife hf35 q236
                refine V_iconst X (v := 1) (by decide) dX8_readsOrder_239 ?_
                refine V_goto X (tgt := 244) (by decide) dX8_readsOrder_240 ?_
                exact V_sub [0] rfl (f8_readsOrder_j244_ok hE X hf36)
      · have hf13 := ife hf12 q154
        refine V_aload_n X 0 rfl dX8_readsOrder_157 ?_
        refine V_iconst X (v := 1) (by decide) dX8_readsOrder_158 ?_
        refine V_bipush X (v := 48) (by decide) dX8_readsOrder_159 ?_
        refine V_bipush X (v := 57) (by decide) dX8_readsOrder_161 ?_
        obtain ⟨c36, e_c36, hf38⟩ := obd hf13
        refine V_callVi X (OB_12 hE) rfl rfl (f8_digit_ok hE e_c36) ys_X8_digit yw_X8_digit ml_X8_181 rfl rfl ⟨Nat.le_of_ble_eq_true rfl, Nat.le_of_ble_eq_true rfl⟩ ⟨Nat.zero_le _, Nat.zero_le _⟩ (Nat.le_of_ble_eq_true rfl) dX8_readsOrder_163 ?_
        refine V_if_eq X (tgt := 197) (by decide) dX8_readsOrder_166 (fun q166 => ?_) (fun q166 => ?_)
        · have hf39 := ift hf38 q166
          exact V_sub [0] rfl (f8_readsOrder_j197_ok hE X hf39)
        · have hf39 := ife hf38 q166
          refine V_aload_n X 0 rfl dX8_readsOrder_169 ?_
          refine V_iconst X (v := 2) (by decide) dX8_readsOrder_170 ?_
          refine V_bipush X (v := 48) (by decide) dX8_readsOrder_171 ?_
          refine V_bipush X (v := 57) (by decide) dX8_readsOrder_173 ?_
          obtain ⟨c39, e_c39, hf41⟩ := obd hf39
          refine V_callVi X (OB_12 hE) rfl rfl (f8_digit_ok hE e_c39) ys_X8_digit yw_X8_digit ml_X8_181 rfl rfl ⟨Nat.le_of_ble_eq_true rfl, Nat.le_of_ble_eq_true rfl⟩ ⟨Nat.zero_le _, Nat.zero_le _⟩ (Nat.le_of_ble_eq_true rfl) dX8_readsOrder_175 ?_
          refine V_if_eq X (tgt := 197) (by decide) dX8_readsOrder_178 (fun q178 => ?_) (fun q178 => ?_)
          · have hf42 := ift hf41 q178
            exact V_sub [0] rfl (f8_readsOrder_j197_ok hE X hf42)
          · have hf42 := ife hf41 q178
            refine V_aload_n X 0 rfl dX8_readsOrder_181 ?_
            refine V_iconst X (v := 3) (by decide) dX8_readsOrder_182 ?_
            refine V_bipush X (v := 48) (by decide) dX8_readsOrder_183 ?_
            refine V_bipush X (v := 57) (by decide) dX8_readsOrder_185 ?_
            obtain ⟨c42, e_c42, hf44⟩ := obd hf42
            refine V_callVi X (OB_12 hE) rfl rfl (f8_digit_ok hE e_c42) ys_X8_digit yw_X8_digit ml_X8_181 rfl rfl ⟨Nat.le_of_ble_eq_true rfl, Nat.le_of_ble_eq_true rfl⟩ ⟨Nat.zero_le _, Nat.zero_le _⟩ (Nat.le_of_ble_eq_true rfl) dX8_readsOrder_187 ?_
            refine V_if_eq X (tgt := 197) (by decide) dX8_readsOrder_190 (fun q190 => ?_) (fun q190 => ?_)
            · have hf45 := ift hf44 q190
              exact V_sub [0] rfl (f8_readsOrder_j197_ok hE X hf45)
            · have hf45 := ife hf44 q190
              refine V_iconst X (v := 1) (by decide) dX8_readsOrder_193 ?_
              refine V_goto X (tgt := 198) (by decide) dX8_readsOrder_194 ?_
              exact V_sub [0] rfl (f8_readsOrder_j198_ok hE X hf45)
    · have hf10 := ife hf9 q83
      refine V_aload_n X 0 rfl dX8_readsOrder_86 ?_
      refine V_iconst X (v := 1) (by decide) dX8_readsOrder_87 ?_
      refine V_bipush X (v := 48) (by decide) dX8_readsOrder_88 ?_
      refine V_bipush X (v := 57) (by decide) dX8_readsOrder_90 ?_
      obtain ⟨c45, e_c45, hf47⟩ := obd hf10
      refine V_callVi X (OB_12 hE) rfl rfl (f8_digit_ok hE e_c45) ys_X8_digit yw_X8_digit ml_X8_181 rfl rfl ⟨Nat.le_of_ble_eq_true rfl, Nat.le_of_ble_eq_true rfl⟩ ⟨Nat.zero_le _, Nat.zero_le _⟩ (Nat.le_of_ble_eq_true rfl) dX8_readsOrder_92 ?_
      refine V_if_eq X (tgt := 143) (by decide) dX8_readsOrder_95 (fun q95 => ?_) (fun q95 => ?_)
      · have hf48 := ift hf47 q95
        exact V_sub [0] rfl (f8_readsOrder_j143_ok hE X hf48)
      · have hf48 := ife hf47 q95
        refine V_aload_n X 0 rfl dX8_readsOrder_98 ?_
        refine V_iconst X (v := 2) (by decide) dX8_readsOrder_99 ?_
        refine V_bipush X (v := 48) (by decide) dX8_readsOrder_100 ?_
        refine V_bipush X (v := 57) (by decide) dX8_readsOrder_102 ?_
        obtain ⟨c48, e_c48, hf50⟩ := obd hf48
        refine V_callVi X (OB_12 hE) rfl rfl (f8_digit_ok hE e_c48) ys_X8_digit yw_X8_digit ml_X8_181 rfl rfl ⟨Nat.le_of_ble_eq_true rfl, Nat.le_of_ble_eq_true rfl⟩ ⟨Nat.zero_le _, Nat.zero_le _⟩ (Nat.le_of_ble_eq_true rfl) dX8_readsOrder_104 ?_
        refine V_if_eq X (tgt := 143) (by decide) dX8_readsOrder_107 (fun q107 => ?_) (fun q107 => ?_)
        · have hf51 := ift hf50 q107
          exact V_sub [0] rfl (f8_readsOrder_j143_ok hE X hf51)
        · have hf51 := ife hf50 q107
          refine V_aload_n X 0 rfl dX8_readsOrder_110 ?_
          refine V_iconst X (v := 3) (by decide) dX8_readsOrder_111 ?_
          refine V_bipush X (v := 48) (by decide) dX8_readsOrder_112 ?_
          refine V_bipush X (v := 57) (by decide) dX8_readsOrder_114 ?_
          obtain ⟨c51, e_c51, hf53⟩ := obd hf51
          refine V_callVi X (OB_12 hE) rfl rfl (f8_digit_ok hE e_c51) ys_X8_digit yw_X8_digit ml_X8_181 rfl rfl ⟨Nat.le_of_ble_eq_true rfl, Nat.le_of_ble_eq_true rfl⟩ ⟨Nat.zero_le _, Nat.zero_le _⟩ (Nat.le_of_ble_eq_true rfl) dX8_readsOrder_116 ?_
          refine V_if_eq X (tgt := 143) (by decide) dX8_readsOrder_119 (fun q119 => ?_) (fun q119 => ?_)
          · have hf54 := ift hf53 q119
            exact V_sub [0] rfl (f8_readsOrder_j143_ok hE X hf54)
          · have hf54 := ife hf53 q119
            refine V_aload_n X 0 rfl dX8_readsOrder_122 ?_
            refine V_bipush X (v := 42) (by decide) dX8_readsOrder_123 ?_
            obtain ⟨c54, e_c54, hf56⟩ := obd hf54
            refine V_callVi X (OB_12 hE) rfl rfl (f8_accepts_ok hE e_c54) ys_X8_accepts yw_X8_accepts ml_X8_185 rfl rfl ⟨Nat.le_of_ble_eq_true rfl, Nat.le_of_ble_eq_true rfl⟩ ⟨Nat.zero_le _, Nat.zero_le _⟩ (Nat.le_of_ble_eq_true rfl) dX8_readsOrder_125 ?_
            refine V_if_eq X (tgt := 143) (by decide) dX8_readsOrder_128 (fun q128 => ?_) (fun q128 => ?_)
            · have hf57 := ift hf56 q128
              exact V_sub [0] rfl (f8_readsOrder_j143_ok hE X hf57)
            · have hf57 := ife hf56 q128
              refine V_aload_n X 0 rfl dX8_readsOrder_131 ?_
              refine V_iconst X (v := 4) (by decide) dX8_readsOrder_132 ?_
              obtain ⟨c57, e_c57, hf59⟩ := obd hf57
              refine V_callVi X (OB_12 hE) rfl rfl (f8_number_ok hE e_c57) ys_X8_number yw_X8_number ml_X8_189 rfl rfl ⟨Nat.le_of_ble_eq_true rfl, Nat.le_of_ble_eq_true rfl⟩ ⟨Nat.zero_le _, Nat.zero_le _⟩ (Nat.le_of_ble_eq_true rfl) dX8_readsOrder_133 ?_
              refine V_if_eq X (tgt := 143) (by decide) dX8_readsOrder_136 (fun q136 => ?_) (fun q136 => ?_)
              · have hf60 := ift hf59 q136
                exact V_sub [0] rfl (f8_readsOrder_j143_ok hE X hf60)
              · have hf60 := ife hf59 q136
                refine V_iconst X (v := 1) (by decide) dX8_readsOrder_139 ?_
                refine V_goto X (tgt := 144) (by decide) dX8_readsOrder_140 ?_
                exact V_sub [0] rfl (f8_readsOrder_j144_ok hE X hf60)
  · have hf7 := ife hf6 q41
    refine V_aload_n X 0 rfl dX8_readsOrder_44 ?_
    refine V_iconst X (v := 1) (by decide) dX8_readsOrder_45 ?_
    refine V_bipush X (v := 48) (by decide) dX8_readsOrder_46 ?_
    refine V_bipush X (v := 57) (by decide) dX8_readsOrder_48 ?_
    obtain ⟨c60, e_c60, hf62⟩ := obd hf7
    refine V_callVi X (OB_12 hE) rfl rfl (f8_digit_ok hE e_c60) ys_X8_digit yw_X8_digit ml_X8_181 rfl rfl ⟨Nat.le_of_ble_eq_true rfl, Nat.le_of_ble_eq_true rfl⟩ ⟨Nat.zero_le _, Nat.zero_le _⟩ (Nat.le_of_ble_eq_true rfl) dX8_readsOrder_50 ?_
    refine V_if_eq X (tgt := 72) (by decide) dX8_readsOrder_53 (fun q53 => ?_) (fun q53 => ?_)
    · have hf63 := ift hf62 q53
      exact V_sub [0] rfl (f8_readsOrder_j72_ok hE X hf63)
    · have hf63 := ife hf62 q53
      refine V_aload_n X 0 rfl dX8_readsOrder_56 ?_
      refine V_iconst X (v := 2) (by decide) dX8_readsOrder_57 ?_
      refine V_bipush X (v := 49) (by decide) dX8_readsOrder_58 ?_
      refine V_bipush X (v := 54) (by decide) dX8_readsOrder_60 ?_
      obtain ⟨c63, e_c63, hf65⟩ := obd hf63
      refine V_callVi X (OB_12 hE) rfl rfl (f8_digit_ok hE e_c63) ys_X8_digit yw_X8_digit ml_X8_181 rfl rfl ⟨Nat.le_of_ble_eq_true rfl, Nat.le_of_ble_eq_true rfl⟩ ⟨Nat.zero_le _, Nat.zero_le _⟩ (Nat.le_of_ble_eq_true rfl) dX8_readsOrder_62 ?_
      refine V_if_eq X (tgt := 72) (by decide) dX8_readsOrder_65 (fun q65 => ?_) (fun q65 => ?_)
      · have hf66 := ift hf65 q65
        exact V_sub [0] rfl (f8_readsOrder_j72_ok hE X hf66)
      · have hf66 := ife hf65 q65
        refine V_iconst X (v := 1) (by decide) dX8_readsOrder_68 ?_
        refine V_goto X (tgt := 73) (by decide) dX8_readsOrder_69 ?_
        exact V_sub [0] rfl (f8_readsOrder_j73_ok hE X hf66)
def f8_readsOrder_e (h : Hp) : Re :=
  if (h 12 9) ≤ (h 12 12) then (f8_readsOrder_j34 0 (5 * (h 12 11)) h) else (if inB (h 12 12) 80 = true then f8_readsOrder_j34 (h 21 (Int32.toNatClampNeg (h 12 12))) (5 * (h 12 11)) h else none)
set_option maxRecDepth 20000 in
set_option maxHeartbeats 4000000 in
theorem f8_readsOrder_e_ok (hE : IW E) (X : XC E RX8 cX8_readsOrder 2 (some .boolean) A p s m args meth c) {h : Hp} (hf0 : f8_readsOrder_e  h = some (r, h')) : VM E 2 A p l e 3 s m args below meth c (Qi E A r h') 0 [(0, .ref (eA E 12))] [] h := by
  unfold f8_readsOrder_e at hf0
  have hf1 := hf0
  refine V_aload_n X 0 rfl dX8_readsOrder_0 ?_
  refine G_X8_7_32 hE X dX8_readsOrder_1 ?_
  refine V_iconst X (v := 5) (by decide) dX8_readsOrder_4 ?_
  refine V_aload_n X 0 rfl dX8_readsOrder_5 ?_
  refine G_X8_11_178 hE X dX8_readsOrder_6 ?_
  refine V_imul X dX8_readsOrder_9 ?_
  refine V_aload_n X 0 rfl dX8_readsOrder_10 ?_
  refine G_X8_12_171 hE X dX8_readsOrder_11 ?_
  refine V_aload_n X 0 rfl dX8_readsOrder_14 ?_
  refine G_X8_9_154 hE X dX8_readsOrder_15 ?_
  refine V_icmp_ge X (tgt := 33) (by decide) dX8_readsOrder_18 (fun q18 => ?_) (fun q18 => ?_)
  · have hf2 := ift hf1 q18
    refine V_iconst X (v := 0) (by decide) dX8_readsOrder_33 ?_
    exact V_sub [0] rfl (f8_readsOrder_j34_ok hE X hf2)
  · have hf2 := ife hf1 q18
    refine V_aload_n X 0 rfl dX8_readsOrder_21 ?_
    refine G_X8_8_35 hE X dX8_readsOrder_22 ?_
    refine V_aload_n X 0 rfl dX8_readsOrder_25 ?_
    refine G_X8_12_171 hE X dX8_readsOrder_26 ?_
    obtain ⟨g102, hf102⟩ := ogd hf2
    refine V_cald X (AR_21 hE) g102 dX8_readsOrder_29 ?_
    refine V_goto X (tgt := 34) (by decide) dX8_readsOrder_30 ?_
    exact V_sub [0] rfl (f8_readsOrder_j34_ok hE X hf102)
def f8_readsOrder (h : Hp) : Re := f8_readsOrder_e  h
theorem f8_readsOrder_ok (hE : IW E) {h : Hp} {q : Int32 × Hp} (hf0 : f8_readsOrder  h = some q) : SMi l E 3 yX8_readsOrder cX8_readsOrder 2 (some .boolean) [.ref (eA E 12)] h q.1 q.2 :=
  SMi.of (by decide +kernel) (Nat.le_of_ble_eq_true rfl) (fun p e s m args below meth c A X => f8_readsOrder_e_ok hE X (r := q.1) (h' := q.2) hf0)
def f8_faultOf_j55 (x1 : Int32) (h : Hp) : Re :=
  if x1 = 0 then (some (h 12 12, h)) else (some ((-1), h))
set_option maxRecDepth 20000 in
set_option maxHeartbeats 4000000 in
theorem f8_faultOf_j55_ok (hE : IW E) (X : XC E RX8 cX8_faultOf 2 (some .int) A p s m args meth c) {x1 : Int32} {h : Hp} (hf0 : f8_faultOf_j55 x1 h = some (r, h')) : VM E 2 A p l e 4 s m args below meth c (Qi E A r h') 55 [(0, .ref (eA E 12)), (1, .int x1)] [] h := by
  unfold f8_faultOf_j55 at hf0
  have hf1 := hf0
  refine V_iload_n X 1 rfl dX8_faultOf_55 ?_
  refine V_if_eq X (tgt := 63) (by decide) dX8_faultOf_56 (fun q56 => ?_) (fun q56 => ?_)
  · have hf2 := ift hf1 q56
    refine V_aload_n X 0 rfl dX8_faultOf_63 ?_
    refine G_X8_12_171 hE X dX8_faultOf_64 ?_
    exact V_iret X rfl hf2 dX8_faultOf_67
  · have hf2 := ife hf1 q56
    refine V_iconst X (v := -1) (by decide) dX8_faultOf_59 ?_
    refine V_goto X (tgt := 67) (by decide) dX8_faultOf_60 ?_
    exact V_iret X rfl hf2 dX8_faultOf_67
def f8_faultOf_B15 (k15 : Int32 → Hp → Re) (x1 : Int32) (h : Hp) : Re :=
  if x1 = 0 then (f8_faultOf_j55 x1 h) else (if (h 12 9) ≤ (h 12 12) then (f8_faultOf_j55 x1 h) else ((f8_accepts 59 h).bind fun c3 => if c3.1 = 0 then (k15 0 c3.2) else ((f8_readsOrder  c3.2).bind fun c6 => if c6.1 = 0 then (k15 0 c6.2) else (k15 1 c6.2))))
set_option maxRecDepth 20000 in
set_option maxHeartbeats 4000000 in
theorem f8_faultOf_B15_ok (hE : IW E) (X : XC E RX8 cX8_faultOf 2 (some .int) A p s m args meth c) {k15 : Int32 → Hp → Re} (hk15 : ∀ (x1 : Int32) (h : Hp), k15 x1 h = some (r, h') → VM E 2 A p l e 4 s m args below meth c (Qi E A r h') 15 [(0, .ref (eA E 12)), (1, .int x1)] [] h) {x1 : Int32} {h : Hp} (hf0 : f8_faultOf_B15 k15 x1 h = some (r, h')) : VM E 2 A p l e 4 s m args below meth c (Qi E A r h') 15 [(0, .ref (eA E 12)), (1, .int x1)] [] h := by
  unfold f8_faultOf_B15 at hf0
  have hf1 := hf0
  refine V_iload_n X 1 rfl dX8_faultOf_15 ?_
  refine V_if_eq X (tgt := 55) (by decide) dX8_faultOf_16 (fun q16 => ?_) (fun q16 => ?_)
  · have hf2 := ift hf1 q16
    exact V_sub [0, 1] rfl (f8_faultOf_j55_ok hE X hf2)
  · have hf2 := ife hf1 q16
    refine V_aload_n X 0 rfl dX8_faultOf_19 ?_
    refine G_X8_12_171 hE X dX8_faultOf_20 ?_
    refine V_aload_n X 0 rfl dX8_faultOf_23 ?_
    refine G_X8_9_154 hE X dX8_faultOf_24 ?_
    refine V_icmp_ge X (tgt := 55) (by decide) dX8_faultOf_27 (fun q27 => ?_) (fun q27 => ?_)
    · have hf3 := ift hf2 q27
      exact V_sub [0, 1] rfl (f8_faultOf_j55_ok hE X hf3)
    · have hf3 := ife hf2 q27
      refine V_aload_n X 0 rfl dX8_faultOf_30 ?_
      refine V_bipush X (v := 59) (by decide) dX8_faultOf_31 ?_
      obtain ⟨c3, e_c3, hf5⟩ := obd hf3
      refine V_callVi X (OB_12 hE) rfl rfl (f8_accepts_ok hE e_c3) ys_X8_accepts yw_X8_accepts ml_X8_185 rfl rfl ⟨Nat.le_of_ble_eq_true rfl, Nat.le_of_ble_eq_true rfl⟩ ⟨Nat.zero_le _, Nat.zero_le _⟩ (Nat.le_of_ble_eq_true rfl) dX8_faultOf_33 ?_
      refine V_if_eq X (tgt := 50) (by decide) dX8_faultOf_36 (fun q36 => ?_) (fun q36 => ?_)
      · have hf6 := ift hf5 q36
        refine V_iconst X (v := 0) (by decide) dX8_faultOf_50 ?_
        refine V_istore_n X (by decide) rfl dX8_faultOf_51 ?_
        refine V_goto X (tgt := 15) (by decide) dX8_faultOf_52 ?_
        exact V_sub [1, 0] rfl (hk15 _ _ hf6)
      · have hf6 := ife hf5 q36
        refine V_aload_n X 0 rfl dX8_faultOf_39 ?_
        obtain ⟨c6, e_c6, hf8⟩ := obd hf6
        refine V_callVi X (OB_12 hE) rfl rfl (f8_readsOrder_ok hE e_c6) ys_X8_readsOrder yw_X8_readsOrder ml_X8_199 rfl rfl ⟨Nat.le_of_ble_eq_true rfl, Nat.le_of_ble_eq_true rfl⟩ ⟨Nat.zero_le _, Nat.zero_le _⟩ (Nat.le_of_ble_eq_true rfl) dX8_faultOf_40 ?_
        refine V_if_eq X (tgt := 50) (by decide) dX8_faultOf_43 (fun q43 => ?_) (fun q43 => ?_)
        · have hf9 := ift hf8 q43
          refine V_iconst X (v := 0) (by decide) dX8_faultOf_50 ?_
          refine V_istore_n X (by decide) rfl dX8_faultOf_51 ?_
          refine V_goto X (tgt := 15) (by decide) dX8_faultOf_52 ?_
          exact V_sub [1, 0] rfl (hk15 _ _ hf9)
        · have hf9 := ife hf8 q43
          refine V_iconst X (v := 1) (by decide) dX8_faultOf_46 ?_
          refine V_goto X (tgt := 51) (by decide) dX8_faultOf_47 ?_
          refine V_istore_n X (by decide) rfl dX8_faultOf_51 ?_
          refine V_goto X (tgt := 15) (by decide) dX8_faultOf_52 ?_
          exact V_sub [1, 0] rfl (hk15 _ _ hf9)
def f8_faultOf_L15 : Nat → Int32 → Hp → Re
  | 0 => fun _ _ => none
  | n + 1 => f8_faultOf_B15 (f8_faultOf_L15 n)
theorem f8_faultOf_L15_s (n : Nat) (x1 : Int32) (h : Hp) : f8_faultOf_L15 (n + 1) x1 h = f8_faultOf_B15 (f8_faultOf_L15 n) x1 h := rfl
theorem f8_faultOf_L15_ok (hE : IW E) (X : XC E RX8 cX8_faultOf 2 (some .int) A p s m args meth c) : ∀ (n : Nat) (x1 : Int32) (h : Hp), f8_faultOf_L15 n x1 h = some (r, h') → VM E 2 A p l e 4 s m args below meth c (Qi E A r h') 15 [(0, .ref (eA E 12)), (1, .int x1)] [] h := by
  intro n
  induction n with
  | zero =>
    intro x1 h q
    have q : (none : Re) = some (r, h') := q
    cases q
  | succ n ih =>
    intro x1 h q
    exact f8_faultOf_B15_ok hE X ih q
def f8_faultOf_e (h : Hp) : Re :=
  (some (hu h 12 12 0)).bind fun h1 => (some (hu h1 12 11 0)).bind fun h3 => (f8_readsOrder  h3).bind fun c5 => f8_faultOf_L15 FU c5.1 c5.2
set_option maxRecDepth 20000 in
set_option maxHeartbeats 4000000 in
theorem f8_faultOf_e_ok (hE : IW E) (X : XC E RX8 cX8_faultOf 2 (some .int) A p s m args meth c) {h : Hp} (hf0 : f8_faultOf_e  h = some (r, h')) : VM E 2 A p l e 4 s m args below meth c (Qi E A r h') 0 [(0, .ref (eA E 12))] [] h := by
  unfold f8_faultOf_e at hf0
  have hf1 := hf0
  refine V_aload_n X 0 rfl dX8_faultOf_0 ?_
  refine V_iconst X (v := 0) (by decide) dX8_faultOf_1 ?_
  refine P_X8_12_171 hE X dX8_faultOf_2 ?_
  have hf3 := obs hf1
  refine V_aload_n X 0 rfl dX8_faultOf_5 ?_
  refine V_iconst X (v := 0) (by decide) dX8_faultOf_6 ?_
  refine P_X8_11_178 hE X dX8_faultOf_7 ?_
  have hf5 := obs hf3
  refine V_aload_n X 0 rfl dX8_faultOf_10 ?_
  obtain ⟨c5, e_c5, hf7⟩ := obd hf5
  refine V_callVi X (OB_12 hE) rfl rfl (f8_readsOrder_ok hE e_c5) ys_X8_readsOrder yw_X8_readsOrder ml_X8_199 rfl rfl ⟨Nat.le_of_ble_eq_true rfl, Nat.le_of_ble_eq_true rfl⟩ ⟨Nat.zero_le _, Nat.zero_le _⟩ (Nat.le_of_ble_eq_true rfl) dX8_faultOf_11 ?_
  refine V_istore_n X (by decide) rfl dX8_faultOf_14 ?_
  exact V_sub [1, 0] rfl (f8_faultOf_L15_ok hE X FU _ _ hf7)
def f8_faultOf (h : Hp) : Re := f8_faultOf_e  h
theorem f8_faultOf_ok (hE : IW E) {h : Hp} {q : Int32 × Hp} (hf0 : f8_faultOf  h = some q) : SMi l E 4 yX8_faultOf cX8_faultOf 2 (some .int) [.ref (eA E 12)] h q.1 q.2 :=
  SMi.of (by decide +kernel) (Nat.le_of_ble_eq_true rfl) (fun p e s m args below meth c A X => f8_faultOf_e_ok hE X (r := q.1) (h' := q.2) hf0)
def f8_does_e (x1 : Int32) (h : Hp) : Re :=
  if inB (5 * x1) 210 = true then if (h 20 (Int32.toNatClampNeg (5 * x1))) = 98 then (if inB ((5 * x1) + 1) 210 = true then if inB ((5 * x1) + 2) 210 = true then (f8_breathes (h 20 (Int32.toNatClampNeg ((5 * x1) + 1))) (h 20 (Int32.toNatClampNeg ((5 * x1) + 2))) h).bind fun c6 => some (c6.1, c6.2) else none else none) else if (h 20 (Int32.toNatClampNeg (5 * x1))) = 104 then (if inB ((5 * x1) + 1) 210 = true then if inB ((5 * x1) + 2) 210 = true then (f8_takes (h 20 (Int32.toNatClampNeg ((5 * x1) + 1))) (h 20 (Int32.toNatClampNeg ((5 * x1) + 2))) h).bind fun c11 => some (c11.1, c11.2) else none else none) else if (h 20 (Int32.toNatClampNeg (5 * x1))) = 112 then (if inB ((5 * x1) + 1) 210 = true then if inB ((5 * x1) + 2) 210 = true then if inB ((5 * x1) + 3) 210 = true then if inB ((5 * x1) + 4) 210 = true then (f8_pours (h 20 (Int32.toNatClampNeg ((5 * x1) + 1))) (h 20 (Int32.toNatClampNeg ((5 * x1) + 2))) (h 20 (Int32.toNatClampNeg ((5 * x1) + 3))) (h 20 (Int32.toNatClampNeg ((5 * x1) + 4))) h).bind fun c18 => some (c18.1, c18.2) else none else none else none else none) else if (h 20 (Int32.toNatClampNeg (5 * x1))) = 115 then (if inB ((5 * x1) + 1) 210 = true then if inB ((5 * x1) + 2) 210 = true then if inB ((5 * x1) + 3) 210 = true then (f8_scrapes (h 20 (Int32.toNatClampNeg ((5 * x1) + 1))) (h 20 (Int32.toNatClampNeg ((5 * x1) + 2))) (h 20 (Int32.toNatClampNeg ((5 * x1) + 3))) h).bind fun c24 => some (c24.1, c24.2) else none else none else none) else if (h 20 (Int32.toNatClampNeg (5 * x1))) = 116 then (if inB ((5 * x1) + 1) 210 = true then if inB ((5 * x1) + 2) 210 = true then (f8_patterns (h 20 (Int32.toNatClampNeg ((5 * x1) + 1))) (h 20 (Int32.toNatClampNeg ((5 * x1) + 2))) h).bind fun c29 => some (c29.1, c29.2) else none else none) else ((f8_closes  h).bind fun c32 => some (c32.1, c32.2)) else none
set_option maxRecDepth 20000 in
set_option maxHeartbeats 4000000 in
theorem f8_does_e_ok (hE : IW E) (X : XC E RX8 cX8_does 3 (some .int) A p s m args meth c) {x1 : Int32} {h : Hp} (hf0 : f8_does_e x1 h = some (r, h')) : VM E 3 A p l e 6 s m args below meth c (Qi E A r h') 0 [(0, .ref (eA E 12)), (1, .int x1)] [] h := by
  unfold f8_does_e at hf0
  have hf1 := hf0
  refine V_iconst X (v := 5) (by decide) dX8_does_0 ?_
  refine V_iload_n X 1 rfl dX8_does_1 ?_
  refine V_imul X dX8_does_2 ?_
  refine V_istore_n X (by decide) rfl dX8_does_3 ?_
  refine V_aload_n X 1 rfl dX8_does_4 ?_
  refine G_X8_7_32 hE X dX8_does_5 ?_
  refine V_iload_n X 0 rfl dX8_does_8 ?_
  obtain ⟨g101, hf101⟩ := ogd hf1
  refine V_iald X (AR_20 hE) g101 dX8_does_9 ?_
  rcases oif hf101 with ⟨q10_0, hf10_0⟩ | ⟨q10_0, hf10_0⟩
  · refine V_lookup X (tgt := 168) (off := 158) (by decide) (by rw [q10_0]; decide) (by decide) dX8_does_10 ?_
    have hf4 := hf10_0
    refine V_aload_n X 1 rfl dX8_does_168 ?_
    refine V_aload_n X 1 rfl dX8_does_169 ?_
    refine G_X8_7_32 hE X dX8_does_170 ?_
    refine V_iload_n X 0 rfl dX8_does_173 ?_
    refine V_iconst X (v := 1) (by decide) dX8_does_174 ?_
    refine V_iadd X dX8_does_175 ?_
    obtain ⟨g104, hf104⟩ := ogd hf4
    refine V_iald X (AR_20 hE) g104 dX8_does_176 ?_
    refine V_aload_n X 1 rfl dX8_does_177 ?_
    refine G_X8_7_32 hE X dX8_does_178 ?_
    refine V_iload_n X 0 rfl dX8_does_181 ?_
    refine V_iconst X (v := 2) (by decide) dX8_does_182 ?_
    refine V_iadd X dX8_does_183 ?_
    obtain ⟨g105, hf105⟩ := ogd hf104
    refine V_iald X (AR_20 hE) g105 dX8_does_184 ?_
    obtain ⟨c6, e_c6, hf8⟩ := obd hf105
    refine V_callVi X (OB_12 hE) rfl rfl (f8_breathes_ok hE e_c6) ys_X8_breathes yw_X8_breathes ml_X8_120 rfl rfl ⟨Nat.le_of_ble_eq_true rfl, Nat.le_of_ble_eq_true rfl⟩ ⟨Nat.zero_le _, Nat.zero_le _⟩ (Nat.le_of_ble_eq_true rfl) dX8_does_185 ?_
    exact V_iret X rfl hf8 dX8_does_188
  rcases oif hf10_0 with ⟨q10_1, hf10_1⟩ | ⟨q10_1, hf10_1⟩
  · refine V_lookup X (tgt := 60) (off := 50) (by decide) (by rw [q10_1]; decide) (by decide) dX8_does_10 ?_
    have hf9 := hf10_1
    refine V_aload_n X 1 rfl dX8_does_60 ?_
    refine V_aload_n X 1 rfl dX8_does_61 ?_
    refine G_X8_7_32 hE X dX8_does_62 ?_
    refine V_iload_n X 0 rfl dX8_does_65 ?_
    refine V_iconst X (v := 1) (by decide) dX8_does_66 ?_
    refine V_iadd X dX8_does_67 ?_
    obtain ⟨g109, hf109⟩ := ogd hf9
    refine V_iald X (AR_20 hE) g109 dX8_does_68 ?_
    refine V_aload_n X 1 rfl dX8_does_69 ?_
    refine G_X8_7_32 hE X dX8_does_70 ?_
    refine V_iload_n X 0 rfl dX8_does_73 ?_
    refine V_iconst X (v := 2) (by decide) dX8_does_74 ?_
    refine V_iadd X dX8_does_75 ?_
    obtain ⟨g110, hf110⟩ := ogd hf109
    refine V_iald X (AR_20 hE) g110 dX8_does_76 ?_
    obtain ⟨c11, e_c11, hf13⟩ := obd hf110
    refine V_callVi X (OB_12 hE) rfl rfl (f8_takes_ok hE e_c11) ys_X8_takes yw_X8_takes ml_X8_107 rfl rfl ⟨Nat.le_of_ble_eq_true rfl, Nat.le_of_ble_eq_true rfl⟩ ⟨Nat.zero_le _, Nat.zero_le _⟩ (Nat.le_of_ble_eq_true rfl) dX8_does_77 ?_
    exact V_iret X rfl hf13 dX8_does_80
  rcases oif hf10_1 with ⟨q10_2, hf10_2⟩ | ⟨q10_2, hf10_2⟩
  · refine V_lookup X (tgt := 81) (off := 71) (by decide) (by rw [q10_2]; decide) (by decide) dX8_does_10 ?_
    have hf14 := hf10_2
    refine V_aload_n X 1 rfl dX8_does_81 ?_
    refine V_aload_n X 1 rfl dX8_does_82 ?_
    refine G_X8_7_32 hE X dX8_does_83 ?_
    refine V_iload_n X 0 rfl dX8_does_86 ?_
    refine V_iconst X (v := 1) (by decide) dX8_does_87 ?_
    refine V_iadd X dX8_does_88 ?_
    obtain ⟨g114, hf114⟩ := ogd hf14
    refine V_iald X (AR_20 hE) g114 dX8_does_89 ?_
    refine V_aload_n X 1 rfl dX8_does_90 ?_
    refine G_X8_7_32 hE X dX8_does_91 ?_
    refine V_iload_n X 0 rfl dX8_does_94 ?_
    refine V_iconst X (v := 2) (by decide) dX8_does_95 ?_
    refine V_iadd X dX8_does_96 ?_
    obtain ⟨g115, hf115⟩ := ogd hf114
    refine V_iald X (AR_20 hE) g115 dX8_does_97 ?_
    refine V_aload_n X 1 rfl dX8_does_98 ?_
    refine G_X8_7_32 hE X dX8_does_99 ?_
    refine V_iload_n X 0 rfl dX8_does_102 ?_
    refine V_iconst X (v := 3) (by decide) dX8_does_103 ?_
    refine V_iadd X dX8_does_104 ?_
    obtain ⟨g116, hf116⟩ := ogd hf115
    refine V_iald X (AR_20 hE) g116 dX8_does_105 ?_
    refine V_aload_n X 1 rfl dX8_does_106 ?_
    refine G_X8_7_32 hE X dX8_does_107 ?_
    refine V_iload_n X 0 rfl dX8_does_110 ?_
    refine V_iconst X (v := 4) (by decide) dX8_does_111 ?_
    refine V_iadd X dX8_does_112 ?_
    obtain ⟨g117, hf117⟩ := ogd hf116
    refine V_iald X (AR_20 hE) g117 dX8_does_113 ?_
    obtain ⟨c18, e_c18, hf20⟩ := obd hf117
    refine V_callVi X (OB_12 hE) rfl rfl (f8_pours_ok hE e_c18) ys_X8_pours yw_X8_pours ml_X8_113 rfl rfl ⟨Nat.le_of_ble_eq_true rfl, Nat.le_of_ble_eq_true rfl⟩ ⟨Nat.zero_le _, Nat.zero_le _⟩ (Nat.le_of_ble_eq_true rfl) dX8_does_114 ?_
    exact V_iret X rfl hf20 dX8_does_117
  rcases oif hf10_2 with ⟨q10_3, hf10_3⟩ | ⟨q10_3, hf10_3⟩
  · refine V_lookup X (tgt := 118) (off := 108) (by decide) (by rw [q10_3]; decide) (by decide) dX8_does_10 ?_
    have hf21 := hf10_3
    refine V_aload_n X 1 rfl dX8_does_118 ?_
    refine V_aload_n X 1 rfl dX8_does_119 ?_
    refine G_X8_7_32 hE X dX8_does_120 ?_
    refine V_iload_n X 0 rfl dX8_does_123 ?_
    refine V_iconst X (v := 1) (by decide) dX8_does_124 ?_
    refine V_iadd X dX8_does_125 ?_
    obtain ⟨g121, hf121⟩ := ogd hf21
    refine V_iald X (AR_20 hE) g121 dX8_does_126 ?_
    refine V_aload_n X 1 rfl dX8_does_127 ?_
    refine G_X8_7_32 hE X dX8_does_128 ?_
    refine V_iload_n X 0 rfl dX8_does_131 ?_
    refine V_iconst X (v := 2) (by decide) dX8_does_132 ?_
    refine V_iadd X dX8_does_133 ?_
    obtain ⟨g122, hf122⟩ := ogd hf121
    refine V_iald X (AR_20 hE) g122 dX8_does_134 ?_
    refine V_aload_n X 1 rfl dX8_does_135 ?_
    refine G_X8_7_32 hE X dX8_does_136 ?_
    refine V_iload_n X 0 rfl dX8_does_139 ?_
    refine V_iconst X (v := 3) (by decide) dX8_does_140 ?_
    refine V_iadd X dX8_does_141 ?_
    obtain ⟨g123, hf123⟩ := ogd hf122
    refine V_iald X (AR_20 hE) g123 dX8_does_142 ?_
    obtain ⟨c24, e_c24, hf26⟩ := obd hf123
    refine V_callVi X (OB_12 hE) rfl rfl (f8_scrapes_ok hE e_c24) ys_X8_scrapes yw_X8_scrapes ml_X8_117 rfl rfl ⟨Nat.le_of_ble_eq_true rfl, Nat.le_of_ble_eq_true rfl⟩ ⟨Nat.zero_le _, Nat.zero_le _⟩ (Nat.le_of_ble_eq_true rfl) dX8_does_143 ?_
    exact V_iret X rfl hf26 dX8_does_146
  rcases oif hf10_3 with ⟨q10_4, hf10_4⟩ | ⟨q10_4, hf10_4⟩
  · refine V_lookup X (tgt := 147) (off := 137) (by decide) (by rw [q10_4]; decide) (by decide) dX8_does_10 ?_
    have hf27 := hf10_4
    refine V_aload_n X 1 rfl dX8_does_147 ?_
    refine V_aload_n X 1 rfl dX8_does_148 ?_
    refine G_X8_7_32 hE X dX8_does_149 ?_
    refine V_iload_n X 0 rfl dX8_does_152 ?_
    refine V_iconst X (v := 1) (by decide) dX8_does_153 ?_
    refine V_iadd X dX8_does_154 ?_
    obtain ⟨g127, hf127⟩ := ogd hf27
    refine V_iald X (AR_20 hE) g127 dX8_does_155 ?_
    refine V_aload_n X 1 rfl dX8_does_156 ?_
    refine G_X8_7_32 hE X dX8_does_157 ?_
    refine V_iload_n X 0 rfl dX8_does_160 ?_
    refine V_iconst X (v := 2) (by decide) dX8_does_161 ?_
    refine V_iadd X dX8_does_162 ?_
    obtain ⟨g128, hf128⟩ := ogd hf127
    refine V_iald X (AR_20 hE) g128 dX8_does_163 ?_
    obtain ⟨c29, e_c29, hf31⟩ := obd hf128
    refine V_callVi X (OB_12 hE) rfl rfl (f8_patterns_ok hE e_c29) ys_X8_patterns yw_X8_patterns ml_X8_104 rfl rfl ⟨Nat.le_of_ble_eq_true rfl, Nat.le_of_ble_eq_true rfl⟩ ⟨Nat.zero_le _, Nat.zero_le _⟩ (Nat.le_of_ble_eq_true rfl) dX8_does_164 ?_
    exact V_iret X rfl hf31 dX8_does_167
  · skip
    refine V_lookup X (tgt := 189) (off := 179) (by decide) (by show Op.lookupswitch.offset [(98, 158), (104, 50), (112, 71), (115, 108), (116, 137)] 179 _ = _; rw [lv_osw q10_0 (show (98 : Int32).toInt = 98 by decide), lv_osw q10_1 (show (104 : Int32).toInt = 104 by decide), lv_osw q10_2 (show (112 : Int32).toInt = 112 by decide), lv_osw q10_3 (show (115 : Int32).toInt = 115 by decide), lv_osw q10_4 (show (116 : Int32).toInt = 116 by decide)]; rfl) (by decide) dX8_does_10 ?_
    have hf32 := hf10_4
    refine V_aload_n X 1 rfl dX8_does_189 ?_
    obtain ⟨c32, e_c32, hf34⟩ := obd hf32
    refine V_callVi X (OB_12 hE) rfl rfl (f8_closes_ok hE e_c32) ys_X8_closes yw_X8_closes ml_X8_123 rfl rfl ⟨Nat.le_of_ble_eq_true rfl, Nat.le_of_ble_eq_true rfl⟩ ⟨Nat.zero_le _, Nat.zero_le _⟩ (Nat.le_of_ble_eq_true rfl) dX8_does_190 ?_
    exact V_iret X rfl hf34 dX8_does_193
def f8_does (x1 : Int32) (h : Hp) : Re := f8_does_e x1 h
theorem f8_does_ok (hE : IW E) {x1 : Int32} {h : Hp} {q : Int32 × Hp} (hf0 : f8_does x1 h = some q) : SMi l E 6 yX8_does cX8_does 3 (some .int) [.ref (eA E 12), .int x1] h q.1 q.2 :=
  SMi.of (by decide +kernel) (Nat.le_of_ble_eq_true rfl) (fun p e s m args below meth c A X => f8_does_e_ok hE X (r := q.1) (h' := q.2) hf0)
def f8_put_B86 (k86 : Int64 → Int32 → Hp → Re) (x1 : Int64) (x6 : Int32) (h : Hp) : Re :=
  if x6 < 0 then (some (h 12 9, h)) else (if inB (h 12 9) 80 = true then (some (hu h 21 (Int32.toNatClampNeg (h 12 9)) (vp_nar .char ((((((x1.toUInt64 >>> ((8 * x6 : Int32).toInt64.toUInt64 &&& Int64.toUInt64 63)).toInt64) &&& 255).toInt32).toUInt32 % 65536).toInt32)))).bind fun h3 => (some (hu h3 12 9 ((h3 12 9) + 1))).bind fun h5 => k86 x1 (x6 + (-1)) h5 else none)
set_option maxRecDepth 20000 in
set_option maxHeartbeats 4000000 in
theorem f8_put_B86_ok (hE : IW E) (X : XC E RX8 cX8_put 8 (some .int) A p s m args meth c) {k86 : Int64 → Int32 → Hp → Re} (hk86 : ∀ (x1 : Int64) (x6 : Int32) (h : Hp), k86 x1 x6 h = some (r, h') → VM E 8 A p l e 0 s m args below meth c (Qi E A r h') 86 [(0, .ref (eA E 12)), (1, .long x1), (6, .int x6)] [] h) {x1 : Int64} {x6 : Int32} {h : Hp} (hf0 : f8_put_B86 k86 x1 x6 h = some (r, h')) : VM E 8 A p l e 0 s m args below meth c (Qi E A r h') 86 [(0, .ref (eA E 12)), (1, .long x1), (6, .int x6)] [] h := by
  unfold f8_put_B86 at hf0
  have hf1 := hf0
  refine V_iload X 2 rfl dX8_put_86 ?_
  refine V_if_lt X (tgt := 129) (by decide) dX8_put_88 (fun q88 => ?_) (fun q88 => ?_)
  · have hf2 := ift hf1 q88
    refine V_aload_n X 0 rfl dX8_put_129 ?_
    refine G_X8_9_154 hE X dX8_put_130 ?_
    exact V_iret X rfl hf2 dX8_put_133
  · have hf2 := ife hf1 q88
    refine V_aload_n X 0 rfl dX8_put_91 ?_
    refine G_X8_8_35 hE X dX8_put_92 ?_
    refine V_aload_n X 0 rfl dX8_put_95 ?_
    refine G_X8_9_154 hE X dX8_put_96 ?_
    refine V_lload_n X 1 rfl dX8_put_99 ?_
    refine V_bipush X (v := 8) (by decide) dX8_put_100 ?_
    refine V_iload X 2 rfl dX8_put_102 ?_
    refine V_imul X dX8_put_104 ?_
    refine V_lushr X dX8_put_105 ?_
    refine V_ldc2 X kc_X8_202 dX8_put_106 ?_
    refine V_land X dX8_put_109 ?_
    refine V_l2i X dX8_put_110 ?_
    refine V_i2c X dX8_put_111 ?_
    obtain ⟨g102, hf102⟩ := ogd hf2
    refine V_cast X (AR_21 hE) g102 dX8_put_112 ?_
    have hf5 := obs hf102
    refine V_aload_n X 0 rfl dX8_put_113 ?_
    refine V_dup X rfl dX8_put_114 ?_
    refine G_X8_9_154 hE X dX8_put_115 ?_
    refine V_iconst X (v := 1) (by decide) dX8_put_118 ?_
    refine V_iadd X dX8_put_119 ?_
    refine P_X8_9_154 hE X dX8_put_120 ?_
    have hf7 := obs hf5
    refine V_iinc X (v := _ + (-1)) 2 rfl (by rfl) (by decide) rfl dX8_put_123 ?_
    refine V_goto X (tgt := 86) (by decide) dX8_put_126 ?_
    exact V_sub [1, 2, 0] rfl (hk86 _ _ _ hf7)
def f8_put_L86 : Nat → Int64 → Int32 → Hp → Re
  | 0 => fun _ _ _ => none
  | n + 1 => f8_put_B86 (f8_put_L86 n)
theorem f8_put_L86_s (n : Nat) (x1 : Int64) (x6 : Int32) (h : Hp) : f8_put_L86 (n + 1) x1 x6 h = f8_put_B86 (f8_put_L86 n) x1 x6 h := rfl
theorem f8_put_L86_ok (hE : IW E) (X : XC E RX8 cX8_put 8 (some .int) A p s m args meth c) : ∀ (n : Nat) (x1 : Int64) (x6 : Int32) (h : Hp), f8_put_L86 n x1 x6 h = some (r, h') → VM E 8 A p l e 0 s m args below meth c (Qi E A r h') 86 [(0, .ref (eA E 12)), (1, .long x1), (6, .int x6)] [] h := by
  intro n
  induction n with
  | zero =>
    intro x1 x6 h q
    have q : (none : Re) = some (r, h') := q
    cases q
  | succ n ih =>
    intro x1 x6 h q
    exact f8_put_B86_ok hE X ih q
def f8_put_j60 (x1 : Int64) (x3 : Int32) (h : Hp) : Re :=
  if x3 = 0 then (some ((-2), h)) else (if ((h 12 9) + x3) ≤ 80 then (f8_put_L86 FU x1 (x3 - 1) h) else (some ((-4), h)))
set_option maxRecDepth 20000 in
set_option maxHeartbeats 4000000 in
theorem f8_put_j60_ok (hE : IW E) (X : XC E RX8 cX8_put 8 (some .int) A p s m args meth c) {x1 : Int64} {x3 : Int32} {h : Hp} (hf0 : f8_put_j60 x1 x3 h = some (r, h')) : VM E 8 A p l e 0 s m args below meth c (Qi E A r h') 60 [(0, .ref (eA E 12)), (1, .long x1), (3, .int x3)] [] h := by
  unfold f8_put_j60 at hf0
  have hf1 := hf0
  refine V_iload_n X 2 rfl dX8_put_60 ?_
  refine V_if_ne X (tgt := 67) (by decide) dX8_put_61 (fun q61 => ?_) (fun q61 => ?_)
  · have hf2 := ife hf1 q61
    refine V_aload_n X 0 rfl dX8_put_67 ?_
    refine G_X8_9_154 hE X dX8_put_68 ?_
    refine V_iload_n X 2 rfl dX8_put_71 ?_
    refine V_iadd X dX8_put_72 ?_
    refine V_bipush X (v := 80) (by decide) dX8_put_73 ?_
    refine V_icmp_le X (tgt := 81) (by decide) dX8_put_75 (fun q75 => ?_) (fun q75 => ?_)
    · have hf3 := ift hf2 q75
      refine V_iload_n X 2 rfl dX8_put_81 ?_
      refine V_iconst X (v := 1) (by decide) dX8_put_82 ?_
      refine V_isub X dX8_put_83 ?_
      refine V_istore X (by decide) rfl dX8_put_84 ?_
      exact V_sub [1, 2, 0] rfl (f8_put_L86_ok hE X FU _ _ _ hf3)
    · have hf3 := ife hf2 q75
      refine V_bipush X (v := -4) (by decide) dX8_put_78 ?_
      exact V_iret X rfl hf3 dX8_put_80
  · have hf2 := ift hf1 q61
    refine V_bipush X (v := -2) (by decide) dX8_put_64 ?_
    exact V_iret X rfl hf2 dX8_put_66
def f8_put_B5 (k5 : Int64 → Int32 → Int64 → Hp → Re) (x1 : Int64) (x3 : Int32) (x4 : Int64) (h : Hp) : Re :=
  if 8 ≤ x3 then (f8_put_j60 x1 x3 h) else (if (lg_cmp x4 0) = 0 then (f8_put_j60 x1 x3 h) else (if (lg_cmp (x4 &&& 255) 33) < 0 then (some ((-2), h)) else (if (lg_cmp (x4 &&& 255) 126) ≤ 0 then ((some ((x4.toUInt64 >>> ((8 : Int32).toInt64.toUInt64 &&& Int64.toUInt64 63)).toInt64)).bind fun z5 => k5 x1 (x3 + 1) z5 h) else (some ((-2), h)))))
set_option maxRecDepth 20000 in
set_option maxHeartbeats 4000000 in
theorem f8_put_B5_ok (hE : IW E) (X : XC E RX8 cX8_put 8 (some .int) A p s m args meth c) {k5 : Int64 → Int32 → Int64 → Hp → Re} (hk5 : ∀ (x1 : Int64) (x3 : Int32) (x4 : Int64) (h : Hp), k5 x1 x3 x4 h = some (r, h') → VM E 8 A p l e 0 s m args below meth c (Qi E A r h') 5 [(0, .ref (eA E 12)), (1, .long x1), (3, .int x3), (4, .long x4)] [] h) {x1 : Int64} {x3 : Int32} {x4 : Int64} {h : Hp} (hf0 : f8_put_B5 k5 x1 x3 x4 h = some (r, h')) : VM E 8 A p l e 0 s m args below meth c (Qi E A r h') 5 [(0, .ref (eA E 12)), (1, .long x1), (3, .int x3), (4, .long x4)] [] h := by
  unfold f8_put_B5 at hf0
  have hf1 := hf0
  refine V_iload_n X 2 rfl dX8_put_5 ?_
  refine V_bipush X (v := 8) (by decide) dX8_put_6 ?_
  refine V_icmp_ge X (tgt := 60) (by decide) dX8_put_8 (fun q8 => ?_) (fun q8 => ?_)
  · have hf2 := ift hf1 q8
    exact V_sub [0, 1, 2] rfl (f8_put_j60_ok hE X hf2)
  · have hf2 := ife hf1 q8
    refine V_lload X 3 rfl dX8_put_11 ?_
    refine V_lconst X (v := 0) (by decide) dX8_put_13 ?_
    refine V_lcmp X dX8_put_14 ?_
    refine V_if_eq X (tgt := 60) (by decide) dX8_put_15 (fun q15 => ?_) (fun q15 => ?_)
    · have hf3 := ift hf2 q15
      exact V_sub [0, 1, 2] rfl (f8_put_j60_ok hE X hf3)
    · have hf3 := ife hf2 q15
      refine V_lload X 3 rfl dX8_put_18 ?_
      refine V_ldc2 X kc_X8_202 dX8_put_20 ?_
      refine V_land X dX8_put_23 ?_
      refine V_lstore X (by decide) rfl dX8_put_24 ?_
      refine V_lload X 0 rfl dX8_put_26 ?_
      refine V_ldc2 X kc_X8_204 dX8_put_28 ?_
      refine V_lcmp X dX8_put_31 ?_
      refine V_if_lt X (tgt := 44) (by decide) dX8_put_32 (fun q32 => ?_) (fun q32 => ?_)
      · have hf4 := ift hf3 q32
        refine V_bipush X (v := -2) (by decide) dX8_put_44 ?_
        exact V_iret X rfl hf4 dX8_put_46
      · have hf4 := ife hf3 q32
        refine V_lload X 0 rfl dX8_put_35 ?_
        refine V_ldc2 X kc_X8_206 dX8_put_37 ?_
        refine V_lcmp X dX8_put_40 ?_
        refine V_if_le X (tgt := 47) (by decide) dX8_put_41 (fun q41 => ?_) (fun q41 => ?_)
        · have hf5 := ift hf4 q41
          refine V_lload X 4 rfl dX8_put_47 ?_
          refine V_bipush X (v := 8) (by decide) dX8_put_49 ?_
          refine V_lushr X dX8_put_51 ?_
          refine V_lstore X (by decide) rfl dX8_put_52 ?_
          have hf7 := obs hf5
          refine V_iinc X (v := _ + 1) 4 rfl (by rfl) (by decide) rfl dX8_put_54 ?_
          refine V_goto X (tgt := 5) (by decide) dX8_put_57 ?_
          exact V_sub [3, 4, 0, 1] rfl (hk5 _ _ _ _ hf7)
        · have hf5 := ife hf4 q41
          refine V_bipush X (v := -2) (by decide) dX8_put_44 ?_
          exact V_iret X rfl hf5 dX8_put_46
def f8_put_L5 : Nat → Int64 → Int32 → Int64 → Hp → Re
  | 0 => fun _ _ _ _ => none
  | n + 1 => f8_put_B5 (f8_put_L5 n)
theorem f8_put_L5_s (n : Nat) (x1 : Int64) (x3 : Int32) (x4 : Int64) (h : Hp) : f8_put_L5 (n + 1) x1 x3 x4 h = f8_put_B5 (f8_put_L5 n) x1 x3 x4 h := rfl
theorem f8_put_L5_ok (hE : IW E) (X : XC E RX8 cX8_put 8 (some .int) A p s m args meth c) : ∀ (n : Nat) (x1 : Int64) (x3 : Int32) (x4 : Int64) (h : Hp), f8_put_L5 n x1 x3 x4 h = some (r, h') → VM E 8 A p l e 0 s m args below meth c (Qi E A r h') 5 [(0, .ref (eA E 12)), (1, .long x1), (3, .int x3), (4, .long x4)] [] h := by
  intro n
  induction n with
  | zero =>
    intro x1 x3 x4 h q
    have q : (none : Re) = some (r, h') := q
    cases q
  | succ n ih =>
    intro x1 x3 x4 h q
    exact f8_put_B5_ok hE X ih q
def f8_put_e (x1 : Int64) (h : Hp) : Re :=
  f8_put_L5 FU x1 0 x1 h
set_option maxRecDepth 20000 in
set_option maxHeartbeats 4000000 in
theorem f8_put_e_ok (hE : IW E) (X : XC E RX8 cX8_put 8 (some .int) A p s m args meth c) {x1 : Int64} {h : Hp} (hf0 : f8_put_e x1 h = some (r, h')) : VM E 8 A p l e 0 s m args below meth c (Qi E A r h') 0 [(0, .ref (eA E 12)), (1, .long x1)] [] h := by
  unfold f8_put_e at hf0
  have hf1 := hf0
  refine V_iconst X (v := 0) (by decide) dX8_put_0 ?_
  refine V_istore_n X (by decide) rfl dX8_put_1 ?_
  refine V_lload_n X 2 rfl dX8_put_2 ?_
  refine V_lstore X (by decide) rfl dX8_put_3 ?_
  exact V_sub [2, 3, 1, 0] rfl (f8_put_L5_ok hE X FU _ _ _ _ hf1)
def f8_put (x1 : Int64) (h : Hp) : Re := f8_put_e x1 h
theorem f8_put_ok (hE : IW E) {x1 : Int64} {h : Hp} {q : Int32 × Hp} (hf0 : f8_put x1 h = some q) : SMi l E 0 yX8_put cX8_put 8 (some .int) [.ref (eA E 12), .long x1] h q.1 q.2 :=
  SMi.of (by decide +kernel) (Nat.le_of_ble_eq_true rfl) (fun p e s m args below meth c A X => f8_put_e_ok hE X (r := q.1) (h' := q.2) hf0)
def f8_wipe_e (h : Hp) : Re :=
  (some (hu h 12 9 0)).bind fun h1 => some (h 12 9, h1)
set_option maxRecDepth 20000 in
set_option maxHeartbeats 4000000 in
theorem f8_wipe_e_ok (hE : IW E) (X : XC E RX8 cX8_wipe 2 (some .int) A p s m args meth c) {h : Hp} (hf0 : f8_wipe_e  h = some (r, h')) : VM E 2 A p l e 0 s m args below meth c (Qi E A r h') 0 [(0, .ref (eA E 12))] [] h := by
  unfold f8_wipe_e at hf0
  have hf1 := hf0
  refine V_aload_n X 0 rfl dX8_wipe_0 ?_
  refine G_X8_9_154 hE X dX8_wipe_1 ?_
  refine V_istore_n X (by decide) rfl dX8_wipe_4 ?_
  refine V_aload_n X 1 rfl dX8_wipe_5 ?_
  refine V_iconst X (v := 0) (by decide) dX8_wipe_6 ?_
  refine P_X8_9_154 hE X dX8_wipe_7 ?_
  have hf3 := obs hf1
  refine V_iload_n X 0 rfl dX8_wipe_10 ?_
  exact V_iret X rfl hf3 dX8_wipe_11
def f8_wipe (h : Hp) : Re := f8_wipe_e  h
theorem f8_wipe_ok (hE : IW E) {h : Hp} {q : Int32 × Hp} (hf0 : f8_wipe  h = some q) : SMi l E 0 yX8_wipe cX8_wipe 2 (some .int) [.ref (eA E 12)] h q.1 q.2 :=
  SMi.of (by decide +kernel) (Nat.le_of_ble_eq_true rfl) (fun p e s m args below meth c A X => f8_wipe_e_ok hE X (r := q.1) (h' := q.2) hf0)
def f8_fault_e (h : Hp) : Re :=
  (f8_faultOf  h).bind fun c1 => if 0 ≤ c1.1 then (some (c1.1, c1.2)) else (some ((-6), c1.2))
set_option maxRecDepth 20000 in
set_option maxHeartbeats 4000000 in
theorem f8_fault_e_ok (hE : IW E) (X : XC E RX8 cX8_fault 2 (some .int) A p s m args meth c) {h : Hp} (hf0 : f8_fault_e  h = some (r, h')) : VM E 2 A p l e 5 s m args below meth c (Qi E A r h') 0 [(0, .ref (eA E 12))] [] h := by
  unfold f8_fault_e at hf0
  have hf1 := hf0
  refine V_aload_n X 0 rfl dX8_fault_0 ?_
  obtain ⟨c1, e_c1, hf3⟩ := obd hf1
  refine V_callVi X (OB_12 hE) rfl rfl (f8_faultOf_ok hE e_c1) ys_X8_faultOf yw_X8_faultOf ml_X8_208 rfl rfl ⟨Nat.le_of_ble_eq_true rfl, Nat.le_of_ble_eq_true rfl⟩ ⟨Nat.zero_le _, Nat.zero_le _⟩ (Nat.le_of_ble_eq_true rfl) dX8_fault_1 ?_
  refine V_istore_n X (by decide) rfl dX8_fault_4 ?_
  refine V_iload_n X 0 rfl dX8_fault_5 ?_
  refine V_if_ge X (tgt := 14) (by decide) dX8_fault_6 (fun q6 => ?_) (fun q6 => ?_)
  · have hf4 := ift hf3 q6
    refine V_iload_n X 0 rfl dX8_fault_14 ?_
    exact V_iret X rfl hf4 dX8_fault_15
  · have hf4 := ife hf3 q6
    refine V_bipush X (v := -6) (by decide) dX8_fault_9 ?_
    refine V_goto X (tgt := 15) (by decide) dX8_fault_11 ?_
    exact V_iret X rfl hf4 dX8_fault_15
def f8_fault (h : Hp) : Re := f8_fault_e  h
theorem f8_fault_ok (hE : IW E) {h : Hp} {q : Int32 × Hp} (hf0 : f8_fault  h = some q) : SMi l E 5 yX8_fault cX8_fault 2 (some .int) [.ref (eA E 12)] h q.1 q.2 :=
  SMi.of (by decide +kernel) (Nat.le_of_ble_eq_true rfl) (fun p e s m args below meth c A X => f8_fault_e_ok hE X (r := q.1) (h' := q.2) hf0)
def f8_carryOut_j59 (x1 : Int32) (h : Hp) : Re :=
  (some (hu h 12 9 0)).bind fun h1 => (f8_recorded x1 h1).bind fun c3 => some (c3.1, c3.2)
set_option maxRecDepth 20000 in
set_option maxHeartbeats 4000000 in
theorem f8_carryOut_j59_ok (hE : IW E) (X : XC E RX8 cX8_carryOut 3 (some .int) A p s m args meth c) {x1 : Int32} {h : Hp} (hf0 : f8_carryOut_j59 x1 h = some (r, h')) : VM E 3 A p l e 7 s m args below meth c (Qi E A r h') 59 [(0, .ref (eA E 12)), (1, .int x1)] [] h := by
  unfold f8_carryOut_j59 at hf0
  have hf1 := hf0
  refine V_aload_n X 0 rfl dX8_carryOut_59 ?_
  refine V_iconst X (v := 0) (by decide) dX8_carryOut_60 ?_
  refine P_X8_9_154 hE X dX8_carryOut_61 ?_
  have hf3 := obs hf1
  refine V_aload_n X 0 rfl dX8_carryOut_64 ?_
  refine V_iload_n X 1 rfl dX8_carryOut_65 ?_
  obtain ⟨c3, e_c3, hf5⟩ := obd hf3
  refine V_callVi X (OB_12 hE) rfl rfl (f8_recorded_ok hE e_c3) ys_X8_recorded yw_X8_recorded ml_X8_101 rfl rfl ⟨Nat.le_of_ble_eq_true rfl, Nat.le_of_ble_eq_true rfl⟩ ⟨Nat.zero_le _, Nat.zero_le _⟩ (Nat.le_of_ble_eq_true rfl) dX8_carryOut_66 ?_
  exact V_iret X rfl hf5 dX8_carryOut_69
def f8_carryOut_j43 (k18 : Int32 → Int32 → Hp → Re) (x1 : Int32) (y0 : Int32) (h : Hp) : Re :=
  if y0 = 0 then (k18 (x1 + 0) y0 h) else (k18 (x1 + 1) y0 h)
set_option maxRecDepth 20000 in
set_option maxHeartbeats 4000000 in
theorem f8_carryOut_j43_ok (hE : IW E) (X : XC E RX8 cX8_carryOut 3 (some .int) A p s m args meth c) {k18 : Int32 → Int32 → Hp → Re} (hk18 : ∀ (x1 : Int32) (x2 : Int32) (h : Hp), k18 x1 x2 h = some (r, h') → VM E 3 A p l e 7 s m args below meth c (Qi E A r h') 18 [(0, .ref (eA E 12)), (1, .int x1), (2, .int x2)] [] h) {x1 : Int32} {y0 : Int32} {h : Hp} (hf0 : f8_carryOut_j43 k18 x1 y0 h = some (r, h')) : VM E 3 A p l e 7 s m args below meth c (Qi E A r h') 43 [(0, .ref (eA E 12)), (1, .int x1)] [.int y0] h := by
  unfold f8_carryOut_j43 at hf0
  have hf1 := hf0
  refine V_istore_n X (by decide) rfl dX8_carryOut_43 ?_
  refine V_iload_n X 2 rfl dX8_carryOut_44 ?_
  refine V_iload_n X 0 rfl dX8_carryOut_45 ?_
  refine V_if_eq X (tgt := 53) (by decide) dX8_carryOut_46 (fun q46 => ?_) (fun q46 => ?_)
  · have hf2 := ift hf1 q46
    refine V_iconst X (v := 0) (by decide) dX8_carryOut_53 ?_
    refine V_iadd X dX8_carryOut_54 ?_
    refine V_istore_n X (by decide) rfl dX8_carryOut_55 ?_
    refine V_goto X (tgt := 18) (by decide) dX8_carryOut_56 ?_
    exact V_sub [2, 0, 1] rfl (hk18 _ _ _ hf2)
  · have hf2 := ife hf1 q46
    refine V_iconst X (v := 1) (by decide) dX8_carryOut_49 ?_
    refine V_goto X (tgt := 54) (by decide) dX8_carryOut_50 ?_
    refine V_iadd X dX8_carryOut_54 ?_
    refine V_istore_n X (by decide) rfl dX8_carryOut_55 ?_
    refine V_goto X (tgt := 18) (by decide) dX8_carryOut_56 ?_
    exact V_sub [2, 0, 1] rfl (hk18 _ _ _ hf2)
def f8_carryOut_B18 (k18 : Int32 → Int32 → Hp → Re) (x1 : Int32) (x2 : Int32) (h : Hp) : Re :=
  if x2 = 0 then (f8_carryOut_j59 x1 h) else (if (h 12 11) ≤ x1 then (f8_carryOut_j59 x1 h) else ((f8_does x1 h).bind fun c3 => if c3.1 < 0 then (f8_carryOut_j43 k18 x1 0 c3.2) else (f8_carryOut_j43 k18 x1 1 c3.2)))
set_option maxRecDepth 20000 in
set_option maxHeartbeats 4000000 in
theorem f8_carryOut_B18_ok (hE : IW E) (X : XC E RX8 cX8_carryOut 3 (some .int) A p s m args meth c) {k18 : Int32 → Int32 → Hp → Re} (hk18 : ∀ (x1 : Int32) (x2 : Int32) (h : Hp), k18 x1 x2 h = some (r, h') → VM E 3 A p l e 7 s m args below meth c (Qi E A r h') 18 [(0, .ref (eA E 12)), (1, .int x1), (2, .int x2)] [] h) {x1 : Int32} {x2 : Int32} {h : Hp} (hf0 : f8_carryOut_B18 k18 x1 x2 h = some (r, h')) : VM E 3 A p l e 7 s m args below meth c (Qi E A r h') 18 [(0, .ref (eA E 12)), (1, .int x1), (2, .int x2)] [] h := by
  unfold f8_carryOut_B18 at hf0
  have hf1 := hf0
  refine V_iload_n X 2 rfl dX8_carryOut_18 ?_
  refine V_if_eq X (tgt := 59) (by decide) dX8_carryOut_19 (fun q19 => ?_) (fun q19 => ?_)
  · have hf2 := ift hf1 q19
    exact V_sub [0, 1] rfl (f8_carryOut_j59_ok hE X hf2)
  · have hf2 := ife hf1 q19
    refine V_iload_n X 1 rfl dX8_carryOut_22 ?_
    refine V_aload_n X 0 rfl dX8_carryOut_23 ?_
    refine G_X8_11_178 hE X dX8_carryOut_24 ?_
    refine V_icmp_ge X (tgt := 59) (by decide) dX8_carryOut_27 (fun q27 => ?_) (fun q27 => ?_)
    · have hf3 := ift hf2 q27
      exact V_sub [0, 1] rfl (f8_carryOut_j59_ok hE X hf3)
    · have hf3 := ife hf2 q27
      refine V_aload_n X 0 rfl dX8_carryOut_30 ?_
      refine V_iload_n X 1 rfl dX8_carryOut_31 ?_
      obtain ⟨c3, e_c3, hf5⟩ := obd hf3
      refine V_callVi X (OB_12 hE) rfl rfl (f8_does_ok hE e_c3) ys_X8_does yw_X8_does ml_X8_211 rfl rfl ⟨Nat.le_of_ble_eq_true rfl, Nat.le_of_ble_eq_true rfl⟩ ⟨Nat.zero_le _, Nat.zero_le _⟩ (Nat.le_of_ble_eq_true rfl) dX8_carryOut_32 ?_
      refine V_if_lt X (tgt := 42) (by decide) dX8_carryOut_35 (fun q35 => ?_) (fun q35 => ?_)
      · have hf6 := ift hf5 q35
        refine V_iconst X (v := 0) (by decide) dX8_carryOut_42 ?_
        exact V_sub [0, 1] rfl (f8_carryOut_j43_ok hE X hk18 hf6)
      · have hf6 := ife hf5 q35
        refine V_iconst X (v := 1) (by decide) dX8_carryOut_38 ?_
        refine V_goto X (tgt := 43) (by decide) dX8_carryOut_39 ?_
        exact V_sub [0, 1] rfl (f8_carryOut_j43_ok hE X hk18 hf6)
def f8_carryOut_L18 : Nat → Int32 → Int32 → Hp → Re
  | 0 => fun _ _ _ => none
  | n + 1 => f8_carryOut_B18 (f8_carryOut_L18 n)
theorem f8_carryOut_L18_s (n : Nat) (x1 : Int32) (x2 : Int32) (h : Hp) : f8_carryOut_L18 (n + 1) x1 x2 h = f8_carryOut_B18 (f8_carryOut_L18 n) x1 x2 h := rfl
theorem f8_carryOut_L18_ok (hE : IW E) (X : XC E RX8 cX8_carryOut 3 (some .int) A p s m args meth c) : ∀ (n : Nat) (x1 : Int32) (x2 : Int32) (h : Hp), f8_carryOut_L18 n x1 x2 h = some (r, h') → VM E 3 A p l e 7 s m args below meth c (Qi E A r h') 18 [(0, .ref (eA E 12)), (1, .int x1), (2, .int x2)] [] h := by
  intro n
  induction n with
  | zero =>
    intro x1 x2 h q
    have q : (none : Re) = some (r, h') := q
    cases q
  | succ n ih =>
    intro x1 x2 h q
    exact f8_carryOut_B18_ok hE X ih q
def f8_carryOut_e (h : Hp) : Re :=
  (f8_faultOf  h).bind fun c1 => if c1.1 < 0 then ((f8_hold  c1.2).bind fun c4 => f8_carryOut_L18 FU 0 1 c4.2) else (some ((-3), c1.2))
set_option maxRecDepth 20000 in
set_option maxHeartbeats 4000000 in
theorem f8_carryOut_e_ok (hE : IW E) (X : XC E RX8 cX8_carryOut 3 (some .int) A p s m args meth c) {h : Hp} (hf0 : f8_carryOut_e  h = some (r, h')) : VM E 3 A p l e 7 s m args below meth c (Qi E A r h') 0 [(0, .ref (eA E 12))] [] h := by
  unfold f8_carryOut_e at hf0
  have hf1 := hf0
  refine V_aload_n X 0 rfl dX8_carryOut_0 ?_
  obtain ⟨c1, e_c1, hf3⟩ := obd hf1
  refine V_callVi X (OB_12 hE) rfl rfl (f8_faultOf_ok hE e_c1) ys_X8_faultOf yw_X8_faultOf ml_X8_208 rfl rfl ⟨Nat.le_of_ble_eq_true rfl, Nat.le_of_ble_eq_true rfl⟩ ⟨Nat.zero_le _, Nat.zero_le _⟩ (Nat.le_of_ble_eq_true rfl) dX8_carryOut_1 ?_
  refine V_if_lt X (tgt := 10) (by decide) dX8_carryOut_4 (fun q4 => ?_) (fun q4 => ?_)
  · have hf4 := ift hf3 q4
    refine V_aload_n X 0 rfl dX8_carryOut_10 ?_
    obtain ⟨c4, e_c4, hf6⟩ := obd hf4
    refine V_callVv X (OB_12 hE) rfl rfl (f8_hold_ok hE e_c4) ys_X8_hold yw_X8_hold ml_X8_98 rfl rfl ⟨Nat.le_of_ble_eq_true rfl, Nat.le_of_ble_eq_true rfl⟩ ⟨Nat.zero_le _, Nat.zero_le _⟩ (Nat.le_of_ble_eq_true rfl) dX8_carryOut_11 ?_
    refine V_iconst X (v := 0) (by decide) dX8_carryOut_14 ?_
    refine V_istore_n X (by decide) rfl dX8_carryOut_15 ?_
    refine V_iconst X (v := 1) (by decide) dX8_carryOut_16 ?_
    refine V_istore_n X (by decide) rfl dX8_carryOut_17 ?_
    exact V_sub [2, 1, 0] rfl (f8_carryOut_L18_ok hE X FU _ _ _ hf6)
  · have hf4 := ife hf3 q4
    refine V_bipush X (v := -3) (by decide) dX8_carryOut_7 ?_
    exact V_iret X rfl hf4 dX8_carryOut_9
def f8_carryOut (h : Hp) : Re := f8_carryOut_e  h
theorem f8_carryOut_ok (hE : IW E) {h : Hp} {q : Int32 × Hp} (hf0 : f8_carryOut  h = some q) : SMi l E 7 yX8_carryOut cX8_carryOut 3 (some .int) [.ref (eA E 12)] h q.1 q.2 :=
  SMi.of (by decide +kernel) (Nat.le_of_ble_eq_true rfl) (fun p e s m args below meth c A X => f8_carryOut_e_ok hE X (r := q.1) (h' := q.2) hf0)
def f8_undo_B22 (k22 : Int32 → Hp → Re) (x1 : Int32) (h : Hp) : Re :=
  if 383 ≤ x1 then (some (h 12 10, h)) else (if inB ((383 * (h 12 10)) + x1) 2298 = true then if inB x1 383 = true then (some (hu h 13 (Int32.toNatClampNeg x1) (h 16 (Int32.toNatClampNeg ((383 * (h 12 10)) + x1))))).bind fun h4 => k22 (x1 + 1) h4 else none else none)
set_option maxRecDepth 20000 in
set_option maxHeartbeats 4000000 in
theorem f8_undo_B22_ok (hE : IW E) (X : XC E RX8 cX8_undo 2 (some .int) A p s m args meth c) {k22 : Int32 → Hp → Re} (hk22 : ∀ (x1 : Int32) (h : Hp), k22 x1 h = some (r, h') → VM E 2 A p l e 0 s m args below meth c (Qi E A r h') 22 [(0, .ref (eA E 12)), (1, .int x1)] [] h) {x1 : Int32} {h : Hp} (hf0 : f8_undo_B22 k22 x1 h = some (r, h')) : VM E 2 A p l e 0 s m args below meth c (Qi E A r h') 22 [(0, .ref (eA E 12)), (1, .int x1)] [] h := by
  unfold f8_undo_B22 at hf0
  have hf1 := hf0
  refine V_iload_n X 1 rfl dX8_undo_22 ?_
  refine V_sipush X (v := 383) (by decide) dX8_undo_23 ?_
  refine V_icmp_ge X (tgt := 56) (by decide) dX8_undo_26 (fun q26 => ?_) (fun q26 => ?_)
  · have hf2 := ift hf1 q26
    refine V_aload_n X 0 rfl dX8_undo_56 ?_
    refine G_X8_10_50 hE X dX8_undo_57 ?_
    exact V_iret X rfl hf2 dX8_undo_60
  · have hf2 := ife hf1 q26
    refine V_aload_n X 0 rfl dX8_undo_29 ?_
    refine G_X8_0_7 hE X dX8_undo_30 ?_
    refine V_iload_n X 1 rfl dX8_undo_33 ?_
    refine V_aload_n X 0 rfl dX8_undo_34 ?_
    refine G_X8_3_19 hE X dX8_undo_35 ?_
    refine V_sipush X (v := 383) (by decide) dX8_undo_38 ?_
    refine V_aload_n X 0 rfl dX8_undo_41 ?_
    refine G_X8_10_50 hE X dX8_undo_42 ?_
    refine V_imul X dX8_undo_45 ?_
    refine V_iload_n X 1 rfl dX8_undo_46 ?_
    refine V_iadd X dX8_undo_47 ?_
    obtain ⟨g102, hf102⟩ := ogd hf2
    refine V_iald X (AR_16 hE) g102 dX8_undo_48 ?_
    obtain ⟨g103, hf103⟩ := ogd hf102
    refine V_iast X (AR_13 hE) g103 dX8_undo_49 ?_
    have hf6 := obs hf103
    refine V_iinc X (v := _ + 1) 1 rfl (by rfl) (by decide) rfl dX8_undo_50 ?_
    refine V_goto X (tgt := 22) (by decide) dX8_undo_53 ?_
    exact V_sub [1, 0] rfl (hk22 _ _ hf6)
def f8_undo_L22 : Nat → Int32 → Hp → Re
  | 0 => fun _ _ => none
  | n + 1 => f8_undo_B22 (f8_undo_L22 n)
theorem f8_undo_L22_s (n : Nat) (x1 : Int32) (h : Hp) : f8_undo_L22 (n + 1) x1 h = f8_undo_B22 (f8_undo_L22 n) x1 h := rfl
theorem f8_undo_L22_ok (hE : IW E) (X : XC E RX8 cX8_undo 2 (some .int) A p s m args meth c) : ∀ (n : Nat) (x1 : Int32) (h : Hp), f8_undo_L22 n x1 h = some (r, h') → VM E 2 A p l e 0 s m args below meth c (Qi E A r h') 22 [(0, .ref (eA E 12)), (1, .int x1)] [] h := by
  intro n
  induction n with
  | zero =>
    intro x1 h q
    have q : (none : Re) = some (r, h') := q
    cases q
  | succ n ih =>
    intro x1 h q
    exact f8_undo_B22_ok hE X ih q
def f8_undo_e (h : Hp) : Re :=
  if (h 12 10) = 0 then (some ((-5), h)) else ((some (hu h 12 10 ((h 12 10) - 1))).bind fun h2 => f8_undo_L22 FU 0 h2)
set_option maxRecDepth 20000 in
set_option maxHeartbeats 4000000 in
theorem f8_undo_e_ok (hE : IW E) (X : XC E RX8 cX8_undo 2 (some .int) A p s m args meth c) {h : Hp} (hf0 : f8_undo_e  h = some (r, h')) : VM E 2 A p l e 0 s m args below meth c (Qi E A r h') 0 [(0, .ref (eA E 12))] [] h := by
  unfold f8_undo_e at hf0
  have hf1 := hf0
  refine V_aload_n X 0 rfl dX8_undo_0 ?_
  refine G_X8_10_50 hE X dX8_undo_1 ?_
  refine V_if_ne X (tgt := 10) (by decide) dX8_undo_4 (fun q4 => ?_) (fun q4 => ?_)
  · have hf2 := ife hf1 q4
    refine V_aload_n X 0 rfl dX8_undo_10 ?_
    refine V_dup X rfl dX8_undo_11 ?_
    refine G_X8_10_50 hE X dX8_undo_12 ?_
    refine V_iconst X (v := 1) (by decide) dX8_undo_15 ?_
    refine V_isub X dX8_undo_16 ?_
    refine P_X8_10_50 hE X dX8_undo_17 ?_
    have hf4 := obs hf2
    refine V_iconst X (v := 0) (by decide) dX8_undo_20 ?_
    refine V_istore_n X (by decide) rfl dX8_undo_21 ?_
    exact V_sub [1, 0] rfl (f8_undo_L22_ok hE X FU _ _ hf4)
  · have hf2 := ift hf1 q4
    refine V_bipush X (v := -5) (by decide) dX8_undo_7 ?_
    exact V_iret X rfl hf2 dX8_undo_9
def f8_undo (h : Hp) : Re := f8_undo_e  h
theorem f8_undo_ok (hE : IW E) {h : Hp} {q : Int32 × Hp} (hf0 : f8_undo  h = some q) : SMi l E 0 yX8_undo cX8_undo 2 (some .int) [.ref (eA E 12)] h q.1 q.2 :=
  SMi.of (by decide +kernel) (Nat.le_of_ble_eq_true rfl) (fun p e s m args below meth c A X => f8_undo_e_ok hE X (r := q.1) (h' := q.2) hf0)
def f8_save_B14 (k14 : Int32 → Int32 → Hp → Re) (x1 : Int32) (x2 : Int32) (h : Hp) : Re :=
  if 383 ≤ x2 then (if inB x1 2 = true then (some (hu h 18 (Int32.toNatClampNeg x1) (vp_nar .boolean 1))).bind fun h3 => some (h3 13 (Int32.toNatClampNeg 3), h3) else none) else (if inB x2 383 = true then if inB ((383 * x1) + x2) 766 = true then (some (hu h 17 (Int32.toNatClampNeg ((383 * x1) + x2)) (h 13 (Int32.toNatClampNeg x2)))).bind fun h7 => k14 x1 (x2 + 1) h7 else none else none)
set_option maxRecDepth 20000 in
set_option maxHeartbeats 4000000 in
theorem f8_save_B14_ok (hE : IW E) (X : XC E RX8 cX8_save 3 (some .int) A p s m args meth c) {k14 : Int32 → Int32 → Hp → Re} (hk14 : ∀ (x1 : Int32) (x2 : Int32) (h : Hp), k14 x1 x2 h = some (r, h') → VM E 3 A p l e 1 s m args below meth c (Qi E A r h') 14 [(0, .ref (eA E 12)), (1, .int x1), (2, .int x2)] [] h) {x1 : Int32} {x2 : Int32} {h : Hp} (hf0 : f8_save_B14 k14 x1 x2 h = some (r, h')) : VM E 3 A p l e 1 s m args below meth c (Qi E A r h') 14 [(0, .ref (eA E 12)), (1, .int x1), (2, .int x2)] [] h := by
  unfold f8_save_B14 at hf0
  have hf1 := hf0
  refine V_iload_n X 2 rfl dX8_save_14 ?_
  refine V_sipush X (v := 383) (by decide) dX8_save_15 ?_
  refine V_icmp_ge X (tgt := 45) (by decide) dX8_save_18 (fun q18 => ?_) (fun q18 => ?_)
  · have hf2 := ift hf1 q18
    refine V_aload_n X 0 rfl dX8_save_45 ?_
    refine G_X8_5_25 hE X dX8_save_46 ?_
    refine V_iload_n X 1 rfl dX8_save_49 ?_
    refine V_iconst X (v := 1) (by decide) dX8_save_50 ?_
    obtain ⟨g102, hf102⟩ := ogd hf2
    refine V_zast X (AR_18 hE) g102 dX8_save_51 ?_
    have hf5 := obs hf102
    refine V_aload_n X 0 rfl dX8_save_52 ?_
    refine G_X8_0_7 hE X dX8_save_53 ?_
    refine V_iconst X (v := 3) (by decide) dX8_save_56 ?_
    refine V_iald X (AR_13 hE) (by decide) dX8_save_57 ?_
    exact V_iret X rfl hf5 dX8_save_58
  · have hf2 := ife hf1 q18
    refine V_aload_n X 0 rfl dX8_save_21 ?_
    refine G_X8_4_22 hE X dX8_save_22 ?_
    refine V_sipush X (v := 383) (by decide) dX8_save_25 ?_
    refine V_iload_n X 1 rfl dX8_save_28 ?_
    refine V_imul X dX8_save_29 ?_
    refine V_iload_n X 2 rfl dX8_save_30 ?_
    refine V_iadd X dX8_save_31 ?_
    refine V_aload_n X 0 rfl dX8_save_32 ?_
    refine G_X8_0_7 hE X dX8_save_33 ?_
    refine V_iload_n X 2 rfl dX8_save_36 ?_
    obtain ⟨g105, hf105⟩ := ogd hf2
    refine V_iald X (AR_13 hE) g105 dX8_save_37 ?_
    obtain ⟨g106, hf106⟩ := ogd hf105
    refine V_iast X (AR_17 hE) g106 dX8_save_38 ?_
    have hf9 := obs hf106
    refine V_iinc X (v := _ + 1) 2 rfl (by rfl) (by decide) rfl dX8_save_39 ?_
    refine V_goto X (tgt := 14) (by decide) dX8_save_42 ?_
    exact V_sub [1, 2, 0] rfl (hk14 _ _ _ hf9)
def f8_save_L14 : Nat → Int32 → Int32 → Hp → Re
  | 0 => fun _ _ _ => none
  | n + 1 => f8_save_B14 (f8_save_L14 n)
theorem f8_save_L14_s (n : Nat) (x1 : Int32) (x2 : Int32) (h : Hp) : f8_save_L14 (n + 1) x1 x2 h = f8_save_B14 (f8_save_L14 n) x1 x2 h := rfl
theorem f8_save_L14_ok (hE : IW E) (X : XC E RX8 cX8_save 3 (some .int) A p s m args meth c) : ∀ (n : Nat) (x1 : Int32) (x2 : Int32) (h : Hp), f8_save_L14 n x1 x2 h = some (r, h') → VM E 3 A p l e 1 s m args below meth c (Qi E A r h') 14 [(0, .ref (eA E 12)), (1, .int x1), (2, .int x2)] [] h := by
  intro n
  induction n with
  | zero =>
    intro x1 x2 h q
    have q : (none : Re) = some (r, h') := q
    cases q
  | succ n ih =>
    intro x1 x2 h q
    exact f8_save_B14_ok hE X ih q
def f8_save_e (x1 : Int32) (h : Hp) : Re :=
  (f8_in x1 0 1 h).bind fun c1 => if c1.1 = 0 then (some ((-2), c1.2)) else (f8_save_L14 FU x1 0 c1.2)
set_option maxRecDepth 20000 in
set_option maxHeartbeats 4000000 in
theorem f8_save_e_ok (hE : IW E) (X : XC E RX8 cX8_save 3 (some .int) A p s m args meth c) {x1 : Int32} {h : Hp} (hf0 : f8_save_e x1 h = some (r, h')) : VM E 3 A p l e 1 s m args below meth c (Qi E A r h') 0 [(0, .ref (eA E 12)), (1, .int x1)] [] h := by
  unfold f8_save_e at hf0
  have hf1 := hf0
  refine V_iload_n X 1 rfl dX8_save_0 ?_
  refine V_iconst X (v := 0) (by decide) dX8_save_1 ?_
  refine V_iconst X (v := 1) (by decide) dX8_save_2 ?_
  obtain ⟨c1, e_c1, hf3⟩ := obd hf1
  refine V_callSi X (f8_in_ok e_c1) ys_X8_in yw_X8_in ml_X8_39 rfl rfl ⟨Nat.le_of_ble_eq_true rfl, Nat.le_of_ble_eq_true rfl⟩ ⟨Nat.zero_le _, Nat.zero_le _⟩ (Nat.le_of_ble_eq_true rfl) dX8_save_3 ?_
  refine V_if_ne X (tgt := 12) (by decide) dX8_save_6 (fun q6 => ?_) (fun q6 => ?_)
  · have hf4 := ife hf3 q6
    refine V_iconst X (v := 0) (by decide) dX8_save_12 ?_
    refine V_istore_n X (by decide) rfl dX8_save_13 ?_
    exact V_sub [1, 2, 0] rfl (f8_save_L14_ok hE X FU _ _ _ hf4)
  · have hf4 := ift hf3 q6
    refine V_bipush X (v := -2) (by decide) dX8_save_9 ?_
    exact V_iret X rfl hf4 dX8_save_11
def f8_save (x1 : Int32) (h : Hp) : Re := f8_save_e x1 h
theorem f8_save_ok (hE : IW E) {x1 : Int32} {h : Hp} {q : Int32 × Hp} (hf0 : f8_save x1 h = some q) : SMi l E 1 yX8_save cX8_save 3 (some .int) [.ref (eA E 12), .int x1] h q.1 q.2 :=
  SMi.of (by decide +kernel) (Nat.le_of_ble_eq_true rfl) (fun p e s m args below meth c A X => f8_save_e_ok hE X (r := q.1) (h' := q.2) hf0)
def f8_restore_B30 (k30 : Int32 → Int32 → Hp → Re) (x1 : Int32) (x2 : Int32) (h : Hp) : Re :=
  if 383 ≤ x2 then ((f8_recorded (h 13 (Int32.toNatClampNeg 3)) h).bind fun c2 => some (c2.1, c2.2)) else (if inB ((383 * x1) + x2) 766 = true then if inB x2 383 = true then (some (hu h 13 (Int32.toNatClampNeg x2) (h 17 (Int32.toNatClampNeg ((383 * x1) + x2))))).bind fun h6 => k30 x1 (x2 + 1) h6 else none else none)
set_option maxRecDepth 20000 in
set_option maxHeartbeats 4000000 in
theorem f8_restore_B30_ok (hE : IW E) (X : XC E RX8 cX8_restore 3 (some .int) A p s m args meth c) {k30 : Int32 → Int32 → Hp → Re} (hk30 : ∀ (x1 : Int32) (x2 : Int32) (h : Hp), k30 x1 x2 h = some (r, h') → VM E 3 A p l e 1 s m args below meth c (Qi E A r h') 30 [(0, .ref (eA E 12)), (1, .int x1), (2, .int x2)] [] h) {x1 : Int32} {x2 : Int32} {h : Hp} (hf0 : f8_restore_B30 k30 x1 x2 h = some (r, h')) : VM E 3 A p l e 1 s m args below meth c (Qi E A r h') 30 [(0, .ref (eA E 12)), (1, .int x1), (2, .int x2)] [] h := by
  unfold f8_restore_B30 at hf0
  have hf1 := hf0
  refine V_iload_n X 2 rfl dX8_restore_30 ?_
  refine V_sipush X (v := 383) (by decide) dX8_restore_31 ?_
  refine V_icmp_ge X (tgt := 61) (by decide) dX8_restore_34 (fun q34 => ?_) (fun q34 => ?_)
  · have hf2 := ift hf1 q34
    refine V_aload_n X 0 rfl dX8_restore_61 ?_
    refine V_aload_n X 0 rfl dX8_restore_62 ?_
    refine G_X8_0_7 hE X dX8_restore_63 ?_
    refine V_iconst X (v := 3) (by decide) dX8_restore_66 ?_
    refine V_iald X (AR_13 hE) (by decide) dX8_restore_67 ?_
    obtain ⟨c2, e_c2, hf4⟩ := obd hf2
    refine V_callVi X (OB_12 hE) rfl rfl (f8_recorded_ok hE e_c2) ys_X8_recorded yw_X8_recorded ml_X8_101 rfl rfl ⟨Nat.le_of_ble_eq_true rfl, Nat.le_of_ble_eq_true rfl⟩ ⟨Nat.zero_le _, Nat.zero_le _⟩ (Nat.le_of_ble_eq_true rfl) dX8_restore_68 ?_
    exact V_iret X rfl hf4 dX8_restore_71
  · have hf2 := ife hf1 q34
    refine V_aload_n X 0 rfl dX8_restore_37 ?_
    refine G_X8_0_7 hE X dX8_restore_38 ?_
    refine V_iload_n X 2 rfl dX8_restore_41 ?_
    refine V_aload_n X 0 rfl dX8_restore_42 ?_
    refine G_X8_4_22 hE X dX8_restore_43 ?_
    refine V_sipush X (v := 383) (by decide) dX8_restore_46 ?_
    refine V_iload_n X 1 rfl dX8_restore_49 ?_
    refine V_imul X dX8_restore_50 ?_
    refine V_iload_n X 2 rfl dX8_restore_51 ?_
    refine V_iadd X dX8_restore_52 ?_
    obtain ⟨g104, hf104⟩ := ogd hf2
    refine V_iald X (AR_17 hE) g104 dX8_restore_53 ?_
    obtain ⟨g105, hf105⟩ := ogd hf104
    refine V_iast X (AR_13 hE) g105 dX8_restore_54 ?_
    have hf8 := obs hf105
    refine V_iinc X (v := _ + 1) 2 rfl (by rfl) (by decide) rfl dX8_restore_55 ?_
    refine V_goto X (tgt := 30) (by decide) dX8_restore_58 ?_
    exact V_sub [1, 2, 0] rfl (hk30 _ _ _ hf8)
def f8_restore_L30 : Nat → Int32 → Int32 → Hp → Re
  | 0 => fun _ _ _ => none
  | n + 1 => f8_restore_B30 (f8_restore_L30 n)
theorem f8_restore_L30_s (n : Nat) (x1 : Int32) (x2 : Int32) (h : Hp) : f8_restore_L30 (n + 1) x1 x2 h = f8_restore_B30 (f8_restore_L30 n) x1 x2 h := rfl
theorem f8_restore_L30_ok (hE : IW E) (X : XC E RX8 cX8_restore 3 (some .int) A p s m args meth c) : ∀ (n : Nat) (x1 : Int32) (x2 : Int32) (h : Hp), f8_restore_L30 n x1 x2 h = some (r, h') → VM E 3 A p l e 1 s m args below meth c (Qi E A r h') 30 [(0, .ref (eA E 12)), (1, .int x1), (2, .int x2)] [] h := by
  intro n
  induction n with
  | zero =>
    intro x1 x2 h q
    have q : (none : Re) = some (r, h') := q
    cases q
  | succ n ih =>
    intro x1 x2 h q
    exact f8_restore_B30_ok hE X ih q
def f8_restore_e (x1 : Int32) (h : Hp) : Re :=
  (f8_in x1 0 1 h).bind fun c1 => if c1.1 = 0 then (some ((-2), c1.2)) else (if inB x1 2 = true then if (c1.2 18 (Int32.toNatClampNeg x1)) = 0 then (some ((-5), c1.2)) else ((f8_hold  c1.2).bind fun c6 => f8_restore_L30 FU x1 0 c6.2) else none)
set_option maxRecDepth 20000 in
set_option maxHeartbeats 4000000 in
theorem f8_restore_e_ok (hE : IW E) (X : XC E RX8 cX8_restore 3 (some .int) A p s m args meth c) {x1 : Int32} {h : Hp} (hf0 : f8_restore_e x1 h = some (r, h')) : VM E 3 A p l e 1 s m args below meth c (Qi E A r h') 0 [(0, .ref (eA E 12)), (1, .int x1)] [] h := by
  unfold f8_restore_e at hf0
  have hf1 := hf0
  refine V_iload_n X 1 rfl dX8_restore_0 ?_
  refine V_iconst X (v := 0) (by decide) dX8_restore_1 ?_
  refine V_iconst X (v := 1) (by decide) dX8_restore_2 ?_
  obtain ⟨c1, e_c1, hf3⟩ := obd hf1
  refine V_callSi X (f8_in_ok e_c1) ys_X8_in yw_X8_in ml_X8_39 rfl rfl ⟨Nat.le_of_ble_eq_true rfl, Nat.le_of_ble_eq_true rfl⟩ ⟨Nat.zero_le _, Nat.zero_le _⟩ (Nat.le_of_ble_eq_true rfl) dX8_restore_3 ?_
  refine V_if_ne X (tgt := 12) (by decide) dX8_restore_6 (fun q6 => ?_) (fun q6 => ?_)
  · have hf4 := ife hf3 q6
    refine V_aload_n X 0 rfl dX8_restore_12 ?_
    refine G_X8_5_25 hE X dX8_restore_13 ?_
    refine V_iload_n X 1 rfl dX8_restore_16 ?_
    obtain ⟨g104, hf104⟩ := ogd hf4
    refine V_zald X (AR_18 hE) g104 dX8_restore_17 ?_
    refine V_if_ne X (tgt := 24) (by decide) dX8_restore_18 (fun q18 => ?_) (fun q18 => ?_)
    · have hf6 := ife hf104 q18
      refine V_aload_n X 0 rfl dX8_restore_24 ?_
      obtain ⟨c6, e_c6, hf8⟩ := obd hf6
      refine V_callVv X (OB_12 hE) rfl rfl (f8_hold_ok hE e_c6) ys_X8_hold yw_X8_hold ml_X8_98 rfl rfl ⟨Nat.le_of_ble_eq_true rfl, Nat.le_of_ble_eq_true rfl⟩ ⟨Nat.zero_le _, Nat.zero_le _⟩ (Nat.le_of_ble_eq_true rfl) dX8_restore_25 ?_
      refine V_iconst X (v := 0) (by decide) dX8_restore_28 ?_
      refine V_istore_n X (by decide) rfl dX8_restore_29 ?_
      exact V_sub [1, 2, 0] rfl (f8_restore_L30_ok hE X FU _ _ _ hf8)
    · have hf6 := ift hf104 q18
      refine V_bipush X (v := -5) (by decide) dX8_restore_21 ?_
      exact V_iret X rfl hf6 dX8_restore_23
  · have hf4 := ift hf3 q6
    refine V_bipush X (v := -2) (by decide) dX8_restore_9 ?_
    exact V_iret X rfl hf4 dX8_restore_11
def f8_restore (x1 : Int32) (h : Hp) : Re := f8_restore_e x1 h
theorem f8_restore_ok (hE : IW E) {x1 : Int32} {h : Hp} {q : Int32 × Hp} (hf0 : f8_restore x1 h = some q) : SMi l E 1 yX8_restore cX8_restore 3 (some .int) [.ref (eA E 12), .int x1] h q.1 q.2 :=
  SMi.of (by decide +kernel) (Nat.le_of_ble_eq_true rfl) (fun p e s m args below meth c A X => f8_restore_e_ok hE X (r := q.1) (h' := q.2) hf0)
end DM
