section DM
variable {E : EN} {A : Nat → Prop} {p : Program} {l : Launch} {e : Env} {s : State} {m : MethodId} {args : Array Value} {below : List Frame} {meth : Method} {c : Code} {r : Int32} {h' : Hp}
def f6_unlikePlaces_B4 (k4 : Int32 → Int32 → Int32 → Hp → Re) (x1 : Int32) (x2 : Int32) (x3 : Int32) (h : Hp) : Re :=
  if 8 ≤ x3 then (some (x2, h)) else ((f6_isUnlike x1 x3 h).bind fun c2 => if c2.1 = 0 then (k4 x1 x2 (x3 + 1) c2.2) else ((some (x2 ||| ((1 : Int32) <<< (x3 &&& 31)) : Int32)).bind fun z5 => k4 x1 z5 (x3 + 1) c2.2))
set_option maxRecDepth 20000 in
set_option maxHeartbeats 4000000 in
theorem f6_unlikePlaces_B4_ok (hE : IW E) (X : XC E RX6 cX6_unlikePlaces 4 (some .int) A p s m args meth c) {k4 : Int32 → Int32 → Int32 → Hp → Re} (hk4 : ∀ (x1 : Int32) (x2 : Int32) (x3 : Int32) (h : Hp), k4 x1 x2 x3 h = some (r, h') → VM E 4 A p l e 3 s m args below meth c (Qi E A r h') 4 [(0, .ref (eA E 1)), (1, .int x1), (2, .int x2), (3, .int x3)] [] h) {x1 : Int32} {x2 : Int32} {x3 : Int32} {h : Hp} (hf0 : f6_unlikePlaces_B4 k4 x1 x2 x3 h = some (r, h')) : VM E 4 A p l e 3 s m args below meth c (Qi E A r h') 4 [(0, .ref (eA E 1)), (1, .int x1), (2, .int x2), (3, .int x3)] [] h := by
  unfold f6_unlikePlaces_B4 at hf0
  have hf1 := hf0
  refine V_iload_n X 3 rfl dX6_unlikePlaces_4 ?_
  refine V_bipush X (v := 8) (by decide) dX6_unlikePlaces_5 ?_
  refine V_icmp_ge X (tgt := 31) (by decide) dX6_unlikePlaces_7 (fun q7 => ?_) (fun q7 => ?_)
  · have hf2 := ift hf1 q7
    refine V_iload_n X 2 rfl dX6_unlikePlaces_31 ?_
    exact V_iret X rfl hf2 dX6_unlikePlaces_32
  · have hf2 := ife hf1 q7
    refine V_aload_n X 0 rfl dX6_unlikePlaces_10 ?_
    refine V_iload_n X 1 rfl dX6_unlikePlaces_11 ?_
    refine V_iload_n X 3 rfl dX6_unlikePlaces_12 ?_
    obtain ⟨c2, e_c2, hf4⟩ := obd hf2
    refine V_callSi X (f6_isUnlike_ok hE e_c2) ys_X6_isUnlike yw_X6_isUnlike ml_X6_46 rfl rfl ⟨Nat.le_of_ble_eq_true rfl, Nat.le_of_ble_eq_true rfl⟩ ⟨Nat.zero_le _, Nat.zero_le _⟩ (Nat.le_of_ble_eq_true rfl) dX6_unlikePlaces_13 ?_
    refine V_if_eq X (tgt := 25) (by decide) dX6_unlikePlaces_16 (fun q16 => ?_) (fun q16 => ?_)
    · have hf5 := ift hf4 q16
      refine V_iinc X (v := _ + 1) 3 rfl (by rfl) (by decide) rfl dX6_unlikePlaces_25 ?_
      refine V_goto X (tgt := 4) (by decide) dX6_unlikePlaces_28 ?_
      exact V_sub [1, 2, 3, 0] rfl (hk4 _ _ _ _ hf5)
    · have hf5 := ife hf4 q16
      refine V_iload_n X 2 rfl dX6_unlikePlaces_19 ?_
      refine V_iconst X (v := 1) (by decide) dX6_unlikePlaces_20 ?_
      refine V_iload_n X 3 rfl dX6_unlikePlaces_21 ?_
      refine V_ishl X dX6_unlikePlaces_22 ?_
      refine V_ior X dX6_unlikePlaces_23 ?_
      refine V_istore_n X (by decide) rfl dX6_unlikePlaces_24 ?_
      have hf7 := obs hf5
      refine V_iinc X (v := _ + 1) 3 rfl (by rfl) (by decide) rfl dX6_unlikePlaces_25 ?_
      refine V_goto X (tgt := 4) (by decide) dX6_unlikePlaces_28 ?_
      exact V_sub [2, 3, 1, 0] rfl (hk4 _ _ _ _ hf7)
def f6_unlikePlaces_L4 : Nat → Int32 → Int32 → Int32 → Hp → Re
  | 0 => fun _ _ _ _ => none
  | n + 1 => f6_unlikePlaces_B4 (f6_unlikePlaces_L4 n)
theorem f6_unlikePlaces_L4_s (n : Nat) (x1 : Int32) (x2 : Int32) (x3 : Int32) (h : Hp) : f6_unlikePlaces_L4 (n + 1) x1 x2 x3 h = f6_unlikePlaces_B4 (f6_unlikePlaces_L4 n) x1 x2 x3 h := rfl
theorem f6_unlikePlaces_L4_ok (hE : IW E) (X : XC E RX6 cX6_unlikePlaces 4 (some .int) A p s m args meth c) : ∀ (n : Nat) (x1 : Int32) (x2 : Int32) (x3 : Int32) (h : Hp), f6_unlikePlaces_L4 n x1 x2 x3 h = some (r, h') → VM E 4 A p l e 3 s m args below meth c (Qi E A r h') 4 [(0, .ref (eA E 1)), (1, .int x1), (2, .int x2), (3, .int x3)] [] h := by
  intro n
  induction n with
  | zero =>
    intro x1 x2 x3 h q
    have q : (none : Re) = some (r, h') := q
    cases q
  | succ n ih =>
    intro x1 x2 x3 h q
    exact f6_unlikePlaces_B4_ok hE X ih q
def f6_unlikePlaces_e (x1 : Int32) (h : Hp) : Re :=
  f6_unlikePlaces_L4 FU x1 0 0 h
set_option maxRecDepth 20000 in
set_option maxHeartbeats 4000000 in
theorem f6_unlikePlaces_e_ok (hE : IW E) (X : XC E RX6 cX6_unlikePlaces 4 (some .int) A p s m args meth c) {x1 : Int32} {h : Hp} (hf0 : f6_unlikePlaces_e x1 h = some (r, h')) : VM E 4 A p l e 3 s m args below meth c (Qi E A r h') 0 [(0, .ref (eA E 1)), (1, .int x1)] [] h := by
  unfold f6_unlikePlaces_e at hf0
  have hf1 := hf0
  refine V_iconst X (v := 0) (by decide) dX6_unlikePlaces_0 ?_
  refine V_istore_n X (by decide) rfl dX6_unlikePlaces_1 ?_
  refine V_iconst X (v := 0) (by decide) dX6_unlikePlaces_2 ?_
  refine V_istore_n X (by decide) rfl dX6_unlikePlaces_3 ?_
  exact V_sub [2, 3, 1, 0] rfl (f6_unlikePlaces_L4_ok hE X FU _ _ _ _ hf1)
def f6_unlikePlaces (x1 : Int32) (h : Hp) : Re := f6_unlikePlaces_e x1 h
theorem f6_unlikePlaces_ok (hE : IW E) {x1 : Int32} {h : Hp} {q : Int32 × Hp} (hf0 : f6_unlikePlaces x1 h = some q) : SMi l E 3 yX6_unlikePlaces cX6_unlikePlaces 4 (some .int) [.ref (eA E 1), .int x1] h q.1 q.2 :=
  SMi.of (by decide +kernel) (Nat.le_of_ble_eq_true rfl) (fun p e s m args below meth c A X => f6_unlikePlaces_e_ok hE X (r := q.1) (h' := q.2) hf0)
def f6_canBePoured_e (x1 : Int32) (x2 : Int32) (x3 : Int32) (h : Hp) : Re :=
  (f5_wanted 1 x1 x2 x3 h).bind fun c1 => (f5_colour 1 x1 x2 x3 c1.2).bind fun c3 => (f7_isColour c1.1 c3.2).bind fun c5 => if c5.1 = 0 then (rz 0 c5.2) else (if c3.1 = 0 then (rz 1 c5.2) else (if c3.1 = c1.1 then (rz 1 c5.2) else (rz 0 c5.2)))
set_option maxRecDepth 20000 in
set_option maxHeartbeats 4000000 in
theorem f6_canBePoured_e_ok (hE : IW E) (X : XC E RX6 cX6_canBePoured 6 (some .boolean) A p s m args meth c) {x1 : Int32} {x2 : Int32} {x3 : Int32} {h : Hp} (hf0 : f6_canBePoured_e x1 x2 x3 h = some (r, h')) : VM E 6 A p l e 3 s m args below meth c (Qi E A r h') 0 [(0, .ref (eA E 1)), (1, .int x1), (2, .int x2), (3, .int x3)] [] h := by
  unfold f6_canBePoured_e at hf0
  have hf1 := hf0
  refine V_aload_n X 0 rfl dX6_canBePoured_0 ?_
  refine V_iload_n X 1 rfl dX6_canBePoured_1 ?_
  refine V_iload_n X 2 rfl dX6_canBePoured_2 ?_
  refine V_iload_n X 3 rfl dX6_canBePoured_3 ?_
  obtain ⟨c1, e_c1, hf3⟩ := obd hf1
  refine V_callVi X (SR_1 hE).1 rfl rfl (f5_wanted_ok (SR_1 hE) e_c1) ys_X5_wanted yw_X5_wanted ml_X6_25 rfl rfl ⟨Nat.le_of_ble_eq_true rfl, Nat.le_of_ble_eq_true rfl⟩ ⟨Nat.zero_le _, Nat.zero_le _⟩ (Nat.le_of_ble_eq_true rfl) dX6_canBePoured_4 ?_
  refine V_istore X (by decide) rfl dX6_canBePoured_7 ?_
  refine V_aload_n X 1 rfl dX6_canBePoured_9 ?_
  refine V_iload_n X 2 rfl dX6_canBePoured_10 ?_
  refine V_iload_n X 3 rfl dX6_canBePoured_11 ?_
  refine V_iload_n X 4 rfl dX6_canBePoured_12 ?_
  obtain ⟨c3, e_c3, hf5⟩ := obd hf3
  refine V_callVi X (SR_1 hE).1 rfl rfl (f5_colour_ok (SR_1 hE) e_c3) ys_X5_colour yw_X5_colour ml_X6_19 rfl rfl ⟨Nat.le_of_ble_eq_true rfl, Nat.le_of_ble_eq_true rfl⟩ ⟨Nat.zero_le _, Nat.zero_le _⟩ (Nat.le_of_ble_eq_true rfl) dX6_canBePoured_13 ?_
  refine V_istore X (by decide) rfl dX6_canBePoured_16 ?_
  refine V_iload X 1 rfl dX6_canBePoured_18 ?_
  obtain ⟨c5, e_c5, hf7⟩ := obd hf5
  refine V_callSNi X (f7_isColour_ok e_c5) ys_X7_isColour yw_X7_isColour nl_X6_65 rfl rfl ⟨Nat.le_of_ble_eq_true rfl, Nat.le_of_ble_eq_true rfl⟩ ⟨Nat.zero_le _, Nat.zero_le _⟩ (Nat.le_of_ble_eq_true rfl) dX6_canBePoured_20 ?_
  refine V_if_eq X (tgt := 42) (by decide) dX6_canBePoured_23 (fun q23 => ?_) (fun q23 => ?_)
  · have hf8 := ift hf7 q23
    refine V_iconst X (v := 0) (by decide) dX6_canBePoured_42 ?_
    exact V_zret X rfl hf8 dX6_canBePoured_43
  · have hf8 := ife hf7 q23
    refine V_iload X 0 rfl dX6_canBePoured_26 ?_
    refine V_if_eq X (tgt := 38) (by decide) dX6_canBePoured_28 (fun q28 => ?_) (fun q28 => ?_)
    · have hf9 := ift hf8 q28
      refine V_iconst X (v := 1) (by decide) dX6_canBePoured_38 ?_
      refine V_goto X (tgt := 43) (by decide) dX6_canBePoured_39 ?_
      exact V_zret X rfl hf9 dX6_canBePoured_43
    · have hf9 := ife hf8 q28
      refine V_iload X 0 rfl dX6_canBePoured_31 ?_
      refine V_iload X 1 rfl dX6_canBePoured_33 ?_
      refine V_icmp_ne X (tgt := 42) (by decide) dX6_canBePoured_35 (fun q35 => ?_) (fun q35 => ?_)
      · have hf10 := ife hf9 q35
        refine V_iconst X (v := 0) (by decide) dX6_canBePoured_42 ?_
        exact V_zret X rfl hf10 dX6_canBePoured_43
      · have hf10 := ift hf9 q35
        refine V_iconst X (v := 1) (by decide) dX6_canBePoured_38 ?_
        refine V_goto X (tgt := 43) (by decide) dX6_canBePoured_39 ?_
        exact V_zret X rfl hf10 dX6_canBePoured_43
def f6_canBePoured (x1 : Int32) (x2 : Int32) (x3 : Int32) (h : Hp) : Re := f6_canBePoured_e x1 x2 x3 h
theorem f6_canBePoured_ok (hE : IW E) {x1 : Int32} {x2 : Int32} {x3 : Int32} {h : Hp} {q : Int32 × Hp} (hf0 : f6_canBePoured x1 x2 x3 h = some q) : SMi l E 3 yX6_canBePoured cX6_canBePoured 6 (some .boolean) [.ref (eA E 1), .int x1, .int x2, .int x3] h q.1 q.2 :=
  SMi.of (by decide +kernel) (Nat.le_of_ble_eq_true rfl) (fun p e s m args below meth c A X => f6_canBePoured_e_ok hE X (r := q.1) (h' := q.2) hf0)
def f6_neediest_B33 (k16 : Int32 → Int32 → Int32 → Hp → Re) (k24 : Int32 → Int32 → Int32 → Int32 → Hp → Re) (k33 : Int32 → Int32 → Int32 → Int32 → Int32 → Hp → Re) (x1 : Int32) (x2 : Int32) (x3 : Int32) (x4 : Int32) (x5 : Int32) (h : Hp) : Re :=
  if 8 ≤ x5 then (k24 x1 x2 x3 (x4 + 1) h) else ((f5_grains 1 x4 x3 x5 h).bind fun c2 => if x2 ≤ c2.1 then (k33 x1 x2 x3 x4 (x5 + 1) c2.2) else ((f6_canBePoured x4 x3 x5 c2.2).bind fun c5 => if c5.1 = 0 then (k33 x1 x2 x3 x4 (x5 + 1) c5.2) else (k33 ((((x3 * 4) + x4) * 8) + x5) c2.1 x3 x4 (x5 + 1) c5.2)))
set_option maxRecDepth 20000 in
set_option maxHeartbeats 4000000 in
theorem f6_neediest_B33_ok (hE : IW E) (X : XC E RX6 cX6_neediest 7 (some .int) A p s m args meth c) {k16 : Int32 → Int32 → Int32 → Hp → Re} {k24 : Int32 → Int32 → Int32 → Int32 → Hp → Re} {k33 : Int32 → Int32 → Int32 → Int32 → Int32 → Hp → Re} (hk16 : ∀ (x1 : Int32) (x2 : Int32) (x3 : Int32) (h : Hp), k16 x1 x2 x3 h = some (r, h') → VM E 7 A p l e 4 s m args below meth c (Qi E A r h') 16 [(0, .ref (eA E 1)), (1, .int x1), (2, .int x2), (3, .int x3)] [] h) (hk24 : ∀ (x1 : Int32) (x2 : Int32) (x3 : Int32) (x4 : Int32) (h : Hp), k24 x1 x2 x3 x4 h = some (r, h') → VM E 7 A p l e 4 s m args below meth c (Qi E A r h') 24 [(0, .ref (eA E 1)), (1, .int x1), (2, .int x2), (3, .int x3), (4, .int x4)] [] h) (hk33 : ∀ (x1 : Int32) (x2 : Int32) (x3 : Int32) (x4 : Int32) (x5 : Int32) (h : Hp), k33 x1 x2 x3 x4 x5 h = some (r, h') → VM E 7 A p l e 4 s m args below meth c (Qi E A r h') 33 [(0, .ref (eA E 1)), (1, .int x1), (2, .int x2), (3, .int x3), (4, .int x4), (5, .int x5)] [] h) {x1 : Int32} {x2 : Int32} {x3 : Int32} {x4 : Int32} {x5 : Int32} {h : Hp} (hf0 : f6_neediest_B33 k16 k24 k33 x1 x2 x3 x4 x5 h = some (r, h')) : VM E 7 A p l e 4 s m args below meth c (Qi E A r h') 33 [(0, .ref (eA E 1)), (1, .int x1), (2, .int x2), (3, .int x3), (4, .int x4), (5, .int x5)] [] h := by
  unfold f6_neediest_B33 at hf0
  have hf1 := hf0
  refine V_iload X 5 rfl dX6_neediest_33 ?_
  refine V_bipush X (v := 8) (by decide) dX6_neediest_35 ?_
  refine V_icmp_ge X (tgt := 91) (by decide) dX6_neediest_37 (fun q37 => ?_) (fun q37 => ?_)
  · have hf2 := ift hf1 q37
    refine V_iinc X (v := _ + 1) 4 rfl (by rfl) (by decide) rfl dX6_neediest_91 ?_
    refine V_goto X (tgt := 24) (by decide) dX6_neediest_94 ?_
    exact V_sub [1, 2, 3, 4, 0] rfl (hk24 _ _ _ _ _ hf2)
  · have hf2 := ife hf1 q37
    refine V_aload_n X 0 rfl dX6_neediest_40 ?_
    refine V_iload X 4 rfl dX6_neediest_41 ?_
    refine V_iload_n X 3 rfl dX6_neediest_43 ?_
    refine V_iload X 5 rfl dX6_neediest_44 ?_
    obtain ⟨c2, e_c2, hf4⟩ := obd hf2
    refine V_callVi X (SR_1 hE).1 rfl rfl (f5_grains_ok (SR_1 hE) e_c2) ys_X5_grains yw_X5_grains ml_X6_32 rfl rfl ⟨Nat.le_of_ble_eq_true rfl, Nat.le_of_ble_eq_true rfl⟩ ⟨Nat.zero_le _, Nat.zero_le _⟩ (Nat.le_of_ble_eq_true rfl) dX6_neediest_46 ?_
    refine V_istore X (by decide) rfl dX6_neediest_49 ?_
    refine V_iload X 0 rfl dX6_neediest_51 ?_
    refine V_iload_n X 3 rfl dX6_neediest_53 ?_
    refine V_icmp_ge X (tgt := 85) (by decide) dX6_neediest_54 (fun q54 => ?_) (fun q54 => ?_)
    · have hf5 := ift hf4 q54
      refine V_iinc X (v := _ + 1) 6 rfl (by rfl) (by decide) rfl dX6_neediest_85 ?_
      refine V_goto X (tgt := 33) (by decide) dX6_neediest_88 ?_
      exact V_sub [2, 3, 4, 5, 6, 0] rfl (hk33 _ _ _ _ _ _ hf5)
    · have hf5 := ife hf4 q54
      refine V_aload_n X 1 rfl dX6_neediest_57 ?_
      refine V_iload X 5 rfl dX6_neediest_58 ?_
      refine V_iload_n X 4 rfl dX6_neediest_60 ?_
      refine V_iload X 6 rfl dX6_neediest_61 ?_
      obtain ⟨c5, e_c5, hf7⟩ := obd hf5
      refine V_callSi X (f6_canBePoured_ok hE e_c5) ys_X6_canBePoured yw_X6_canBePoured ml_X6_61 rfl rfl ⟨Nat.le_of_ble_eq_true rfl, Nat.le_of_ble_eq_true rfl⟩ ⟨Nat.zero_le _, Nat.zero_le _⟩ (Nat.le_of_ble_eq_true rfl) dX6_neediest_63 ?_
      refine V_if_eq X (tgt := 85) (by decide) dX6_neediest_66 (fun q66 => ?_) (fun q66 => ?_)
      · have hf8 := ift hf7 q66
        refine V_iinc X (v := _ + 1) 6 rfl (by rfl) (by decide) rfl dX6_neediest_85 ?_
        refine V_goto X (tgt := 33) (by decide) dX6_neediest_88 ?_
        exact V_sub [2, 3, 4, 5, 6, 0] rfl (hk33 _ _ _ _ _ _ hf8)
      · have hf8 := ife hf7 q66
        refine V_iload X 0 rfl dX6_neediest_69 ?_
        refine V_istore_n X (by decide) rfl dX6_neediest_71 ?_
        refine V_iload_n X 4 rfl dX6_neediest_72 ?_
        refine V_iconst X (v := 4) (by decide) dX6_neediest_73 ?_
        refine V_imul X dX6_neediest_74 ?_
        refine V_iload X 5 rfl dX6_neediest_75 ?_
        refine V_iadd X dX6_neediest_77 ?_
        refine V_bipush X (v := 8) (by decide) dX6_neediest_78 ?_
        refine V_imul X dX6_neediest_80 ?_
        refine V_iload X 6 rfl dX6_neediest_81 ?_
        refine V_iadd X dX6_neediest_83 ?_
        refine V_istore_n X (by decide) rfl dX6_neediest_84 ?_
        refine V_iinc X (v := _ + 1) 6 rfl (by rfl) (by decide) rfl dX6_neediest_85 ?_
        refine V_goto X (tgt := 33) (by decide) dX6_neediest_88 ?_
        exact V_sub [4, 1, 2, 5, 6, 0] rfl (hk33 _ _ _ _ _ _ hf8)
def f6_neediest_L33 (k16 : Int32 → Int32 → Int32 → Hp → Re) (k24 : Int32 → Int32 → Int32 → Int32 → Hp → Re) : Nat → Int32 → Int32 → Int32 → Int32 → Int32 → Hp → Re
  | 0 => fun _ _ _ _ _ _ => none
  | n + 1 => f6_neediest_B33 k16 k24 (f6_neediest_L33 k16 k24 n)
theorem f6_neediest_L33_s (k16 : Int32 → Int32 → Int32 → Hp → Re) (k24 : Int32 → Int32 → Int32 → Int32 → Hp → Re) (n : Nat) (x1 : Int32) (x2 : Int32) (x3 : Int32) (x4 : Int32) (x5 : Int32) (h : Hp) : f6_neediest_L33 k16 k24 (n + 1) x1 x2 x3 x4 x5 h = f6_neediest_B33 k16 k24 (f6_neediest_L33 k16 k24 n) x1 x2 x3 x4 x5 h := rfl
theorem f6_neediest_L33_ok (hE : IW E) (X : XC E RX6 cX6_neediest 7 (some .int) A p s m args meth c) {k16 : Int32 → Int32 → Int32 → Hp → Re} {k24 : Int32 → Int32 → Int32 → Int32 → Hp → Re} (hk16 : ∀ (x1 : Int32) (x2 : Int32) (x3 : Int32) (h : Hp), k16 x1 x2 x3 h = some (r, h') → VM E 7 A p l e 4 s m args below meth c (Qi E A r h') 16 [(0, .ref (eA E 1)), (1, .int x1), (2, .int x2), (3, .int x3)] [] h) (hk24 : ∀ (x1 : Int32) (x2 : Int32) (x3 : Int32) (x4 : Int32) (h : Hp), k24 x1 x2 x3 x4 h = some (r, h') → VM E 7 A p l e 4 s m args below meth c (Qi E A r h') 24 [(0, .ref (eA E 1)), (1, .int x1), (2, .int x2), (3, .int x3), (4, .int x4)] [] h) : ∀ (n : Nat) (x1 : Int32) (x2 : Int32) (x3 : Int32) (x4 : Int32) (x5 : Int32) (h : Hp), f6_neediest_L33 k16 k24 n x1 x2 x3 x4 x5 h = some (r, h') → VM E 7 A p l e 4 s m args below meth c (Qi E A r h') 33 [(0, .ref (eA E 1)), (1, .int x1), (2, .int x2), (3, .int x3), (4, .int x4), (5, .int x5)] [] h := by
  intro n
  induction n with
  | zero =>
    intro x1 x2 x3 x4 x5 h q
    have q : (none : Re) = some (r, h') := q
    cases q
  | succ n ih =>
    intro x1 x2 x3 x4 x5 h q
    exact f6_neediest_B33_ok hE X hk16 hk24 ih q
def f6_neediest_B24 (k16 : Int32 → Int32 → Int32 → Hp → Re) (k24 : Int32 → Int32 → Int32 → Int32 → Hp → Re) (x1 : Int32) (x2 : Int32) (x3 : Int32) (x4 : Int32) (h : Hp) : Re :=
  if 4 ≤ x4 then (k16 x1 x2 (x3 + 1) h) else (f6_neediest_L33 k16 k24 FU x1 x2 x3 x4 0 h)
set_option maxRecDepth 20000 in
set_option maxHeartbeats 4000000 in
theorem f6_neediest_B24_ok (hE : IW E) (X : XC E RX6 cX6_neediest 7 (some .int) A p s m args meth c) {k16 : Int32 → Int32 → Int32 → Hp → Re} {k24 : Int32 → Int32 → Int32 → Int32 → Hp → Re} (hk16 : ∀ (x1 : Int32) (x2 : Int32) (x3 : Int32) (h : Hp), k16 x1 x2 x3 h = some (r, h') → VM E 7 A p l e 4 s m args below meth c (Qi E A r h') 16 [(0, .ref (eA E 1)), (1, .int x1), (2, .int x2), (3, .int x3)] [] h) (hk24 : ∀ (x1 : Int32) (x2 : Int32) (x3 : Int32) (x4 : Int32) (h : Hp), k24 x1 x2 x3 x4 h = some (r, h') → VM E 7 A p l e 4 s m args below meth c (Qi E A r h') 24 [(0, .ref (eA E 1)), (1, .int x1), (2, .int x2), (3, .int x3), (4, .int x4)] [] h) {x1 : Int32} {x2 : Int32} {x3 : Int32} {x4 : Int32} {h : Hp} (hf0 : f6_neediest_B24 k16 k24 x1 x2 x3 x4 h = some (r, h')) : VM E 7 A p l e 4 s m args below meth c (Qi E A r h') 24 [(0, .ref (eA E 1)), (1, .int x1), (2, .int x2), (3, .int x3), (4, .int x4)] [] h := by
  unfold f6_neediest_B24 at hf0
  have hf1 := hf0
  refine V_iload X 4 rfl dX6_neediest_24 ?_
  refine V_iconst X (v := 4) (by decide) dX6_neediest_26 ?_
  refine V_icmp_ge X (tgt := 97) (by decide) dX6_neediest_27 (fun q27 => ?_) (fun q27 => ?_)
  · have hf2 := ift hf1 q27
    refine V_iinc X (v := _ + 1) 3 rfl (by rfl) (by decide) rfl dX6_neediest_97 ?_
    refine V_goto X (tgt := 16) (by decide) dX6_neediest_100 ?_
    exact V_sub [1, 2, 3, 0] rfl (hk16 _ _ _ _ hf2)
  · have hf2 := ife hf1 q27
    refine V_iconst X (v := 0) (by decide) dX6_neediest_30 ?_
    refine V_istore X (by decide) rfl dX6_neediest_31 ?_
    exact V_sub [1, 2, 3, 4, 5, 0] rfl (f6_neediest_L33_ok hE X hk16 hk24 FU _ _ _ _ _ _ hf2)
def f6_neediest_L24 (k16 : Int32 → Int32 → Int32 → Hp → Re) : Nat → Int32 → Int32 → Int32 → Int32 → Hp → Re
  | 0 => fun _ _ _ _ _ => none
  | n + 1 => f6_neediest_B24 k16 (f6_neediest_L24 k16 n)
theorem f6_neediest_L24_s (k16 : Int32 → Int32 → Int32 → Hp → Re) (n : Nat) (x1 : Int32) (x2 : Int32) (x3 : Int32) (x4 : Int32) (h : Hp) : f6_neediest_L24 k16 (n + 1) x1 x2 x3 x4 h = f6_neediest_B24 k16 (f6_neediest_L24 k16 n) x1 x2 x3 x4 h := rfl
theorem f6_neediest_L24_ok (hE : IW E) (X : XC E RX6 cX6_neediest 7 (some .int) A p s m args meth c) {k16 : Int32 → Int32 → Int32 → Hp → Re} (hk16 : ∀ (x1 : Int32) (x2 : Int32) (x3 : Int32) (h : Hp), k16 x1 x2 x3 h = some (r, h') → VM E 7 A p l e 4 s m args below meth c (Qi E A r h') 16 [(0, .ref (eA E 1)), (1, .int x1), (2, .int x2), (3, .int x3)] [] h) : ∀ (n : Nat) (x1 : Int32) (x2 : Int32) (x3 : Int32) (x4 : Int32) (h : Hp), f6_neediest_L24 k16 n x1 x2 x3 x4 h = some (r, h') → VM E 7 A p l e 4 s m args below meth c (Qi E A r h') 24 [(0, .ref (eA E 1)), (1, .int x1), (2, .int x2), (3, .int x3), (4, .int x4)] [] h := by
  intro n
  induction n with
  | zero =>
    intro x1 x2 x3 x4 h q
    have q : (none : Re) = some (r, h') := q
    cases q
  | succ n ih =>
    intro x1 x2 x3 x4 h q
    exact f6_neediest_B24_ok hE X hk16 ih q
def f6_neediest_B16 (k16 : Int32 → Int32 → Int32 → Hp → Re) (x1 : Int32) (x2 : Int32) (x3 : Int32) (h : Hp) : Re :=
  if 5 ≤ x3 then (some (x1, h)) else (f6_neediest_L24 k16 FU x1 x2 x3 0 h)
set_option maxRecDepth 20000 in
set_option maxHeartbeats 4000000 in
theorem f6_neediest_B16_ok (hE : IW E) (X : XC E RX6 cX6_neediest 7 (some .int) A p s m args meth c) {k16 : Int32 → Int32 → Int32 → Hp → Re} (hk16 : ∀ (x1 : Int32) (x2 : Int32) (x3 : Int32) (h : Hp), k16 x1 x2 x3 h = some (r, h') → VM E 7 A p l e 4 s m args below meth c (Qi E A r h') 16 [(0, .ref (eA E 1)), (1, .int x1), (2, .int x2), (3, .int x3)] [] h) {x1 : Int32} {x2 : Int32} {x3 : Int32} {h : Hp} (hf0 : f6_neediest_B16 k16 x1 x2 x3 h = some (r, h')) : VM E 7 A p l e 4 s m args below meth c (Qi E A r h') 16 [(0, .ref (eA E 1)), (1, .int x1), (2, .int x2), (3, .int x3)] [] h := by
  unfold f6_neediest_B16 at hf0
  have hf1 := hf0
  refine V_iload_n X 3 rfl dX6_neediest_16 ?_
  refine V_iconst X (v := 5) (by decide) dX6_neediest_17 ?_
  refine V_icmp_ge X (tgt := 103) (by decide) dX6_neediest_18 (fun q18 => ?_) (fun q18 => ?_)
  · have hf2 := ift hf1 q18
    refine V_iload_n X 1 rfl dX6_neediest_103 ?_
    exact V_iret X rfl hf2 dX6_neediest_104
  · have hf2 := ife hf1 q18
    refine V_iconst X (v := 0) (by decide) dX6_neediest_21 ?_
    refine V_istore X (by decide) rfl dX6_neediest_22 ?_
    exact V_sub [1, 2, 3, 4, 0] rfl (f6_neediest_L24_ok hE X hk16 FU _ _ _ _ _ hf2)
def f6_neediest_L16 : Nat → Int32 → Int32 → Int32 → Hp → Re
  | 0 => fun _ _ _ _ => none
  | n + 1 => f6_neediest_B16 (f6_neediest_L16 n)
theorem f6_neediest_L16_s (n : Nat) (x1 : Int32) (x2 : Int32) (x3 : Int32) (h : Hp) : f6_neediest_L16 (n + 1) x1 x2 x3 h = f6_neediest_B16 (f6_neediest_L16 n) x1 x2 x3 h := rfl
theorem f6_neediest_L16_ok (hE : IW E) (X : XC E RX6 cX6_neediest 7 (some .int) A p s m args meth c) : ∀ (n : Nat) (x1 : Int32) (x2 : Int32) (x3 : Int32) (h : Hp), f6_neediest_L16 n x1 x2 x3 h = some (r, h') → VM E 7 A p l e 4 s m args below meth c (Qi E A r h') 16 [(0, .ref (eA E 1)), (1, .int x1), (2, .int x2), (3, .int x3)] [] h := by
  intro n
  induction n with
  | zero =>
    intro x1 x2 x3 h q
    have q : (none : Re) = some (r, h') := q
    cases q
  | succ n ih =>
    intro x1 x2 x3 h q
    exact f6_neediest_B16_ok hE X ih q
def f6_neediest_e (h : Hp) : Re :=
  (f5_setting 1 0 h).bind fun c1 => (f5_number 1 19 c1.2).bind fun c3 => f6_neediest_L16 FU (-6) c1.1 c3.1 c3.2
set_option maxRecDepth 20000 in
set_option maxHeartbeats 4000000 in
theorem f6_neediest_e_ok (hE : IW E) (X : XC E RX6 cX6_neediest 7 (some .int) A p s m args meth c) {h : Hp} (hf0 : f6_neediest_e  h = some (r, h')) : VM E 7 A p l e 4 s m args below meth c (Qi E A r h') 0 [(0, .ref (eA E 1))] [] h := by
  unfold f6_neediest_e at hf0
  have hf1 := hf0
  refine V_bipush X (v := -6) (by decide) dX6_neediest_0 ?_
  refine V_istore_n X (by decide) rfl dX6_neediest_2 ?_
  refine V_aload_n X 1 rfl dX6_neediest_3 ?_
  refine V_iconst X (v := 0) (by decide) dX6_neediest_4 ?_
  obtain ⟨c1, e_c1, hf3⟩ := obd hf1
  refine V_callVi X (SR_1 hE).1 rfl rfl (f5_setting_ok (SR_1 hE) e_c1) ys_X5_setting yw_X5_setting ml_X6_54 rfl rfl ⟨Nat.le_of_ble_eq_true rfl, Nat.le_of_ble_eq_true rfl⟩ ⟨Nat.zero_le _, Nat.zero_le _⟩ (Nat.le_of_ble_eq_true rfl) dX6_neediest_5 ?_
  refine V_istore_n X (by decide) rfl dX6_neediest_8 ?_
  refine V_aload_n X 2 rfl dX6_neediest_9 ?_
  refine V_bipush X (v := 19) (by decide) dX6_neediest_10 ?_
  obtain ⟨c3, e_c3, hf5⟩ := obd hf3
  refine V_callVi X (SR_1 hE).1 rfl rfl (f5_number_ok (SR_1 hE) e_c3) ys_X5_number yw_X5_number ml_X6_58 rfl rfl ⟨Nat.le_of_ble_eq_true rfl, Nat.le_of_ble_eq_true rfl⟩ ⟨Nat.zero_le _, Nat.zero_le _⟩ (Nat.le_of_ble_eq_true rfl) dX6_neediest_12 ?_
  refine V_istore_n X (by decide) rfl dX6_neediest_15 ?_
  exact V_sub [3, 2, 1, 0] rfl (f6_neediest_L16_ok hE X FU _ _ _ _ hf5)
def f6_neediest (h : Hp) : Re := f6_neediest_e  h
theorem f6_neediest_ok (hE : IW E) {h : Hp} {q : Int32 × Hp} (hf0 : f6_neediest  h = some q) : SMi l E 4 yX6_neediest cX6_neediest 7 (some .int) [.ref (eA E 1)] h q.1 q.2 :=
  SMi.of (by decide +kernel) (Nat.le_of_ble_eq_true rfl) (fun p e s m args below meth c A X => f6_neediest_e_ok hE X (r := q.1) (h' := q.2) hf0)
def f6_rightOnlyInFirst_B14 (k : Nat) (k2 : Nat) (k5 : Int32 → Int32 → Int32 → Hp → Re) (k14 : Int32 → Int32 → Int32 → Int32 → Hp → Re) (x2 : Int32) (x3 : Int32) (x4 : Int32) (x5 : Int32) (h : Hp) : Re :=
  if 8 ≤ x5 then (k5 x2 x3 (x4 + 1) h) else ((f5_isRight k x2 x4 x5 h).bind fun c2 => if c2.1 = 0 then (k14 x2 x3 x4 (x5 + 1) c2.2) else ((f5_isRight k2 x2 x4 x5 c2.2).bind fun c5 => if c5.1 = 0 then (k14 x2 (x3 + 1) x4 (x5 + 1) c5.2) else (k14 x2 x3 x4 (x5 + 1) c5.2)))
set_option maxRecDepth 20000 in
set_option maxHeartbeats 4000000 in
theorem f6_rightOnlyInFirst_B14_ok {k : Nat} {k2 : Nat} (hk : SR E k) (hk2 : SR E k2) (X : XC E RX6 cX6_rightOnlyInFirst 6 (some .int) A p s m args meth c) {k5 : Int32 → Int32 → Int32 → Hp → Re} {k14 : Int32 → Int32 → Int32 → Int32 → Hp → Re} (hk5 : ∀ (x2 : Int32) (x3 : Int32) (x4 : Int32) (h : Hp), k5 x2 x3 x4 h = some (r, h') → VM E 6 A p l e 4 s m args below meth c (Qi E A r h') 5 [(0, .ref (eA E k)), (1, .ref (eA E k2)), (2, .int x2), (3, .int x3), (4, .int x4)] [] h) (hk14 : ∀ (x2 : Int32) (x3 : Int32) (x4 : Int32) (x5 : Int32) (h : Hp), k14 x2 x3 x4 x5 h = some (r, h') → VM E 6 A p l e 4 s m args below meth c (Qi E A r h') 14 [(0, .ref (eA E k)), (1, .ref (eA E k2)), (2, .int x2), (3, .int x3), (4, .int x4), (5, .int x5)] [] h) {x2 : Int32} {x3 : Int32} {x4 : Int32} {x5 : Int32} {h : Hp} (hf0 : f6_rightOnlyInFirst_B14 k k2 k5 k14 x2 x3 x4 x5 h = some (r, h')) : VM E 6 A p l e 4 s m args below meth c (Qi E A r h') 14 [(0, .ref (eA E k)), (1, .ref (eA E k2)), (2, .int x2), (3, .int x3), (4, .int x4), (5, .int x5)] [] h := by
  unfold f6_rightOnlyInFirst_B14 at hf0
  have hf1 := hf0
  refine V_iload X 5 rfl dX6_rightOnlyInFirst_14 ?_
  refine V_bipush X (v := 8) (by decide) dX6_rightOnlyInFirst_16 ?_
  refine V_icmp_ge X (tgt := 54) (by decide) dX6_rightOnlyInFirst_18 (fun q18 => ?_) (fun q18 => ?_)
  · have hf2 := ift hf1 q18
    refine V_iinc X (v := _ + 1) 4 rfl (by rfl) (by decide) rfl dX6_rightOnlyInFirst_54 ?_
    refine V_goto X (tgt := 5) (by decide) dX6_rightOnlyInFirst_57 ?_
    exact V_sub [1, 2, 3, 4, 0] rfl (hk5 _ _ _ _ hf2)
  · have hf2 := ife hf1 q18
    refine V_aload_n X 0 rfl dX6_rightOnlyInFirst_21 ?_
    refine V_iload_n X 2 rfl dX6_rightOnlyInFirst_22 ?_
    refine V_iload X 4 rfl dX6_rightOnlyInFirst_23 ?_
    refine V_iload X 5 rfl dX6_rightOnlyInFirst_25 ?_
    obtain ⟨c2, e_c2, hf4⟩ := obd hf2
    refine V_callVi X hk.1 rfl rfl (f5_isRight_ok hk e_c2) ys_X5_isRight yw_X5_isRight ml_X6_28 rfl rfl ⟨Nat.le_of_ble_eq_true rfl, Nat.le_of_ble_eq_true rfl⟩ ⟨Nat.zero_le _, Nat.zero_le _⟩ (Nat.le_of_ble_eq_true rfl) dX6_rightOnlyInFirst_27 ?_
    refine V_if_eq X (tgt := 48) (by decide) dX6_rightOnlyInFirst_30 (fun q30 => ?_) (fun q30 => ?_)
    · have hf5 := ift hf4 q30
      refine V_iinc X (v := _ + 1) 5 rfl (by rfl) (by decide) rfl dX6_rightOnlyInFirst_48 ?_
      refine V_goto X (tgt := 14) (by decide) dX6_rightOnlyInFirst_51 ?_
      exact V_sub [1, 2, 3, 4, 5, 0] rfl (hk14 _ _ _ _ _ hf5)
    · have hf5 := ife hf4 q30
      refine V_aload_n X 1 rfl dX6_rightOnlyInFirst_33 ?_
      refine V_iload_n X 2 rfl dX6_rightOnlyInFirst_34 ?_
      refine V_iload X 4 rfl dX6_rightOnlyInFirst_35 ?_
      refine V_iload X 5 rfl dX6_rightOnlyInFirst_37 ?_
      obtain ⟨c5, e_c5, hf7⟩ := obd hf5
      refine V_callVi X hk2.1 rfl rfl (f5_isRight_ok hk2 e_c5) ys_X5_isRight yw_X5_isRight ml_X6_28 rfl rfl ⟨Nat.le_of_ble_eq_true rfl, Nat.le_of_ble_eq_true rfl⟩ ⟨Nat.zero_le _, Nat.zero_le _⟩ (Nat.le_of_ble_eq_true rfl) dX6_rightOnlyInFirst_39 ?_
      refine V_if_ne X (tgt := 48) (by decide) dX6_rightOnlyInFirst_42 (fun q42 => ?_) (fun q42 => ?_)
      · have hf8 := ife hf7 q42
        refine V_iinc X (v := _ + 1) 5 rfl (by rfl) (by decide) rfl dX6_rightOnlyInFirst_48 ?_
        refine V_goto X (tgt := 14) (by decide) dX6_rightOnlyInFirst_51 ?_
        exact V_sub [1, 2, 3, 4, 5, 0] rfl (hk14 _ _ _ _ _ hf8)
      · have hf8 := ift hf7 q42
        refine V_iinc X (v := _ + 1) 3 rfl (by rfl) (by decide) rfl dX6_rightOnlyInFirst_45 ?_
        refine V_iinc X (v := _ + 1) 5 rfl (by rfl) (by decide) rfl dX6_rightOnlyInFirst_48 ?_
        refine V_goto X (tgt := 14) (by decide) dX6_rightOnlyInFirst_51 ?_
        exact V_sub [2, 3, 4, 1, 5, 0] rfl (hk14 _ _ _ _ _ hf8)
def f6_rightOnlyInFirst_L14 (k : Nat) (k2 : Nat) (k5 : Int32 → Int32 → Int32 → Hp → Re) : Nat → Int32 → Int32 → Int32 → Int32 → Hp → Re
  | 0 => fun _ _ _ _ _ => none
  | n + 1 => f6_rightOnlyInFirst_B14 k k2 k5 (f6_rightOnlyInFirst_L14 k k2 k5 n)
theorem f6_rightOnlyInFirst_L14_s (k : Nat) (k2 : Nat) (k5 : Int32 → Int32 → Int32 → Hp → Re) (n : Nat) (x2 : Int32) (x3 : Int32) (x4 : Int32) (x5 : Int32) (h : Hp) : f6_rightOnlyInFirst_L14 k k2 k5 (n + 1) x2 x3 x4 x5 h = f6_rightOnlyInFirst_B14 k k2 k5 (f6_rightOnlyInFirst_L14 k k2 k5 n) x2 x3 x4 x5 h := rfl
theorem f6_rightOnlyInFirst_L14_ok {k : Nat} {k2 : Nat} (hk : SR E k) (hk2 : SR E k2) (X : XC E RX6 cX6_rightOnlyInFirst 6 (some .int) A p s m args meth c) {k5 : Int32 → Int32 → Int32 → Hp → Re} (hk5 : ∀ (x2 : Int32) (x3 : Int32) (x4 : Int32) (h : Hp), k5 x2 x3 x4 h = some (r, h') → VM E 6 A p l e 4 s m args below meth c (Qi E A r h') 5 [(0, .ref (eA E k)), (1, .ref (eA E k2)), (2, .int x2), (3, .int x3), (4, .int x4)] [] h) : ∀ (n : Nat) (x2 : Int32) (x3 : Int32) (x4 : Int32) (x5 : Int32) (h : Hp), f6_rightOnlyInFirst_L14 k k2 k5 n x2 x3 x4 x5 h = some (r, h') → VM E 6 A p l e 4 s m args below meth c (Qi E A r h') 14 [(0, .ref (eA E k)), (1, .ref (eA E k2)), (2, .int x2), (3, .int x3), (4, .int x4), (5, .int x5)] [] h := by
  intro n
  induction n with
  | zero =>
    intro x2 x3 x4 x5 h q
    have q : (none : Re) = some (r, h') := q
    cases q
  | succ n ih =>
    intro x2 x3 x4 x5 h q
    exact f6_rightOnlyInFirst_B14_ok hk hk2 X hk5 ih q
def f6_rightOnlyInFirst_B5 (k : Nat) (k2 : Nat) (k5 : Int32 → Int32 → Int32 → Hp → Re) (x2 : Int32) (x3 : Int32) (x4 : Int32) (h : Hp) : Re :=
  if 5 ≤ x4 then (some (x3, h)) else (f6_rightOnlyInFirst_L14 k k2 k5 FU x2 x3 x4 0 h)
set_option maxRecDepth 20000 in
set_option maxHeartbeats 4000000 in
theorem f6_rightOnlyInFirst_B5_ok {k : Nat} {k2 : Nat} (hk : SR E k) (hk2 : SR E k2) (X : XC E RX6 cX6_rightOnlyInFirst 6 (some .int) A p s m args meth c) {k5 : Int32 → Int32 → Int32 → Hp → Re} (hk5 : ∀ (x2 : Int32) (x3 : Int32) (x4 : Int32) (h : Hp), k5 x2 x3 x4 h = some (r, h') → VM E 6 A p l e 4 s m args below meth c (Qi E A r h') 5 [(0, .ref (eA E k)), (1, .ref (eA E k2)), (2, .int x2), (3, .int x3), (4, .int x4)] [] h) {x2 : Int32} {x3 : Int32} {x4 : Int32} {h : Hp} (hf0 : f6_rightOnlyInFirst_B5 k k2 k5 x2 x3 x4 h = some (r, h')) : VM E 6 A p l e 4 s m args below meth c (Qi E A r h') 5 [(0, .ref (eA E k)), (1, .ref (eA E k2)), (2, .int x2), (3, .int x3), (4, .int x4)] [] h := by
  unfold f6_rightOnlyInFirst_B5 at hf0
  have hf1 := hf0
  refine V_iload X 4 rfl dX6_rightOnlyInFirst_5 ?_
  refine V_iconst X (v := 5) (by decide) dX6_rightOnlyInFirst_7 ?_
  refine V_icmp_ge X (tgt := 60) (by decide) dX6_rightOnlyInFirst_8 (fun q8 => ?_) (fun q8 => ?_)
  · have hf2 := ift hf1 q8
    refine V_iload_n X 3 rfl dX6_rightOnlyInFirst_60 ?_
    exact V_iret X rfl hf2 dX6_rightOnlyInFirst_61
  · have hf2 := ife hf1 q8
    refine V_iconst X (v := 0) (by decide) dX6_rightOnlyInFirst_11 ?_
    refine V_istore X (by decide) rfl dX6_rightOnlyInFirst_12 ?_
    exact V_sub [1, 2, 3, 4, 5, 0] rfl (f6_rightOnlyInFirst_L14_ok hk hk2 X hk5 FU _ _ _ _ _ hf2)
def f6_rightOnlyInFirst_L5 (k : Nat) (k2 : Nat) : Nat → Int32 → Int32 → Int32 → Hp → Re
  | 0 => fun _ _ _ _ => none
  | n + 1 => f6_rightOnlyInFirst_B5 k k2 (f6_rightOnlyInFirst_L5 k k2 n)
theorem f6_rightOnlyInFirst_L5_s (k : Nat) (k2 : Nat) (n : Nat) (x2 : Int32) (x3 : Int32) (x4 : Int32) (h : Hp) : f6_rightOnlyInFirst_L5 k k2 (n + 1) x2 x3 x4 h = f6_rightOnlyInFirst_B5 k k2 (f6_rightOnlyInFirst_L5 k k2 n) x2 x3 x4 h := rfl
theorem f6_rightOnlyInFirst_L5_ok {k : Nat} {k2 : Nat} (hk : SR E k) (hk2 : SR E k2) (X : XC E RX6 cX6_rightOnlyInFirst 6 (some .int) A p s m args meth c) : ∀ (n : Nat) (x2 : Int32) (x3 : Int32) (x4 : Int32) (h : Hp), f6_rightOnlyInFirst_L5 k k2 n x2 x3 x4 h = some (r, h') → VM E 6 A p l e 4 s m args below meth c (Qi E A r h') 5 [(0, .ref (eA E k)), (1, .ref (eA E k2)), (2, .int x2), (3, .int x3), (4, .int x4)] [] h := by
  intro n
  induction n with
  | zero =>
    intro x2 x3 x4 h q
    have q : (none : Re) = some (r, h') := q
    cases q
  | succ n ih =>
    intro x2 x3 x4 h q
    exact f6_rightOnlyInFirst_B5_ok hk hk2 X ih q
def f6_rightOnlyInFirst_e (k : Nat) (k2 : Nat) (x2 : Int32) (h : Hp) : Re :=
  f6_rightOnlyInFirst_L5 k k2 FU x2 0 0 h
set_option maxRecDepth 20000 in
set_option maxHeartbeats 4000000 in
theorem f6_rightOnlyInFirst_e_ok {k : Nat} {k2 : Nat} (hk : SR E k) (hk2 : SR E k2) (X : XC E RX6 cX6_rightOnlyInFirst 6 (some .int) A p s m args meth c) {x2 : Int32} {h : Hp} (hf0 : f6_rightOnlyInFirst_e k k2 x2 h = some (r, h')) : VM E 6 A p l e 4 s m args below meth c (Qi E A r h') 0 [(0, .ref (eA E k)), (1, .ref (eA E k2)), (2, .int x2)] [] h := by
  unfold f6_rightOnlyInFirst_e at hf0
  have hf1 := hf0
  refine V_iconst X (v := 0) (by decide) dX6_rightOnlyInFirst_0 ?_
  refine V_istore_n X (by decide) rfl dX6_rightOnlyInFirst_1 ?_
  refine V_iconst X (v := 0) (by decide) dX6_rightOnlyInFirst_2 ?_
  refine V_istore X (by decide) rfl dX6_rightOnlyInFirst_3 ?_
  exact V_sub [2, 3, 4, 1, 0] rfl (f6_rightOnlyInFirst_L5_ok hk hk2 X FU _ _ _ _ hf1)
def f6_rightOnlyInFirst (k : Nat) (k2 : Nat) (x2 : Int32) (h : Hp) : Re := f6_rightOnlyInFirst_e k k2 x2 h
theorem f6_rightOnlyInFirst_ok {k : Nat} {k2 : Nat} (hk : SR E k) (hk2 : SR E k2) {x2 : Int32} {h : Hp} {q : Int32 × Hp} (hf0 : f6_rightOnlyInFirst k k2 x2 h = some q) : SMi l E 4 yX6_rightOnlyInFirst cX6_rightOnlyInFirst 6 (some .int) [.ref (eA E k), .ref (eA E k2), .int x2] h q.1 q.2 :=
  SMi.of (by decide +kernel) (Nat.le_of_ble_eq_true rfl) (fun p e s m args below meth c A X => f6_rightOnlyInFirst_e_ok hk hk2 X (r := q.1) (h' := q.2) hf0)
def f7_set_e (x1 : Int32) (x2 : Int32) (h : Hp) : Re :=
  (f2_stage  h).bind fun c1 => (f1_changeSetting x1 x2 c1.2).bind fun c3 => (f2_recordUnlessError c3.1 c3.2).bind fun c5 => some (c5.1, c5.2)
set_option maxRecDepth 20000 in
set_option maxHeartbeats 4000000 in
theorem f7_set_e_ok (hE : IW E) (X : XC E RX7 cX7_set 3 (some .int) A p s m args meth c) {x1 : Int32} {x2 : Int32} {h : Hp} (hf0 : f7_set_e x1 x2 h = some (r, h')) : VM E 3 A p l e 3 s m args below meth c (Qi E A r h') 0 [(0, .ref (eA E 0)), (1, .int x1), (2, .int x2)] [] h := by
  unfold f7_set_e at hf0
  have hf1 := hf0
  refine V_aload_n X 0 rfl dX7_set_0 ?_
  refine G_X7_3_29 hE X dX7_set_1 ?_
  refine V_aload_n X 0 rfl dX7_set_4 ?_
  refine G_X7_0_10 hE X dX7_set_5 ?_
  obtain ⟨c1, e_c1, hf3⟩ := obd hf1
  refine V_callVv X (OB_8 hE) rfl rfl (f2_stage_ok hE e_c1) ys_X2_stage yw_X2_stage ml_X7_40 rfl rfl ⟨Nat.le_of_ble_eq_true rfl, Nat.le_of_ble_eq_true rfl⟩ ⟨Nat.zero_le _, Nat.zero_le _⟩ (Nat.le_of_ble_eq_true rfl) dX7_set_8 ?_
  refine V_aload_n X 0 rfl dX7_set_11 ?_
  refine G_X7_3_29 hE X dX7_set_12 ?_
  refine V_aload_n X 0 rfl dX7_set_15 ?_
  refine G_X7_0_10 hE X dX7_set_16 ?_
  refine V_iload_n X 1 rfl dX7_set_19 ?_
  refine V_iload_n X 2 rfl dX7_set_20 ?_
  obtain ⟨c3, e_c3, hf5⟩ := obd hf3
  refine V_callSi X (f1_changeSetting_ok hE e_c3) ys_X1_changeSetting yw_X1_changeSetting ml_X7_44 rfl rfl ⟨Nat.le_of_ble_eq_true rfl, Nat.le_of_ble_eq_true rfl⟩ ⟨Nat.zero_le _, Nat.zero_le _⟩ (Nat.le_of_ble_eq_true rfl) dX7_set_21 ?_
  obtain ⟨c5, e_c5, hf7⟩ := obd hf5
  refine V_callVi X (OB_8 hE) rfl rfl (f2_recordUnlessError_ok hE e_c5) ys_X2_recordUnlessError yw_X2_recordUnlessError ml_X7_50 rfl rfl ⟨Nat.le_of_ble_eq_true rfl, Nat.le_of_ble_eq_true rfl⟩ ⟨Nat.zero_le _, Nat.zero_le _⟩ (Nat.le_of_ble_eq_true rfl) dX7_set_24 ?_
  exact V_iret X rfl hf7 dX7_set_27
def f7_set (x1 : Int32) (x2 : Int32) (h : Hp) : Re := f7_set_e x1 x2 h
theorem f7_set_ok (hE : IW E) {x1 : Int32} {x2 : Int32} {h : Hp} {q : Int32 × Hp} (hf0 : f7_set x1 x2 h = some q) : SMi l E 3 yX7_set cX7_set 3 (some .int) [.ref (eA E 0), .int x1, .int x2] h q.1 q.2 :=
  SMi.of (by decide +kernel) (Nat.le_of_ble_eq_true rfl) (fun p e s m args below meth c A X => f7_set_e_ok hE X (r := q.1) (h' := q.2) hf0)
def f7_pattern_e (x1 : Int32) (x2 : Int32) (h : Hp) : Re :=
  (f2_stage  h).bind fun c1 => (f1_layPattern x1 x2 c1.2).bind fun c3 => (f2_recordUnlessError c3.1 c3.2).bind fun c5 => some (c5.1, c5.2)
set_option maxRecDepth 20000 in
set_option maxHeartbeats 4000000 in
theorem f7_pattern_e_ok (hE : IW E) (X : XC E RX7 cX7_pattern 3 (some .int) A p s m args meth c) {x1 : Int32} {x2 : Int32} {h : Hp} (hf0 : f7_pattern_e x1 x2 h = some (r, h')) : VM E 3 A p l e 3 s m args below meth c (Qi E A r h') 0 [(0, .ref (eA E 0)), (1, .int x1), (2, .int x2)] [] h := by
  unfold f7_pattern_e at hf0
  have hf1 := hf0
  refine V_aload_n X 0 rfl dX7_pattern_0 ?_
  refine G_X7_3_29 hE X dX7_pattern_1 ?_
  refine V_aload_n X 0 rfl dX7_pattern_4 ?_
  refine G_X7_0_10 hE X dX7_pattern_5 ?_
  obtain ⟨c1, e_c1, hf3⟩ := obd hf1
  refine V_callVv X (OB_8 hE) rfl rfl (f2_stage_ok hE e_c1) ys_X2_stage yw_X2_stage ml_X7_40 rfl rfl ⟨Nat.le_of_ble_eq_true rfl, Nat.le_of_ble_eq_true rfl⟩ ⟨Nat.zero_le _, Nat.zero_le _⟩ (Nat.le_of_ble_eq_true rfl) dX7_pattern_8 ?_
  refine V_aload_n X 0 rfl dX7_pattern_11 ?_
  refine G_X7_3_29 hE X dX7_pattern_12 ?_
  refine V_aload_n X 0 rfl dX7_pattern_15 ?_
  refine G_X7_0_10 hE X dX7_pattern_16 ?_
  refine V_iload_n X 1 rfl dX7_pattern_19 ?_
  refine V_iload_n X 2 rfl dX7_pattern_20 ?_
  obtain ⟨c3, e_c3, hf5⟩ := obd hf3
  refine V_callSi X (f1_layPattern_ok hE e_c3) ys_X1_layPattern yw_X1_layPattern ml_X7_54 rfl rfl ⟨Nat.le_of_ble_eq_true rfl, Nat.le_of_ble_eq_true rfl⟩ ⟨Nat.zero_le _, Nat.zero_le _⟩ (Nat.le_of_ble_eq_true rfl) dX7_pattern_21 ?_
  obtain ⟨c5, e_c5, hf7⟩ := obd hf5
  refine V_callVi X (OB_8 hE) rfl rfl (f2_recordUnlessError_ok hE e_c5) ys_X2_recordUnlessError yw_X2_recordUnlessError ml_X7_50 rfl rfl ⟨Nat.le_of_ble_eq_true rfl, Nat.le_of_ble_eq_true rfl⟩ ⟨Nat.zero_le _, Nat.zero_le _⟩ (Nat.le_of_ble_eq_true rfl) dX7_pattern_24 ?_
  exact V_iret X rfl hf7 dX7_pattern_27
def f7_pattern (x1 : Int32) (x2 : Int32) (h : Hp) : Re := f7_pattern_e x1 x2 h
theorem f7_pattern_ok (hE : IW E) {x1 : Int32} {x2 : Int32} {h : Hp} {q : Int32 × Hp} (hf0 : f7_pattern x1 x2 h = some q) : SMi l E 3 yX7_pattern cX7_pattern 3 (some .int) [.ref (eA E 0), .int x1, .int x2] h q.1 q.2 :=
  SMi.of (by decide +kernel) (Nat.le_of_ble_eq_true rfl) (fun p e s m args below meth c A X => f7_pattern_e_ok hE X (r := q.1) (h' := q.2) hf0)
def f7_take_e (x1 : Int32) (x2 : Int32) (h : Hp) : Re :=
  (f2_stage  h).bind fun c1 => (f1_takeFunnel x1 x2 c1.2).bind fun c3 => (f2_recordUnlessError c3.1 c3.2).bind fun c5 => some (c5.1, c5.2)
set_option maxRecDepth 20000 in
set_option maxHeartbeats 4000000 in
theorem f7_take_e_ok (hE : IW E) (X : XC E RX7 cX7_take 3 (some .int) A p s m args meth c) {x1 : Int32} {x2 : Int32} {h : Hp} (hf0 : f7_take_e x1 x2 h = some (r, h')) : VM E 3 A p l e 4 s m args below meth c (Qi E A r h') 0 [(0, .ref (eA E 0)), (1, .int x1), (2, .int x2)] [] h := by
  unfold f7_take_e at hf0
  have hf1 := hf0
  refine V_aload_n X 0 rfl dX7_take_0 ?_
  refine G_X7_3_29 hE X dX7_take_1 ?_
  refine V_aload_n X 0 rfl dX7_take_4 ?_
  refine G_X7_0_10 hE X dX7_take_5 ?_
  obtain ⟨c1, e_c1, hf3⟩ := obd hf1
  refine V_callVv X (OB_8 hE) rfl rfl (f2_stage_ok hE e_c1) ys_X2_stage yw_X2_stage ml_X7_40 rfl rfl ⟨Nat.le_of_ble_eq_true rfl, Nat.le_of_ble_eq_true rfl⟩ ⟨Nat.zero_le _, Nat.zero_le _⟩ (Nat.le_of_ble_eq_true rfl) dX7_take_8 ?_
  refine V_aload_n X 0 rfl dX7_take_11 ?_
  refine G_X7_3_29 hE X dX7_take_12 ?_
  refine V_aload_n X 0 rfl dX7_take_15 ?_
  refine G_X7_0_10 hE X dX7_take_16 ?_
  refine V_iload_n X 1 rfl dX7_take_19 ?_
  refine V_iload_n X 2 rfl dX7_take_20 ?_
  obtain ⟨c3, e_c3, hf5⟩ := obd hf3
  refine V_callSi X (f1_takeFunnel_ok hE e_c3) ys_X1_takeFunnel yw_X1_takeFunnel ml_X7_57 rfl rfl ⟨Nat.le_of_ble_eq_true rfl, Nat.le_of_ble_eq_true rfl⟩ ⟨Nat.zero_le _, Nat.zero_le _⟩ (Nat.le_of_ble_eq_true rfl) dX7_take_21 ?_
  obtain ⟨c5, e_c5, hf7⟩ := obd hf5
  refine V_callVi X (OB_8 hE) rfl rfl (f2_recordUnlessError_ok hE e_c5) ys_X2_recordUnlessError yw_X2_recordUnlessError ml_X7_50 rfl rfl ⟨Nat.le_of_ble_eq_true rfl, Nat.le_of_ble_eq_true rfl⟩ ⟨Nat.zero_le _, Nat.zero_le _⟩ (Nat.le_of_ble_eq_true rfl) dX7_take_24 ?_
  exact V_iret X rfl hf7 dX7_take_27
def f7_take (x1 : Int32) (x2 : Int32) (h : Hp) : Re := f7_take_e x1 x2 h
theorem f7_take_ok (hE : IW E) {x1 : Int32} {x2 : Int32} {h : Hp} {q : Int32 × Hp} (hf0 : f7_take x1 x2 h = some q) : SMi l E 4 yX7_take cX7_take 3 (some .int) [.ref (eA E 0), .int x1, .int x2] h q.1 q.2 :=
  SMi.of (by decide +kernel) (Nat.le_of_ble_eq_true rfl) (fun p e s m args below meth c A X => f7_take_e_ok hE X (r := q.1) (h' := q.2) hf0)
def f7_fill_e (x1 : Int32) (x2 : Int32) (h : Hp) : Re :=
  (f2_stage  h).bind fun c1 => (f1_fillFunnel x1 x2 c1.2).bind fun c3 => (f2_recordUnlessError c3.1 c3.2).bind fun c5 => some (c5.1, c5.2)
set_option maxRecDepth 20000 in
set_option maxHeartbeats 4000000 in
theorem f7_fill_e_ok (hE : IW E) (X : XC E RX7 cX7_fill 3 (some .int) A p s m args meth c) {x1 : Int32} {x2 : Int32} {h : Hp} (hf0 : f7_fill_e x1 x2 h = some (r, h')) : VM E 3 A p l e 3 s m args below meth c (Qi E A r h') 0 [(0, .ref (eA E 0)), (1, .int x1), (2, .int x2)] [] h := by
  unfold f7_fill_e at hf0
  have hf1 := hf0
  refine V_aload_n X 0 rfl dX7_fill_0 ?_
  refine G_X7_3_29 hE X dX7_fill_1 ?_
  refine V_aload_n X 0 rfl dX7_fill_4 ?_
  refine G_X7_0_10 hE X dX7_fill_5 ?_
  obtain ⟨c1, e_c1, hf3⟩ := obd hf1
  refine V_callVv X (OB_8 hE) rfl rfl (f2_stage_ok hE e_c1) ys_X2_stage yw_X2_stage ml_X7_40 rfl rfl ⟨Nat.le_of_ble_eq_true rfl, Nat.le_of_ble_eq_true rfl⟩ ⟨Nat.zero_le _, Nat.zero_le _⟩ (Nat.le_of_ble_eq_true rfl) dX7_fill_8 ?_
  refine V_aload_n X 0 rfl dX7_fill_11 ?_
  refine G_X7_3_29 hE X dX7_fill_12 ?_
  refine V_aload_n X 0 rfl dX7_fill_15 ?_
  refine G_X7_0_10 hE X dX7_fill_16 ?_
  refine V_iload_n X 1 rfl dX7_fill_19 ?_
  refine V_iload_n X 2 rfl dX7_fill_20 ?_
  obtain ⟨c3, e_c3, hf5⟩ := obd hf3
  refine V_callSi X (f1_fillFunnel_ok hE e_c3) ys_X1_fillFunnel yw_X1_fillFunnel ml_X7_60 rfl rfl ⟨Nat.le_of_ble_eq_true rfl, Nat.le_of_ble_eq_true rfl⟩ ⟨Nat.zero_le _, Nat.zero_le _⟩ (Nat.le_of_ble_eq_true rfl) dX7_fill_21 ?_
  obtain ⟨c5, e_c5, hf7⟩ := obd hf5
  refine V_callVi X (OB_8 hE) rfl rfl (f2_recordUnlessError_ok hE e_c5) ys_X2_recordUnlessError yw_X2_recordUnlessError ml_X7_50 rfl rfl ⟨Nat.le_of_ble_eq_true rfl, Nat.le_of_ble_eq_true rfl⟩ ⟨Nat.zero_le _, Nat.zero_le _⟩ (Nat.le_of_ble_eq_true rfl) dX7_fill_24 ?_
  exact V_iret X rfl hf7 dX7_fill_27
def f7_fill (x1 : Int32) (x2 : Int32) (h : Hp) : Re := f7_fill_e x1 x2 h
theorem f7_fill_ok (hE : IW E) {x1 : Int32} {x2 : Int32} {h : Hp} {q : Int32 × Hp} (hf0 : f7_fill x1 x2 h = some q) : SMi l E 3 yX7_fill cX7_fill 3 (some .int) [.ref (eA E 0), .int x1, .int x2] h q.1 q.2 :=
  SMi.of (by decide +kernel) (Nat.le_of_ble_eq_true rfl) (fun p e s m args below meth c A X => f7_fill_e_ok hE X (r := q.1) (h' := q.2) hf0)
def f7_pour_e (x1 : Int32) (x2 : Int32) (x3 : Int32) (x4 : Int32) (h : Hp) : Re :=
  (f2_stage  h).bind fun c1 => (f1_pourGrains x1 x2 x3 x4 c1.2).bind fun c3 => (f2_recordUnlessError c3.1 c3.2).bind fun c5 => some (c5.1, c5.2)
set_option maxRecDepth 20000 in
set_option maxHeartbeats 4000000 in
theorem f7_pour_e_ok (hE : IW E) (X : XC E RX7 cX7_pour 5 (some .int) A p s m args meth c) {x1 : Int32} {x2 : Int32} {x3 : Int32} {x4 : Int32} {h : Hp} (hf0 : f7_pour_e x1 x2 x3 x4 h = some (r, h')) : VM E 5 A p l e 3 s m args below meth c (Qi E A r h') 0 [(0, .ref (eA E 0)), (1, .int x1), (2, .int x2), (3, .int x3), (4, .int x4)] [] h := by
  unfold f7_pour_e at hf0
  have hf1 := hf0
  refine V_aload_n X 0 rfl dX7_pour_0 ?_
  refine G_X7_3_29 hE X dX7_pour_1 ?_
  refine V_aload_n X 0 rfl dX7_pour_4 ?_
  refine G_X7_0_10 hE X dX7_pour_5 ?_
  obtain ⟨c1, e_c1, hf3⟩ := obd hf1
  refine V_callVv X (OB_8 hE) rfl rfl (f2_stage_ok hE e_c1) ys_X2_stage yw_X2_stage ml_X7_40 rfl rfl ⟨Nat.le_of_ble_eq_true rfl, Nat.le_of_ble_eq_true rfl⟩ ⟨Nat.zero_le _, Nat.zero_le _⟩ (Nat.le_of_ble_eq_true rfl) dX7_pour_8 ?_
  refine V_aload_n X 0 rfl dX7_pour_11 ?_
  refine G_X7_3_29 hE X dX7_pour_12 ?_
  refine V_aload_n X 0 rfl dX7_pour_15 ?_
  refine G_X7_0_10 hE X dX7_pour_16 ?_
  refine V_iload_n X 1 rfl dX7_pour_19 ?_
  refine V_iload_n X 2 rfl dX7_pour_20 ?_
  refine V_iload_n X 3 rfl dX7_pour_21 ?_
  refine V_iload X 4 rfl dX7_pour_22 ?_
  obtain ⟨c3, e_c3, hf5⟩ := obd hf3
  refine V_callSi X (f1_pourGrains_ok hE e_c3) ys_X1_pourGrains yw_X1_pourGrains ml_X7_63 rfl rfl ⟨Nat.le_of_ble_eq_true rfl, Nat.le_of_ble_eq_true rfl⟩ ⟨Nat.zero_le _, Nat.zero_le _⟩ (Nat.le_of_ble_eq_true rfl) dX7_pour_24 ?_
  obtain ⟨c5, e_c5, hf7⟩ := obd hf5
  refine V_callVi X (OB_8 hE) rfl rfl (f2_recordUnlessError_ok hE e_c5) ys_X2_recordUnlessError yw_X2_recordUnlessError ml_X7_50 rfl rfl ⟨Nat.le_of_ble_eq_true rfl, Nat.le_of_ble_eq_true rfl⟩ ⟨Nat.zero_le _, Nat.zero_le _⟩ (Nat.le_of_ble_eq_true rfl) dX7_pour_27 ?_
  exact V_iret X rfl hf7 dX7_pour_30
def f7_pour (x1 : Int32) (x2 : Int32) (x3 : Int32) (x4 : Int32) (h : Hp) : Re := f7_pour_e x1 x2 x3 x4 h
theorem f7_pour_ok (hE : IW E) {x1 : Int32} {x2 : Int32} {x3 : Int32} {x4 : Int32} {h : Hp} {q : Int32 × Hp} (hf0 : f7_pour x1 x2 x3 x4 h = some q) : SMi l E 3 yX7_pour cX7_pour 5 (some .int) [.ref (eA E 0), .int x1, .int x2, .int x3, .int x4] h q.1 q.2 :=
  SMi.of (by decide +kernel) (Nat.le_of_ble_eq_true rfl) (fun p e s m args below meth c A X => f7_pour_e_ok hE X (r := q.1) (h' := q.2) hf0)
def f7_scrape_e (x1 : Int32) (x2 : Int32) (x3 : Int32) (h : Hp) : Re :=
  (f2_stage  h).bind fun c1 => (f1_scrapeBare x1 x2 x3 c1.2).bind fun c3 => (f2_recordUnlessError c3.1 c3.2).bind fun c5 => some (c5.1, c5.2)
set_option maxRecDepth 20000 in
set_option maxHeartbeats 4000000 in
theorem f7_scrape_e_ok (hE : IW E) (X : XC E RX7 cX7_scrape 4 (some .int) A p s m args meth c) {x1 : Int32} {x2 : Int32} {x3 : Int32} {h : Hp} (hf0 : f7_scrape_e x1 x2 x3 h = some (r, h')) : VM E 4 A p l e 3 s m args below meth c (Qi E A r h') 0 [(0, .ref (eA E 0)), (1, .int x1), (2, .int x2), (3, .int x3)] [] h := by
  unfold f7_scrape_e at hf0
  have hf1 := hf0
  refine V_aload_n X 0 rfl dX7_scrape_0 ?_
  refine G_X7_3_29 hE X dX7_scrape_1 ?_
  refine V_aload_n X 0 rfl dX7_scrape_4 ?_
  refine G_X7_0_10 hE X dX7_scrape_5 ?_
  obtain ⟨c1, e_c1, hf3⟩ := obd hf1
  refine V_callVv X (OB_8 hE) rfl rfl (f2_stage_ok hE e_c1) ys_X2_stage yw_X2_stage ml_X7_40 rfl rfl ⟨Nat.le_of_ble_eq_true rfl, Nat.le_of_ble_eq_true rfl⟩ ⟨Nat.zero_le _, Nat.zero_le _⟩ (Nat.le_of_ble_eq_true rfl) dX7_scrape_8 ?_
  refine V_aload_n X 0 rfl dX7_scrape_11 ?_
  refine G_X7_3_29 hE X dX7_scrape_12 ?_
  refine V_aload_n X 0 rfl dX7_scrape_15 ?_
  refine G_X7_0_10 hE X dX7_scrape_16 ?_
  refine V_iload_n X 1 rfl dX7_scrape_19 ?_
  refine V_iload_n X 2 rfl dX7_scrape_20 ?_
  refine V_iload_n X 3 rfl dX7_scrape_21 ?_
  obtain ⟨c3, e_c3, hf5⟩ := obd hf3
  refine V_callSi X (f1_scrapeBare_ok hE e_c3) ys_X1_scrapeBare yw_X1_scrapeBare ml_X7_67 rfl rfl ⟨Nat.le_of_ble_eq_true rfl, Nat.le_of_ble_eq_true rfl⟩ ⟨Nat.zero_le _, Nat.zero_le _⟩ (Nat.le_of_ble_eq_true rfl) dX7_scrape_22 ?_
  obtain ⟨c5, e_c5, hf7⟩ := obd hf5
  refine V_callVi X (OB_8 hE) rfl rfl (f2_recordUnlessError_ok hE e_c5) ys_X2_recordUnlessError yw_X2_recordUnlessError ml_X7_50 rfl rfl ⟨Nat.le_of_ble_eq_true rfl, Nat.le_of_ble_eq_true rfl⟩ ⟨Nat.zero_le _, Nat.zero_le _⟩ (Nat.le_of_ble_eq_true rfl) dX7_scrape_25 ?_
  exact V_iret X rfl hf7 dX7_scrape_28
def f7_scrape (x1 : Int32) (x2 : Int32) (x3 : Int32) (h : Hp) : Re := f7_scrape_e x1 x2 x3 h
theorem f7_scrape_ok (hE : IW E) {x1 : Int32} {x2 : Int32} {x3 : Int32} {h : Hp} {q : Int32 × Hp} (hf0 : f7_scrape x1 x2 x3 h = some q) : SMi l E 3 yX7_scrape cX7_scrape 4 (some .int) [.ref (eA E 0), .int x1, .int x2, .int x3] h q.1 q.2 :=
  SMi.of (by decide +kernel) (Nat.le_of_ble_eq_true rfl) (fun p e s m args below meth c A X => f7_scrape_e_ok hE X (r := q.1) (h' := q.2) hf0)
def f7_breathe_e (x1 : Int32) (x2 : Int32) (h : Hp) : Re :=
  (f2_stage  h).bind fun c1 => (f1_blow x1 x2 c1.2).bind fun c3 => (f2_recordUnlessError c3.1 c3.2).bind fun c5 => some (c5.1, c5.2)
set_option maxRecDepth 20000 in
set_option maxHeartbeats 4000000 in
theorem f7_breathe_e_ok (hE : IW E) (X : XC E RX7 cX7_breathe 3 (some .int) A p s m args meth c) {x1 : Int32} {x2 : Int32} {h : Hp} (hf0 : f7_breathe_e x1 x2 h = some (r, h')) : VM E 3 A p l e 5 s m args below meth c (Qi E A r h') 0 [(0, .ref (eA E 0)), (1, .int x1), (2, .int x2)] [] h := by
  unfold f7_breathe_e at hf0
  have hf1 := hf0
  refine V_aload_n X 0 rfl dX7_breathe_0 ?_
  refine G_X7_3_29 hE X dX7_breathe_1 ?_
  refine V_aload_n X 0 rfl dX7_breathe_4 ?_
  refine G_X7_0_10 hE X dX7_breathe_5 ?_
  obtain ⟨c1, e_c1, hf3⟩ := obd hf1
  refine V_callVv X (OB_8 hE) rfl rfl (f2_stage_ok hE e_c1) ys_X2_stage yw_X2_stage ml_X7_40 rfl rfl ⟨Nat.le_of_ble_eq_true rfl, Nat.le_of_ble_eq_true rfl⟩ ⟨Nat.zero_le _, Nat.zero_le _⟩ (Nat.le_of_ble_eq_true rfl) dX7_breathe_8 ?_
  refine V_aload_n X 0 rfl dX7_breathe_11 ?_
  refine G_X7_3_29 hE X dX7_breathe_12 ?_
  refine V_aload_n X 0 rfl dX7_breathe_15 ?_
  refine G_X7_0_10 hE X dX7_breathe_16 ?_
  refine V_aload_n X 0 rfl dX7_breathe_19 ?_
  refine G_X7_2_22 hE X dX7_breathe_20 ?_
  refine V_iload_n X 1 rfl dX7_breathe_23 ?_
  refine V_iload_n X 2 rfl dX7_breathe_24 ?_
  obtain ⟨c3, e_c3, hf5⟩ := obd hf3
  refine V_callSi X (f1_blow_ok hE e_c3) ys_X1_blow yw_X1_blow ml_X7_71 rfl rfl ⟨Nat.le_of_ble_eq_true rfl, Nat.le_of_ble_eq_true rfl⟩ ⟨Nat.zero_le _, Nat.zero_le _⟩ (Nat.le_of_ble_eq_true rfl) dX7_breathe_25 ?_
  obtain ⟨c5, e_c5, hf7⟩ := obd hf5
  refine V_callVi X (OB_8 hE) rfl rfl (f2_recordUnlessError_ok hE e_c5) ys_X2_recordUnlessError yw_X2_recordUnlessError ml_X7_50 rfl rfl ⟨Nat.le_of_ble_eq_true rfl, Nat.le_of_ble_eq_true rfl⟩ ⟨Nat.zero_le _, Nat.zero_le _⟩ (Nat.le_of_ble_eq_true rfl) dX7_breathe_28 ?_
  exact V_iret X rfl hf7 dX7_breathe_31
def f7_breathe (x1 : Int32) (x2 : Int32) (h : Hp) : Re := f7_breathe_e x1 x2 h
theorem f7_breathe_ok (hE : IW E) {x1 : Int32} {x2 : Int32} {h : Hp} {q : Int32 × Hp} (hf0 : f7_breathe x1 x2 h = some q) : SMi l E 5 yX7_breathe cX7_breathe 3 (some .int) [.ref (eA E 0), .int x1, .int x2] h q.1 q.2 :=
  SMi.of (by decide +kernel) (Nat.le_of_ble_eq_true rfl) (fun p e s m args below meth c A X => f7_breathe_e_ok hE X (r := q.1) (h' := q.2) hf0)
def f7_close_e (h : Hp) : Re :=
  (f2_stage  h).bind fun c1 => (f1_closeRing  c1.2).bind fun c3 => (f2_recordUnlessError c3.1 c3.2).bind fun c5 => some (c5.1, c5.2)
set_option maxRecDepth 20000 in
set_option maxHeartbeats 4000000 in
theorem f7_close_e_ok (hE : IW E) (X : XC E RX7 cX7_close 1 (some .int) A p s m args meth c) {h : Hp} (hf0 : f7_close_e  h = some (r, h')) : VM E 1 A p l e 6 s m args below meth c (Qi E A r h') 0 [(0, .ref (eA E 0))] [] h := by
  unfold f7_close_e at hf0
  have hf1 := hf0
  refine V_aload_n X 0 rfl dX7_close_0 ?_
  refine G_X7_3_29 hE X dX7_close_1 ?_
  refine V_aload_n X 0 rfl dX7_close_4 ?_
  refine G_X7_0_10 hE X dX7_close_5 ?_
  obtain ⟨c1, e_c1, hf3⟩ := obd hf1
  refine V_callVv X (OB_8 hE) rfl rfl (f2_stage_ok hE e_c1) ys_X2_stage yw_X2_stage ml_X7_40 rfl rfl ⟨Nat.le_of_ble_eq_true rfl, Nat.le_of_ble_eq_true rfl⟩ ⟨Nat.zero_le _, Nat.zero_le _⟩ (Nat.le_of_ble_eq_true rfl) dX7_close_8 ?_
  refine V_aload_n X 0 rfl dX7_close_11 ?_
  refine G_X7_3_29 hE X dX7_close_12 ?_
  refine V_aload_n X 0 rfl dX7_close_15 ?_
  refine G_X7_0_10 hE X dX7_close_16 ?_
  obtain ⟨c3, e_c3, hf5⟩ := obd hf3
  refine V_callSi X (f1_closeRing_ok hE e_c3) ys_X1_closeRing yw_X1_closeRing ml_X7_75 rfl rfl ⟨Nat.le_of_ble_eq_true rfl, Nat.le_of_ble_eq_true rfl⟩ ⟨Nat.zero_le _, Nat.zero_le _⟩ (Nat.le_of_ble_eq_true rfl) dX7_close_19 ?_
  obtain ⟨c5, e_c5, hf7⟩ := obd hf5
  refine V_callVi X (OB_8 hE) rfl rfl (f2_recordUnlessError_ok hE e_c5) ys_X2_recordUnlessError yw_X2_recordUnlessError ml_X7_50 rfl rfl ⟨Nat.le_of_ble_eq_true rfl, Nat.le_of_ble_eq_true rfl⟩ ⟨Nat.zero_le _, Nat.zero_le _⟩ (Nat.le_of_ble_eq_true rfl) dX7_close_22 ?_
  exact V_iret X rfl hf7 dX7_close_25
def f7_close (h : Hp) : Re := f7_close_e  h
theorem f7_close_ok (hE : IW E) {h : Hp} {q : Int32 × Hp} (hf0 : f7_close  h = some q) : SMi l E 6 yX7_close cX7_close 1 (some .int) [.ref (eA E 0)] h q.1 q.2 :=
  SMi.of (by decide +kernel) (Nat.le_of_ble_eq_true rfl) (fun p e s m args below meth c A X => f7_close_e_ok hE X (r := q.1) (h' := q.2) hf0)
def f7_sweep_e (h : Hp) : Re :=
  (f2_stage  h).bind fun c1 => (f1_sweepQuarter  c1.2).bind fun c3 => (f2_recordUnlessError c3.1 c3.2).bind fun c5 => some (c5.1, c5.2)
set_option maxRecDepth 20000 in
set_option maxHeartbeats 4000000 in
theorem f7_sweep_e_ok (hE : IW E) (X : XC E RX7 cX7_sweep 1 (some .int) A p s m args meth c) {h : Hp} (hf0 : f7_sweep_e  h = some (r, h')) : VM E 1 A p l e 4 s m args below meth c (Qi E A r h') 0 [(0, .ref (eA E 0))] [] h := by
  unfold f7_sweep_e at hf0
  have hf1 := hf0
  refine V_aload_n X 0 rfl dX7_sweep_0 ?_
  refine G_X7_3_29 hE X dX7_sweep_1 ?_
  refine V_aload_n X 0 rfl dX7_sweep_4 ?_
  refine G_X7_0_10 hE X dX7_sweep_5 ?_
  obtain ⟨c1, e_c1, hf3⟩ := obd hf1
  refine V_callVv X (OB_8 hE) rfl rfl (f2_stage_ok hE e_c1) ys_X2_stage yw_X2_stage ml_X7_40 rfl rfl ⟨Nat.le_of_ble_eq_true rfl, Nat.le_of_ble_eq_true rfl⟩ ⟨Nat.zero_le _, Nat.zero_le _⟩ (Nat.le_of_ble_eq_true rfl) dX7_sweep_8 ?_
  refine V_aload_n X 0 rfl dX7_sweep_11 ?_
  refine G_X7_3_29 hE X dX7_sweep_12 ?_
  refine V_aload_n X 0 rfl dX7_sweep_15 ?_
  refine G_X7_0_10 hE X dX7_sweep_16 ?_
  obtain ⟨c3, e_c3, hf5⟩ := obd hf3
  refine V_callSi X (f1_sweepQuarter_ok hE e_c3) ys_X1_sweepQuarter yw_X1_sweepQuarter ml_X7_79 rfl rfl ⟨Nat.le_of_ble_eq_true rfl, Nat.le_of_ble_eq_true rfl⟩ ⟨Nat.zero_le _, Nat.zero_le _⟩ (Nat.le_of_ble_eq_true rfl) dX7_sweep_19 ?_
  obtain ⟨c5, e_c5, hf7⟩ := obd hf5
  refine V_callVi X (OB_8 hE) rfl rfl (f2_recordUnlessError_ok hE e_c5) ys_X2_recordUnlessError yw_X2_recordUnlessError ml_X7_50 rfl rfl ⟨Nat.le_of_ble_eq_true rfl, Nat.le_of_ble_eq_true rfl⟩ ⟨Nat.zero_le _, Nat.zero_le _⟩ (Nat.le_of_ble_eq_true rfl) dX7_sweep_22 ?_
  exact V_iret X rfl hf7 dX7_sweep_25
def f7_sweep (h : Hp) : Re := f7_sweep_e  h
theorem f7_sweep_ok (hE : IW E) {h : Hp} {q : Int32 × Hp} (hf0 : f7_sweep  h = some q) : SMi l E 4 yX7_sweep cX7_sweep 1 (some .int) [.ref (eA E 0)] h q.1 q.2 :=
  SMi.of (by decide +kernel) (Nat.le_of_ble_eq_true rfl) (fun p e s m args below meth c A X => f7_sweep_e_ok hE X (r := q.1) (h' := q.2) hf0)
def f7_at_e (x1 : Int32) (x2 : Int32) (x3 : Int32) (x4 : Int32) (h : Hp) : Re :=
  (f7_isPlace x1 x2 x3 h).bind fun c1 => if c1.1 = 0 then (some ((-1), c1.2)) else (if x4 = 0 then ((f5_colour 1 x1 x2 x3 c1.2).bind fun c6 => some (c6.1, c6.2)) else if x4 = 1 then ((f5_grains 1 x1 x2 x3 c1.2).bind fun c9 => some (c9.1, c9.2)) else if x4 = 2 then ((f5_wanted 1 x1 x2 x3 c1.2).bind fun c12 => some (c12.1, c12.2)) else if x4 = 3 then ((f5_isRight 1 x1 x2 x3 c1.2).bind fun c15 => (f7_bit c15.1 c15.2).bind fun c17 => some (c17.1, c17.2)) else if x4 = 4 then ((f5_patternPlace 1 x1 x3 c1.2).bind fun c20 => some (c20.1, c20.2)) else (some ((-2), c1.2)))
set_option maxRecDepth 20000 in
set_option maxHeartbeats 4000000 in
theorem f7_at_e_ok (hE : IW E) (X : XC E RX7 cX7_at 5 (some .int) A p s m args meth c) {x1 : Int32} {x2 : Int32} {x3 : Int32} {x4 : Int32} {h : Hp} (hf0 : f7_at_e x1 x2 x3 x4 h = some (r, h')) : VM E 5 A p l e 4 s m args below meth c (Qi E A r h') 0 [(0, .ref (eA E 0)), (1, .int x1), (2, .int x2), (3, .int x3), (4, .int x4)] [] h := by
  unfold f7_at_e at hf0
  have hf1 := hf0
  refine V_iload_n X 1 rfl dX7_at_0 ?_
  refine V_iload_n X 2 rfl dX7_at_1 ?_
  refine V_iload_n X 3 rfl dX7_at_2 ?_
  obtain ⟨c1, e_c1, hf3⟩ := obd hf1
  refine V_callSi X (f7_isPlace_ok e_c1) ys_X7_isPlace yw_X7_isPlace ml_X7_82 rfl rfl ⟨Nat.le_of_ble_eq_true rfl, Nat.le_of_ble_eq_true rfl⟩ ⟨Nat.zero_le _, Nat.zero_le _⟩ (Nat.le_of_ble_eq_true rfl) dX7_at_3 ?_
  refine V_if_ne X (tgt := 11) (by decide) dX7_at_6 (fun q6 => ?_) (fun q6 => ?_)
  · have hf4 := ife hf3 q6
    refine V_iload X 4 rfl dX7_at_11 ?_
    rcases oif hf4 with ⟨q13_0, hf13_0⟩ | ⟨q13_0, hf13_0⟩
    · refine V_table X (tgt := 48) (off := 35) (by rw [q13_0]; decide) (by decide) (by decide) dX7_at_13 ?_
      have hf6 := hf13_0
      refine V_aload_n X 0 rfl dX7_at_48 ?_
      refine G_X7_0_10 hE X dX7_at_49 ?_
      refine V_iload_n X 1 rfl dX7_at_52 ?_
      refine V_iload_n X 2 rfl dX7_at_53 ?_
      refine V_iload_n X 3 rfl dX7_at_54 ?_
      obtain ⟨c6, e_c6, hf8⟩ := obd hf6
      refine V_callVi X (SR_1 hE).1 rfl rfl (f5_colour_ok (SR_1 hE) e_c6) ys_X5_colour yw_X5_colour ml_X7_86 rfl rfl ⟨Nat.le_of_ble_eq_true rfl, Nat.le_of_ble_eq_true rfl⟩ ⟨Nat.zero_le _, Nat.zero_le _⟩ (Nat.le_of_ble_eq_true rfl) dX7_at_55 ?_
      exact V_iret X rfl hf8 dX7_at_58
    rcases oif hf13_0 with ⟨q13_1, hf13_1⟩ | ⟨q13_1, hf13_1⟩
    · refine V_table X (tgt := 59) (off := 46) (by rw [q13_1]; decide) (by decide) (by decide) dX7_at_13 ?_
      have hf9 := hf13_1
      refine V_aload_n X 0 rfl dX7_at_59 ?_
      refine G_X7_0_10 hE X dX7_at_60 ?_
      refine V_iload_n X 1 rfl dX7_at_63 ?_
      refine V_iload_n X 2 rfl dX7_at_64 ?_
      refine V_iload_n X 3 rfl dX7_at_65 ?_
      obtain ⟨c9, e_c9, hf11⟩ := obd hf9
      refine V_callVi X (SR_1 hE).1 rfl rfl (f5_grains_ok (SR_1 hE) e_c9) ys_X5_grains yw_X5_grains ml_X7_90 rfl rfl ⟨Nat.le_of_ble_eq_true rfl, Nat.le_of_ble_eq_true rfl⟩ ⟨Nat.zero_le _, Nat.zero_le _⟩ (Nat.le_of_ble_eq_true rfl) dX7_at_66 ?_
      exact V_iret X rfl hf11 dX7_at_69
    rcases oif hf13_1 with ⟨q13_2, hf13_2⟩ | ⟨q13_2, hf13_2⟩
    · refine V_table X (tgt := 70) (off := 57) (by rw [q13_2]; decide) (by decide) (by decide) dX7_at_13 ?_
      have hf12 := hf13_2
      refine V_aload_n X 0 rfl dX7_at_70 ?_
      refine G_X7_0_10 hE X dX7_at_71 ?_
      refine V_iload_n X 1 rfl dX7_at_74 ?_
      refine V_iload_n X 2 rfl dX7_at_75 ?_
      refine V_iload_n X 3 rfl dX7_at_76 ?_
      obtain ⟨c12, e_c12, hf14⟩ := obd hf12
      refine V_callVi X (SR_1 hE).1 rfl rfl (f5_wanted_ok (SR_1 hE) e_c12) ys_X5_wanted yw_X5_wanted ml_X7_93 rfl rfl ⟨Nat.le_of_ble_eq_true rfl, Nat.le_of_ble_eq_true rfl⟩ ⟨Nat.zero_le _, Nat.zero_le _⟩ (Nat.le_of_ble_eq_true rfl) dX7_at_77 ?_
      exact V_iret X rfl hf14 dX7_at_80
    rcases oif hf13_2 with ⟨q13_3, hf13_3⟩ | ⟨q13_3, hf13_3⟩
    · refine V_table X (tgt := 81) (off := 68) (by rw [q13_3]; decide) (by decide) (by decide) dX7_at_13 ?_
      have hf15 := hf13_3
      refine V_aload_n X 0 rfl dX7_at_81 ?_
      refine G_X7_0_10 hE X dX7_at_82 ?_
      refine V_iload_n X 1 rfl dX7_at_85 ?_
      refine V_iload_n X 2 rfl dX7_at_86 ?_
      refine V_iload_n X 3 rfl dX7_at_87 ?_
      obtain ⟨c15, e_c15, hf17⟩ := obd hf15
      refine V_callVi X (SR_1 hE).1 rfl rfl (f5_isRight_ok (SR_1 hE) e_c15) ys_X5_isRight yw_X5_isRight ml_X7_96 rfl rfl ⟨Nat.le_of_ble_eq_true rfl, Nat.le_of_ble_eq_true rfl⟩ ⟨Nat.zero_le _, Nat.zero_le _⟩ (Nat.le_of_ble_eq_true rfl) dX7_at_88 ?_
      obtain ⟨c17, e_c17, hf19⟩ := obd hf17
      refine V_callSi X (f7_bit_ok e_c17) ys_X7_bit yw_X7_bit ml_X7_99 rfl rfl ⟨Nat.le_of_ble_eq_true rfl, Nat.le_of_ble_eq_true rfl⟩ ⟨Nat.zero_le _, Nat.zero_le _⟩ (Nat.le_of_ble_eq_true rfl) dX7_at_91 ?_
      exact V_iret X rfl hf19 dX7_at_94
    rcases oif hf13_3 with ⟨q13_4, hf13_4⟩ | ⟨q13_4, hf13_4⟩
    · refine V_table X (tgt := 95) (off := 82) (by rw [q13_4]; decide) (by decide) (by decide) dX7_at_13 ?_
      have hf20 := hf13_4
      refine V_aload_n X 0 rfl dX7_at_95 ?_
      refine G_X7_0_10 hE X dX7_at_96 ?_
      refine V_iload_n X 1 rfl dX7_at_99 ?_
      refine V_iload_n X 3 rfl dX7_at_100 ?_
      obtain ⟨c20, e_c20, hf22⟩ := obd hf20
      refine V_callVi X (SR_1 hE).1 rfl rfl (f5_patternPlace_ok (SR_1 hE) e_c20) ys_X5_patternPlace yw_X5_patternPlace ml_X7_103 rfl rfl ⟨Nat.le_of_ble_eq_true rfl, Nat.le_of_ble_eq_true rfl⟩ ⟨Nat.zero_le _, Nat.zero_le _⟩ (Nat.le_of_ble_eq_true rfl) dX7_at_101 ?_
      exact V_iret X rfl hf22 dX7_at_104
    · skip
      refine V_table X (tgt := 105) (off := 92) (tsel_out (by have z0 := lv_neT q13_0 (show (0 : Int32).toInt = 0 by decide); have z1 := lv_neT q13_1 (show (1 : Int32).toInt = 1 by decide); have z2 := lv_neT q13_2 (show (2 : Int32).toInt = 2 by decide); have z3 := lv_neT q13_3 (show (3 : Int32).toInt = 3 by decide); have z4 := lv_neT q13_4 (show (4 : Int32).toInt = 4 by decide); omega)) (by decide) (by decide) dX7_at_13 ?_
      have hf23 := hf13_4
      refine V_bipush X (v := -2) (by decide) dX7_at_105 ?_
      exact V_iret X rfl hf23 dX7_at_107
  · have hf4 := ift hf3 q6
    refine V_iconst X (v := -1) (by decide) dX7_at_9 ?_
    exact V_iret X rfl hf4 dX7_at_10
def f7_at (x1 : Int32) (x2 : Int32) (x3 : Int32) (x4 : Int32) (h : Hp) : Re := f7_at_e x1 x2 x3 x4 h
theorem f7_at_ok (hE : IW E) {x1 : Int32} {x2 : Int32} {x3 : Int32} {x4 : Int32} {h : Hp} {q : Int32 × Hp} (hf0 : f7_at x1 x2 x3 x4 h = some q) : SMi l E 4 yX7_at cX7_at 5 (some .int) [.ref (eA E 0), .int x1, .int x2, .int x3, .int x4] h q.1 q.2 :=
  SMi.of (by decide +kernel) (Nat.le_of_ble_eq_true rfl) (fun p e s m args below meth c A X => f7_at_e_ok hE X (r := q.1) (h' := q.2) hf0)
def f7_ofRing_e (x1 : Int32) (x2 : Int32) (h : Hp) : Re :=
  (f7_isRing x1 h).bind fun c1 => if c1.1 = 0 then (some ((-1), c1.2)) else (if x2 = 0 then ((f5_isClosed 1 x1 c1.2).bind fun c6 => (f7_bit c6.1 c6.2).bind fun c8 => some (c8.1, c8.2)) else if x2 = 1 then ((f5_hasPattern 1 x1 c1.2).bind fun c11 => (f7_bit c11.1 c11.2).bind fun c13 => some (c13.1, c13.2)) else if x2 = 2 then ((f6_isWhole x1 c1.2).bind fun c16 => (f7_bit c16.1 c16.2).bind fun c18 => some (c18.1, c18.2)) else if x2 = 3 then ((f6_unlikePlaces x1 c1.2).bind fun c21 => some (c21.1, c21.2)) else if x2 = 4 then ((f6_tally 2 (-1) (-1) x1 c1.2).bind fun c24 => some (c24.1, c24.2)) else if x2 = 5 then ((f6_tally 0 (-1) (-1) x1 c1.2).bind fun c27 => some (c27.1, c27.2)) else if x2 = 6 then ((f6_tally 5 (-1) (-1) x1 c1.2).bind fun c30 => some (c30.1, c30.2)) else (some ((-2), c1.2)))
set_option maxRecDepth 20000 in
set_option maxHeartbeats 4000000 in
theorem f7_ofRing_e_ok (hE : IW E) (X : XC E RX7 cX7_ofRing 3 (some .int) A p s m args meth c) {x1 : Int32} {x2 : Int32} {h : Hp} (hf0 : f7_ofRing_e x1 x2 h = some (r, h')) : VM E 3 A p l e 6 s m args below meth c (Qi E A r h') 0 [(0, .ref (eA E 0)), (1, .int x1), (2, .int x2)] [] h := by
  unfold f7_ofRing_e at hf0
  have hf1 := hf0
  refine V_iload_n X 1 rfl dX7_ofRing_0 ?_
  obtain ⟨c1, e_c1, hf3⟩ := obd hf1
  refine V_callSi X (f7_isRing_ok e_c1) ys_X7_isRing yw_X7_isRing ml_X7_107 rfl rfl ⟨Nat.le_of_ble_eq_true rfl, Nat.le_of_ble_eq_true rfl⟩ ⟨Nat.zero_le _, Nat.zero_le _⟩ (Nat.le_of_ble_eq_true rfl) dX7_ofRing_1 ?_
  refine V_if_ne X (tgt := 9) (by decide) dX7_ofRing_4 (fun q4 => ?_) (fun q4 => ?_)
  · have hf4 := ife hf3 q4
    refine V_iload_n X 2 rfl dX7_ofRing_9 ?_
    rcases oif hf4 with ⟨q10_0, hf10_0⟩ | ⟨q10_0, hf10_0⟩
    · refine V_table X (tgt := 52) (off := 42) (by rw [q10_0]; decide) (by decide) (by decide) dX7_ofRing_10 ?_
      have hf6 := hf10_0
      refine V_aload_n X 0 rfl dX7_ofRing_52 ?_
      refine G_X7_0_10 hE X dX7_ofRing_53 ?_
      refine V_iload_n X 1 rfl dX7_ofRing_56 ?_
      obtain ⟨c6, e_c6, hf8⟩ := obd hf6
      refine V_callVi X (SR_1 hE).1 rfl rfl (f5_isClosed_ok (SR_1 hE) e_c6) ys_X5_isClosed yw_X5_isClosed ml_X7_111 rfl rfl ⟨Nat.le_of_ble_eq_true rfl, Nat.le_of_ble_eq_true rfl⟩ ⟨Nat.zero_le _, Nat.zero_le _⟩ (Nat.le_of_ble_eq_true rfl) dX7_ofRing_57 ?_
      obtain ⟨c8, e_c8, hf10⟩ := obd hf8
      refine V_callSi X (f7_bit_ok e_c8) ys_X7_bit yw_X7_bit ml_X7_99 rfl rfl ⟨Nat.le_of_ble_eq_true rfl, Nat.le_of_ble_eq_true rfl⟩ ⟨Nat.zero_le _, Nat.zero_le _⟩ (Nat.le_of_ble_eq_true rfl) dX7_ofRing_60 ?_
      exact V_iret X rfl hf10 dX7_ofRing_63
    rcases oif hf10_0 with ⟨q10_1, hf10_1⟩ | ⟨q10_1, hf10_1⟩
    · refine V_table X (tgt := 64) (off := 54) (by rw [q10_1]; decide) (by decide) (by decide) dX7_ofRing_10 ?_
      have hf11 := hf10_1
      refine V_aload_n X 0 rfl dX7_ofRing_64 ?_
      refine G_X7_0_10 hE X dX7_ofRing_65 ?_
      refine V_iload_n X 1 rfl dX7_ofRing_68 ?_
      obtain ⟨c11, e_c11, hf13⟩ := obd hf11
      refine V_callVi X (SR_1 hE).1 rfl rfl (f5_hasPattern_ok (SR_1 hE) e_c11) ys_X5_hasPattern yw_X5_hasPattern ml_X7_114 rfl rfl ⟨Nat.le_of_ble_eq_true rfl, Nat.le_of_ble_eq_true rfl⟩ ⟨Nat.zero_le _, Nat.zero_le _⟩ (Nat.le_of_ble_eq_true rfl) dX7_ofRing_69 ?_
      obtain ⟨c13, e_c13, hf15⟩ := obd hf13
      refine V_callSi X (f7_bit_ok e_c13) ys_X7_bit yw_X7_bit ml_X7_99 rfl rfl ⟨Nat.le_of_ble_eq_true rfl, Nat.le_of_ble_eq_true rfl⟩ ⟨Nat.zero_le _, Nat.zero_le _⟩ (Nat.le_of_ble_eq_true rfl) dX7_ofRing_72 ?_
      exact V_iret X rfl hf15 dX7_ofRing_75
    rcases oif hf10_1 with ⟨q10_2, hf10_2⟩ | ⟨q10_2, hf10_2⟩
    · refine V_table X (tgt := 76) (off := 66) (by rw [q10_2]; decide) (by decide) (by decide) dX7_ofRing_10 ?_
      have hf16 := hf10_2
      refine V_aload_n X 0 rfl dX7_ofRing_76 ?_
      refine G_X7_0_10 hE X dX7_ofRing_77 ?_
      refine V_iload_n X 1 rfl dX7_ofRing_80 ?_
      obtain ⟨c16, e_c16, hf18⟩ := obd hf16
      refine V_callSi X (f6_isWhole_ok hE e_c16) ys_X6_isWhole yw_X6_isWhole ml_X7_117 rfl rfl ⟨Nat.le_of_ble_eq_true rfl, Nat.le_of_ble_eq_true rfl⟩ ⟨Nat.zero_le _, Nat.zero_le _⟩ (Nat.le_of_ble_eq_true rfl) dX7_ofRing_81 ?_
      obtain ⟨c18, e_c18, hf20⟩ := obd hf18
      refine V_callSi X (f7_bit_ok e_c18) ys_X7_bit yw_X7_bit ml_X7_99 rfl rfl ⟨Nat.le_of_ble_eq_true rfl, Nat.le_of_ble_eq_true rfl⟩ ⟨Nat.zero_le _, Nat.zero_le _⟩ (Nat.le_of_ble_eq_true rfl) dX7_ofRing_84 ?_
      exact V_iret X rfl hf20 dX7_ofRing_87
    rcases oif hf10_2 with ⟨q10_3, hf10_3⟩ | ⟨q10_3, hf10_3⟩
    · refine V_table X (tgt := 88) (off := 78) (by rw [q10_3]; decide) (by decide) (by decide) dX7_ofRing_10 ?_
      have hf21 := hf10_3
      refine V_aload_n X 0 rfl dX7_ofRing_88 ?_
      refine G_X7_0_10 hE X dX7_ofRing_89 ?_
      refine V_iload_n X 1 rfl dX7_ofRing_92 ?_
      obtain ⟨c21, e_c21, hf23⟩ := obd hf21
      refine V_callSi X (f6_unlikePlaces_ok hE e_c21) ys_X6_unlikePlaces yw_X6_unlikePlaces ml_X7_123 rfl rfl ⟨Nat.le_of_ble_eq_true rfl, Nat.le_of_ble_eq_true rfl⟩ ⟨Nat.zero_le _, Nat.zero_le _⟩ (Nat.le_of_ble_eq_true rfl) dX7_ofRing_93 ?_
      exact V_iret X rfl hf23 dX7_ofRing_96
    rcases oif hf10_3 with ⟨q10_4, hf10_4⟩ | ⟨q10_4, hf10_4⟩
    · refine V_table X (tgt := 97) (off := 87) (by rw [q10_4]; decide) (by decide) (by decide) dX7_ofRing_10 ?_
      have hf24 := hf10_4
      refine V_aload_n X 0 rfl dX7_ofRing_97 ?_
      refine G_X7_0_10 hE X dX7_ofRing_98 ?_
      refine V_iconst X (v := 2) (by decide) dX7_ofRing_101 ?_
      refine V_iconst X (v := -1) (by decide) dX7_ofRing_102 ?_
      refine V_iconst X (v := -1) (by decide) dX7_ofRing_103 ?_
      refine V_iload_n X 1 rfl dX7_ofRing_104 ?_
      obtain ⟨c24, e_c24, hf26⟩ := obd hf24
      refine V_callSi X (f6_tally_ok hE e_c24) ys_X6_tally yw_X6_tally ml_X7_127 rfl rfl ⟨Nat.le_of_ble_eq_true rfl, Nat.le_of_ble_eq_true rfl⟩ ⟨Nat.zero_le _, Nat.zero_le _⟩ (Nat.le_of_ble_eq_true rfl) dX7_ofRing_105 ?_
      exact V_iret X rfl hf26 dX7_ofRing_108
    rcases oif hf10_4 with ⟨q10_5, hf10_5⟩ | ⟨q10_5, hf10_5⟩
    · refine V_table X (tgt := 109) (off := 99) (by rw [q10_5]; decide) (by decide) (by decide) dX7_ofRing_10 ?_
      have hf27 := hf10_5
      refine V_aload_n X 0 rfl dX7_ofRing_109 ?_
      refine G_X7_0_10 hE X dX7_ofRing_110 ?_
      refine V_iconst X (v := 0) (by decide) dX7_ofRing_113 ?_
      refine V_iconst X (v := -1) (by decide) dX7_ofRing_114 ?_
      refine V_iconst X (v := -1) (by decide) dX7_ofRing_115 ?_
      refine V_iload_n X 1 rfl dX7_ofRing_116 ?_
      obtain ⟨c27, e_c27, hf29⟩ := obd hf27
      refine V_callSi X (f6_tally_ok hE e_c27) ys_X6_tally yw_X6_tally ml_X7_127 rfl rfl ⟨Nat.le_of_ble_eq_true rfl, Nat.le_of_ble_eq_true rfl⟩ ⟨Nat.zero_le _, Nat.zero_le _⟩ (Nat.le_of_ble_eq_true rfl) dX7_ofRing_117 ?_
      exact V_iret X rfl hf29 dX7_ofRing_120
    rcases oif hf10_5 with ⟨q10_6, hf10_6⟩ | ⟨q10_6, hf10_6⟩
    · refine V_table X (tgt := 121) (off := 111) (by rw [q10_6]; decide) (by decide) (by decide) dX7_ofRing_10 ?_
      have hf30 := hf10_6
      refine V_aload_n X 0 rfl dX7_ofRing_121 ?_
      refine G_X7_0_10 hE X dX7_ofRing_122 ?_
      refine V_iconst X (v := 5) (by decide) dX7_ofRing_125 ?_
      refine V_iconst X (v := -1) (by decide) dX7_ofRing_126 ?_
      refine V_iconst X (v := -1) (by decide) dX7_ofRing_127 ?_
      refine V_iload_n X 1 rfl dX7_ofRing_128 ?_
      obtain ⟨c30, e_c30, hf32⟩ := obd hf30
      refine V_callSi X (f6_tally_ok hE e_c30) ys_X6_tally yw_X6_tally ml_X7_127 rfl rfl ⟨Nat.le_of_ble_eq_true rfl, Nat.le_of_ble_eq_true rfl⟩ ⟨Nat.zero_le _, Nat.zero_le _⟩ (Nat.le_of_ble_eq_true rfl) dX7_ofRing_129 ?_
      exact V_iret X rfl hf32 dX7_ofRing_132
    · skip
      refine V_table X (tgt := 133) (off := 123) (tsel_out (by have z0 := lv_neT q10_0 (show (0 : Int32).toInt = 0 by decide); have z1 := lv_neT q10_1 (show (1 : Int32).toInt = 1 by decide); have z2 := lv_neT q10_2 (show (2 : Int32).toInt = 2 by decide); have z3 := lv_neT q10_3 (show (3 : Int32).toInt = 3 by decide); have z4 := lv_neT q10_4 (show (4 : Int32).toInt = 4 by decide); have z5 := lv_neT q10_5 (show (5 : Int32).toInt = 5 by decide); have z6 := lv_neT q10_6 (show (6 : Int32).toInt = 6 by decide); omega)) (by decide) (by decide) dX7_ofRing_10 ?_
      have hf33 := hf10_6
      refine V_bipush X (v := -2) (by decide) dX7_ofRing_133 ?_
      exact V_iret X rfl hf33 dX7_ofRing_135
  · have hf4 := ift hf3 q4
    refine V_iconst X (v := -1) (by decide) dX7_ofRing_7 ?_
    exact V_iret X rfl hf4 dX7_ofRing_8
def f7_ofRing (x1 : Int32) (x2 : Int32) (h : Hp) : Re := f7_ofRing_e x1 x2 h
theorem f7_ofRing_ok (hE : IW E) {x1 : Int32} {x2 : Int32} {h : Hp} {q : Int32 × Hp} (hf0 : f7_ofRing x1 x2 h = some q) : SMi l E 6 yX7_ofRing cX7_ofRing 3 (some .int) [.ref (eA E 0), .int x1, .int x2] h q.1 q.2 :=
  SMi.of (by decide +kernel) (Nat.le_of_ble_eq_true rfl) (fun p e s m args below meth c A X => f7_ofRing_e_ok hE X (r := q.1) (h' := q.2) hf0)
def f7_ofQuarter_e (x1 : Int32) (x2 : Int32) (h : Hp) : Re :=
  (f7_isQuarter x1 h).bind fun c1 => if c1.1 = 0 then (some ((-1), c1.2)) else (if x2 = 0 then ((f6_tally 0 (-1) x1 (-1) c1.2).bind fun c6 => some (c6.1, c6.2)) else if x2 = 1 then ((f6_tally 3 (-1) x1 (-1) c1.2).bind fun c9 => some (c9.1, c9.2)) else if x2 = 2 then ((f5_heldBy 1 x1 c1.2).bind fun c12 => some (c12.1, c12.2)) else if x2 = 3 then ((f5_isMirrored 1 x1 c1.2).bind fun c15 => (f7_bit c15.1 c15.2).bind fun c17 => some (c17.1, c17.2)) else if x2 = 4 then ((f5_isSwept 1 x1 c1.2).bind fun c20 => (f7_bit c20.1 c20.2).bind fun c22 => some (c22.1, c22.2)) else ((f7_isColour (x2 - 4) c1.2).bind fun c25 => if c25.1 = 0 then (some ((-2), c25.2)) else ((f6_tally 0 (x2 - 4) x1 (-1) c25.2).bind fun c28 => some (c28.1, c28.2))))
set_option maxRecDepth 20000 in
set_option maxHeartbeats 4000000 in
theorem f7_ofQuarter_e_ok (hE : IW E) (X : XC E RX7 cX7_ofQuarter 4 (some .int) A p s m args meth c) {x1 : Int32} {x2 : Int32} {h : Hp} (hf0 : f7_ofQuarter_e x1 x2 h = some (r, h')) : VM E 4 A p l e 6 s m args below meth c (Qi E A r h') 0 [(0, .ref (eA E 0)), (1, .int x1), (2, .int x2)] [] h := by
  unfold f7_ofQuarter_e at hf0
  have hf1 := hf0
  refine V_iload_n X 1 rfl dX7_ofQuarter_0 ?_
  obtain ⟨c1, e_c1, hf3⟩ := obd hf1
  refine V_callSi X (f7_isQuarter_ok e_c1) ys_X7_isQuarter yw_X7_isQuarter ml_X7_130 rfl rfl ⟨Nat.le_of_ble_eq_true rfl, Nat.le_of_ble_eq_true rfl⟩ ⟨Nat.zero_le _, Nat.zero_le _⟩ (Nat.le_of_ble_eq_true rfl) dX7_ofQuarter_1 ?_
  refine V_if_ne X (tgt := 9) (by decide) dX7_ofQuarter_4 (fun q4 => ?_) (fun q4 => ?_)
  · have hf4 := ife hf3 q4
    refine V_iload_n X 2 rfl dX7_ofQuarter_9 ?_
    rcases oif hf4 with ⟨q10_0, hf10_0⟩ | ⟨q10_0, hf10_0⟩
    · refine V_table X (tgt := 44) (off := 34) (by rw [q10_0]; decide) (by decide) (by decide) dX7_ofQuarter_10 ?_
      have hf6 := hf10_0
      refine V_aload_n X 0 rfl dX7_ofQuarter_44 ?_
      refine G_X7_0_10 hE X dX7_ofQuarter_45 ?_
      refine V_iconst X (v := 0) (by decide) dX7_ofQuarter_48 ?_
      refine V_iconst X (v := -1) (by decide) dX7_ofQuarter_49 ?_
      refine V_iload_n X 1 rfl dX7_ofQuarter_50 ?_
      refine V_iconst X (v := -1) (by decide) dX7_ofQuarter_51 ?_
      obtain ⟨c6, e_c6, hf8⟩ := obd hf6
      refine V_callSi X (f6_tally_ok hE e_c6) ys_X6_tally yw_X6_tally ml_X7_127 rfl rfl ⟨Nat.le_of_ble_eq_true rfl, Nat.le_of_ble_eq_true rfl⟩ ⟨Nat.zero_le _, Nat.zero_le _⟩ (Nat.le_of_ble_eq_true rfl) dX7_ofQuarter_52 ?_
      exact V_iret X rfl hf8 dX7_ofQuarter_55
    rcases oif hf10_0 with ⟨q10_1, hf10_1⟩ | ⟨q10_1, hf10_1⟩
    · refine V_table X (tgt := 56) (off := 46) (by rw [q10_1]; decide) (by decide) (by decide) dX7_ofQuarter_10 ?_
      have hf9 := hf10_1
      refine V_aload_n X 0 rfl dX7_ofQuarter_56 ?_
      refine G_X7_0_10 hE X dX7_ofQuarter_57 ?_
      refine V_iconst X (v := 3) (by decide) dX7_ofQuarter_60 ?_
      refine V_iconst X (v := -1) (by decide) dX7_ofQuarter_61 ?_
      refine V_iload_n X 1 rfl dX7_ofQuarter_62 ?_
      refine V_iconst X (v := -1) (by decide) dX7_ofQuarter_63 ?_
      obtain ⟨c9, e_c9, hf11⟩ := obd hf9
      refine V_callSi X (f6_tally_ok hE e_c9) ys_X6_tally yw_X6_tally ml_X7_127 rfl rfl ⟨Nat.le_of_ble_eq_true rfl, Nat.le_of_ble_eq_true rfl⟩ ⟨Nat.zero_le _, Nat.zero_le _⟩ (Nat.le_of_ble_eq_true rfl) dX7_ofQuarter_64 ?_
      exact V_iret X rfl hf11 dX7_ofQuarter_67
    rcases oif hf10_1 with ⟨q10_2, hf10_2⟩ | ⟨q10_2, hf10_2⟩
    · refine V_table X (tgt := 68) (off := 58) (by rw [q10_2]; decide) (by decide) (by decide) dX7_ofQuarter_10 ?_
      have hf12 := hf10_2
      refine V_aload_n X 0 rfl dX7_ofQuarter_68 ?_
      refine G_X7_0_10 hE X dX7_ofQuarter_69 ?_
      refine V_iload_n X 1 rfl dX7_ofQuarter_72 ?_
      obtain ⟨c12, e_c12, hf14⟩ := obd hf12
      refine V_callVi X (SR_1 hE).1 rfl rfl (f5_heldBy_ok (SR_1 hE) e_c12) ys_X5_heldBy yw_X5_heldBy ml_X7_133 rfl rfl ⟨Nat.le_of_ble_eq_true rfl, Nat.le_of_ble_eq_true rfl⟩ ⟨Nat.zero_le _, Nat.zero_le _⟩ (Nat.le_of_ble_eq_true rfl) dX7_ofQuarter_73 ?_
      exact V_iret X rfl hf14 dX7_ofQuarter_76
    rcases oif hf10_2 with ⟨q10_3, hf10_3⟩ | ⟨q10_3, hf10_3⟩
    · refine V_table X (tgt := 77) (off := 67) (by rw [q10_3]; decide) (by decide) (by decide) dX7_ofQuarter_10 ?_
      have hf15 := hf10_3
      refine V_aload_n X 0 rfl dX7_ofQuarter_77 ?_
      refine G_X7_0_10 hE X dX7_ofQuarter_78 ?_
      refine V_iload_n X 1 rfl dX7_ofQuarter_81 ?_
      obtain ⟨c15, e_c15, hf17⟩ := obd hf15
      refine V_callVi X (SR_1 hE).1 rfl rfl (f5_isMirrored_ok (SR_1 hE) e_c15) ys_X5_isMirrored yw_X5_isMirrored ml_X7_136 rfl rfl ⟨Nat.le_of_ble_eq_true rfl, Nat.le_of_ble_eq_true rfl⟩ ⟨Nat.zero_le _, Nat.zero_le _⟩ (Nat.le_of_ble_eq_true rfl) dX7_ofQuarter_82 ?_
      obtain ⟨c17, e_c17, hf19⟩ := obd hf17
      refine V_callSi X (f7_bit_ok e_c17) ys_X7_bit yw_X7_bit ml_X7_99 rfl rfl ⟨Nat.le_of_ble_eq_true rfl, Nat.le_of_ble_eq_true rfl⟩ ⟨Nat.zero_le _, Nat.zero_le _⟩ (Nat.le_of_ble_eq_true rfl) dX7_ofQuarter_85 ?_
      exact V_iret X rfl hf19 dX7_ofQuarter_88
    rcases oif hf10_3 with ⟨q10_4, hf10_4⟩ | ⟨q10_4, hf10_4⟩
    · refine V_table X (tgt := 89) (off := 79) (by rw [q10_4]; decide) (by decide) (by decide) dX7_ofQuarter_10 ?_
      have hf20 := hf10_4
      refine V_aload_n X 0 rfl dX7_ofQuarter_89 ?_
      refine G_X7_0_10 hE X dX7_ofQuarter_90 ?_
      refine V_iload_n X 1 rfl dX7_ofQuarter_93 ?_
      obtain ⟨c20, e_c20, hf22⟩ := obd hf20
      refine V_callVi X (SR_1 hE).1 rfl rfl (f5_isSwept_ok (SR_1 hE) e_c20) ys_X5_isSwept yw_X5_isSwept ml_X7_139 rfl rfl ⟨Nat.le_of_ble_eq_true rfl, Nat.le_of_ble_eq_true rfl⟩ ⟨Nat.zero_le _, Nat.zero_le _⟩ (Nat.le_of_ble_eq_true rfl) dX7_ofQuarter_94 ?_
      obtain ⟨c22, e_c22, hf24⟩ := obd hf22
      refine V_callSi X (f7_bit_ok e_c22) ys_X7_bit yw_X7_bit ml_X7_99 rfl rfl ⟨Nat.le_of_ble_eq_true rfl, Nat.le_of_ble_eq_true rfl⟩ ⟨Nat.zero_le _, Nat.zero_le _⟩ (Nat.le_of_ble_eq_true rfl) dX7_ofQuarter_97 ?_
      exact V_iret X rfl hf24 dX7_ofQuarter_100
    · skip
      refine V_table X (tgt := 101) (off := 91) (tsel_out (by have z0 := lv_neT q10_0 (show (0 : Int32).toInt = 0 by decide); have z1 := lv_neT q10_1 (show (1 : Int32).toInt = 1 by decide); have z2 := lv_neT q10_2 (show (2 : Int32).toInt = 2 by decide); have z3 := lv_neT q10_3 (show (3 : Int32).toInt = 3 by decide); have z4 := lv_neT q10_4 (show (4 : Int32).toInt = 4 by decide); omega)) (by decide) (by decide) dX7_ofQuarter_10 ?_
      have hf25 := hf10_4
      refine V_iload_n X 2 rfl dX7_ofQuarter_101 ?_
      refine V_iconst X (v := 4) (by decide) dX7_ofQuarter_102 ?_
      refine V_isub X dX7_ofQuarter_103 ?_
      refine V_istore_n X (by decide) rfl dX7_ofQuarter_104 ?_
      refine V_iload_n X 0 rfl dX7_ofQuarter_105 ?_
      obtain ⟨c25, e_c25, hf27⟩ := obd hf25
      refine V_callSi X (f7_isColour_ok e_c25) ys_X7_isColour yw_X7_isColour ml_X7_142 rfl rfl ⟨Nat.le_of_ble_eq_true rfl, Nat.le_of_ble_eq_true rfl⟩ ⟨Nat.zero_le _, Nat.zero_le _⟩ (Nat.le_of_ble_eq_true rfl) dX7_ofQuarter_106 ?_
      refine V_if_ne X (tgt := 115) (by decide) dX7_ofQuarter_109 (fun q109 => ?_) (fun q109 => ?_)
      · have hf28 := ife hf27 q109
        refine V_aload_n X 1 rfl dX7_ofQuarter_115 ?_
        refine G_X7_0_10 hE X dX7_ofQuarter_116 ?_
        refine V_iconst X (v := 0) (by decide) dX7_ofQuarter_119 ?_
        refine V_iload_n X 0 rfl dX7_ofQuarter_120 ?_
        refine V_iload_n X 2 rfl dX7_ofQuarter_121 ?_
        refine V_iconst X (v := -1) (by decide) dX7_ofQuarter_122 ?_
        obtain ⟨c28, e_c28, hf30⟩ := obd hf28
        refine V_callSi X (f6_tally_ok hE e_c28) ys_X6_tally yw_X6_tally ml_X7_127 rfl rfl ⟨Nat.le_of_ble_eq_true rfl, Nat.le_of_ble_eq_true rfl⟩ ⟨Nat.zero_le _, Nat.zero_le _⟩ (Nat.le_of_ble_eq_true rfl) dX7_ofQuarter_123 ?_
        exact V_iret X rfl hf30 dX7_ofQuarter_126
      · have hf28 := ift hf27 q109
        refine V_bipush X (v := -2) (by decide) dX7_ofQuarter_112 ?_
        exact V_iret X rfl hf28 dX7_ofQuarter_114
  · have hf4 := ift hf3 q4
    refine V_iconst X (v := -1) (by decide) dX7_ofQuarter_7 ?_
    exact V_iret X rfl hf4 dX7_ofQuarter_8
def f7_ofQuarter (x1 : Int32) (x2 : Int32) (h : Hp) : Re := f7_ofQuarter_e x1 x2 h
theorem f7_ofQuarter_ok (hE : IW E) {x1 : Int32} {x2 : Int32} {h : Hp} {q : Int32 × Hp} (hf0 : f7_ofQuarter x1 x2 h = some q) : SMi l E 6 yX7_ofQuarter cX7_ofQuarter 4 (some .int) [.ref (eA E 0), .int x1, .int x2] h q.1 q.2 :=
  SMi.of (by decide +kernel) (Nat.le_of_ble_eq_true rfl) (fun p e s m args below meth c A X => f7_ofQuarter_e_ok hE X (r := q.1) (h' := q.2) hf0)
def f7_ofColour_e (x1 : Int32) (x2 : Int32) (h : Hp) : Re :=
  (f7_isColour x1 h).bind fun c1 => if c1.1 = 0 then (some ((-1), c1.2)) else (if x2 = 0 then ((f5_funnel 1 x1 c1.2).bind fun c6 => some (c6.1, c6.2)) else if x2 = 1 then ((f5_holderOf 1 x1 c1.2).bind fun c9 => some (c9.1, c9.2)) else if x2 = 2 then ((f6_tally 0 x1 (-1) (-1) c1.2).bind fun c12 => some (c12.1, c12.2)) else if x2 = 3 then ((f6_tally 4 x1 (-1) (-1) c1.2).bind fun c15 => some (c15.1, c15.2)) else if x2 = 4 then ((f6_tally 5 x1 (-1) (-1) c1.2).bind fun c18 => some (c18.1, c18.2)) else (some ((-2), c1.2)))
set_option maxRecDepth 20000 in
set_option maxHeartbeats 4000000 in
theorem f7_ofColour_e_ok (hE : IW E) (X : XC E RX7 cX7_ofColour 3 (some .int) A p s m args meth c) {x1 : Int32} {x2 : Int32} {h : Hp} (hf0 : f7_ofColour_e x1 x2 h = some (r, h')) : VM E 3 A p l e 6 s m args below meth c (Qi E A r h') 0 [(0, .ref (eA E 0)), (1, .int x1), (2, .int x2)] [] h := by
  unfold f7_ofColour_e at hf0
  have hf1 := hf0
  refine V_iload_n X 1 rfl dX7_ofColour_0 ?_
  obtain ⟨c1, e_c1, hf3⟩ := obd hf1
  refine V_callSi X (f7_isColour_ok e_c1) ys_X7_isColour yw_X7_isColour ml_X7_142 rfl rfl ⟨Nat.le_of_ble_eq_true rfl, Nat.le_of_ble_eq_true rfl⟩ ⟨Nat.zero_le _, Nat.zero_le _⟩ (Nat.le_of_ble_eq_true rfl) dX7_ofColour_1 ?_
  refine V_if_ne X (tgt := 9) (by decide) dX7_ofColour_4 (fun q4 => ?_) (fun q4 => ?_)
  · have hf4 := ife hf3 q4
    refine V_iload_n X 2 rfl dX7_ofColour_9 ?_
    rcases oif hf4 with ⟨q10_0, hf10_0⟩ | ⟨q10_0, hf10_0⟩
    · refine V_table X (tgt := 44) (off := 34) (by rw [q10_0]; decide) (by decide) (by decide) dX7_ofColour_10 ?_
      have hf6 := hf10_0
      refine V_aload_n X 0 rfl dX7_ofColour_44 ?_
      refine G_X7_0_10 hE X dX7_ofColour_45 ?_
      refine V_iload_n X 1 rfl dX7_ofColour_48 ?_
      obtain ⟨c6, e_c6, hf8⟩ := obd hf6
      refine V_callVi X (SR_1 hE).1 rfl rfl (f5_funnel_ok (SR_1 hE) e_c6) ys_X5_funnel yw_X5_funnel ml_X7_145 rfl rfl ⟨Nat.le_of_ble_eq_true rfl, Nat.le_of_ble_eq_true rfl⟩ ⟨Nat.zero_le _, Nat.zero_le _⟩ (Nat.le_of_ble_eq_true rfl) dX7_ofColour_49 ?_
      exact V_iret X rfl hf8 dX7_ofColour_52
    rcases oif hf10_0 with ⟨q10_1, hf10_1⟩ | ⟨q10_1, hf10_1⟩
    · refine V_table X (tgt := 53) (off := 43) (by rw [q10_1]; decide) (by decide) (by decide) dX7_ofColour_10 ?_
      have hf9 := hf10_1
      refine V_aload_n X 0 rfl dX7_ofColour_53 ?_
      refine G_X7_0_10 hE X dX7_ofColour_54 ?_
      refine V_iload_n X 1 rfl dX7_ofColour_57 ?_
      obtain ⟨c9, e_c9, hf11⟩ := obd hf9
      refine V_callVi X (SR_1 hE).1 rfl rfl (f5_holderOf_ok (SR_1 hE) e_c9) ys_X5_holderOf yw_X5_holderOf ml_X7_148 rfl rfl ⟨Nat.le_of_ble_eq_true rfl, Nat.le_of_ble_eq_true rfl⟩ ⟨Nat.zero_le _, Nat.zero_le _⟩ (Nat.le_of_ble_eq_true rfl) dX7_ofColour_58 ?_
      exact V_iret X rfl hf11 dX7_ofColour_61
    rcases oif hf10_1 with ⟨q10_2, hf10_2⟩ | ⟨q10_2, hf10_2⟩
    · refine V_table X (tgt := 62) (off := 52) (by rw [q10_2]; decide) (by decide) (by decide) dX7_ofColour_10 ?_
      have hf12 := hf10_2
      refine V_aload_n X 0 rfl dX7_ofColour_62 ?_
      refine G_X7_0_10 hE X dX7_ofColour_63 ?_
      refine V_iconst X (v := 0) (by decide) dX7_ofColour_66 ?_
      refine V_iload_n X 1 rfl dX7_ofColour_67 ?_
      refine V_iconst X (v := -1) (by decide) dX7_ofColour_68 ?_
      refine V_iconst X (v := -1) (by decide) dX7_ofColour_69 ?_
      obtain ⟨c12, e_c12, hf14⟩ := obd hf12
      refine V_callSi X (f6_tally_ok hE e_c12) ys_X6_tally yw_X6_tally ml_X7_127 rfl rfl ⟨Nat.le_of_ble_eq_true rfl, Nat.le_of_ble_eq_true rfl⟩ ⟨Nat.zero_le _, Nat.zero_le _⟩ (Nat.le_of_ble_eq_true rfl) dX7_ofColour_70 ?_
      exact V_iret X rfl hf14 dX7_ofColour_73
    rcases oif hf10_2 with ⟨q10_3, hf10_3⟩ | ⟨q10_3, hf10_3⟩
    · refine V_table X (tgt := 74) (off := 64) (by rw [q10_3]; decide) (by decide) (by decide) dX7_ofColour_10 ?_
      have hf15 := hf10_3
      refine V_aload_n X 0 rfl dX7_ofColour_74 ?_
      refine G_X7_0_10 hE X dX7_ofColour_75 ?_
      refine V_iconst X (v := 4) (by decide) dX7_ofColour_78 ?_
      refine V_iload_n X 1 rfl dX7_ofColour_79 ?_
      refine V_iconst X (v := -1) (by decide) dX7_ofColour_80 ?_
      refine V_iconst X (v := -1) (by decide) dX7_ofColour_81 ?_
      obtain ⟨c15, e_c15, hf17⟩ := obd hf15
      refine V_callSi X (f6_tally_ok hE e_c15) ys_X6_tally yw_X6_tally ml_X7_127 rfl rfl ⟨Nat.le_of_ble_eq_true rfl, Nat.le_of_ble_eq_true rfl⟩ ⟨Nat.zero_le _, Nat.zero_le _⟩ (Nat.le_of_ble_eq_true rfl) dX7_ofColour_82 ?_
      exact V_iret X rfl hf17 dX7_ofColour_85
    rcases oif hf10_3 with ⟨q10_4, hf10_4⟩ | ⟨q10_4, hf10_4⟩
    · refine V_table X (tgt := 86) (off := 76) (by rw [q10_4]; decide) (by decide) (by decide) dX7_ofColour_10 ?_
      have hf18 := hf10_4
      refine V_aload_n X 0 rfl dX7_ofColour_86 ?_
      refine G_X7_0_10 hE X dX7_ofColour_87 ?_
      refine V_iconst X (v := 5) (by decide) dX7_ofColour_90 ?_
      refine V_iload_n X 1 rfl dX7_ofColour_91 ?_
      refine V_iconst X (v := -1) (by decide) dX7_ofColour_92 ?_
      refine V_iconst X (v := -1) (by decide) dX7_ofColour_93 ?_
      obtain ⟨c18, e_c18, hf20⟩ := obd hf18
      refine V_callSi X (f6_tally_ok hE e_c18) ys_X6_tally yw_X6_tally ml_X7_127 rfl rfl ⟨Nat.le_of_ble_eq_true rfl, Nat.le_of_ble_eq_true rfl⟩ ⟨Nat.zero_le _, Nat.zero_le _⟩ (Nat.le_of_ble_eq_true rfl) dX7_ofColour_94 ?_
      exact V_iret X rfl hf20 dX7_ofColour_97
    · skip
      refine V_table X (tgt := 98) (off := 88) (tsel_out (by have z0 := lv_neT q10_0 (show (0 : Int32).toInt = 0 by decide); have z1 := lv_neT q10_1 (show (1 : Int32).toInt = 1 by decide); have z2 := lv_neT q10_2 (show (2 : Int32).toInt = 2 by decide); have z3 := lv_neT q10_3 (show (3 : Int32).toInt = 3 by decide); have z4 := lv_neT q10_4 (show (4 : Int32).toInt = 4 by decide); omega)) (by decide) (by decide) dX7_ofColour_10 ?_
      have hf21 := hf10_4
      refine V_bipush X (v := -2) (by decide) dX7_ofColour_98 ?_
      exact V_iret X rfl hf21 dX7_ofColour_100
  · have hf4 := ift hf3 q4
    refine V_iconst X (v := -1) (by decide) dX7_ofColour_7 ?_
    exact V_iret X rfl hf4 dX7_ofColour_8
def f7_ofColour (x1 : Int32) (x2 : Int32) (h : Hp) : Re := f7_ofColour_e x1 x2 h
theorem f7_ofColour_ok (hE : IW E) {x1 : Int32} {x2 : Int32} {h : Hp} {q : Int32 × Hp} (hf0 : f7_ofColour x1 x2 h = some q) : SMi l E 6 yX7_ofColour cX7_ofColour 3 (some .int) [.ref (eA E 0), .int x1, .int x2] h q.1 q.2 :=
  SMi.of (by decide +kernel) (Nat.le_of_ble_eq_true rfl) (fun p e s m args below meth c A X => f7_ofColour_e_ok hE X (r := q.1) (h' := q.2) hf0)
def f7_count_e (x1 : Int32) (h : Hp) : Re :=
  if x1 = 0 then ((f5_number 1 19 h).bind fun c3 => some (c3.1, c3.2)) else if x1 = 1 then ((f5_number 1 21 h).bind fun c6 => some (c6.1, c6.2)) else if x1 = 2 then ((f5_number 1 22 h).bind fun c9 => some (c9.1, c9.2)) else if x1 = 3 then ((f5_number 1 23 h).bind fun c12 => some (c12.1, c12.2)) else if x1 = 4 then ((f6_tally 0 (-1) (-1) (-1) h).bind fun c15 => some (c15.1, c15.2)) else if x1 = 5 then ((f6_wholeRings  h).bind fun c18 => some (c18.1, c18.2)) else if x1 = 6 then ((f5_number 1 20 h).bind fun c21 => some (c21.1, c21.2)) else if x1 = 7 then ((f5_setting 1 0 h).bind fun c24 => some (c24.1, c24.2)) else if x1 = 8 then ((f5_setting 1 1 h).bind fun c27 => some (c27.1, c27.2)) else if x1 = 9 then ((f5_setting 1 2 h).bind fun c30 => some (c30.1, c30.2)) else if x1 = 10 then ((f4_length  h).bind fun c33 => some (c33.1, c33.2)) else if x1 = 11 then ((f2_undoable  h).bind fun c36 => some (c36.1, c36.2)) else (some ((-2), h))
set_option maxRecDepth 20000 in
set_option maxHeartbeats 4000000 in
theorem f7_count_e_ok (hE : IW E) (X : XC E RX7 cX7_count 2 (some .int) A p s m args meth c) {x1 : Int32} {h : Hp} (hf0 : f7_count_e x1 h = some (r, h')) : VM E 2 A p l e 6 s m args below meth c (Qi E A r h') 0 [(0, .ref (eA E 0)), (1, .int x1)] [] h := by
  unfold f7_count_e at hf0
  have hf1 := hf0
  refine V_iload_n X 1 rfl dX7_count_0 ?_
  rcases oif hf1 with ⟨q1_0, hf1_0⟩ | ⟨q1_0, hf1_0⟩
  · refine V_table X (tgt := 64) (off := 63) (by rw [q1_0]; decide) (by decide) (by decide) dX7_count_1 ?_
    have hf3 := hf1_0
    refine V_aload_n X 0 rfl dX7_count_64 ?_
    refine G_X7_0_10 hE X dX7_count_65 ?_
    refine V_bipush X (v := 19) (by decide) dX7_count_68 ?_
    obtain ⟨c3, e_c3, hf5⟩ := obd hf3
    refine V_callVi X (SR_1 hE).1 rfl rfl (f5_number_ok (SR_1 hE) e_c3) ys_X5_number yw_X5_number ml_X7_151 rfl rfl ⟨Nat.le_of_ble_eq_true rfl, Nat.le_of_ble_eq_true rfl⟩ ⟨Nat.zero_le _, Nat.zero_le _⟩ (Nat.le_of_ble_eq_true rfl) dX7_count_70 ?_
    exact V_iret X rfl hf5 dX7_count_73
  rcases oif hf1_0 with ⟨q1_1, hf1_1⟩ | ⟨q1_1, hf1_1⟩
  · refine V_table X (tgt := 74) (off := 73) (by rw [q1_1]; decide) (by decide) (by decide) dX7_count_1 ?_
    have hf6 := hf1_1
    refine V_aload_n X 0 rfl dX7_count_74 ?_
    refine G_X7_0_10 hE X dX7_count_75 ?_
    refine V_bipush X (v := 21) (by decide) dX7_count_78 ?_
    obtain ⟨c6, e_c6, hf8⟩ := obd hf6
    refine V_callVi X (SR_1 hE).1 rfl rfl (f5_number_ok (SR_1 hE) e_c6) ys_X5_number yw_X5_number ml_X7_151 rfl rfl ⟨Nat.le_of_ble_eq_true rfl, Nat.le_of_ble_eq_true rfl⟩ ⟨Nat.zero_le _, Nat.zero_le _⟩ (Nat.le_of_ble_eq_true rfl) dX7_count_80 ?_
    exact V_iret X rfl hf8 dX7_count_83
  rcases oif hf1_1 with ⟨q1_2, hf1_2⟩ | ⟨q1_2, hf1_2⟩
  · refine V_table X (tgt := 84) (off := 83) (by rw [q1_2]; decide) (by decide) (by decide) dX7_count_1 ?_
    have hf9 := hf1_2
    refine V_aload_n X 0 rfl dX7_count_84 ?_
    refine G_X7_0_10 hE X dX7_count_85 ?_
    refine V_bipush X (v := 22) (by decide) dX7_count_88 ?_
    obtain ⟨c9, e_c9, hf11⟩ := obd hf9
    refine V_callVi X (SR_1 hE).1 rfl rfl (f5_number_ok (SR_1 hE) e_c9) ys_X5_number yw_X5_number ml_X7_151 rfl rfl ⟨Nat.le_of_ble_eq_true rfl, Nat.le_of_ble_eq_true rfl⟩ ⟨Nat.zero_le _, Nat.zero_le _⟩ (Nat.le_of_ble_eq_true rfl) dX7_count_90 ?_
    exact V_iret X rfl hf11 dX7_count_93
  rcases oif hf1_2 with ⟨q1_3, hf1_3⟩ | ⟨q1_3, hf1_3⟩
  · refine V_table X (tgt := 94) (off := 93) (by rw [q1_3]; decide) (by decide) (by decide) dX7_count_1 ?_
    have hf12 := hf1_3
    refine V_aload_n X 0 rfl dX7_count_94 ?_
    refine G_X7_0_10 hE X dX7_count_95 ?_
    refine V_bipush X (v := 23) (by decide) dX7_count_98 ?_
    obtain ⟨c12, e_c12, hf14⟩ := obd hf12
    refine V_callVi X (SR_1 hE).1 rfl rfl (f5_number_ok (SR_1 hE) e_c12) ys_X5_number yw_X5_number ml_X7_151 rfl rfl ⟨Nat.le_of_ble_eq_true rfl, Nat.le_of_ble_eq_true rfl⟩ ⟨Nat.zero_le _, Nat.zero_le _⟩ (Nat.le_of_ble_eq_true rfl) dX7_count_100 ?_
    exact V_iret X rfl hf14 dX7_count_103
  rcases oif hf1_3 with ⟨q1_4, hf1_4⟩ | ⟨q1_4, hf1_4⟩
  · refine V_table X (tgt := 104) (off := 103) (by rw [q1_4]; decide) (by decide) (by decide) dX7_count_1 ?_
    have hf15 := hf1_4
    refine V_aload_n X 0 rfl dX7_count_104 ?_
    refine G_X7_0_10 hE X dX7_count_105 ?_
    refine V_iconst X (v := 0) (by decide) dX7_count_108 ?_
    refine V_iconst X (v := -1) (by decide) dX7_count_109 ?_
    refine V_iconst X (v := -1) (by decide) dX7_count_110 ?_
    refine V_iconst X (v := -1) (by decide) dX7_count_111 ?_
    obtain ⟨c15, e_c15, hf17⟩ := obd hf15
    refine V_callSi X (f6_tally_ok hE e_c15) ys_X6_tally yw_X6_tally ml_X7_127 rfl rfl ⟨Nat.le_of_ble_eq_true rfl, Nat.le_of_ble_eq_true rfl⟩ ⟨Nat.zero_le _, Nat.zero_le _⟩ (Nat.le_of_ble_eq_true rfl) dX7_count_112 ?_
    exact V_iret X rfl hf17 dX7_count_115
  rcases oif hf1_4 with ⟨q1_5, hf1_5⟩ | ⟨q1_5, hf1_5⟩
  · refine V_table X (tgt := 116) (off := 115) (by rw [q1_5]; decide) (by decide) (by decide) dX7_count_1 ?_
    have hf18 := hf1_5
    refine V_aload_n X 0 rfl dX7_count_116 ?_
    refine G_X7_0_10 hE X dX7_count_117 ?_
    obtain ⟨c18, e_c18, hf20⟩ := obd hf18
    refine V_callSi X (f6_wholeRings_ok hE e_c18) ys_X6_wholeRings yw_X6_wholeRings ml_X7_154 rfl rfl ⟨Nat.le_of_ble_eq_true rfl, Nat.le_of_ble_eq_true rfl⟩ ⟨Nat.zero_le _, Nat.zero_le _⟩ (Nat.le_of_ble_eq_true rfl) dX7_count_120 ?_
    exact V_iret X rfl hf20 dX7_count_123
  rcases oif hf1_5 with ⟨q1_6, hf1_6⟩ | ⟨q1_6, hf1_6⟩
  · refine V_table X (tgt := 124) (off := 123) (by rw [q1_6]; decide) (by decide) (by decide) dX7_count_1 ?_
    have hf21 := hf1_6
    refine V_aload_n X 0 rfl dX7_count_124 ?_
    refine G_X7_0_10 hE X dX7_count_125 ?_
    refine V_bipush X (v := 20) (by decide) dX7_count_128 ?_
    obtain ⟨c21, e_c21, hf23⟩ := obd hf21
    refine V_callVi X (SR_1 hE).1 rfl rfl (f5_number_ok (SR_1 hE) e_c21) ys_X5_number yw_X5_number ml_X7_151 rfl rfl ⟨Nat.le_of_ble_eq_true rfl, Nat.le_of_ble_eq_true rfl⟩ ⟨Nat.zero_le _, Nat.zero_le _⟩ (Nat.le_of_ble_eq_true rfl) dX7_count_130 ?_
    exact V_iret X rfl hf23 dX7_count_133
  rcases oif hf1_6 with ⟨q1_7, hf1_7⟩ | ⟨q1_7, hf1_7⟩
  · refine V_table X (tgt := 134) (off := 133) (by rw [q1_7]; decide) (by decide) (by decide) dX7_count_1 ?_
    have hf24 := hf1_7
    refine V_aload_n X 0 rfl dX7_count_134 ?_
    refine G_X7_0_10 hE X dX7_count_135 ?_
    refine V_iconst X (v := 0) (by decide) dX7_count_138 ?_
    obtain ⟨c24, e_c24, hf26⟩ := obd hf24
    refine V_callVi X (SR_1 hE).1 rfl rfl (f5_setting_ok (SR_1 hE) e_c24) ys_X5_setting yw_X5_setting ml_X7_157 rfl rfl ⟨Nat.le_of_ble_eq_true rfl, Nat.le_of_ble_eq_true rfl⟩ ⟨Nat.zero_le _, Nat.zero_le _⟩ (Nat.le_of_ble_eq_true rfl) dX7_count_139 ?_
    exact V_iret X rfl hf26 dX7_count_142
  rcases oif hf1_7 with ⟨q1_8, hf1_8⟩ | ⟨q1_8, hf1_8⟩
  · refine V_table X (tgt := 143) (off := 142) (by rw [q1_8]; decide) (by decide) (by decide) dX7_count_1 ?_
    have hf27 := hf1_8
    refine V_aload_n X 0 rfl dX7_count_143 ?_
    refine G_X7_0_10 hE X dX7_count_144 ?_
    refine V_iconst X (v := 1) (by decide) dX7_count_147 ?_
    obtain ⟨c27, e_c27, hf29⟩ := obd hf27
    refine V_callVi X (SR_1 hE).1 rfl rfl (f5_setting_ok (SR_1 hE) e_c27) ys_X5_setting yw_X5_setting ml_X7_157 rfl rfl ⟨Nat.le_of_ble_eq_true rfl, Nat.le_of_ble_eq_true rfl⟩ ⟨Nat.zero_le _, Nat.zero_le _⟩ (Nat.le_of_ble_eq_true rfl) dX7_count_148 ?_
    exact V_iret X rfl hf29 dX7_count_151
  rcases oif hf1_8 with ⟨q1_9, hf1_9⟩ | ⟨q1_9, hf1_9⟩
  · refine V_table X (tgt := 152) (off := 151) (by rw [q1_9]; decide) (by decide) (by decide) dX7_count_1 ?_
    have hf30 := hf1_9
    refine V_aload_n X 0 rfl dX7_count_152 ?_
    refine G_X7_0_10 hE X dX7_count_153 ?_
    refine V_iconst X (v := 2) (by decide) dX7_count_156 ?_
    obtain ⟨c30, e_c30, hf32⟩ := obd hf30
    refine V_callVi X (SR_1 hE).1 rfl rfl (f5_setting_ok (SR_1 hE) e_c30) ys_X5_setting yw_X5_setting ml_X7_157 rfl rfl ⟨Nat.le_of_ble_eq_true rfl, Nat.le_of_ble_eq_true rfl⟩ ⟨Nat.zero_le _, Nat.zero_le _⟩ (Nat.le_of_ble_eq_true rfl) dX7_count_157 ?_
    exact V_iret X rfl hf32 dX7_count_160
  rcases oif hf1_9 with ⟨q1_10, hf1_10⟩ | ⟨q1_10, hf1_10⟩
  · refine V_table X (tgt := 161) (off := 160) (by rw [q1_10]; decide) (by decide) (by decide) dX7_count_1 ?_
    have hf33 := hf1_10
    refine V_aload_n X 0 rfl dX7_count_161 ?_
    refine G_X7_4_36 hE X dX7_count_162 ?_
    obtain ⟨c33, e_c33, hf35⟩ := obd hf33
    refine V_callVi X (OB_10 hE) rfl rfl (f4_length_ok hE e_c33) ys_X4_length yw_X4_length ml_X7_160 rfl rfl ⟨Nat.le_of_ble_eq_true rfl, Nat.le_of_ble_eq_true rfl⟩ ⟨Nat.zero_le _, Nat.zero_le _⟩ (Nat.le_of_ble_eq_true rfl) dX7_count_165 ?_
    exact V_iret X rfl hf35 dX7_count_168
  rcases oif hf1_10 with ⟨q1_11, hf1_11⟩ | ⟨q1_11, hf1_11⟩
  · refine V_table X (tgt := 169) (off := 168) (by rw [q1_11]; decide) (by decide) (by decide) dX7_count_1 ?_
    have hf36 := hf1_11
    refine V_aload_n X 0 rfl dX7_count_169 ?_
    refine G_X7_3_29 hE X dX7_count_170 ?_
    obtain ⟨c36, e_c36, hf38⟩ := obd hf36
    refine V_callVi X (OB_8 hE) rfl rfl (f2_undoable_ok hE e_c36) ys_X2_undoable yw_X2_undoable ml_X7_164 rfl rfl ⟨Nat.le_of_ble_eq_true rfl, Nat.le_of_ble_eq_true rfl⟩ ⟨Nat.zero_le _, Nat.zero_le _⟩ (Nat.le_of_ble_eq_true rfl) dX7_count_173 ?_
    exact V_iret X rfl hf38 dX7_count_176
  · skip
    refine V_table X (tgt := 177) (off := 176) (tsel_out (by have z0 := lv_neT q1_0 (show (0 : Int32).toInt = 0 by decide); have z1 := lv_neT q1_1 (show (1 : Int32).toInt = 1 by decide); have z2 := lv_neT q1_2 (show (2 : Int32).toInt = 2 by decide); have z3 := lv_neT q1_3 (show (3 : Int32).toInt = 3 by decide); have z4 := lv_neT q1_4 (show (4 : Int32).toInt = 4 by decide); have z5 := lv_neT q1_5 (show (5 : Int32).toInt = 5 by decide); have z6 := lv_neT q1_6 (show (6 : Int32).toInt = 6 by decide); have z7 := lv_neT q1_7 (show (7 : Int32).toInt = 7 by decide); have z8 := lv_neT q1_8 (show (8 : Int32).toInt = 8 by decide); have z9 := lv_neT q1_9 (show (9 : Int32).toInt = 9 by decide); have z10 := lv_neT q1_10 (show (10 : Int32).toInt = 10 by decide); have z11 := lv_neT q1_11 (show (11 : Int32).toInt = 11 by decide); omega)) (by decide) (by decide) dX7_count_1 ?_
    have hf39 := hf1_11
    refine V_bipush X (v := -2) (by decide) dX7_count_177 ?_
    exact V_iret X rfl hf39 dX7_count_179
def f7_count (x1 : Int32) (h : Hp) : Re := f7_count_e x1 h
theorem f7_count_ok (hE : IW E) {x1 : Int32} {h : Hp} {q : Int32 × Hp} (hf0 : f7_count x1 h = some q) : SMi l E 6 yX7_count cX7_count 2 (some .int) [.ref (eA E 0), .int x1] h q.1 q.2 :=
  SMi.of (by decide +kernel) (Nat.le_of_ble_eq_true rfl) (fun p e s m args below meth c A X => f7_count_e_ok hE X (r := q.1) (h' := q.2) hf0)
def f7_needed_e (x1 : Int32) (h : Hp) : Re :=
  if x1 < 0 then (some ((-2), h)) else (if x1 ≤ 4 then ((f6_neediest  h).bind fun c3 => if c3.1 = (-6) then (some ((-6), c3.2)) else ((some ((c3.1 / 8) - (c3.1 / 8) / 4 * 4 : Int32)).bind fun z6 => if x1 = 0 then (some (z6, c3.2)) else if x1 = 1 then (some ((c3.1 / 8) / 4, c3.2)) else if x1 = 2 then (some (c3.1 - c3.1 / 8 * 8, c3.2)) else if x1 = 3 then ((f5_wanted 1 z6 ((c3.1 / 8) / 4) (c3.1 - c3.1 / 8 * 8) c3.2).bind fun c13 => some (c13.1, c13.2)) else ((f5_missing 1 z6 ((c3.1 / 8) / 4) (c3.1 - c3.1 / 8 * 8) c3.2).bind fun c16 => some (c16.1, c16.2)))) else (some ((-2), h)))
set_option maxRecDepth 20000 in
set_option maxHeartbeats 4000000 in
theorem f7_needed_e_ok (hE : IW E) (X : XC E RX7 cX7_needed 6 (some .int) A p s m args meth c) {x1 : Int32} {h : Hp} (hf0 : f7_needed_e x1 h = some (r, h')) : VM E 6 A p l e 5 s m args below meth c (Qi E A r h') 0 [(0, .ref (eA E 0)), (1, .int x1)] [] h := by
  unfold f7_needed_e at hf0
  have hf1 := hf0
  refine V_iload_n X 1 rfl dX7_needed_0 ?_
  refine V_if_lt X (tgt := 9) (by decide) dX7_needed_1 (fun q1 => ?_) (fun q1 => ?_)
  · have hf2 := ift hf1 q1
    refine V_bipush X (v := -2) (by decide) dX7_needed_9 ?_
    exact V_iret X rfl hf2 dX7_needed_11
  · have hf2 := ife hf1 q1
    refine V_iload_n X 1 rfl dX7_needed_4 ?_
    refine V_iconst X (v := 4) (by decide) dX7_needed_5 ?_
    refine V_icmp_le X (tgt := 12) (by decide) dX7_needed_6 (fun q6 => ?_) (fun q6 => ?_)
    · have hf3 := ift hf2 q6
      refine V_aload_n X 0 rfl dX7_needed_12 ?_
      refine G_X7_0_10 hE X dX7_needed_13 ?_
      obtain ⟨c3, e_c3, hf5⟩ := obd hf3
      refine V_callSi X (f6_neediest_ok hE e_c3) ys_X6_neediest yw_X6_neediest ml_X7_167 rfl rfl ⟨Nat.le_of_ble_eq_true rfl, Nat.le_of_ble_eq_true rfl⟩ ⟨Nat.zero_le _, Nat.zero_le _⟩ (Nat.le_of_ble_eq_true rfl) dX7_needed_16 ?_
      refine V_istore_n X (by decide) rfl dX7_needed_19 ?_
      refine V_iload_n X 0 rfl dX7_needed_20 ?_
      refine V_bipush X (v := -6) (by decide) dX7_needed_21 ?_
      refine V_icmp_ne X (tgt := 29) (by decide) dX7_needed_23 (fun q23 => ?_) (fun q23 => ?_)
      · have hf6 := ife hf5 q23
        refine V_iload_n X 0 rfl dX7_needed_29 ?_
        refine V_bipush X (v := 8) (by decide) dX7_needed_30 ?_
        refine V_idiv X (by decide) dX7_needed_32 ?_
        refine V_iconst X (v := 4) (by decide) dX7_needed_33 ?_
        refine V_irem X (by decide) dX7_needed_34 ?_
        refine V_istore_n X (by decide) rfl dX7_needed_35 ?_
        have hf8 := obs hf6
        refine V_iload_n X 1 rfl dX7_needed_36 ?_
        refine V_bipush X (v := 8) (by decide) dX7_needed_37 ?_
        refine V_idiv X (by decide) dX7_needed_39 ?_
        refine V_iconst X (v := 4) (by decide) dX7_needed_40 ?_
        refine V_idiv X (by decide) dX7_needed_41 ?_
        refine V_istore X (by decide) rfl dX7_needed_42 ?_
        refine V_iload_n X 2 rfl dX7_needed_44 ?_
        refine V_bipush X (v := 8) (by decide) dX7_needed_45 ?_
        refine V_irem X (by decide) dX7_needed_47 ?_
        refine V_istore X (by decide) rfl dX7_needed_48 ?_
        refine V_iload_n X 5 rfl dX7_needed_50 ?_
        rcases oif hf8 with ⟨q51_0, hf51_0⟩ | ⟨q51_0, hf51_0⟩
        · refine V_table X (tgt := 80) (off := 29) (by rw [q51_0]; decide) (by decide) (by decide) dX7_needed_51 ?_
          have hf10 := hf51_0
          refine V_iload_n X 2 rfl dX7_needed_80 ?_
          exact V_iret X rfl hf10 dX7_needed_81
        rcases oif hf51_0 with ⟨q51_1, hf51_1⟩ | ⟨q51_1, hf51_1⟩
        · refine V_table X (tgt := 82) (off := 31) (by rw [q51_1]; decide) (by decide) (by decide) dX7_needed_51 ?_
          have hf11 := hf51_1
          refine V_iload X 1 rfl dX7_needed_82 ?_
          exact V_iret X rfl hf11 dX7_needed_84
        rcases oif hf51_1 with ⟨q51_2, hf51_2⟩ | ⟨q51_2, hf51_2⟩
        · refine V_table X (tgt := 85) (off := 34) (by rw [q51_2]; decide) (by decide) (by decide) dX7_needed_51 ?_
          have hf12 := hf51_2
          refine V_iload X 0 rfl dX7_needed_85 ?_
          exact V_iret X rfl hf12 dX7_needed_87
        rcases oif hf51_2 with ⟨q51_3, hf51_3⟩ | ⟨q51_3, hf51_3⟩
        · refine V_table X (tgt := 88) (off := 37) (by rw [q51_3]; decide) (by decide) (by decide) dX7_needed_51 ?_
          have hf13 := hf51_3
          refine V_aload_n X 4 rfl dX7_needed_88 ?_
          refine G_X7_0_10 hE X dX7_needed_89 ?_
          refine V_iload_n X 2 rfl dX7_needed_92 ?_
          refine V_iload X 1 rfl dX7_needed_93 ?_
          refine V_iload X 0 rfl dX7_needed_95 ?_
          obtain ⟨c13, e_c13, hf15⟩ := obd hf13
          refine V_callVi X (SR_1 hE).1 rfl rfl (f5_wanted_ok (SR_1 hE) e_c13) ys_X5_wanted yw_X5_wanted ml_X7_93 rfl rfl ⟨Nat.le_of_ble_eq_true rfl, Nat.le_of_ble_eq_true rfl⟩ ⟨Nat.zero_le _, Nat.zero_le _⟩ (Nat.le_of_ble_eq_true rfl) dX7_needed_97 ?_
          exact V_iret X rfl hf15 dX7_needed_100
        · skip
          refine V_table X (tgt := 101) (off := 50) (tsel_out (by have z0 := lv_neT q51_0 (show (0 : Int32).toInt = 0 by decide); have z1 := lv_neT q51_1 (show (1 : Int32).toInt = 1 by decide); have z2 := lv_neT q51_2 (show (2 : Int32).toInt = 2 by decide); have z3 := lv_neT q51_3 (show (3 : Int32).toInt = 3 by decide); omega)) (by decide) (by decide) dX7_needed_51 ?_
          have hf16 := hf51_3
          refine V_aload_n X 4 rfl dX7_needed_101 ?_
          refine G_X7_0_10 hE X dX7_needed_102 ?_
          refine V_iload_n X 2 rfl dX7_needed_105 ?_
          refine V_iload X 1 rfl dX7_needed_106 ?_
          refine V_iload X 0 rfl dX7_needed_108 ?_
          obtain ⟨c16, e_c16, hf18⟩ := obd hf16
          refine V_callVi X (SR_1 hE).1 rfl rfl (f5_missing_ok (SR_1 hE) e_c16) ys_X5_missing yw_X5_missing ml_X7_170 rfl rfl ⟨Nat.le_of_ble_eq_true rfl, Nat.le_of_ble_eq_true rfl⟩ ⟨Nat.zero_le _, Nat.zero_le _⟩ (Nat.le_of_ble_eq_true rfl) dX7_needed_110 ?_
          exact V_iret X rfl hf18 dX7_needed_113
      · have hf6 := ift hf5 q23
        refine V_bipush X (v := -6) (by decide) dX7_needed_26 ?_
        exact V_iret X rfl hf6 dX7_needed_28
    · have hf3 := ife hf2 q6
      refine V_bipush X (v := -2) (by decide) dX7_needed_9 ?_
      exact V_iret X rfl hf3 dX7_needed_11
def f7_needed (x1 : Int32) (h : Hp) : Re := f7_needed_e x1 h
theorem f7_needed_ok (hE : IW E) {x1 : Int32} {h : Hp} {q : Int32 × Hp} (hf0 : f7_needed x1 h = some q) : SMi l E 5 yX7_needed cX7_needed 6 (some .int) [.ref (eA E 0), .int x1] h q.1 q.2 :=
  SMi.of (by decide +kernel) (Nat.le_of_ble_eq_true rfl) (fun p e s m args below meth c A X => f7_needed_e_ok hE X (r := q.1) (h' := q.2) hf0)
def f7_lacking_B4 (k4 : Int32 → Int32 → Hp → Re) (x1 : Int32) (x2 : Int32) (h : Hp) : Re :=
  if 6 < x2 then (some (x1, h)) else ((f6_tally 5 x2 (-1) (-1) h).bind fun c2 => (f5_funnel 1 x2 c2.2).bind fun c4 => if c2.1 ≤ c4.1 then (k4 x1 (x2 + 1) c4.2) else ((some (x1 ||| ((1 : Int32) <<< (x2 &&& 31)) : Int32)).bind fun z7 => k4 z7 (x2 + 1) c4.2))
set_option maxRecDepth 20000 in
set_option maxHeartbeats 4000000 in
theorem f7_lacking_B4_ok (hE : IW E) (X : XC E RX7 cX7_lacking 4 (some .int) A p s m args meth c) {k4 : Int32 → Int32 → Hp → Re} (hk4 : ∀ (x1 : Int32) (x2 : Int32) (h : Hp), k4 x1 x2 h = some (r, h') → VM E 4 A p l e 6 s m args below meth c (Qi E A r h') 4 [(0, .ref (eA E 0)), (1, .int x1), (2, .int x2)] [] h) {x1 : Int32} {x2 : Int32} {h : Hp} (hf0 : f7_lacking_B4 k4 x1 x2 h = some (r, h')) : VM E 4 A p l e 6 s m args below meth c (Qi E A r h') 4 [(0, .ref (eA E 0)), (1, .int x1), (2, .int x2)] [] h := by
  unfold f7_lacking_B4 at hf0
  have hf1 := hf0
  refine V_iload_n X 2 rfl dX7_lacking_4 ?_
  refine V_bipush X (v := 6) (by decide) dX7_lacking_5 ?_
  refine V_icmp_gt X (tgt := 46) (by decide) dX7_lacking_7 (fun q7 => ?_) (fun q7 => ?_)
  · have hf2 := ift hf1 q7
    refine V_iload_n X 1 rfl dX7_lacking_46 ?_
    exact V_iret X rfl hf2 dX7_lacking_47
  · have hf2 := ife hf1 q7
    refine V_aload_n X 0 rfl dX7_lacking_10 ?_
    refine G_X7_0_10 hE X dX7_lacking_11 ?_
    refine V_iconst X (v := 5) (by decide) dX7_lacking_14 ?_
    refine V_iload_n X 2 rfl dX7_lacking_15 ?_
    refine V_iconst X (v := -1) (by decide) dX7_lacking_16 ?_
    refine V_iconst X (v := -1) (by decide) dX7_lacking_17 ?_
    obtain ⟨c2, e_c2, hf4⟩ := obd hf2
    refine V_callSi X (f6_tally_ok hE e_c2) ys_X6_tally yw_X6_tally ml_X7_127 rfl rfl ⟨Nat.le_of_ble_eq_true rfl, Nat.le_of_ble_eq_true rfl⟩ ⟨Nat.zero_le _, Nat.zero_le _⟩ (Nat.le_of_ble_eq_true rfl) dX7_lacking_18 ?_
    refine V_istore_n X (by decide) rfl dX7_lacking_21 ?_
    refine V_iload_n X 0 rfl dX7_lacking_22 ?_
    refine V_aload_n X 1 rfl dX7_lacking_23 ?_
    refine G_X7_0_10 hE X dX7_lacking_24 ?_
    refine V_iload_n X 3 rfl dX7_lacking_27 ?_
    obtain ⟨c4, e_c4, hf6⟩ := obd hf4
    refine V_callVi X (SR_1 hE).1 rfl rfl (f5_funnel_ok (SR_1 hE) e_c4) ys_X5_funnel yw_X5_funnel ml_X7_145 rfl rfl ⟨Nat.le_of_ble_eq_true rfl, Nat.le_of_ble_eq_true rfl⟩ ⟨Nat.zero_le _, Nat.zero_le _⟩ (Nat.le_of_ble_eq_true rfl) dX7_lacking_28 ?_
    refine V_icmp_le X (tgt := 40) (by decide) dX7_lacking_31 (fun q31 => ?_) (fun q31 => ?_)
    · have hf7 := ift hf6 q31
      refine V_iinc X (v := _ + 1) 3 rfl (by rfl) (by decide) rfl dX7_lacking_40 ?_
      refine V_goto X (tgt := 4) (by decide) dX7_lacking_43 ?_
      exact V_sub [2, 3, 0] rfl (hk4 _ _ _ hf7)
    · have hf7 := ife hf6 q31
      refine V_iload_n X 2 rfl dX7_lacking_34 ?_
      refine V_iconst X (v := 1) (by decide) dX7_lacking_35 ?_
      refine V_iload_n X 3 rfl dX7_lacking_36 ?_
      refine V_ishl X dX7_lacking_37 ?_
      refine V_ior X dX7_lacking_38 ?_
      refine V_istore_n X (by decide) rfl dX7_lacking_39 ?_
      have hf9 := obs hf7
      refine V_iinc X (v := _ + 1) 3 rfl (by rfl) (by decide) rfl dX7_lacking_40 ?_
      refine V_goto X (tgt := 4) (by decide) dX7_lacking_43 ?_
      exact V_sub [3, 1, 0] rfl (hk4 _ _ _ hf9)
def f7_lacking_L4 : Nat → Int32 → Int32 → Hp → Re
  | 0 => fun _ _ _ => none
  | n + 1 => f7_lacking_B4 (f7_lacking_L4 n)
theorem f7_lacking_L4_s (n : Nat) (x1 : Int32) (x2 : Int32) (h : Hp) : f7_lacking_L4 (n + 1) x1 x2 h = f7_lacking_B4 (f7_lacking_L4 n) x1 x2 h := rfl
theorem f7_lacking_L4_ok (hE : IW E) (X : XC E RX7 cX7_lacking 4 (some .int) A p s m args meth c) : ∀ (n : Nat) (x1 : Int32) (x2 : Int32) (h : Hp), f7_lacking_L4 n x1 x2 h = some (r, h') → VM E 4 A p l e 6 s m args below meth c (Qi E A r h') 4 [(0, .ref (eA E 0)), (1, .int x1), (2, .int x2)] [] h := by
  intro n
  induction n with
  | zero =>
    intro x1 x2 h q
    have q : (none : Re) = some (r, h') := q
    cases q
  | succ n ih =>
    intro x1 x2 h q
    exact f7_lacking_B4_ok hE X ih q
def f7_lacking_e (h : Hp) : Re :=
  f7_lacking_L4 FU 0 1 h
set_option maxRecDepth 20000 in
set_option maxHeartbeats 4000000 in
theorem f7_lacking_e_ok (hE : IW E) (X : XC E RX7 cX7_lacking 4 (some .int) A p s m args meth c) {h : Hp} (hf0 : f7_lacking_e  h = some (r, h')) : VM E 4 A p l e 6 s m args below meth c (Qi E A r h') 0 [(0, .ref (eA E 0))] [] h := by
  unfold f7_lacking_e at hf0
  have hf1 := hf0
  refine V_iconst X (v := 0) (by decide) dX7_lacking_0 ?_
  refine V_istore_n X (by decide) rfl dX7_lacking_1 ?_
  refine V_iconst X (v := 1) (by decide) dX7_lacking_2 ?_
  refine V_istore_n X (by decide) rfl dX7_lacking_3 ?_
  exact V_sub [2, 1, 0] rfl (f7_lacking_L4_ok hE X FU _ _ _ hf1)
def f7_lacking (h : Hp) : Re := f7_lacking_e  h
theorem f7_lacking_ok (hE : IW E) {h : Hp} {q : Int32 × Hp} (hf0 : f7_lacking  h = some q) : SMi l E 6 yX7_lacking cX7_lacking 4 (some .int) [.ref (eA E 0)] h q.1 q.2 :=
  SMi.of (by decide +kernel) (Nat.le_of_ble_eq_true rfl) (fun p e s m args below meth c A X => f7_lacking_e_ok hE X (r := q.1) (h' := q.2) hf0)
def f7_ifBreathed_e (x1 : Int32) (x2 : Int32) (x3 : Int32) (h : Hp) : Re :=
  (f7_isQuarter x1 h).bind fun c1 => if c1.1 = 0 then (some ((-1), c1.2)) else ((f7_isDirection x2 c1.2).bind fun c4 => if c4.1 = 0 then (some ((-2), c4.2)) else (if x3 < 0 then (some ((-2), c4.2)) else (if x3 ≤ 2 then ((f5_copyFrom 3 1  c4.2).bind fun c9 => (f0_over 3 x1 x2 c9.2).bind fun c11 => if x3 = 0 then (some (c11.1, c11.2)) else if x3 = 1 then ((f6_rightOnlyInFirst 1 3 x1 c11.2).bind fun c16 => some (c16.1, c16.2)) else ((f6_rightOnlyInFirst 3 1 x1 c11.2).bind fun c19 => some (c19.1, c19.2))) else (some ((-2), c4.2)))))
set_option maxRecDepth 20000 in
set_option maxHeartbeats 4000000 in
theorem f7_ifBreathed_e_ok (hE : IW E) (X : XC E RX7 cX7_ifBreathed 5 (some .int) A p s m args meth c) {x1 : Int32} {x2 : Int32} {x3 : Int32} {h : Hp} (hf0 : f7_ifBreathed_e x1 x2 x3 h = some (r, h')) : VM E 5 A p l e 5 s m args below meth c (Qi E A r h') 0 [(0, .ref (eA E 0)), (1, .int x1), (2, .int x2), (3, .int x3)] [] h := by
  unfold f7_ifBreathed_e at hf0
  have hf1 := hf0
  refine V_iload_n X 1 rfl dX7_ifBreathed_0 ?_
  obtain ⟨c1, e_c1, hf3⟩ := obd hf1
  refine V_callSi X (f7_isQuarter_ok e_c1) ys_X7_isQuarter yw_X7_isQuarter ml_X7_130 rfl rfl ⟨Nat.le_of_ble_eq_true rfl, Nat.le_of_ble_eq_true rfl⟩ ⟨Nat.zero_le _, Nat.zero_le _⟩ (Nat.le_of_ble_eq_true rfl) dX7_ifBreathed_1 ?_
  refine V_if_ne X (tgt := 9) (by decide) dX7_ifBreathed_4 (fun q4 => ?_) (fun q4 => ?_)
  · have hf4 := ife hf3 q4
    refine V_iload_n X 2 rfl dX7_ifBreathed_9 ?_
    obtain ⟨c4, e_c4, hf6⟩ := obd hf4
    refine V_callSi X (f7_isDirection_ok e_c4) ys_X7_isDirection yw_X7_isDirection ml_X7_173 rfl rfl ⟨Nat.le_of_ble_eq_true rfl, Nat.le_of_ble_eq_true rfl⟩ ⟨Nat.zero_le _, Nat.zero_le _⟩ (Nat.le_of_ble_eq_true rfl) dX7_ifBreathed_10 ?_
    refine V_if_eq X (tgt := 25) (by decide) dX7_ifBreathed_13 (fun q13 => ?_) (fun q13 => ?_)
    · have hf7 := ift hf6 q13
      refine V_bipush X (v := -2) (by decide) dX7_ifBreathed_25 ?_
      exact V_iret X rfl hf7 dX7_ifBreathed_27
    · have hf7 := ife hf6 q13
      refine V_iload_n X 3 rfl dX7_ifBreathed_16 ?_
      refine V_if_lt X (tgt := 25) (by decide) dX7_ifBreathed_17 (fun q17 => ?_) (fun q17 => ?_)
      · have hf8 := ift hf7 q17
        refine V_bipush X (v := -2) (by decide) dX7_ifBreathed_25 ?_
        exact V_iret X rfl hf8 dX7_ifBreathed_27
      · have hf8 := ife hf7 q17
        refine V_iload_n X 3 rfl dX7_ifBreathed_20 ?_
        refine V_iconst X (v := 2) (by decide) dX7_ifBreathed_21 ?_
        refine V_icmp_le X (tgt := 28) (by decide) dX7_ifBreathed_22 (fun q22 => ?_) (fun q22 => ?_)
        · have hf9 := ift hf8 q22
          refine V_aload_n X 0 rfl dX7_ifBreathed_28 ?_
          refine G_X7_1_16 hE X dX7_ifBreathed_29 ?_
          refine V_aload_n X 0 rfl dX7_ifBreathed_32 ?_
          refine G_X7_0_10 hE X dX7_ifBreathed_33 ?_
          obtain ⟨c9, e_c9, hf11⟩ := obd hf9
          refine V_callVv X (SR_3 hE).1 rfl rfl (f5_copyFrom_ok (SR_3 hE) (SR_1 hE) e_c9) ys_X5_copyFrom yw_X5_copyFrom ml_X7_176 rfl rfl ⟨Nat.le_of_ble_eq_true rfl, Nat.le_of_ble_eq_true rfl⟩ ⟨Nat.zero_le _, Nat.zero_le _⟩ (Nat.le_of_ble_eq_true rfl) dX7_ifBreathed_36 ?_
          refine V_aload_n X 0 rfl dX7_ifBreathed_39 ?_
          refine G_X7_2_22 hE X dX7_ifBreathed_40 ?_
          refine V_aload_n X 0 rfl dX7_ifBreathed_43 ?_
          refine G_X7_1_16 hE X dX7_ifBreathed_44 ?_
          refine V_iload_n X 1 rfl dX7_ifBreathed_47 ?_
          refine V_iload_n X 2 rfl dX7_ifBreathed_48 ?_
          obtain ⟨c11, e_c11, hf13⟩ := obd hf11
          refine V_callVi X (OB_5 hE) rfl rfl (f0_over_ok hE (SR_3 hE) e_c11) ys_X0_over yw_X0_over ml_X7_179 rfl rfl ⟨Nat.le_of_ble_eq_true rfl, Nat.le_of_ble_eq_true rfl⟩ ⟨Nat.zero_le _, Nat.zero_le _⟩ (Nat.le_of_ble_eq_true rfl) dX7_ifBreathed_49 ?_
          refine V_istore X (by decide) rfl dX7_ifBreathed_52 ?_
          refine V_iload_n X 4 rfl dX7_ifBreathed_54 ?_
          rcases oif hf13 with ⟨q55_0, hf55_0⟩ | ⟨q55_0, hf55_0⟩
          · refine V_lookup X (tgt := 80) (off := 25) (by decide) (by rw [q55_0]; decide) (by decide) dX7_ifBreathed_55 ?_
            have hf15 := hf55_0
            refine V_iload X 0 rfl dX7_ifBreathed_80 ?_
            exact V_iret X rfl hf15 dX7_ifBreathed_82
          rcases oif hf55_0 with ⟨q55_1, hf55_1⟩ | ⟨q55_1, hf55_1⟩
          · refine V_lookup X (tgt := 83) (off := 28) (by decide) (by rw [q55_1]; decide) (by decide) dX7_ifBreathed_55 ?_
            have hf16 := hf55_1
            refine V_aload_n X 1 rfl dX7_ifBreathed_83 ?_
            refine G_X7_0_10 hE X dX7_ifBreathed_84 ?_
            refine V_aload_n X 1 rfl dX7_ifBreathed_87 ?_
            refine G_X7_1_16 hE X dX7_ifBreathed_88 ?_
            refine V_iload_n X 2 rfl dX7_ifBreathed_91 ?_
            obtain ⟨c16, e_c16, hf18⟩ := obd hf16
            refine V_callSi X (f6_rightOnlyInFirst_ok (SR_1 hE) (SR_3 hE) e_c16) ys_X6_rightOnlyInFirst yw_X6_rightOnlyInFirst ml_X7_182 rfl rfl ⟨Nat.le_of_ble_eq_true rfl, Nat.le_of_ble_eq_true rfl⟩ ⟨Nat.zero_le _, Nat.zero_le _⟩ (Nat.le_of_ble_eq_true rfl) dX7_ifBreathed_92 ?_
            exact V_iret X rfl hf18 dX7_ifBreathed_95
          · skip
            refine V_lookup X (tgt := 96) (off := 41) (by decide) (by show Op.lookupswitch.offset [(0, 25), (1, 28)] 41 _ = _; rw [lv_osw q55_0 (show (0 : Int32).toInt = 0 by decide), lv_osw q55_1 (show (1 : Int32).toInt = 1 by decide)]; rfl) (by decide) dX7_ifBreathed_55 ?_
            have hf19 := hf55_1
            refine V_aload_n X 1 rfl dX7_ifBreathed_96 ?_
            refine G_X7_1_16 hE X dX7_ifBreathed_97 ?_
            refine V_aload_n X 1 rfl dX7_ifBreathed_100 ?_
            refine G_X7_0_10 hE X dX7_ifBreathed_101 ?_
            refine V_iload_n X 2 rfl dX7_ifBreathed_104 ?_
            obtain ⟨c19, e_c19, hf21⟩ := obd hf19
            refine V_callSi X (f6_rightOnlyInFirst_ok (SR_3 hE) (SR_1 hE) e_c19) ys_X6_rightOnlyInFirst yw_X6_rightOnlyInFirst ml_X7_182 rfl rfl ⟨Nat.le_of_ble_eq_true rfl, Nat.le_of_ble_eq_true rfl⟩ ⟨Nat.zero_le _, Nat.zero_le _⟩ (Nat.le_of_ble_eq_true rfl) dX7_ifBreathed_105 ?_
            exact V_iret X rfl hf21 dX7_ifBreathed_108
        · have hf9 := ife hf8 q22
          refine V_bipush X (v := -2) (by decide) dX7_ifBreathed_25 ?_
          exact V_iret X rfl hf9 dX7_ifBreathed_27
  · have hf4 := ift hf3 q4
    refine V_iconst X (v := -1) (by decide) dX7_ifBreathed_7 ?_
    exact V_iret X rfl hf4 dX7_ifBreathed_8
def f7_ifBreathed (x1 : Int32) (x2 : Int32) (x3 : Int32) (h : Hp) : Re := f7_ifBreathed_e x1 x2 x3 h
theorem f7_ifBreathed_ok (hE : IW E) {x1 : Int32} {x2 : Int32} {x3 : Int32} {h : Hp} {q : Int32 × Hp} (hf0 : f7_ifBreathed x1 x2 x3 h = some q) : SMi l E 5 yX7_ifBreathed cX7_ifBreathed 5 (some .int) [.ref (eA E 0), .int x1, .int x2, .int x3] h q.1 q.2 :=
  SMi.of (by decide +kernel) (Nat.le_of_ble_eq_true rfl) (fun p e s m args below meth c A X => f7_ifBreathed_e_ok hE X (r := q.1) (h' := q.2) hf0)
def f7_settles_B32 (k32 : Int32 → Int32 → Int32 → Hp → Re) (x1 : Int32) (x2 : Int32) (x3 : Int32) (h : Hp) : Re :=
  if 200 < x3 then (some ((-6), h)) else ((f0_over 3 x1 x2 h).bind fun c2 => (f0_changedSomething  c2.2).bind fun c4 => if c4.1 = 0 then (some (x3, c4.2)) else (k32 x1 x2 (x3 + 1) c4.2))
set_option maxRecDepth 20000 in
set_option maxHeartbeats 4000000 in
theorem f7_settles_B32_ok (hE : IW E) (X : XC E RX7 cX7_settles 4 (some .int) A p s m args meth c) {k32 : Int32 → Int32 → Int32 → Hp → Re} (hk32 : ∀ (x1 : Int32) (x2 : Int32) (x3 : Int32) (h : Hp), k32 x1 x2 x3 h = some (r, h') → VM E 4 A p l e 4 s m args below meth c (Qi E A r h') 32 [(0, .ref (eA E 0)), (1, .int x1), (2, .int x2), (3, .int x3)] [] h) {x1 : Int32} {x2 : Int32} {x3 : Int32} {h : Hp} (hf0 : f7_settles_B32 k32 x1 x2 x3 h = some (r, h')) : VM E 4 A p l e 4 s m args below meth c (Qi E A r h') 32 [(0, .ref (eA E 0)), (1, .int x1), (2, .int x2), (3, .int x3)] [] h := by
  unfold f7_settles_B32 at hf0
  have hf1 := hf0
  refine V_iload_n X 3 rfl dX7_settles_32 ?_
  refine V_sipush X (v := 200) (by decide) dX7_settles_33 ?_
  refine V_icmp_gt X (tgt := 71) (by decide) dX7_settles_36 (fun q36 => ?_) (fun q36 => ?_)
  · have hf2 := ift hf1 q36
    refine V_bipush X (v := -6) (by decide) dX7_settles_71 ?_
    exact V_iret X rfl hf2 dX7_settles_73
  · have hf2 := ife hf1 q36
    refine V_aload_n X 0 rfl dX7_settles_39 ?_
    refine G_X7_2_22 hE X dX7_settles_40 ?_
    refine V_aload_n X 0 rfl dX7_settles_43 ?_
    refine G_X7_1_16 hE X dX7_settles_44 ?_
    refine V_iload_n X 1 rfl dX7_settles_47 ?_
    refine V_iload_n X 2 rfl dX7_settles_48 ?_
    obtain ⟨c2, e_c2, hf4⟩ := obd hf2
    refine V_callVi X (OB_5 hE) rfl rfl (f0_over_ok hE (SR_3 hE) e_c2) ys_X0_over yw_X0_over ml_X7_179 rfl rfl ⟨Nat.le_of_ble_eq_true rfl, Nat.le_of_ble_eq_true rfl⟩ ⟨Nat.zero_le _, Nat.zero_le _⟩ (Nat.le_of_ble_eq_true rfl) dX7_settles_49 ?_
    refine V_pop X rfl dX7_settles_52 ?_
    refine V_aload_n X 0 rfl dX7_settles_53 ?_
    refine G_X7_2_22 hE X dX7_settles_54 ?_
    obtain ⟨c4, e_c4, hf6⟩ := obd hf4
    refine V_callVi X (OB_5 hE) rfl rfl (f0_changedSomething_ok hE e_c4) ys_X0_changedSomething yw_X0_changedSomething ml_X7_186 rfl rfl ⟨Nat.le_of_ble_eq_true rfl, Nat.le_of_ble_eq_true rfl⟩ ⟨Nat.zero_le _, Nat.zero_le _⟩ (Nat.le_of_ble_eq_true rfl) dX7_settles_57 ?_
    refine V_if_ne X (tgt := 65) (by decide) dX7_settles_60 (fun q60 => ?_) (fun q60 => ?_)
    · have hf7 := ife hf6 q60
      refine V_iinc X (v := _ + 1) 3 rfl (by rfl) (by decide) rfl dX7_settles_65 ?_
      refine V_goto X (tgt := 32) (by decide) dX7_settles_68 ?_
      exact V_sub [1, 2, 3, 0] rfl (hk32 _ _ _ _ hf7)
    · have hf7 := ift hf6 q60
      refine V_iload_n X 3 rfl dX7_settles_63 ?_
      exact V_iret X rfl hf7 dX7_settles_64
def f7_settles_L32 : Nat → Int32 → Int32 → Int32 → Hp → Re
  | 0 => fun _ _ _ _ => none
  | n + 1 => f7_settles_B32 (f7_settles_L32 n)
theorem f7_settles_L32_s (n : Nat) (x1 : Int32) (x2 : Int32) (x3 : Int32) (h : Hp) : f7_settles_L32 (n + 1) x1 x2 x3 h = f7_settles_B32 (f7_settles_L32 n) x1 x2 x3 h := rfl
theorem f7_settles_L32_ok (hE : IW E) (X : XC E RX7 cX7_settles 4 (some .int) A p s m args meth c) : ∀ (n : Nat) (x1 : Int32) (x2 : Int32) (x3 : Int32) (h : Hp), f7_settles_L32 n x1 x2 x3 h = some (r, h') → VM E 4 A p l e 4 s m args below meth c (Qi E A r h') 32 [(0, .ref (eA E 0)), (1, .int x1), (2, .int x2), (3, .int x3)] [] h := by
  intro n
  induction n with
  | zero =>
    intro x1 x2 x3 h q
    have q : (none : Re) = some (r, h') := q
    cases q
  | succ n ih =>
    intro x1 x2 x3 h q
    exact f7_settles_B32_ok hE X ih q
def f7_settles_e (x1 : Int32) (x2 : Int32) (h : Hp) : Re :=
  (f7_isQuarter x1 h).bind fun c1 => if c1.1 = 0 then (some ((-1), c1.2)) else ((f7_isDirection x2 c1.2).bind fun c4 => if c4.1 = 0 then (some ((-2), c4.2)) else ((f5_copyFrom 3 1  c4.2).bind fun c7 => f7_settles_L32 FU x1 x2 0 c7.2))
set_option maxRecDepth 20000 in
set_option maxHeartbeats 4000000 in
theorem f7_settles_e_ok (hE : IW E) (X : XC E RX7 cX7_settles 4 (some .int) A p s m args meth c) {x1 : Int32} {x2 : Int32} {h : Hp} (hf0 : f7_settles_e x1 x2 h = some (r, h')) : VM E 4 A p l e 4 s m args below meth c (Qi E A r h') 0 [(0, .ref (eA E 0)), (1, .int x1), (2, .int x2)] [] h := by
  unfold f7_settles_e at hf0
  have hf1 := hf0
  refine V_iload_n X 1 rfl dX7_settles_0 ?_
  obtain ⟨c1, e_c1, hf3⟩ := obd hf1
  refine V_callSi X (f7_isQuarter_ok e_c1) ys_X7_isQuarter yw_X7_isQuarter ml_X7_130 rfl rfl ⟨Nat.le_of_ble_eq_true rfl, Nat.le_of_ble_eq_true rfl⟩ ⟨Nat.zero_le _, Nat.zero_le _⟩ (Nat.le_of_ble_eq_true rfl) dX7_settles_1 ?_
  refine V_if_ne X (tgt := 9) (by decide) dX7_settles_4 (fun q4 => ?_) (fun q4 => ?_)
  · have hf4 := ife hf3 q4
    refine V_iload_n X 2 rfl dX7_settles_9 ?_
    obtain ⟨c4, e_c4, hf6⟩ := obd hf4
    refine V_callSi X (f7_isDirection_ok e_c4) ys_X7_isDirection yw_X7_isDirection ml_X7_173 rfl rfl ⟨Nat.le_of_ble_eq_true rfl, Nat.le_of_ble_eq_true rfl⟩ ⟨Nat.zero_le _, Nat.zero_le _⟩ (Nat.le_of_ble_eq_true rfl) dX7_settles_10 ?_
    refine V_if_ne X (tgt := 19) (by decide) dX7_settles_13 (fun q13 => ?_) (fun q13 => ?_)
    · have hf7 := ife hf6 q13
      refine V_aload_n X 0 rfl dX7_settles_19 ?_
      refine G_X7_1_16 hE X dX7_settles_20 ?_
      refine V_aload_n X 0 rfl dX7_settles_23 ?_
      refine G_X7_0_10 hE X dX7_settles_24 ?_
      obtain ⟨c7, e_c7, hf9⟩ := obd hf7
      refine V_callVv X (SR_3 hE).1 rfl rfl (f5_copyFrom_ok (SR_3 hE) (SR_1 hE) e_c7) ys_X5_copyFrom yw_X5_copyFrom ml_X7_176 rfl rfl ⟨Nat.le_of_ble_eq_true rfl, Nat.le_of_ble_eq_true rfl⟩ ⟨Nat.zero_le _, Nat.zero_le _⟩ (Nat.le_of_ble_eq_true rfl) dX7_settles_27 ?_
      refine V_iconst X (v := 0) (by decide) dX7_settles_30 ?_
      refine V_istore_n X (by decide) rfl dX7_settles_31 ?_
      exact V_sub [1, 2, 3, 0] rfl (f7_settles_L32_ok hE X FU _ _ _ _ hf9)
    · have hf7 := ift hf6 q13
      refine V_bipush X (v := -2) (by decide) dX7_settles_16 ?_
      exact V_iret X rfl hf7 dX7_settles_18
  · have hf4 := ift hf3 q4
    refine V_iconst X (v := -1) (by decide) dX7_settles_7 ?_
    exact V_iret X rfl hf4 dX7_settles_8
def f7_settles (x1 : Int32) (x2 : Int32) (h : Hp) : Re := f7_settles_e x1 x2 h
theorem f7_settles_ok (hE : IW E) {x1 : Int32} {x2 : Int32} {h : Hp} {q : Int32 × Hp} (hf0 : f7_settles x1 x2 h = some q) : SMi l E 4 yX7_settles cX7_settles 4 (some .int) [.ref (eA E 0), .int x1, .int x2] h q.1 q.2 :=
  SMi.of (by decide +kernel) (Nat.le_of_ble_eq_true rfl) (fun p e s m args below meth c A X => f7_settles_e_ok hE X (r := q.1) (h' := q.2) hf0)
def f7_best_B6 (k6 : Int32 → Int32 → Int32 → Hp → Re) (x1 : Int32) (x2 : Int32) (x3 : Int32) (h : Hp) : Re :=
  if 4 ≤ x3 then (some (x1, h)) else ((f6_tally 1 (-1) x3 (-1) h).bind fun c2 => if c2.1 ≤ x2 then (k6 x1 x2 (x3 + 1) c2.2) else (k6 x3 c2.1 (x3 + 1) c2.2))
set_option maxRecDepth 20000 in
set_option maxHeartbeats 4000000 in
theorem f7_best_B6_ok (hE : IW E) (X : XC E RX7 cX7_best 5 (some .int) A p s m args meth c) {k6 : Int32 → Int32 → Int32 → Hp → Re} (hk6 : ∀ (x1 : Int32) (x2 : Int32) (x3 : Int32) (h : Hp), k6 x1 x2 x3 h = some (r, h') → VM E 5 A p l e 6 s m args below meth c (Qi E A r h') 6 [(0, .ref (eA E 0)), (1, .int x1), (2, .int x2), (3, .int x3)] [] h) {x1 : Int32} {x2 : Int32} {x3 : Int32} {h : Hp} (hf0 : f7_best_B6 k6 x1 x2 x3 h = some (r, h')) : VM E 5 A p l e 6 s m args below meth c (Qi E A r h') 6 [(0, .ref (eA E 0)), (1, .int x1), (2, .int x2), (3, .int x3)] [] h := by
  unfold f7_best_B6 at hf0
  have hf1 := hf0
  refine V_iload_n X 3 rfl dX7_best_6 ?_
  refine V_iconst X (v := 4) (by decide) dX7_best_7 ?_
  refine V_icmp_ge X (tgt := 41) (by decide) dX7_best_8 (fun q8 => ?_) (fun q8 => ?_)
  · have hf2 := ift hf1 q8
    refine V_iload_n X 1 rfl dX7_best_41 ?_
    exact V_iret X rfl hf2 dX7_best_42
  · have hf2 := ife hf1 q8
    refine V_aload_n X 0 rfl dX7_best_11 ?_
    refine G_X7_0_10 hE X dX7_best_12 ?_
    refine V_iconst X (v := 1) (by decide) dX7_best_15 ?_
    refine V_iconst X (v := -1) (by decide) dX7_best_16 ?_
    refine V_iload_n X 3 rfl dX7_best_17 ?_
    refine V_iconst X (v := -1) (by decide) dX7_best_18 ?_
    obtain ⟨c2, e_c2, hf4⟩ := obd hf2
    refine V_callSi X (f6_tally_ok hE e_c2) ys_X6_tally yw_X6_tally ml_X7_127 rfl rfl ⟨Nat.le_of_ble_eq_true rfl, Nat.le_of_ble_eq_true rfl⟩ ⟨Nat.zero_le _, Nat.zero_le _⟩ (Nat.le_of_ble_eq_true rfl) dX7_best_19 ?_
    refine V_istore X (by decide) rfl dX7_best_22 ?_
    refine V_iload X 0 rfl dX7_best_24 ?_
    refine V_iload_n X 3 rfl dX7_best_26 ?_
    refine V_icmp_le X (tgt := 35) (by decide) dX7_best_27 (fun q27 => ?_) (fun q27 => ?_)
    · have hf5 := ift hf4 q27
      refine V_iinc X (v := _ + 1) 4 rfl (by rfl) (by decide) rfl dX7_best_35 ?_
      refine V_goto X (tgt := 6) (by decide) dX7_best_38 ?_
      exact V_sub [2, 3, 4, 0] rfl (hk6 _ _ _ _ hf5)
    · have hf5 := ife hf4 q27
      refine V_iload X 0 rfl dX7_best_30 ?_
      refine V_istore_n X (by decide) rfl dX7_best_32 ?_
      refine V_iload_n X 4 rfl dX7_best_33 ?_
      refine V_istore_n X (by decide) rfl dX7_best_34 ?_
      refine V_iinc X (v := _ + 1) 4 rfl (by rfl) (by decide) rfl dX7_best_35 ?_
      refine V_goto X (tgt := 6) (by decide) dX7_best_38 ?_
      exact V_sub [4, 1, 2, 0] rfl (hk6 _ _ _ _ hf5)
def f7_best_L6 : Nat → Int32 → Int32 → Int32 → Hp → Re
  | 0 => fun _ _ _ _ => none
  | n + 1 => f7_best_B6 (f7_best_L6 n)
theorem f7_best_L6_s (n : Nat) (x1 : Int32) (x2 : Int32) (x3 : Int32) (h : Hp) : f7_best_L6 (n + 1) x1 x2 x3 h = f7_best_B6 (f7_best_L6 n) x1 x2 x3 h := rfl
theorem f7_best_L6_ok (hE : IW E) (X : XC E RX7 cX7_best 5 (some .int) A p s m args meth c) : ∀ (n : Nat) (x1 : Int32) (x2 : Int32) (x3 : Int32) (h : Hp), f7_best_L6 n x1 x2 x3 h = some (r, h') → VM E 5 A p l e 6 s m args below meth c (Qi E A r h') 6 [(0, .ref (eA E 0)), (1, .int x1), (2, .int x2), (3, .int x3)] [] h := by
  intro n
  induction n with
  | zero =>
    intro x1 x2 x3 h q
    have q : (none : Re) = some (r, h') := q
    cases q
  | succ n ih =>
    intro x1 x2 x3 h q
    exact f7_best_B6_ok hE X ih q
def f7_best_e (h : Hp) : Re :=
  f7_best_L6 FU 0 0 0 h
set_option maxRecDepth 20000 in
set_option maxHeartbeats 4000000 in
theorem f7_best_e_ok (hE : IW E) (X : XC E RX7 cX7_best 5 (some .int) A p s m args meth c) {h : Hp} (hf0 : f7_best_e  h = some (r, h')) : VM E 5 A p l e 6 s m args below meth c (Qi E A r h') 0 [(0, .ref (eA E 0))] [] h := by
  unfold f7_best_e at hf0
  have hf1 := hf0
  refine V_iconst X (v := 0) (by decide) dX7_best_0 ?_
  refine V_istore_n X (by decide) rfl dX7_best_1 ?_
  refine V_iconst X (v := 0) (by decide) dX7_best_2 ?_
  refine V_istore_n X (by decide) rfl dX7_best_3 ?_
  refine V_iconst X (v := 0) (by decide) dX7_best_4 ?_
  refine V_istore_n X (by decide) rfl dX7_best_5 ?_
  exact V_sub [3, 2, 1, 0] rfl (f7_best_L6_ok hE X FU _ _ _ _ hf1)
def f7_best (h : Hp) : Re := f7_best_e  h
theorem f7_best_ok (hE : IW E) {h : Hp} {q : Int32 × Hp} (hf0 : f7_best  h = some q) : SMi l E 6 yX7_best cX7_best 5 (some .int) [.ref (eA E 0)] h q.1 q.2 :=
  SMi.of (by decide +kernel) (Nat.le_of_ble_eq_true rfl) (fun p e s m args below meth c A X => f7_best_e_ok hE X (r := q.1) (h' := q.2) hf0)
def f7_put_e (x1 : Int64) (h : Hp) : Re :=
  (f4_append x1 h).bind fun c1 => some (c1.1, c1.2)
set_option maxRecDepth 20000 in
set_option maxHeartbeats 4000000 in
theorem f7_put_e_ok (hE : IW E) (X : XC E RX7 cX7_put 3 (some .int) A p s m args meth c) {x1 : Int64} {h : Hp} (hf0 : f7_put_e x1 h = some (r, h')) : VM E 3 A p l e 2 s m args below meth c (Qi E A r h') 0 [(0, .ref (eA E 0)), (1, .long x1)] [] h := by
  unfold f7_put_e at hf0
  have hf1 := hf0
  refine V_aload_n X 0 rfl dX7_put_0 ?_
  refine G_X7_4_36 hE X dX7_put_1 ?_
  refine V_lload_n X 1 rfl dX7_put_4 ?_
  obtain ⟨c1, e_c1, hf3⟩ := obd hf1
  refine V_callVi X (OB_10 hE) rfl rfl (f4_append_ok hE e_c1) ys_X4_append yw_X4_append ml_X7_190 rfl rfl ⟨Nat.le_of_ble_eq_true rfl, Nat.le_of_ble_eq_true rfl⟩ ⟨Nat.zero_le _, Nat.zero_le _⟩ (Nat.le_of_ble_eq_true rfl) dX7_put_5 ?_
  exact V_iret X rfl hf3 dX7_put_8
def f7_put (x1 : Int64) (h : Hp) : Re := f7_put_e x1 h
theorem f7_put_ok (hE : IW E) {x1 : Int64} {h : Hp} {q : Int32 × Hp} (hf0 : f7_put x1 h = some q) : SMi l E 2 yX7_put cX7_put 3 (some .int) [.ref (eA E 0), .long x1] h q.1 q.2 :=
  SMi.of (by decide +kernel) (Nat.le_of_ble_eq_true rfl) (fun p e s m args below meth c A X => f7_put_e_ok hE X (r := q.1) (h' := q.2) hf0)
def f7_wipe_e (h : Hp) : Re :=
  (f4_length  h).bind fun c1 => (f4_empty  c1.2).bind fun c3 => some (c1.1, c3.2)
set_option maxRecDepth 20000 in
set_option maxHeartbeats 4000000 in
theorem f7_wipe_e_ok (hE : IW E) (X : XC E RX7 cX7_wipe 2 (some .int) A p s m args meth c) {h : Hp} (hf0 : f7_wipe_e  h = some (r, h')) : VM E 2 A p l e 1 s m args below meth c (Qi E A r h') 0 [(0, .ref (eA E 0))] [] h := by
  unfold f7_wipe_e at hf0
  have hf1 := hf0
  refine V_aload_n X 0 rfl dX7_wipe_0 ?_
  refine G_X7_4_36 hE X dX7_wipe_1 ?_
  obtain ⟨c1, e_c1, hf3⟩ := obd hf1
  refine V_callVi X (OB_10 hE) rfl rfl (f4_length_ok hE e_c1) ys_X4_length yw_X4_length ml_X7_160 rfl rfl ⟨Nat.le_of_ble_eq_true rfl, Nat.le_of_ble_eq_true rfl⟩ ⟨Nat.zero_le _, Nat.zero_le _⟩ (Nat.le_of_ble_eq_true rfl) dX7_wipe_4 ?_
  refine V_istore_n X (by decide) rfl dX7_wipe_7 ?_
  refine V_aload_n X 1 rfl dX7_wipe_8 ?_
  refine G_X7_4_36 hE X dX7_wipe_9 ?_
  obtain ⟨c3, e_c3, hf5⟩ := obd hf3
  refine V_callVv X (OB_10 hE) rfl rfl (f4_empty_ok hE e_c3) ys_X4_empty yw_X4_empty ml_X7_194 rfl rfl ⟨Nat.le_of_ble_eq_true rfl, Nat.le_of_ble_eq_true rfl⟩ ⟨Nat.zero_le _, Nat.zero_le _⟩ (Nat.le_of_ble_eq_true rfl) dX7_wipe_12 ?_
  refine V_iload_n X 0 rfl dX7_wipe_15 ?_
  exact V_iret X rfl hf5 dX7_wipe_16
def f7_wipe (h : Hp) : Re := f7_wipe_e  h
theorem f7_wipe_ok (hE : IW E) {h : Hp} {q : Int32 × Hp} (hf0 : f7_wipe  h = some q) : SMi l E 1 yX7_wipe cX7_wipe 2 (some .int) [.ref (eA E 0)] h q.1 q.2 :=
  SMi.of (by decide +kernel) (Nat.le_of_ble_eq_true rfl) (fun p e s m args below meth c A X => f7_wipe_e_ok hE X (r := q.1) (h' := q.2) hf0)
def f7_undo_e (h : Hp) : Re :=
  (f2_goBack  h).bind fun c1 => some (c1.1, c1.2)
set_option maxRecDepth 20000 in
set_option maxHeartbeats 4000000 in
theorem f7_undo_e_ok (hE : IW E) (X : XC E RX7 cX7_undo 1 (some .int) A p s m args meth c) {h : Hp} (hf0 : f7_undo_e  h = some (r, h')) : VM E 1 A p l e 3 s m args below meth c (Qi E A r h') 0 [(0, .ref (eA E 0))] [] h := by
  unfold f7_undo_e at hf0
  have hf1 := hf0
  refine V_aload_n X 0 rfl dX7_undo_0 ?_
  refine G_X7_3_29 hE X dX7_undo_1 ?_
  refine V_aload_n X 0 rfl dX7_undo_4 ?_
  refine G_X7_0_10 hE X dX7_undo_5 ?_
  obtain ⟨c1, e_c1, hf3⟩ := obd hf1
  refine V_callVi X (OB_8 hE) rfl rfl (f2_goBack_ok hE e_c1) ys_X2_goBack yw_X2_goBack ml_X7_211 rfl rfl ⟨Nat.le_of_ble_eq_true rfl, Nat.le_of_ble_eq_true rfl⟩ ⟨Nat.zero_le _, Nat.zero_le _⟩ (Nat.le_of_ble_eq_true rfl) dX7_undo_8 ?_
  exact V_iret X rfl hf3 dX7_undo_11
def f7_undo (h : Hp) : Re := f7_undo_e  h
theorem f7_undo_ok (hE : IW E) {h : Hp} {q : Int32 × Hp} (hf0 : f7_undo  h = some q) : SMi l E 3 yX7_undo cX7_undo 1 (some .int) [.ref (eA E 0)] h q.1 q.2 :=
  SMi.of (by decide +kernel) (Nat.le_of_ble_eq_true rfl) (fun p e s m args below meth c A X => f7_undo_e_ok hE X (r := q.1) (h' := q.2) hf0)
def f7_save_e (x1 : Int32) (h : Hp) : Re :=
  (f2_isSlot x1 h).bind fun c1 => if c1.1 = 0 then (some ((-2), c1.2)) else ((f2_keepInSlot x1 c1.2).bind fun c4 => (f5_number 1 19 c4.2).bind fun c6 => some (c6.1, c6.2))
set_option maxRecDepth 20000 in
set_option maxHeartbeats 4000000 in
theorem f7_save_e_ok (hE : IW E) (X : XC E RX7 cX7_save 2 (some .int) A p s m args meth c) {x1 : Int32} {h : Hp} (hf0 : f7_save_e x1 h = some (r, h')) : VM E 2 A p l e 3 s m args below meth c (Qi E A r h') 0 [(0, .ref (eA E 0)), (1, .int x1)] [] h := by
  unfold f7_save_e at hf0
  have hf1 := hf0
  refine V_iload_n X 1 rfl dX7_save_0 ?_
  obtain ⟨c1, e_c1, hf3⟩ := obd hf1
  refine V_callSi X (f2_isSlot_ok e_c1) ys_X2_isSlot yw_X2_isSlot ml_X7_214 rfl rfl ⟨Nat.le_of_ble_eq_true rfl, Nat.le_of_ble_eq_true rfl⟩ ⟨Nat.zero_le _, Nat.zero_le _⟩ (Nat.le_of_ble_eq_true rfl) dX7_save_1 ?_
  refine V_if_ne X (tgt := 10) (by decide) dX7_save_4 (fun q4 => ?_) (fun q4 => ?_)
  · have hf4 := ife hf3 q4
    refine V_aload_n X 0 rfl dX7_save_10 ?_
    refine G_X7_3_29 hE X dX7_save_11 ?_
    refine V_iload_n X 1 rfl dX7_save_14 ?_
    refine V_aload_n X 0 rfl dX7_save_15 ?_
    refine G_X7_0_10 hE X dX7_save_16 ?_
    obtain ⟨c4, e_c4, hf6⟩ := obd hf4
    refine V_callVv X (OB_8 hE) rfl rfl (f2_keepInSlot_ok hE e_c4) ys_X2_keepInSlot yw_X2_keepInSlot ml_X7_217 rfl rfl ⟨Nat.le_of_ble_eq_true rfl, Nat.le_of_ble_eq_true rfl⟩ ⟨Nat.zero_le _, Nat.zero_le _⟩ (Nat.le_of_ble_eq_true rfl) dX7_save_19 ?_
    refine V_aload_n X 0 rfl dX7_save_22 ?_
    refine G_X7_0_10 hE X dX7_save_23 ?_
    refine V_bipush X (v := 19) (by decide) dX7_save_26 ?_
    obtain ⟨c6, e_c6, hf8⟩ := obd hf6
    refine V_callVi X (SR_1 hE).1 rfl rfl (f5_number_ok (SR_1 hE) e_c6) ys_X5_number yw_X5_number ml_X7_151 rfl rfl ⟨Nat.le_of_ble_eq_true rfl, Nat.le_of_ble_eq_true rfl⟩ ⟨Nat.zero_le _, Nat.zero_le _⟩ (Nat.le_of_ble_eq_true rfl) dX7_save_28 ?_
    exact V_iret X rfl hf8 dX7_save_31
  · have hf4 := ift hf3 q4
    refine V_bipush X (v := -2) (by decide) dX7_save_7 ?_
    exact V_iret X rfl hf4 dX7_save_9
def f7_save (x1 : Int32) (h : Hp) : Re := f7_save_e x1 h
theorem f7_save_ok (hE : IW E) {x1 : Int32} {h : Hp} {q : Int32 × Hp} (hf0 : f7_save x1 h = some q) : SMi l E 3 yX7_save cX7_save 2 (some .int) [.ref (eA E 0), .int x1] h q.1 q.2 :=
  SMi.of (by decide +kernel) (Nat.le_of_ble_eq_true rfl) (fun p e s m args below meth c A X => f7_save_e_ok hE X (r := q.1) (h' := q.2) hf0)
def f7_restore_e (x1 : Int32) (h : Hp) : Re :=
  (f2_isSlot x1 h).bind fun c1 => if c1.1 = 0 then (some ((-2), c1.2)) else ((f2_isSaved x1 c1.2).bind fun c4 => if c4.1 = 0 then (some ((-5), c4.2)) else ((f2_stage  c4.2).bind fun c7 => (f2_bringFromSlot x1 c7.2).bind fun c9 => (f5_number 1 19 c9.2).bind fun c11 => (f2_recordUnlessError c11.1 c11.2).bind fun c13 => some (c13.1, c13.2)))
set_option maxRecDepth 20000 in
set_option maxHeartbeats 4000000 in
theorem f7_restore_e_ok (hE : IW E) (X : XC E RX7 cX7_restore 2 (some .int) A p s m args meth c) {x1 : Int32} {h : Hp} (hf0 : f7_restore_e x1 h = some (r, h')) : VM E 2 A p l e 3 s m args below meth c (Qi E A r h') 0 [(0, .ref (eA E 0)), (1, .int x1)] [] h := by
  unfold f7_restore_e at hf0
  have hf1 := hf0
  refine V_iload_n X 1 rfl dX7_restore_0 ?_
  obtain ⟨c1, e_c1, hf3⟩ := obd hf1
  refine V_callSi X (f2_isSlot_ok e_c1) ys_X2_isSlot yw_X2_isSlot ml_X7_214 rfl rfl ⟨Nat.le_of_ble_eq_true rfl, Nat.le_of_ble_eq_true rfl⟩ ⟨Nat.zero_le _, Nat.zero_le _⟩ (Nat.le_of_ble_eq_true rfl) dX7_restore_1 ?_
  refine V_if_ne X (tgt := 10) (by decide) dX7_restore_4 (fun q4 => ?_) (fun q4 => ?_)
  · have hf4 := ife hf3 q4
    refine V_aload_n X 0 rfl dX7_restore_10 ?_
    refine G_X7_3_29 hE X dX7_restore_11 ?_
    refine V_iload_n X 1 rfl dX7_restore_14 ?_
    obtain ⟨c4, e_c4, hf6⟩ := obd hf4
    refine V_callVi X (OB_8 hE) rfl rfl (f2_isSaved_ok hE e_c4) ys_X2_isSaved yw_X2_isSaved ml_X7_221 rfl rfl ⟨Nat.le_of_ble_eq_true rfl, Nat.le_of_ble_eq_true rfl⟩ ⟨Nat.zero_le _, Nat.zero_le _⟩ (Nat.le_of_ble_eq_true rfl) dX7_restore_15 ?_
    refine V_if_ne X (tgt := 24) (by decide) dX7_restore_18 (fun q18 => ?_) (fun q18 => ?_)
    · have hf7 := ife hf6 q18
      refine V_aload_n X 0 rfl dX7_restore_24 ?_
      refine G_X7_3_29 hE X dX7_restore_25 ?_
      refine V_aload_n X 0 rfl dX7_restore_28 ?_
      refine G_X7_0_10 hE X dX7_restore_29 ?_
      obtain ⟨c7, e_c7, hf9⟩ := obd hf7
      refine V_callVv X (OB_8 hE) rfl rfl (f2_stage_ok hE e_c7) ys_X2_stage yw_X2_stage ml_X7_40 rfl rfl ⟨Nat.le_of_ble_eq_true rfl, Nat.le_of_ble_eq_true rfl⟩ ⟨Nat.zero_le _, Nat.zero_le _⟩ (Nat.le_of_ble_eq_true rfl) dX7_restore_32 ?_
      refine V_aload_n X 0 rfl dX7_restore_35 ?_
      refine G_X7_3_29 hE X dX7_restore_36 ?_
      refine V_iload_n X 1 rfl dX7_restore_39 ?_
      refine V_aload_n X 0 rfl dX7_restore_40 ?_
      refine G_X7_0_10 hE X dX7_restore_41 ?_
      obtain ⟨c9, e_c9, hf11⟩ := obd hf9
      refine V_callVv X (OB_8 hE) rfl rfl (f2_bringFromSlot_ok hE e_c9) ys_X2_bringFromSlot yw_X2_bringFromSlot ml_X7_224 rfl rfl ⟨Nat.le_of_ble_eq_true rfl, Nat.le_of_ble_eq_true rfl⟩ ⟨Nat.zero_le _, Nat.zero_le _⟩ (Nat.le_of_ble_eq_true rfl) dX7_restore_44 ?_
      refine V_aload_n X 0 rfl dX7_restore_47 ?_
      refine G_X7_3_29 hE X dX7_restore_48 ?_
      refine V_aload_n X 0 rfl dX7_restore_51 ?_
      refine G_X7_0_10 hE X dX7_restore_52 ?_
      refine V_bipush X (v := 19) (by decide) dX7_restore_55 ?_
      obtain ⟨c11, e_c11, hf13⟩ := obd hf11
      refine V_callVi X (SR_1 hE).1 rfl rfl (f5_number_ok (SR_1 hE) e_c11) ys_X5_number yw_X5_number ml_X7_151 rfl rfl ⟨Nat.le_of_ble_eq_true rfl, Nat.le_of_ble_eq_true rfl⟩ ⟨Nat.zero_le _, Nat.zero_le _⟩ (Nat.le_of_ble_eq_true rfl) dX7_restore_57 ?_
      obtain ⟨c13, e_c13, hf15⟩ := obd hf13
      refine V_callVi X (OB_8 hE) rfl rfl (f2_recordUnlessError_ok hE e_c13) ys_X2_recordUnlessError yw_X2_recordUnlessError ml_X7_50 rfl rfl ⟨Nat.le_of_ble_eq_true rfl, Nat.le_of_ble_eq_true rfl⟩ ⟨Nat.zero_le _, Nat.zero_le _⟩ (Nat.le_of_ble_eq_true rfl) dX7_restore_60 ?_
      exact V_iret X rfl hf15 dX7_restore_63
    · have hf7 := ift hf6 q18
      refine V_bipush X (v := -5) (by decide) dX7_restore_21 ?_
      exact V_iret X rfl hf7 dX7_restore_23
  · have hf4 := ift hf3 q4
    refine V_bipush X (v := -2) (by decide) dX7_restore_7 ?_
    exact V_iret X rfl hf4 dX7_restore_9
def f7_restore (x1 : Int32) (h : Hp) : Re := f7_restore_e x1 h
theorem f7_restore_ok (hE : IW E) {x1 : Int32} {h : Hp} {q : Int32 × Hp} (hf0 : f7_restore x1 h = some q) : SMi l E 3 yX7_restore cX7_restore 2 (some .int) [.ref (eA E 0), .int x1] h q.1 q.2 :=
  SMi.of (by decide +kernel) (Nat.le_of_ble_eq_true rfl) (fun p e s m args below meth c A X => f7_restore_e_ok hE X (r := q.1) (h' := q.2) hf0)
end DM
