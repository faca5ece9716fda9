section DM
variable {E : EN} {A : Nat → Prop} {p : Program} {l : Launch} {e : Env} {s : State} {m : MethodId} {args : Array Value} {below : List Frame} {meth : Method} {c : Code} {r : Int32} {h' : Hp}
def f0_over_B33 (k : Nat) (k16 : Int32 → Int32 → Int32 → Int32 → Hp → Re) (k33 : Int32 → Int32 → Int32 → Int32 → Int32 → Hp → Re) (x2 : Int32) (x3 : Int32) (x4 : Int32) (x5 : Int32) (x6 : Int32) (h : Hp) : Re :=
  if 8 ≤ x6 then (k16 x2 x3 x4 (x5 + 1) h) else ((f0_overPlace k x2 x5 x6 x3 h).bind fun c2 => k33 x2 x3 (x4 + c2.1) x5 (x6 + 1) c2.2)
set_option maxRecDepth 20000 in
set_option maxHeartbeats 4000000 in
theorem f0_over_B33_ok {k : Nat} (hE : IW E) (hk : SR E k) (X : XC E RX0 cX0_over 7 (some .int) A p s m args meth c) {k16 : Int32 → Int32 → Int32 → Int32 → Hp → Re} {k33 : Int32 → Int32 → Int32 → Int32 → Int32 → Hp → Re} (hk16 : ∀ (x2 : Int32) (x3 : Int32) (x4 : Int32) (x5 : Int32) (h : Hp), k16 x2 x3 x4 x5 h = some (r, h') → VM E 7 A p l e 3 s m args below meth c (Qi E A r h') 16 [(0, .ref (eA E 5)), (1, .ref (eA E k)), (2, .int x2), (3, .int x3), (4, .int x4), (5, .int x5)] [] h) (hk33 : ∀ (x2 : Int32) (x3 : Int32) (x4 : Int32) (x5 : Int32) (x6 : Int32) (h : Hp), k33 x2 x3 x4 x5 x6 h = some (r, h') → VM E 7 A p l e 3 s m args below meth c (Qi E A r h') 33 [(0, .ref (eA E 5)), (1, .ref (eA E k)), (2, .int x2), (3, .int x3), (4, .int x4), (5, .int x5), (6, .int x6)] [] h) {x2 : Int32} {x3 : Int32} {x4 : Int32} {x5 : Int32} {x6 : Int32} {h : Hp} (hf0 : f0_over_B33 k k16 k33 x2 x3 x4 x5 x6 h = some (r, h')) : VM E 7 A p l e 3 s m args below meth c (Qi E A r h') 33 [(0, .ref (eA E 5)), (1, .ref (eA E k)), (2, .int x2), (3, .int x3), (4, .int x4), (5, .int x5), (6, .int x6)] [] h := by
  unfold f0_over_B33 at hf0
  have hf1 := hf0
  refine V_iload X 6 rfl dX0_over_33 ?_
  refine V_bipush X (v := 8) (by decide) dX0_over_35 ?_
  refine V_icmp_ge X (tgt := 62) (by decide) dX0_over_37 (fun q37 => ?_) (fun q37 => ?_)
  · have hf2 := ift hf1 q37
    refine V_iinc X (v := _ + 1) 5 rfl (by rfl) (by decide) rfl dX0_over_62 ?_
    refine V_goto X (tgt := 16) (by decide) dX0_over_65 ?_
    exact V_sub [1, 2, 3, 4, 5, 0] rfl (hk16 _ _ _ _ _ hf2)
  · have hf2 := ife hf1 q37
    refine V_iload X 4 rfl dX0_over_40 ?_
    refine V_aload_n X 0 rfl dX0_over_42 ?_
    refine V_aload_n X 1 rfl dX0_over_43 ?_
    refine V_iload_n X 2 rfl dX0_over_44 ?_
    refine V_iload X 5 rfl dX0_over_45 ?_
    refine V_iload X 6 rfl dX0_over_47 ?_
    refine V_iload_n X 3 rfl dX0_over_49 ?_
    obtain ⟨c2, e_c2, hf4⟩ := obd hf2
    refine V_callVi X (OB_5 hE) rfl rfl (f0_overPlace_ok hE hk e_c2) ys_X0_overPlace yw_X0_overPlace ml_X0_32 rfl rfl ⟨Nat.le_of_ble_eq_true rfl, Nat.le_of_ble_eq_true rfl⟩ ⟨Nat.zero_le _, Nat.zero_le _⟩ (Nat.le_of_ble_eq_true rfl) dX0_over_50 ?_
    refine V_iadd X dX0_over_53 ?_
    refine V_istore X (by decide) rfl dX0_over_54 ?_
    refine V_iinc X (v := _ + 1) 6 rfl (by rfl) (by decide) rfl dX0_over_56 ?_
    refine V_goto X (tgt := 33) (by decide) dX0_over_59 ?_
    exact V_sub [2, 3, 4, 5, 1, 6, 0] rfl (hk33 _ _ _ _ _ _ hf4)
def f0_over_L33 (k : Nat) (k16 : Int32 → Int32 → Int32 → Int32 → Hp → Re) : Nat → Int32 → Int32 → Int32 → Int32 → Int32 → Hp → Re
  | 0 => fun _ _ _ _ _ _ => none
  | n + 1 => f0_over_B33 k k16 (f0_over_L33 k k16 n)
theorem f0_over_L33_s (k : Nat) (k16 : Int32 → Int32 → Int32 → Int32 → Hp → Re) (n : Nat) (x2 : Int32) (x3 : Int32) (x4 : Int32) (x5 : Int32) (x6 : Int32) (h : Hp) : f0_over_L33 k k16 (n + 1) x2 x3 x4 x5 x6 h = f0_over_B33 k k16 (f0_over_L33 k k16 n) x2 x3 x4 x5 x6 h := rfl
theorem f0_over_L33_ok {k : Nat} (hE : IW E) (hk : SR E k) (X : XC E RX0 cX0_over 7 (some .int) A p s m args meth c) {k16 : Int32 → Int32 → Int32 → Int32 → Hp → Re} (hk16 : ∀ (x2 : Int32) (x3 : Int32) (x4 : Int32) (x5 : Int32) (h : Hp), k16 x2 x3 x4 x5 h = some (r, h') → VM E 7 A p l e 3 s m args below meth c (Qi E A r h') 16 [(0, .ref (eA E 5)), (1, .ref (eA E k)), (2, .int x2), (3, .int x3), (4, .int x4), (5, .int x5)] [] h) : ∀ (n : Nat) (x2 : Int32) (x3 : Int32) (x4 : Int32) (x5 : Int32) (x6 : Int32) (h : Hp), f0_over_L33 k k16 n x2 x3 x4 x5 x6 h = some (r, h') → VM E 7 A p l e 3 s m args below meth c (Qi E A r h') 33 [(0, .ref (eA E 5)), (1, .ref (eA E k)), (2, .int x2), (3, .int x3), (4, .int x4), (5, .int x5), (6, .int x6)] [] h := by
  intro n
  induction n with
  | zero =>
    intro x2 x3 x4 x5 x6 h q
    have q : (none : Re) = some (r, h') := q
    cases q
  | succ n ih =>
    intro x2 x3 x4 x5 x6 h q
    exact f0_over_B33_ok hE hk X hk16 ih q
def f0_over_B16 (k : Nat) (k16 : Int32 → Int32 → Int32 → Int32 → Hp → Re) (x2 : Int32) (x3 : Int32) (x4 : Int32) (x5 : Int32) (h : Hp) : Re :=
  if 5 ≤ x5 then (some (x4, h)) else ((f0_rememberRing k x2 x5 h).bind fun c2 => f0_over_L33 k k16 FU x2 x3 x4 x5 0 c2.2)
set_option maxRecDepth 20000 in
set_option maxHeartbeats 4000000 in
theorem f0_over_B16_ok {k : Nat} (hE : IW E) (hk : SR E k) (X : XC E RX0 cX0_over 7 (some .int) A p s m args meth c) {k16 : Int32 → Int32 → Int32 → Int32 → Hp → Re} (hk16 : ∀ (x2 : Int32) (x3 : Int32) (x4 : Int32) (x5 : Int32) (h : Hp), k16 x2 x3 x4 x5 h = some (r, h') → VM E 7 A p l e 3 s m args below meth c (Qi E A r h') 16 [(0, .ref (eA E 5)), (1, .ref (eA E k)), (2, .int x2), (3, .int x3), (4, .int x4), (5, .int x5)] [] h) {x2 : Int32} {x3 : Int32} {x4 : Int32} {x5 : Int32} {h : Hp} (hf0 : f0_over_B16 k k16 x2 x3 x4 x5 h = some (r, h')) : VM E 7 A p l e 3 s m args below meth c (Qi E A r h') 16 [(0, .ref (eA E 5)), (1, .ref (eA E k)), (2, .int x2), (3, .int x3), (4, .int x4), (5, .int x5)] [] h := by
  unfold f0_over_B16 at hf0
  have hf1 := hf0
  refine V_iload X 5 rfl dX0_over_16 ?_
  refine V_iconst X (v := 5) (by decide) dX0_over_18 ?_
  refine V_icmp_ge X (tgt := 68) (by decide) dX0_over_19 (fun q19 => ?_) (fun q19 => ?_)
  · have hf2 := ift hf1 q19
    refine V_iload X 4 rfl dX0_over_68 ?_
    exact V_iret X rfl hf2 dX0_over_70
  · have hf2 := ife hf1 q19
    refine V_aload_n X 0 rfl dX0_over_22 ?_
    refine V_aload_n X 1 rfl dX0_over_23 ?_
    refine V_iload_n X 2 rfl dX0_over_24 ?_
    refine V_iload X 5 rfl dX0_over_25 ?_
    obtain ⟨c2, e_c2, hf4⟩ := obd hf2
    refine V_callVv X (OB_5 hE) rfl rfl (f0_rememberRing_ok hE hk e_c2) ys_X0_rememberRing yw_X0_rememberRing ml_X0_28 rfl rfl ⟨Nat.le_of_ble_eq_true rfl, Nat.le_of_ble_eq_true rfl⟩ ⟨Nat.zero_le _, Nat.zero_le _⟩ (Nat.le_of_ble_eq_true rfl) dX0_over_27 ?_
    refine V_iconst X (v := 0) (by decide) dX0_over_30 ?_
    refine V_istore X (by decide) rfl dX0_over_31 ?_
    exact V_sub [1, 2, 3, 4, 5, 6, 0] rfl (f0_over_L33_ok hE hk X hk16 FU _ _ _ _ _ _ hf4)
def f0_over_L16 (k : Nat) : Nat → Int32 → Int32 → Int32 → Int32 → Hp → Re
  | 0 => fun _ _ _ _ _ => none
  | n + 1 => f0_over_B16 k (f0_over_L16 k n)
theorem f0_over_L16_s (k : Nat) (n : Nat) (x2 : Int32) (x3 : Int32) (x4 : Int32) (x5 : Int32) (h : Hp) : f0_over_L16 k (n + 1) x2 x3 x4 x5 h = f0_over_B16 k (f0_over_L16 k n) x2 x3 x4 x5 h := rfl
theorem f0_over_L16_ok {k : Nat} (hE : IW E) (hk : SR E k) (X : XC E RX0 cX0_over 7 (some .int) A p s m args meth c) : ∀ (n : Nat) (x2 : Int32) (x3 : Int32) (x4 : Int32) (x5 : Int32) (h : Hp), f0_over_L16 k n x2 x3 x4 x5 h = some (r, h') → VM E 7 A p l e 3 s m args below meth c (Qi E A r h') 16 [(0, .ref (eA E 5)), (1, .ref (eA E k)), (2, .int x2), (3, .int x3), (4, .int x4), (5, .int x5)] [] h := by
  intro n
  induction n with
  | zero =>
    intro x2 x3 x4 x5 h q
    have q : (none : Re) = some (r, h') := q
    cases q
  | succ n ih =>
    intro x2 x3 x4 x5 h q
    exact f0_over_B16_ok hE hk X ih q
def f0_over_e (k : Nat) (x2 : Int32) (x3 : Int32) (h : Hp) : Re :=
  (some (hu h 5 2 0)).bind fun h1 => (f5_number k 19 h1).bind fun c3 => f0_over_L16 k FU x2 x3 0 c3.1 c3.2
set_option maxRecDepth 20000 in
set_option maxHeartbeats 4000000 in
theorem f0_over_e_ok {k : Nat} (hE : IW E) (hk : SR E k) (X : XC E RX0 cX0_over 7 (some .int) A p s m args meth c) {x2 : Int32} {x3 : Int32} {h : Hp} (hf0 : f0_over_e k x2 x3 h = some (r, h')) : VM E 7 A p l e 3 s m args below meth c (Qi E A r h') 0 [(0, .ref (eA E 5)), (1, .ref (eA E k)), (2, .int x2), (3, .int x3)] [] h := by
  unfold f0_over_e at hf0
  have hf1 := hf0
  refine V_aload_n X 0 rfl dX0_over_0 ?_
  refine V_iconst X (v := 0) (by decide) dX0_over_1 ?_
  refine P_X0_2_18 hE X (by decide) (by decide) dX0_over_2 ?_
  have hf3 := obs hf1
  refine V_iconst X (v := 0) (by decide) dX0_over_5 ?_
  refine V_istore X (by decide) rfl dX0_over_6 ?_
  refine V_aload_n X 2 rfl dX0_over_8 ?_
  refine V_bipush X (v := 19) (by decide) dX0_over_9 ?_
  obtain ⟨c3, e_c3, hf5⟩ := obd hf3
  refine V_callVi X hk.1 rfl rfl (f5_number_ok hk e_c3) ys_X5_number yw_X5_number ml_X0_24 rfl rfl ⟨Nat.le_of_ble_eq_true rfl, Nat.le_of_ble_eq_true rfl⟩ ⟨Nat.zero_le _, Nat.zero_le _⟩ (Nat.le_of_ble_eq_true rfl) dX0_over_11 ?_
  refine V_istore X (by decide) rfl dX0_over_14 ?_
  exact V_sub [2, 3, 4, 5, 1, 0] rfl (f0_over_L16_ok hE hk X FU _ _ _ _ _ hf5)
def f0_over (k : Nat) (x2 : Int32) (x3 : Int32) (h : Hp) : Re := f0_over_e k x2 x3 h
theorem f0_over_ok {k : Nat} (hE : IW E) (hk : SR E k) {x2 : Int32} {x3 : Int32} {h : Hp} {q : Int32 × Hp} (hf0 : f0_over k x2 x3 h = some q) : SMi l E 3 yX0_over cX0_over 7 (some .int) [.ref (eA E 5), .ref (eA E k), .int x2, .int x3] h q.1 q.2 :=
  SMi.of (by decide +kernel) (Nat.le_of_ble_eq_true rfl) (fun p e s m args below meth c A X => f0_over_e_ok hE hk X (r := q.1) (h' := q.2) hf0)
def f6_rightOnlyInFirst_B14 (k : Nat) (k2 : Nat) (k5 : Int32 → Int32 → Int32 → Hp → Re) (k14 : Int32 → Int32 → Int32 → Int32 → Hp → Re) (x2 : Int32) (x3 : Int32) (x4 : Int32) (x5 : Int32) (h : Hp) : Re :=
  if 8 ≤ x5 then (k5 x2 x3 (x4 + 1) h) else ((f5_isRight k x2 x4 x5 h).bind fun c2 => if c2.1 = 0 then (k14 x2 x3 x4 (x5 + 1) c2.2) else ((f5_isRight k2 x2 x4 x5 c2.2).bind fun c5 => if c5.1 = 0 then (k14 x2 (x3 + 1) x4 (x5 + 1) c5.2) else (k14 x2 x3 x4 (x5 + 1) c5.2)))
set_option maxRecDepth 20000 in
set_option maxHeartbeats 4000000 in
theorem f6_rightOnlyInFirst_B14_ok {k : Nat} {k2 : Nat} (hk : SR E k) (hk2 : SR E k2) (X : XC E RX6 cX6_rightOnlyInFirst 6 (some .int) A p s m args meth c) {k5 : Int32 → Int32 → Int32 → Hp → Re} {k14 : Int32 → Int32 → Int32 → Int32 → Hp → Re} (hk5 : ∀ (x2 : Int32) (x3 : Int32) (x4 : Int32) (h : Hp), k5 x2 x3 x4 h = some (r, h') → VM E 6 A p l e 4 s m args below meth c (Qi E A r h') 5 [(0, .ref (eA E k)), (1, .ref (eA E k2)), (2, .int x2), (3, .int x3), (4, .int x4)] [] h) (hk14 : ∀ (x2 : Int32) (x3 : Int32) (x4 : Int32) (x5 : Int32) (h : Hp), k14 x2 x3 x4 x5 h = some (r, h') → VM E 6 A p l e 4 s m args below meth c (Qi E A r h') 14 [(0, .ref (eA E k)), (1, .ref (eA E k2)), (2, .int x2), (3, .int x3), (4, .int x4), (5, .int x5)] [] h) {x2 : Int32} {x3 : Int32} {x4 : Int32} {x5 : Int32} {h : Hp} (hf0 : f6_rightOnlyInFirst_B14 k k2 k5 k14 x2 x3 x4 x5 h = some (r, h')) : VM E 6 A p l e 4 s m args below meth c (Qi E A r h') 14 [(0, .ref (eA E k)), (1, .ref (eA E k2)), (2, .int x2), (3, .int x3), (4, .int x4), (5, .int x5)] [] h := by
  unfold f6_rightOnlyInFirst_B14 at hf0
  have hf1 := hf0
  refine V_iload X 5 rfl dX6_rightOnlyInFirst_14 ?_
  refine V_bipush X (v := 8) (by decide) dX6_rightOnlyInFirst_16 ?_
  refine V_icmp_ge X (tgt := 54) (by decide) dX6_rightOnlyInFirst_18 (fun q18 => ?_) (fun q18 => ?_)
  · have hf2 := ift hf1 q18
    refine V_iinc X (v := _ + 1) 4 rfl (by rfl) (by decide) rfl dX6_rightOnlyInFirst_54 ?_
    refine V_goto X (tgt := 5) (by decide) dX6_rightOnlyInFirst_57 ?_
    exact V_sub [1, 2, 3, 4, 0] rfl (hk5 _ _ _ _ hf2)
  · have hf2 := ife hf1 q18
    refine V_aload_n X 0 rfl dX6_rightOnlyInFirst_21 ?_
    refine V_iload_n X 2 rfl dX6_rightOnlyInFirst_22 ?_
    refine V_iload X 4 rfl dX6_rightOnlyInFirst_23 ?_
    refine V_iload X 5 rfl dX6_rightOnlyInFirst_25 ?_
    obtain ⟨c2, e_c2, hf4⟩ := obd hf2
    refine V_callVi X hk.1 rfl rfl (f5_isRight_ok hk e_c2) ys_X5_isRight yw_X5_isRight ml_X6_28 rfl rfl ⟨Nat.le_of_ble_eq_true rfl, Nat.le_of_ble_eq_true rfl⟩ ⟨Nat.zero_le _, Nat.zero_le _⟩ (Nat.le_of_ble_eq_true rfl) dX6_rightOnlyInFirst_27 ?_
    refine V_if_eq X (tgt := 48) (by decide) dX6_rightOnlyInFirst_30 (fun q30 => ?_) (fun q30 => ?_)
    · have hf5 := ift hf4 q30
      refine V_iinc X (v := _ + 1) 5 rfl (by rfl) (by decide) rfl dX6_rightOnlyInFirst_48 ?_
      refine V_goto X (tgt := 14) (by decide) dX6_rightOnlyInFirst_51 ?_
      exact V_sub [1, 2, 3, 4, 5, 0] rfl (hk14 _ _ _ _ _ hf5)
    · have hf5 := ife hf4 q30
      refine V_aload_n X 1 rfl dX6_rightOnlyInFirst_33 ?_
      refine V_iload_n X 2 rfl dX6_rightOnlyInFirst_34 ?_
      refine V_iload X 4 rfl dX6_rightOnlyInFirst_35 ?_
      refine V_iload X 5 rfl dX6_rightOnlyInFirst_37 ?_
      obtain ⟨c5, e_c5, hf7⟩ := obd hf5
      refine V_callVi X hk2.1 rfl rfl (f5_isRight_ok hk2 e_c5) ys_X5_isRight yw_X5_isRight ml_X6_28 rfl rfl ⟨Nat.le_of_ble_eq_true rfl, Nat.le_of_ble_eq_true rfl⟩ ⟨Nat.zero_le _, Nat.zero_le _⟩ (Nat.le_of_ble_eq_true rfl) dX6_rightOnlyInFirst_39 ?_
      refine V_if_ne X (tgt := 48) (by decide) dX6_rightOnlyInFirst_42 (fun q42 => ?_) (fun q42 => ?_)
      · have hf8 := ife hf7 q42
        refine V_iinc X (v := _ + 1) 5 rfl (by rfl) (by decide) rfl dX6_rightOnlyInFirst_48 ?_
        refine V_goto X (tgt := 14) (by decide) dX6_rightOnlyInFirst_51 ?_
        exact V_sub [1, 2, 3, 4, 5, 0] rfl (hk14 _ _ _ _ _ hf8)
      · have hf8 := ift hf7 q42
        refine V_iinc X (v := _ + 1) 3 rfl (by rfl) (by decide) rfl dX6_rightOnlyInFirst_45 ?_
        refine V_iinc X (v := _ + 1) 5 rfl (by rfl) (by decide) rfl dX6_rightOnlyInFirst_48 ?_
        refine V_goto X (tgt := 14) (by decide) dX6_rightOnlyInFirst_51 ?_
        exact V_sub [2, 3, 4, 1, 5, 0] rfl (hk14 _ _ _ _ _ hf8)
def f6_rightOnlyInFirst_L14 (k : Nat) (k2 : Nat) (k5 : Int32 → Int32 → Int32 → Hp → Re) : Nat → Int32 → Int32 → Int32 → Int32 → Hp → Re
  | 0 => fun _ _ _ _ _ => none
  | n + 1 => f6_rightOnlyInFirst_B14 k k2 k5 (f6_rightOnlyInFirst_L14 k k2 k5 n)
theorem f6_rightOnlyInFirst_L14_s (k : Nat) (k2 : Nat) (k5 : Int32 → Int32 → Int32 → Hp → Re) (n : Nat) (x2 : Int32) (x3 : Int32) (x4 : Int32) (x5 : Int32) (h : Hp) : f6_rightOnlyInFirst_L14 k k2 k5 (n + 1) x2 x3 x4 x5 h = f6_rightOnlyInFirst_B14 k k2 k5 (f6_rightOnlyInFirst_L14 k k2 k5 n) x2 x3 x4 x5 h := rfl
theorem f6_rightOnlyInFirst_L14_ok {k : Nat} {k2 : Nat} (hk : SR E k) (hk2 : SR E k2) (X : XC E RX6 cX6_rightOnlyInFirst 6 (some .int) A p s m args meth c) {k5 : Int32 → Int32 → Int32 → Hp → Re} (hk5 : ∀ (x2 : Int32) (x3 : Int32) (x4 : Int32) (h : Hp), k5 x2 x3 x4 h = some (r, h') → VM E 6 A p l e 4 s m args below meth c (Qi E A r h') 5 [(0, .ref (eA E k)), (1, .ref (eA E k2)), (2, .int x2), (3, .int x3), (4, .int x4)] [] h) : ∀ (n : Nat) (x2 : Int32) (x3 : Int32) (x4 : Int32) (x5 : Int32) (h : Hp), f6_rightOnlyInFirst_L14 k k2 k5 n x2 x3 x4 x5 h = some (r, h') → VM E 6 A p l e 4 s m args below meth c (Qi E A r h') 14 [(0, .ref (eA E k)), (1, .ref (eA E k2)), (2, .int x2), (3, .int x3), (4, .int x4), (5, .int x5)] [] h := by
  intro n
  induction n with
  | zero =>
    intro x2 x3 x4 x5 h q
    have q : (none : Re) = some (r, h') := q
    cases q
  | succ n ih =>
    intro x2 x3 x4 x5 h q
    exact f6_rightOnlyInFirst_B14_ok hk hk2 X hk5 ih q
def f6_rightOnlyInFirst_B5 (k : Nat) (k2 : Nat) (k5 : Int32 → Int32 → Int32 → Hp → Re) (x2 : Int32) (x3 : Int32) (x4 : Int32) (h : Hp) : Re :=
  if 5 ≤ x4 then (some (x3, h)) else (f6_rightOnlyInFirst_L14 k k2 k5 FU x2 x3 x4 0 h)
set_option maxRecDepth 20000 in
set_option maxHeartbeats 4000000 in
theorem f6_rightOnlyInFirst_B5_ok {k : Nat} {k2 : Nat} (hk : SR E k) (hk2 : SR E k2) (X : XC E RX6 cX6_rightOnlyInFirst 6 (some .int) A p s m args meth c) {k5 : Int32 → Int32 → Int32 → Hp → Re} (hk5 : ∀ (x2 : Int32) (x3 : Int32) (x4 : Int32) (h : Hp), k5 x2 x3 x4 h = some (r, h') → VM E 6 A p l e 4 s m args below meth c (Qi E A r h') 5 [(0, .ref (eA E k)), (1, .ref (eA E k2)), (2, .int x2), (3, .int x3), (4, .int x4)] [] h) {x2 : Int32} {x3 : Int32} {x4 : Int32} {h : Hp} (hf0 : f6_rightOnlyInFirst_B5 k k2 k5 x2 x3 x4 h = some (r, h')) : VM E 6 A p l e 4 s m args below meth c (Qi E A r h') 5 [(0, .ref (eA E k)), (1, .ref (eA E k2)), (2, .int x2), (3, .int x3), (4, .int x4)] [] h := by
  unfold f6_rightOnlyInFirst_B5 at hf0
  have hf1 := hf0
  refine V_iload X 4 rfl dX6_rightOnlyInFirst_5 ?_
  refine V_iconst X (v := 5) (by decide) dX6_rightOnlyInFirst_7 ?_
  refine V_icmp_ge X (tgt := 60) (by decide) dX6_rightOnlyInFirst_8 (fun q8 => ?_) (fun q8 => ?_)
  · have hf2 := ift hf1 q8
    refine V_iload_n X 3 rfl dX6_rightOnlyInFirst_60 ?_
    exact V_iret X rfl hf2 dX6_rightOnlyInFirst_61
  · have hf2 := ife hf1 q8
    refine V_iconst X (v := 0) (by decide) dX6_rightOnlyInFirst_11 ?_
    refine V_istore X (by decide) rfl dX6_rightOnlyInFirst_12 ?_
    exact V_sub [1, 2, 3, 4, 5, 0] rfl (f6_rightOnlyInFirst_L14_ok hk hk2 X hk5 FU _ _ _ _ _ hf2)
def f6_rightOnlyInFirst_L5 (k : Nat) (k2 : Nat) : Nat → Int32 → Int32 → Int32 → Hp → Re
  | 0 => fun _ _ _ _ => none
  | n + 1 => f6_rightOnlyInFirst_B5 k k2 (f6_rightOnlyInFirst_L5 k k2 n)
theorem f6_rightOnlyInFirst_L5_s (k : Nat) (k2 : Nat) (n : Nat) (x2 : Int32) (x3 : Int32) (x4 : Int32) (h : Hp) : f6_rightOnlyInFirst_L5 k k2 (n + 1) x2 x3 x4 h = f6_rightOnlyInFirst_B5 k k2 (f6_rightOnlyInFirst_L5 k k2 n) x2 x3 x4 h := rfl
theorem f6_rightOnlyInFirst_L5_ok {k : Nat} {k2 : Nat} (hk : SR E k) (hk2 : SR E k2) (X : XC E RX6 cX6_rightOnlyInFirst 6 (some .int) A p s m args meth c) : ∀ (n : Nat) (x2 : Int32) (x3 : Int32) (x4 : Int32) (h : Hp), f6_rightOnlyInFirst_L5 k k2 n x2 x3 x4 h = some (r, h') → VM E 6 A p l e 4 s m args below meth c (Qi E A r h') 5 [(0, .ref (eA E k)), (1, .ref (eA E k2)), (2, .int x2), (3, .int x3), (4, .int x4)] [] h := by
  intro n
  induction n with
  | zero =>
    intro x2 x3 x4 h q
    have q : (none : Re) = some (r, h') := q
    cases q
  | succ n ih =>
    intro x2 x3 x4 h q
    exact f6_rightOnlyInFirst_B5_ok hk hk2 X ih q
def f6_rightOnlyInFirst_e (k : Nat) (k2 : Nat) (x2 : Int32) (h : Hp) : Re :=
  f6_rightOnlyInFirst_L5 k k2 FU x2 0 0 h
set_option maxRecDepth 20000 in
set_option maxHeartbeats 4000000 in
theorem f6_rightOnlyInFirst_e_ok {k : Nat} {k2 : Nat} (hk : SR E k) (hk2 : SR E k2) (X : XC E RX6 cX6_rightOnlyInFirst 6 (some .int) A p s m args meth c) {x2 : Int32} {h : Hp} (hf0 : f6_rightOnlyInFirst_e k k2 x2 h = some (r, h')) : VM E 6 A p l e 4 s m args below meth c (Qi E A r h') 0 [(0, .ref (eA E k)), (1, .ref (eA E k2)), (2, .int x2)] [] h := by
  unfold f6_rightOnlyInFirst_e at hf0
  have hf1 := hf0
  refine V_iconst X (v := 0) (by decide) dX6_rightOnlyInFirst_0 ?_
  refine V_istore_n X (by decide) rfl dX6_rightOnlyInFirst_1 ?_
  refine V_iconst X (v := 0) (by decide) dX6_rightOnlyInFirst_2 ?_
  refine V_istore X (by decide) rfl dX6_rightOnlyInFirst_3 ?_
  exact V_sub [2, 3, 4, 1, 0] rfl (f6_rightOnlyInFirst_L5_ok hk hk2 X FU _ _ _ _ hf1)
def f6_rightOnlyInFirst (k : Nat) (k2 : Nat) (x2 : Int32) (h : Hp) : Re := f6_rightOnlyInFirst_e k k2 x2 h
theorem f6_rightOnlyInFirst_ok {k : Nat} {k2 : Nat} (hk : SR E k) (hk2 : SR E k2) {x2 : Int32} {h : Hp} {q : Int32 × Hp} (hf0 : f6_rightOnlyInFirst k k2 x2 h = some q) : SMi l E 4 yX6_rightOnlyInFirst cX6_rightOnlyInFirst 6 (some .int) [.ref (eA E k), .ref (eA E k2), .int x2] h q.1 q.2 :=
  SMi.of (by decide +kernel) (Nat.le_of_ble_eq_true rfl) (fun p e s m args below meth c A X => f6_rightOnlyInFirst_e_ok hk hk2 X (r := q.1) (h' := q.2) hf0)
def f7_ifBreathed_e (x1 : Int32) (x2 : Int32) (x3 : Int32) (h : Hp) : Re :=
  (f7_isQuarter x1 h).bind fun c1 => if c1.1 = 0 then (some ((-1), c1.2)) else ((f7_isDirection x2 c1.2).bind fun c4 => if c4.1 = 0 then (some ((-2), c4.2)) else (if x3 < 0 then (some ((-2), c4.2)) else (if x3 ≤ 2 then ((f5_copyFrom 3 1  c4.2).bind fun c9 => (f0_over 3 x1 x2 c9.2).bind fun c11 => if x3 = 0 then (some (c11.1, c11.2)) else if x3 = 1 then ((f6_rightOnlyInFirst 1 3 x1 c11.2).bind fun c16 => some (c16.1, c16.2)) else ((f6_rightOnlyInFirst 3 1 x1 c11.2).bind fun c19 => some (c19.1, c19.2))) else (some ((-2), c4.2)))))
set_option maxRecDepth 20000 in
set_option maxHeartbeats 4000000 in
theorem f7_ifBreathed_e_ok (hE : IW E) (X : XC E RX7 cX7_ifBreathed 5 (some .int) A p s m args meth c) {x1 : Int32} {x2 : Int32} {x3 : Int32} {h : Hp} (hf0 : f7_ifBreathed_e x1 x2 x3 h = some (r, h')) : VM E 5 A p l e 5 s m args below meth c (Qi E A r h') 0 [(0, .ref (eA E 0)), (1, .int x1), (2, .int x2), (3, .int x3)] [] h := by
  unfold f7_ifBreathed_e at hf0
  have hf1 := hf0
  refine V_iload_n X 1 rfl dX7_ifBreathed_0 ?_
  obtain ⟨c1, e_c1, hf3⟩ := obd hf1
  refine V_callSi X (f7_isQuarter_ok e_c1) ys_X7_isQuarter yw_X7_isQuarter ml_X7_130 rfl rfl ⟨Nat.le_of_ble_eq_true rfl, Nat.le_of_ble_eq_true rfl⟩ ⟨Nat.zero_le _, Nat.zero_le _⟩ (Nat.le_of_ble_eq_true rfl) dX7_ifBreathed_1 ?_
  refine V_if_ne X (tgt := 9) (by decide) dX7_ifBreathed_4 (fun q4 => ?_) (fun q4 => ?_)
  · have hf4 := ife hf3 q4
    refine V_iload_n X 2 rfl dX7_ifBreathed_9 ?_
    obtain ⟨c4, e_c4, hf6⟩ := obd hf4
    refine V_callSi X (f7_isDirection_ok e_c4) ys_X7_isDirection yw_X7_isDirection ml_X7_173 rfl rfl ⟨Nat.le_of_ble_eq_true rfl, Nat.le_of_ble_eq_true rfl⟩ ⟨Nat.zero_le _, Nat.zero_le _⟩ (Nat.le_of_ble_eq_true rfl) dX7_ifBreathed_10 ?_
    refine V_if_eq X (tgt := 25) (by decide) dX7_ifBreathed_13 (fun q13 => ?_) (fun q13 => ?_)
    · have hf7 := ift hf6 q13
      refine V_bipush X (v := -2) (by decide) dX7_ifBreathed_25 ?_
      exact V_iret X rfl hf7 dX7_ifBreathed_27
    · have hf7 := ife hf6 q13
      refine V_iload_n X 3 rfl dX7_ifBreathed_16 ?_
      refine V_if_lt X (tgt := 25) (by decide) dX7_ifBreathed_17 (fun q17 => ?_) (fun q17 => ?_)
      · have hf8 := ift hf7 q17
        refine V_bipush X (v := -2) (by decide) dX7_ifBreathed_25 ?_
        exact V_iret X rfl hf8 dX7_ifBreathed_27
      · have hf8 := ife hf7 q17
        refine V_iload_n X 3 rfl dX7_ifBreathed_20 ?_
        refine V_iconst X (v := 2) (by decide) dX7_ifBreathed_21 ?_
        refine V_icmp_le X (tgt := 28) (by decide) dX7_ifBreathed_22 (fun q22 => ?_) (fun q22 => ?_)
        · have hf9 := ift hf8 q22
          refine V_aload_n X 0 rfl dX7_ifBreathed_28 ?_
          refine G_X7_1_16 hE X dX7_ifBreathed_29 ?_
          refine V_aload_n X 0 rfl dX7_ifBreathed_32 ?_
          refine G_X7_0_10 hE X dX7_ifBreathed_33 ?_
          obtain ⟨c9, e_c9, hf11⟩ := obd hf9
          refine V_callVv X (SR_3 hE).1 rfl rfl (f5_copyFrom_ok (SR_3 hE) (SR_1 hE) e_c9) ys_X5_copyFrom yw_X5_copyFrom ml_X7_176 rfl rfl ⟨Nat.le_of_ble_eq_true rfl, Nat.le_of_ble_eq_true rfl⟩ ⟨Nat.zero_le _, Nat.zero_le _⟩ (Nat.le_of_ble_eq_true rfl) dX7_ifBreathed_36 ?_
          refine V_aload_n X 0 rfl dX7_ifBreathed_39 ?_
          refine G_X7_2_22 hE X dX7_ifBreathed_40 ?_
          refine V_aload_n X 0 rfl dX7_ifBreathed_43 ?_
          refine G_X7_1_16 hE X dX7_ifBreathed_44 ?_
          refine V_iload_n X 1 rfl dX7_ifBreathed_47 ?_
          refine V_iload_n X 2 rfl dX7_ifBreathed_48 ?_
          obtain ⟨c11, e_c11, hf13⟩ := obd hf11
          refine V_callVi X (OB_5 hE) rfl rfl (f0_over_ok hE (SR_3 hE) e_c11) ys_X0_over yw_X0_over ml_X7_179 rfl rfl ⟨Nat.le_of_ble_eq_true rfl, Nat.le_of_ble_eq_true rfl⟩ ⟨Nat.zero_le _, Nat.zero_le _⟩ (Nat.le_of_ble_eq_true rfl) dX7_ifBreathed_49 ?_
          refine V_istore X (by decide) rfl dX7_ifBreathed_52 ?_
          refine V_iload_n X 4 rfl dX7_ifBreathed_54 ?_
          rcases oif hf13 with ⟨q55_0, hf55_0⟩ | ⟨q55_0, hf55_0⟩
          · refine V_lookup X (tgt := 80) (off := 25) (by decide) (by rw [q55_0]; decide) (by decide) dX7_ifBreathed_55 ?_
            have hf15 := hf55_0
            refine V_iload X 0 rfl dX7_ifBreathed_80 ?_
            exact V_iret X rfl hf15 dX7_ifBreathed_82
          rcases oif hf55_0 with ⟨q55_1, hf55_1⟩ | ⟨q55_1, hf55_1⟩
          · refine V_lookup X (tgt := 83) (off := 28) (by decide) (by rw [q55_1]; decide) (by decide) dX7_ifBreathed_55 ?_
            have hf16 := hf55_1
            refine V_aload_n X 1 rfl dX7_ifBreathed_83 ?_
            refine G_X7_0_10 hE X dX7_ifBreathed_84 ?_
            refine V_aload_n X 1 rfl dX7_ifBreathed_87 ?_
            refine G_X7_1_16 hE X dX7_ifBreathed_88 ?_
            refine V_iload_n X 2 rfl dX7_ifBreathed_91 ?_
            obtain ⟨c16, e_c16, hf18⟩ := obd hf16
            refine V_callSi X (f6_rightOnlyInFirst_ok (SR_1 hE) (SR_3 hE) e_c16) ys_X6_rightOnlyInFirst yw_X6_rightOnlyInFirst ml_X7_182 rfl rfl ⟨Nat.le_of_ble_eq_true rfl, Nat.le_of_ble_eq_true rfl⟩ ⟨Nat.zero_le _, Nat.zero_le _⟩ (Nat.le_of_ble_eq_true rfl) dX7_ifBreathed_92 ?_
            exact V_iret X rfl hf18 dX7_ifBreathed_95
          · skip
            refine V_lookup X (tgt := 96) (off := 41) (by decide) (by show Op.lookupswitch.offset [(0, 25), (1, 28)] 41 _ = _; rw [lv_osw q55_0 (show (0 : Int32).toInt = 0 by decide), lv_osw q55_1 (show (1 : Int32).toInt = 1 by decide)]; rfl) (by decide) dX7_ifBreathed_55 ?_
            have hf19 := hf55_1
            refine V_aload_n X 1 rfl dX7_ifBreathed_96 ?_
            refine G_X7_1_16 hE X dX7_ifBreathed_97 ?_
            refine V_aload_n X 1 rfl dX7_ifBreathed_100 ?_
            refine G_X7_0_10 hE X dX7_ifBreathed_101 ?_
            refine V_iload_n X 2 rfl dX7_ifBreathed_104 ?_
            obtain ⟨c19, e_c19, hf21⟩ := obd hf19
            refine V_callSi X (f6_rightOnlyInFirst_ok (SR_3 hE) (SR_1 hE) e_c19) ys_X6_rightOnlyInFirst yw_X6_rightOnlyInFirst ml_X7_182 rfl rfl ⟨Nat.le_of_ble_eq_true rfl, Nat.le_of_ble_eq_true rfl⟩ ⟨Nat.zero_le _, Nat.zero_le _⟩ (Nat.le_of_ble_eq_true rfl) dX7_ifBreathed_105 ?_
            exact V_iret X rfl hf21 dX7_ifBreathed_108
        · have hf9 := ife hf8 q22
          refine V_bipush X (v := -2) (by decide) dX7_ifBreathed_25 ?_
          exact V_iret X rfl hf9 dX7_ifBreathed_27
  · have hf4 := ift hf3 q4
    refine V_iconst X (v := -1) (by decide) dX7_ifBreathed_7 ?_
    exact V_iret X rfl hf4 dX7_ifBreathed_8
def f7_ifBreathed (x1 : Int32) (x2 : Int32) (x3 : Int32) (h : Hp) : Re := f7_ifBreathed_e x1 x2 x3 h
theorem f7_ifBreathed_ok (hE : IW E) {x1 : Int32} {x2 : Int32} {x3 : Int32} {h : Hp} {q : Int32 × Hp} (hf0 : f7_ifBreathed x1 x2 x3 h = some q) : SMi l E 5 yX7_ifBreathed cX7_ifBreathed 5 (some .int) [.ref (eA E 0), .int x1, .int x2, .int x3] h q.1 q.2 :=
  SMi.of (by decide +kernel) (Nat.le_of_ble_eq_true rfl) (fun p e s m args below meth c A X => f7_ifBreathed_e_ok hE X (r := q.1) (h' := q.2) hf0)
def f1_blow_e (x2 : Int32) (x3 : Int32) (h : Hp) : Re :=
  (f7_isQuarter x2 h).bind fun c1 => if c1.1 = 0 then (some ((-1), c1.2)) else ((f7_isDirection x3 c1.2).bind fun c4 => if c4.1 = 0 then (some ((-2), c4.2)) else ((f0_over 1 x2 x3 c4.2).bind fun c7 => (f5_raise 1 23 c7.1 c7.2).bind fun c9 => some (c7.1, c9.2)))
set_option maxRecDepth 20000 in
set_option maxHeartbeats 4000000 in
theorem f1_blow_e_ok (hE : IW E) (X : XC E RX1 cX1_blow 5 (some .int) A p s m args meth c) {x2 : Int32} {x3 : Int32} {h : Hp} (hf0 : f1_blow_e x2 x3 h = some (r, h')) : VM E 5 A p l e 4 s m args below meth c (Qi E A r h') 0 [(0, .ref (eA E 1)), (1, .ref (eA E 5)), (2, .int x2), (3, .int x3)] [] h := by
  unfold f1_blow_e at hf0
  have hf1 := hf0
  refine V_iload_n X 2 rfl dX1_blow_0 ?_
  obtain ⟨c1, e_c1, hf3⟩ := obd hf1
  refine V_callSNi X (f7_isQuarter_ok e_c1) ys_X7_isQuarter yw_X7_isQuarter nl_X1_46 rfl rfl ⟨Nat.le_of_ble_eq_true rfl, Nat.le_of_ble_eq_true rfl⟩ ⟨Nat.zero_le _, Nat.zero_le _⟩ (Nat.le_of_ble_eq_true rfl) dX1_blow_1 ?_
  refine V_if_ne X (tgt := 9) (by decide) dX1_blow_4 (fun q4 => ?_) (fun q4 => ?_)
  · have hf4 := ife hf3 q4
    refine V_iload_n X 3 rfl dX1_blow_9 ?_
    obtain ⟨c4, e_c4, hf6⟩ := obd hf4
    refine V_callSNi X (f7_isDirection_ok e_c4) ys_X7_isDirection yw_X7_isDirection nl_X1_85 rfl rfl ⟨Nat.le_of_ble_eq_true rfl, Nat.le_of_ble_eq_true rfl⟩ ⟨Nat.zero_le _, Nat.zero_le _⟩ (Nat.le_of_ble_eq_true rfl) dX1_blow_10 ?_
    refine V_if_ne X (tgt := 19) (by decide) dX1_blow_13 (fun q13 => ?_) (fun q13 => ?_)
    · have hf7 := ife hf6 q13
      refine V_aload_n X 1 rfl dX1_blow_19 ?_
      refine V_aload_n X 0 rfl dX1_blow_20 ?_
      refine V_iload_n X 2 rfl dX1_blow_21 ?_
      refine V_iload_n X 3 rfl dX1_blow_22 ?_
      obtain ⟨c7, e_c7, hf9⟩ := obd hf7
      refine V_callVi X (OB_5 hE) rfl rfl (f0_over_ok hE (SR_1 hE) e_c7) ys_X0_over yw_X0_over ml_X1_88 rfl rfl ⟨Nat.le_of_ble_eq_true rfl, Nat.le_of_ble_eq_true rfl⟩ ⟨Nat.zero_le _, Nat.zero_le _⟩ (Nat.le_of_ble_eq_true rfl) dX1_blow_23 ?_
      refine V_istore X (by decide) rfl dX1_blow_26 ?_
      refine V_aload_n X 1 rfl dX1_blow_28 ?_
      refine V_bipush X (v := 23) (by decide) dX1_blow_29 ?_
      refine V_iload X 0 rfl dX1_blow_31 ?_
      obtain ⟨c9, e_c9, hf11⟩ := obd hf9
      refine V_callVv X (SR_1 hE).1 rfl rfl (f5_raise_ok (SR_1 hE) e_c9) ys_X5_raise yw_X5_raise ml_X1_82 rfl rfl ⟨Nat.le_of_ble_eq_true rfl, Nat.le_of_ble_eq_true rfl⟩ ⟨Nat.zero_le _, Nat.zero_le _⟩ (Nat.le_of_ble_eq_true rfl) dX1_blow_33 ?_
      refine V_iload X 0 rfl dX1_blow_36 ?_
      exact V_iret X rfl hf11 dX1_blow_38
    · have hf7 := ift hf6 q13
      refine V_bipush X (v := -2) (by decide) dX1_blow_16 ?_
      exact V_iret X rfl hf7 dX1_blow_18
  · have hf4 := ift hf3 q4
    refine V_iconst X (v := -1) (by decide) dX1_blow_7 ?_
    exact V_iret X rfl hf4 dX1_blow_8
def f1_blow (x2 : Int32) (x3 : Int32) (h : Hp) : Re := f1_blow_e x2 x3 h
theorem f1_blow_ok (hE : IW E) {x2 : Int32} {x3 : Int32} {h : Hp} {q : Int32 × Hp} (hf0 : f1_blow x2 x3 h = some q) : SMi l E 4 yX1_blow cX1_blow 5 (some .int) [.ref (eA E 1), .ref (eA E 5), .int x2, .int x3] h q.1 q.2 :=
  SMi.of (by decide +kernel) (Nat.le_of_ble_eq_true rfl) (fun p e s m args below meth c A X => f1_blow_e_ok hE X (r := q.1) (h' := q.2) hf0)
def f7_breathe_e (x1 : Int32) (x2 : Int32) (h : Hp) : Re :=
  (f2_stage  h).bind fun c1 => (f1_blow x1 x2 c1.2).bind fun c3 => (f2_recordUnlessError c3.1 c3.2).bind fun c5 => some (c5.1, c5.2)
set_option maxRecDepth 20000 in
set_option maxHeartbeats 4000000 in
theorem f7_breathe_e_ok (hE : IW E) (X : XC E RX7 cX7_breathe 3 (some .int) A p s m args meth c) {x1 : Int32} {x2 : Int32} {h : Hp} (hf0 : f7_breathe_e x1 x2 h = some (r, h')) : VM E 3 A p l e 5 s m args below meth c (Qi E A r h') 0 [(0, .ref (eA E 0)), (1, .int x1), (2, .int x2)] [] h := by
  unfold f7_breathe_e at hf0
  have hf1 := hf0
  refine V_aload_n X 0 rfl dX7_breathe_0 ?_
  refine G_X7_3_29 hE X dX7_breathe_1 ?_
  refine V_aload_n X 0 rfl dX7_breathe_4 ?_
  refine G_X7_0_10 hE X dX7_breathe_5 ?_
  obtain ⟨c1, e_c1, hf3⟩ := obd hf1
  refine V_callVv X (OB_8 hE) rfl rfl (f2_stage_ok hE e_c1) ys_X2_stage yw_X2_stage ml_X7_40 rfl rfl ⟨Nat.le_of_ble_eq_true rfl, Nat.le_of_ble_eq_true rfl⟩ ⟨Nat.zero_le _, Nat.zero_le _⟩ (Nat.le_of_ble_eq_true rfl) dX7_breathe_8 ?_
  refine V_aload_n X 0 rfl dX7_breathe_11 ?_
  refine G_X7_3_29 hE X dX7_breathe_12 ?_
  refine V_aload_n X 0 rfl dX7_breathe_15 ?_
  refine G_X7_0_10 hE X dX7_breathe_16 ?_
  refine V_aload_n X 0 rfl dX7_breathe_19 ?_
  refine G_X7_2_22 hE X dX7_breathe_20 ?_
  refine V_iload_n X 1 rfl dX7_breathe_23 ?_
  refine V_iload_n X 2 rfl dX7_breathe_24 ?_
  obtain ⟨c3, e_c3, hf5⟩ := obd hf3
  refine V_callSi X (f1_blow_ok hE e_c3) ys_X1_blow yw_X1_blow ml_X7_71 rfl rfl ⟨Nat.le_of_ble_eq_true rfl, Nat.le_of_ble_eq_true rfl⟩ ⟨Nat.zero_le _, Nat.zero_le _⟩ (Nat.le_of_ble_eq_true rfl) dX7_breathe_25 ?_
  obtain ⟨c5, e_c5, hf7⟩ := obd hf5
  refine V_callVi X (OB_8 hE) rfl rfl (f2_recordUnlessError_ok hE e_c5) ys_X2_recordUnlessError yw_X2_recordUnlessError ml_X7_50 rfl rfl ⟨Nat.le_of_ble_eq_true rfl, Nat.le_of_ble_eq_true rfl⟩ ⟨Nat.zero_le _, Nat.zero_le _⟩ (Nat.le_of_ble_eq_true rfl) dX7_breathe_28 ?_
  exact V_iret X rfl hf7 dX7_breathe_31
def f7_breathe (x1 : Int32) (x2 : Int32) (h : Hp) : Re := f7_breathe_e x1 x2 h
theorem f7_breathe_ok (hE : IW E) {x1 : Int32} {x2 : Int32} {h : Hp} {q : Int32 × Hp} (hf0 : f7_breathe x1 x2 h = some q) : SMi l E 5 yX7_breathe cX7_breathe 3 (some .int) [.ref (eA E 0), .int x1, .int x2] h q.1 q.2 :=
  SMi.of (by decide +kernel) (Nat.le_of_ble_eq_true rfl) (fun p e s m args below meth c A X => f7_breathe_e_ok hE X (r := q.1) (h' := q.2) hf0)
def f1_isColourRow_B4 (k4 : Int32 → Int32 → Hp → Re) (x1 : Int32) (x2 : Int32) (h : Hp) : Re :=
  if 8 ≤ x2 then (if x1 = 0 then (rz 1 h) else (rz 0 h)) else (if (x1 &&& 7) ≤ 6 then (k4 (x1 >>> (3 &&& 31)) (x2 + 1) h) else (rz 0 h))
set_option maxRecDepth 20000 in
set_option maxHeartbeats 4000000 in
theorem f1_isColourRow_B4_ok (X : XC E RX1 cX1_isColourRow 3 (some .boolean) A p s m args meth c) {k4 : Int32 → Int32 → Hp → Re} (hk4 : ∀ (x1 : Int32) (x2 : Int32) (h : Hp), k4 x1 x2 h = some (r, h') → VM E 3 A p l e 0 s m args below meth c (Qi E A r h') 4 [(1, .int x1), (2, .int x2)] [] h) {x1 : Int32} {x2 : Int32} {h : Hp} (hf0 : f1_isColourRow_B4 k4 x1 x2 h = some (r, h')) : VM E 3 A p l e 0 s m args below meth c (Qi E A r h') 4 [(1, .int x1), (2, .int x2)] [] h := by
  unfold f1_isColourRow_B4 at hf0
  have hf1 := hf0
  refine V_iload_n X 1 rfl dX1_isColourRow_4 ?_
  refine V_bipush X (v := 8) (by decide) dX1_isColourRow_5 ?_
  refine V_icmp_ge X (tgt := 31) (by decide) dX1_isColourRow_7 (fun q7 => ?_) (fun q7 => ?_)
  · have hf2 := ift hf1 q7
    refine V_iload_n X 0 rfl dX1_isColourRow_31 ?_
    refine V_if_ne X (tgt := 39) (by decide) dX1_isColourRow_32 (fun q32 => ?_) (fun q32 => ?_)
    · have hf3 := ife hf2 q32
      refine V_iconst X (v := 0) (by decide) dX1_isColourRow_39 ?_
      exact V_zret X rfl hf3 dX1_isColourRow_40
    · have hf3 := ift hf2 q32
      refine V_iconst X (v := 1) (by decide) dX1_isColourRow_35 ?_
      refine V_goto X (tgt := 40) (by decide) dX1_isColourRow_36 ?_
      exact V_zret X rfl hf3 dX1_isColourRow_40
  · have hf2 := ife hf1 q7
    refine V_iload_n X 0 rfl dX1_isColourRow_10 ?_
    refine V_bipush X (v := 7) (by decide) dX1_isColourRow_11 ?_
    refine V_iand X dX1_isColourRow_13 ?_
    refine V_bipush X (v := 6) (by decide) dX1_isColourRow_14 ?_
    refine V_icmp_le X (tgt := 21) (by decide) dX1_isColourRow_16 (fun q16 => ?_) (fun q16 => ?_)
    · have hf4 := ift hf2 q16
      refine V_iload_n X 0 rfl dX1_isColourRow_21 ?_
      refine V_iconst X (v := 3) (by decide) dX1_isColourRow_22 ?_
      refine V_ishr X dX1_isColourRow_23 ?_
      refine V_istore_n X (by decide) rfl dX1_isColourRow_24 ?_
      refine V_iinc X (v := _ + 1) 1 rfl (by rfl) (by decide) rfl dX1_isColourRow_25 ?_
      refine V_goto X (tgt := 4) (by decide) dX1_isColourRow_28 ?_
      exact V_sub [1, 0] rfl (hk4 _ _ _ hf4)
    · have hf4 := ife hf2 q16
      refine V_iconst X (v := 0) (by decide) dX1_isColourRow_19 ?_
      exact V_zret X rfl hf4 dX1_isColourRow_20
def f1_isColourRow_L4 : Nat → Int32 → Int32 → Hp → Re
  | 0 => fun _ _ _ => none
  | n + 1 => f1_isColourRow_B4 (f1_isColourRow_L4 n)
theorem f1_isColourRow_L4_s (n : Nat) (x1 : Int32) (x2 : Int32) (h : Hp) : f1_isColourRow_L4 (n + 1) x1 x2 h = f1_isColourRow_B4 (f1_isColourRow_L4 n) x1 x2 h := rfl
theorem f1_isColourRow_L4_ok (X : XC E RX1 cX1_isColourRow 3 (some .boolean) A p s m args meth c) : ∀ (n : Nat) (x1 : Int32) (x2 : Int32) (h : Hp), f1_isColourRow_L4 n x1 x2 h = some (r, h') → VM E 3 A p l e 0 s m args below meth c (Qi E A r h') 4 [(1, .int x1), (2, .int x2)] [] h := by
  intro n
  induction n with
  | zero =>
    intro x1 x2 h q
    have q : (none : Re) = some (r, h') := q
    cases q
  | succ n ih =>
    intro x1 x2 h q
    exact f1_isColourRow_B4_ok X ih q
def f1_isColourRow_e (x0 : Int32) (h : Hp) : Re :=
  f1_isColourRow_L4 FU x0 0 h
set_option maxRecDepth 20000 in
set_option maxHeartbeats 4000000 in
theorem f1_isColourRow_e_ok (X : XC E RX1 cX1_isColourRow 3 (some .boolean) A p s m args meth c) {x0 : Int32} {h : Hp} (hf0 : f1_isColourRow_e x0 h = some (r, h')) : VM E 3 A p l e 0 s m args below meth c (Qi E A r h') 0 [(0, .int x0)] [] h := by
  unfold f1_isColourRow_e at hf0
  have hf1 := hf0
  refine V_iload_n X 0 rfl dX1_isColourRow_0 ?_
  refine V_istore_n X (by decide) rfl dX1_isColourRow_1 ?_
  refine V_iconst X (v := 0) (by decide) dX1_isColourRow_2 ?_
  refine V_istore_n X (by decide) rfl dX1_isColourRow_3 ?_
  exact V_sub [1, 0] rfl (f1_isColourRow_L4_ok X FU _ _ _ hf1)
def f1_isColourRow (x0 : Int32) (h : Hp) : Re := f1_isColourRow_e x0 h
theorem f1_isColourRow_ok {x0 : Int32} {h : Hp} {q : Int32 × Hp} (hf0 : f1_isColourRow x0 h = some q) : SMi l E 0 yX1_isColourRow cX1_isColourRow 3 (some .boolean) [.int x0] h q.1 q.2 :=
  SMi.of (by decide +kernel) (Nat.le_of_ble_eq_true rfl) (fun p e s m args below meth c A X => f1_isColourRow_e_ok X (r := q.1) (h' := q.2) hf0)
def f1_layPattern_e (x1 : Int32) (x2 : Int32) (h : Hp) : Re :=
  (f7_isRing x1 h).bind fun c1 => if c1.1 = 0 then (some ((-1), c1.2)) else ((f1_isColourRow x2 c1.2).bind fun c4 => if c4.1 = 0 then (some ((-2), c4.2)) else ((f5_isClosed 1 x1 c4.2).bind fun c7 => if c7.1 = 0 then ((f5_hasPattern 1 x1 c7.2).bind fun c10 => (f7_bit c10.1 c10.2).bind fun c12 => (f5_lay 1 (3 + x1) x2 c12.2).bind fun c14 => some (c12.1, c14.2)) else (some ((-5), c7.2))))
set_option maxRecDepth 20000 in
set_option maxHeartbeats 4000000 in
theorem f1_layPattern_e_ok (hE : IW E) (X : XC E RX1 cX1_layPattern 4 (some .int) A p s m args meth c) {x1 : Int32} {x2 : Int32} {h : Hp} (hf0 : f1_layPattern_e x1 x2 h = some (r, h')) : VM E 4 A p l e 2 s m args below meth c (Qi E A r h') 0 [(0, .ref (eA E 1)), (1, .int x1), (2, .int x2)] [] h := by
  unfold f1_layPattern_e at hf0
  have hf1 := hf0
  refine V_iload_n X 1 rfl dX1_layPattern_0 ?_
  obtain ⟨c1, e_c1, hf3⟩ := obd hf1
  refine V_callSNi X (f7_isRing_ok e_c1) ys_X7_isRing yw_X7_isRing nl_X1_29 rfl rfl ⟨Nat.le_of_ble_eq_true rfl, Nat.le_of_ble_eq_true rfl⟩ ⟨Nat.zero_le _, Nat.zero_le _⟩ (Nat.le_of_ble_eq_true rfl) dX1_layPattern_1 ?_
  refine V_if_ne X (tgt := 9) (by decide) dX1_layPattern_4 (fun q4 => ?_) (fun q4 => ?_)
  · have hf4 := ife hf3 q4
    refine V_iload_n X 2 rfl dX1_layPattern_9 ?_
    obtain ⟨c4, e_c4, hf6⟩ := obd hf4
    refine V_callSi X (f1_isColourRow_ok e_c4) ys_X1_isColourRow yw_X1_isColourRow ml_X1_33 rfl rfl ⟨Nat.le_of_ble_eq_true rfl, Nat.le_of_ble_eq_true rfl⟩ ⟨Nat.zero_le _, Nat.zero_le _⟩ (Nat.le_of_ble_eq_true rfl) dX1_layPattern_10 ?_
    refine V_if_ne X (tgt := 19) (by decide) dX1_layPattern_13 (fun q13 => ?_) (fun q13 => ?_)
    · have hf7 := ife hf6 q13
      refine V_aload_n X 0 rfl dX1_layPattern_19 ?_
      refine V_iload_n X 1 rfl dX1_layPattern_20 ?_
      obtain ⟨c7, e_c7, hf9⟩ := obd hf7
      refine V_callVi X (SR_1 hE).1 rfl rfl (f5_isClosed_ok (SR_1 hE) e_c7) ys_X5_isClosed yw_X5_isClosed ml_X1_36 rfl rfl ⟨Nat.le_of_ble_eq_true rfl, Nat.le_of_ble_eq_true rfl⟩ ⟨Nat.zero_le _, Nat.zero_le _⟩ (Nat.le_of_ble_eq_true rfl) dX1_layPattern_21 ?_
      refine V_if_eq X (tgt := 30) (by decide) dX1_layPattern_24 (fun q24 => ?_) (fun q24 => ?_)
      · have hf10 := ift hf9 q24
        refine V_aload_n X 0 rfl dX1_layPattern_30 ?_
        refine V_iload_n X 1 rfl dX1_layPattern_31 ?_
        obtain ⟨c10, e_c10, hf12⟩ := obd hf10
        refine V_callVi X (SR_1 hE).1 rfl rfl (f5_hasPattern_ok (SR_1 hE) e_c10) ys_X5_hasPattern yw_X5_hasPattern ml_X1_39 rfl rfl ⟨Nat.le_of_ble_eq_true rfl, Nat.le_of_ble_eq_true rfl⟩ ⟨Nat.zero_le _, Nat.zero_le _⟩ (Nat.le_of_ble_eq_true rfl) dX1_layPattern_32 ?_
        obtain ⟨c12, e_c12, hf14⟩ := obd hf12
        refine V_callSNi X (f7_bit_ok e_c12) ys_X7_bit yw_X7_bit nl_X1_42 rfl rfl ⟨Nat.le_of_ble_eq_true rfl, Nat.le_of_ble_eq_true rfl⟩ ⟨Nat.zero_le _, Nat.zero_le _⟩ (Nat.le_of_ble_eq_true rfl) dX1_layPattern_35 ?_
        refine V_istore_n X (by decide) rfl dX1_layPattern_38 ?_
        refine V_aload_n X 1 rfl dX1_layPattern_39 ?_
        refine V_iconst X (v := 3) (by decide) dX1_layPattern_40 ?_
        refine V_iload_n X 2 rfl dX1_layPattern_41 ?_
        refine V_iadd X dX1_layPattern_42 ?_
        refine V_iload_n X 3 rfl dX1_layPattern_43 ?_
        obtain ⟨c14, e_c14, hf16⟩ := obd hf14
        refine V_callVv X (SR_1 hE).1 rfl rfl (f5_lay_ok (SR_1 hE) e_c14) ys_X5_lay yw_X5_lay ml_X1_25 rfl rfl ⟨Nat.le_of_ble_eq_true rfl, Nat.le_of_ble_eq_true rfl⟩ ⟨Nat.zero_le _, Nat.zero_le _⟩ (Nat.le_of_ble_eq_true rfl) dX1_layPattern_44 ?_
        refine V_iload_n X 0 rfl dX1_layPattern_47 ?_
        exact V_iret X rfl hf16 dX1_layPattern_48
      · have hf10 := ife hf9 q24
        refine V_bipush X (v := -5) (by decide) dX1_layPattern_27 ?_
        exact V_iret X rfl hf10 dX1_layPattern_29
    · have hf7 := ift hf6 q13
      refine V_bipush X (v := -2) (by decide) dX1_layPattern_16 ?_
      exact V_iret X rfl hf7 dX1_layPattern_18
  · have hf4 := ift hf3 q4
    refine V_iconst X (v := -1) (by decide) dX1_layPattern_7 ?_
    exact V_iret X rfl hf4 dX1_layPattern_8
def f1_layPattern (x1 : Int32) (x2 : Int32) (h : Hp) : Re := f1_layPattern_e x1 x2 h
theorem f1_layPattern_ok (hE : IW E) {x1 : Int32} {x2 : Int32} {h : Hp} {q : Int32 × Hp} (hf0 : f1_layPattern x1 x2 h = some q) : SMi l E 2 yX1_layPattern cX1_layPattern 4 (some .int) [.ref (eA E 1), .int x1, .int x2] h q.1 q.2 :=
  SMi.of (by decide +kernel) (Nat.le_of_ble_eq_true rfl) (fun p e s m args below meth c A X => f1_layPattern_e_ok hE X (r := q.1) (h' := q.2) hf0)
def f7_pattern_e (x1 : Int32) (x2 : Int32) (h : Hp) : Re :=
  (f2_stage  h).bind fun c1 => (f1_layPattern x1 x2 c1.2).bind fun c3 => (f2_recordUnlessError c3.1 c3.2).bind fun c5 => some (c5.1, c5.2)
set_option maxRecDepth 20000 in
set_option maxHeartbeats 4000000 in
theorem f7_pattern_e_ok (hE : IW E) (X : XC E RX7 cX7_pattern 3 (some .int) A p s m args meth c) {x1 : Int32} {x2 : Int32} {h : Hp} (hf0 : f7_pattern_e x1 x2 h = some (r, h')) : VM E 3 A p l e 3 s m args below meth c (Qi E A r h') 0 [(0, .ref (eA E 0)), (1, .int x1), (2, .int x2)] [] h := by
  unfold f7_pattern_e at hf0
  have hf1 := hf0
  refine V_aload_n X 0 rfl dX7_pattern_0 ?_
  refine G_X7_3_29 hE X dX7_pattern_1 ?_
  refine V_aload_n X 0 rfl dX7_pattern_4 ?_
  refine G_X7_0_10 hE X dX7_pattern_5 ?_
  obtain ⟨c1, e_c1, hf3⟩ := obd hf1
  refine V_callVv X (OB_8 hE) rfl rfl (f2_stage_ok hE e_c1) ys_X2_stage yw_X2_stage ml_X7_40 rfl rfl ⟨Nat.le_of_ble_eq_true rfl, Nat.le_of_ble_eq_true rfl⟩ ⟨Nat.zero_le _, Nat.zero_le _⟩ (Nat.le_of_ble_eq_true rfl) dX7_pattern_8 ?_
  refine V_aload_n X 0 rfl dX7_pattern_11 ?_
  refine G_X7_3_29 hE X dX7_pattern_12 ?_
  refine V_aload_n X 0 rfl dX7_pattern_15 ?_
  refine G_X7_0_10 hE X dX7_pattern_16 ?_
  refine V_iload_n X 1 rfl dX7_pattern_19 ?_
  refine V_iload_n X 2 rfl dX7_pattern_20 ?_
  obtain ⟨c3, e_c3, hf5⟩ := obd hf3
  refine V_callSi X (f1_layPattern_ok hE e_c3) ys_X1_layPattern yw_X1_layPattern ml_X7_54 rfl rfl ⟨Nat.le_of_ble_eq_true rfl, Nat.le_of_ble_eq_true rfl⟩ ⟨Nat.zero_le _, Nat.zero_le _⟩ (Nat.le_of_ble_eq_true rfl) dX7_pattern_21 ?_
  obtain ⟨c5, e_c5, hf7⟩ := obd hf5
  refine V_callVi X (OB_8 hE) rfl rfl (f2_recordUnlessError_ok hE e_c5) ys_X2_recordUnlessError yw_X2_recordUnlessError ml_X7_50 rfl rfl ⟨Nat.le_of_ble_eq_true rfl, Nat.le_of_ble_eq_true rfl⟩ ⟨Nat.zero_le _, Nat.zero_le _⟩ (Nat.le_of_ble_eq_true rfl) dX7_pattern_24 ?_
  exact V_iret X rfl hf7 dX7_pattern_27
def f7_pattern (x1 : Int32) (x2 : Int32) (h : Hp) : Re := f7_pattern_e x1 x2 h
theorem f7_pattern_ok (hE : IW E) {x1 : Int32} {x2 : Int32} {h : Hp} {q : Int32 × Hp} (hf0 : f7_pattern x1 x2 h = some q) : SMi l E 3 yX7_pattern cX7_pattern 3 (some .int) [.ref (eA E 0), .int x1, .int x2] h q.1 q.2 :=
  SMi.of (by decide +kernel) (Nat.le_of_ble_eq_true rfl) (fun p e s m args below meth c A X => f7_pattern_e_ok hE X (r := q.1) (h' := q.2) hf0)
def f1_fillFunnel_e (x1 : Int32) (x2 : Int32) (h : Hp) : Re :=
  (f7_isColour x1 h).bind fun c1 => if c1.1 = 0 then (some ((-1), c1.2)) else (if x2 < 1 then (some ((-2), c1.2)) else (if x2 ≤ 9999 then ((f5_funnel 1 x1 c1.2).bind fun c6 => (some (if (c6.1 + x2) < 9999 then (c6.1 + x2) else 9999 : Int32)).bind fun z8 => (f5_lay 1 (8 + x1) z8 c6.2).bind fun c10 => some (z8, c10.2)) else (some ((-2), c1.2))))
set_option maxRecDepth 20000 in
set_option maxHeartbeats 4000000 in
theorem f1_fillFunnel_e_ok (hE : IW E) (X : XC E RX1 cX1_fillFunnel 4 (some .int) A p s m args meth c) {x1 : Int32} {x2 : Int32} {h : Hp} (hf0 : f1_fillFunnel_e x1 x2 h = some (r, h')) : VM E 4 A p l e 2 s m args below meth c (Qi E A r h') 0 [(0, .ref (eA E 1)), (1, .int x1), (2, .int x2)] [] h := by
  unfold f1_fillFunnel_e at hf0
  have hf1 := hf0
  refine V_iload_n X 1 rfl dX1_fillFunnel_0 ?_
  obtain ⟨c1, e_c1, hf3⟩ := obd hf1
  refine V_callSNi X (f7_isColour_ok e_c1) ys_X7_isColour yw_X7_isColour nl_X1_49 rfl rfl ⟨Nat.le_of_ble_eq_true rfl, Nat.le_of_ble_eq_true rfl⟩ ⟨Nat.zero_le _, Nat.zero_le _⟩ (Nat.le_of_ble_eq_true rfl) dX1_fillFunnel_1 ?_
  refine V_if_ne X (tgt := 9) (by decide) dX1_fillFunnel_4 (fun q4 => ?_) (fun q4 => ?_)
  · have hf4 := ife hf3 q4
    refine V_iload_n X 2 rfl dX1_fillFunnel_9 ?_
    refine V_iconst X (v := 1) (by decide) dX1_fillFunnel_10 ?_
    refine V_icmp_lt X (tgt := 21) (by decide) dX1_fillFunnel_11 (fun q11 => ?_) (fun q11 => ?_)
    · have hf5 := ift hf4 q11
      refine V_bipush X (v := -2) (by decide) dX1_fillFunnel_21 ?_
      exact V_iret X rfl hf5 dX1_fillFunnel_23
    · have hf5 := ife hf4 q11
      refine V_iload_n X 2 rfl dX1_fillFunnel_14 ?_
      refine V_sipush X (v := 9999) (by decide) dX1_fillFunnel_15 ?_
      refine V_icmp_le X (tgt := 24) (by decide) dX1_fillFunnel_18 (fun q18 => ?_) (fun q18 => ?_)
      · have hf6 := ift hf5 q18
        refine V_sipush X (v := 9999) (by decide) dX1_fillFunnel_24 ?_
        refine V_aload_n X 0 rfl dX1_fillFunnel_27 ?_
        refine V_iload_n X 1 rfl dX1_fillFunnel_28 ?_
        obtain ⟨c6, e_c6, hf8⟩ := obd hf6
        refine V_callVi X (SR_1 hE).1 rfl rfl (f5_funnel_ok (SR_1 hE) e_c6) ys_X5_funnel yw_X5_funnel ml_X1_58 rfl rfl ⟨Nat.le_of_ble_eq_true rfl, Nat.le_of_ble_eq_true rfl⟩ ⟨Nat.zero_le _, Nat.zero_le _⟩ (Nat.le_of_ble_eq_true rfl) dX1_fillFunnel_29 ?_
        refine V_iload_n X 2 rfl dX1_fillFunnel_32 ?_
        refine V_iadd X dX1_fillFunnel_33 ?_
        refine V_mmin X mm_X1_61 mm_min_st mm_ini mm_min_co (by decide) (by decide) ⟨Nat.zero_le _, Nat.zero_le _⟩ dX1_fillFunnel_34 ?_
        refine V_istore_n X (by decide) rfl dX1_fillFunnel_37 ?_
        have hf10 := obs hf8
        refine V_aload_n X 1 rfl dX1_fillFunnel_38 ?_
        refine V_bipush X (v := 8) (by decide) dX1_fillFunnel_39 ?_
        refine V_iload_n X 2 rfl dX1_fillFunnel_41 ?_
        refine V_iadd X dX1_fillFunnel_42 ?_
        refine V_iload_n X 0 rfl dX1_fillFunnel_43 ?_
        obtain ⟨c10, e_c10, hf12⟩ := obd hf10
        refine V_callVv X (SR_1 hE).1 rfl rfl (f5_lay_ok (SR_1 hE) e_c10) ys_X5_lay yw_X5_lay ml_X1_25 rfl rfl ⟨Nat.le_of_ble_eq_true rfl, Nat.le_of_ble_eq_true rfl⟩ ⟨Nat.zero_le _, Nat.zero_le _⟩ (Nat.le_of_ble_eq_true rfl) dX1_fillFunnel_44 ?_
        refine V_iload_n X 0 rfl dX1_fillFunnel_47 ?_
        exact V_iret X rfl hf12 dX1_fillFunnel_48
      · have hf6 := ife hf5 q18
        refine V_bipush X (v := -2) (by decide) dX1_fillFunnel_21 ?_
        exact V_iret X rfl hf6 dX1_fillFunnel_23
  · have hf4 := ift hf3 q4
    refine V_iconst X (v := -1) (by decide) dX1_fillFunnel_7 ?_
    exact V_iret X rfl hf4 dX1_fillFunnel_8
def f1_fillFunnel (x1 : Int32) (x2 : Int32) (h : Hp) : Re := f1_fillFunnel_e x1 x2 h
theorem f1_fillFunnel_ok (hE : IW E) {x1 : Int32} {x2 : Int32} {h : Hp} {q : Int32 × Hp} (hf0 : f1_fillFunnel x1 x2 h = some q) : SMi l E 2 yX1_fillFunnel cX1_fillFunnel 4 (some .int) [.ref (eA E 1), .int x1, .int x2] h q.1 q.2 :=
  SMi.of (by decide +kernel) (Nat.le_of_ble_eq_true rfl) (fun p e s m args below meth c A X => f1_fillFunnel_e_ok hE X (r := q.1) (h' := q.2) hf0)
def f7_fill_e (x1 : Int32) (x2 : Int32) (h : Hp) : Re :=
  (f2_stage  h).bind fun c1 => (f1_fillFunnel x1 x2 c1.2).bind fun c3 => (f2_recordUnlessError c3.1 c3.2).bind fun c5 => some (c5.1, c5.2)
set_option maxRecDepth 20000 in
set_option maxHeartbeats 4000000 in
theorem f7_fill_e_ok (hE : IW E) (X : XC E RX7 cX7_fill 3 (some .int) A p s m args meth c) {x1 : Int32} {x2 : Int32} {h : Hp} (hf0 : f7_fill_e x1 x2 h = some (r, h')) : VM E 3 A p l e 3 s m args below meth c (Qi E A r h') 0 [(0, .ref (eA E 0)), (1, .int x1), (2, .int x2)] [] h := by
  unfold f7_fill_e at hf0
  have hf1 := hf0
  refine V_aload_n X 0 rfl dX7_fill_0 ?_
  refine G_X7_3_29 hE X dX7_fill_1 ?_
  refine V_aload_n X 0 rfl dX7_fill_4 ?_
  refine G_X7_0_10 hE X dX7_fill_5 ?_
  obtain ⟨c1, e_c1, hf3⟩ := obd hf1
  refine V_callVv X (OB_8 hE) rfl rfl (f2_stage_ok hE e_c1) ys_X2_stage yw_X2_stage ml_X7_40 rfl rfl ⟨Nat.le_of_ble_eq_true rfl, Nat.le_of_ble_eq_true rfl⟩ ⟨Nat.zero_le _, Nat.zero_le _⟩ (Nat.le_of_ble_eq_true rfl) dX7_fill_8 ?_
  refine V_aload_n X 0 rfl dX7_fill_11 ?_
  refine G_X7_3_29 hE X dX7_fill_12 ?_
  refine V_aload_n X 0 rfl dX7_fill_15 ?_
  refine G_X7_0_10 hE X dX7_fill_16 ?_
  refine V_iload_n X 1 rfl dX7_fill_19 ?_
  refine V_iload_n X 2 rfl dX7_fill_20 ?_
  obtain ⟨c3, e_c3, hf5⟩ := obd hf3
  refine V_callSi X (f1_fillFunnel_ok hE e_c3) ys_X1_fillFunnel yw_X1_fillFunnel ml_X7_60 rfl rfl ⟨Nat.le_of_ble_eq_true rfl, Nat.le_of_ble_eq_true rfl⟩ ⟨Nat.zero_le _, Nat.zero_le _⟩ (Nat.le_of_ble_eq_true rfl) dX7_fill_21 ?_
  obtain ⟨c5, e_c5, hf7⟩ := obd hf5
  refine V_callVi X (OB_8 hE) rfl rfl (f2_recordUnlessError_ok hE e_c5) ys_X2_recordUnlessError yw_X2_recordUnlessError ml_X7_50 rfl rfl ⟨Nat.le_of_ble_eq_true rfl, Nat.le_of_ble_eq_true rfl⟩ ⟨Nat.zero_le _, Nat.zero_le _⟩ (Nat.le_of_ble_eq_true rfl) dX7_fill_24 ?_
  exact V_iret X rfl hf7 dX7_fill_27
def f7_fill (x1 : Int32) (x2 : Int32) (h : Hp) : Re := f7_fill_e x1 x2 h
theorem f7_fill_ok (hE : IW E) {x1 : Int32} {x2 : Int32} {h : Hp} {q : Int32 × Hp} (hf0 : f7_fill x1 x2 h = some q) : SMi l E 3 yX7_fill cX7_fill 3 (some .int) [.ref (eA E 0), .int x1, .int x2] h q.1 q.2 :=
  SMi.of (by decide +kernel) (Nat.le_of_ble_eq_true rfl) (fun p e s m args below meth c A X => f7_fill_e_ok hE X (r := q.1) (h' := q.2) hf0)
def f1_closeRing_e (h : Hp) : Re :=
  (f5_number 1 19 h).bind fun c1 => if 5 ≤ c1.1 then (some ((-5), c1.2)) else ((f6_isWhole c1.1 c1.2).bind fun c4 => if c4.1 = 0 then (some ((-5), c4.2)) else ((f5_lay 1 19 (c1.1 + 1) c4.2).bind fun c7 => some (c1.1, c7.2)))
set_option maxRecDepth 20000 in
set_option maxHeartbeats 4000000 in
theorem f1_closeRing_e_ok (hE : IW E) (X : XC E RX1 cX1_closeRing 2 (some .int) A p s m args meth c) {h : Hp} (hf0 : f1_closeRing_e  h = some (r, h')) : VM E 2 A p l e 5 s m args below meth c (Qi E A r h') 0 [(0, .ref (eA E 1))] [] h := by
  unfold f1_closeRing_e at hf0
  have hf1 := hf0
  refine V_aload_n X 0 rfl dX1_closeRing_0 ?_
  refine V_bipush X (v := 19) (by decide) dX1_closeRing_1 ?_
  obtain ⟨c1, e_c1, hf3⟩ := obd hf1
  refine V_callVi X (SR_1 hE).1 rfl rfl (f5_number_ok (SR_1 hE) e_c1) ys_X5_number yw_X5_number ml_X1_94 rfl rfl ⟨Nat.le_of_ble_eq_true rfl, Nat.le_of_ble_eq_true rfl⟩ ⟨Nat.zero_le _, Nat.zero_le _⟩ (Nat.le_of_ble_eq_true rfl) dX1_closeRing_3 ?_
  refine V_istore_n X (by decide) rfl dX1_closeRing_6 ?_
  refine V_iload_n X 0 rfl dX1_closeRing_7 ?_
  refine V_iconst X (v := 5) (by decide) dX1_closeRing_8 ?_
  refine V_icmp_ge X (tgt := 20) (by decide) dX1_closeRing_9 (fun q9 => ?_) (fun q9 => ?_)
  · have hf4 := ift hf3 q9
    refine V_bipush X (v := -5) (by decide) dX1_closeRing_20 ?_
    exact V_iret X rfl hf4 dX1_closeRing_22
  · have hf4 := ife hf3 q9
    refine V_aload_n X 1 rfl dX1_closeRing_12 ?_
    refine V_iload_n X 0 rfl dX1_closeRing_13 ?_
    obtain ⟨c4, e_c4, hf6⟩ := obd hf4
    refine V_callSi X (f6_isWhole_ok hE e_c4) ys_X6_isWhole yw_X6_isWhole ml_X1_97 rfl rfl ⟨Nat.le_of_ble_eq_true rfl, Nat.le_of_ble_eq_true rfl⟩ ⟨Nat.zero_le _, Nat.zero_le _⟩ (Nat.le_of_ble_eq_true rfl) dX1_closeRing_14 ?_
    refine V_if_ne X (tgt := 23) (by decide) dX1_closeRing_17 (fun q17 => ?_) (fun q17 => ?_)
    · have hf7 := ife hf6 q17
      refine V_aload_n X 1 rfl dX1_closeRing_23 ?_
      refine V_bipush X (v := 19) (by decide) dX1_closeRing_24 ?_
      refine V_iload_n X 0 rfl dX1_closeRing_26 ?_
      refine V_iconst X (v := 1) (by decide) dX1_closeRing_27 ?_
      refine V_iadd X dX1_closeRing_28 ?_
      obtain ⟨c7, e_c7, hf9⟩ := obd hf7
      refine V_callVv X (SR_1 hE).1 rfl rfl (f5_lay_ok (SR_1 hE) e_c7) ys_X5_lay yw_X5_lay ml_X1_25 rfl rfl ⟨Nat.le_of_ble_eq_true rfl, Nat.le_of_ble_eq_true rfl⟩ ⟨Nat.zero_le _, Nat.zero_le _⟩ (Nat.le_of_ble_eq_true rfl) dX1_closeRing_29 ?_
      refine V_iload_n X 0 rfl dX1_closeRing_32 ?_
      exact V_iret X rfl hf9 dX1_closeRing_33
    · have hf7 := ift hf6 q17
      refine V_bipush X (v := -5) (by decide) dX1_closeRing_20 ?_
      exact V_iret X rfl hf7 dX1_closeRing_22
def f1_closeRing (h : Hp) : Re := f1_closeRing_e  h
theorem f1_closeRing_ok (hE : IW E) {h : Hp} {q : Int32 × Hp} (hf0 : f1_closeRing  h = some q) : SMi l E 5 yX1_closeRing cX1_closeRing 2 (some .int) [.ref (eA E 1)] h q.1 q.2 :=
  SMi.of (by decide +kernel) (Nat.le_of_ble_eq_true rfl) (fun p e s m args below meth c A X => f1_closeRing_e_ok hE X (r := q.1) (h' := q.2) hf0)
def f7_close_e (h : Hp) : Re :=
  (f2_stage  h).bind fun c1 => (f1_closeRing  c1.2).bind fun c3 => (f2_recordUnlessError c3.1 c3.2).bind fun c5 => some (c5.1, c5.2)
set_option maxRecDepth 20000 in
set_option maxHeartbeats 4000000 in
theorem f7_close_e_ok (hE : IW E) (X : XC E RX7 cX7_close 1 (some .int) A p s m args meth c) {h : Hp} (hf0 : f7_close_e  h = some (r, h')) : VM E 1 A p l e 6 s m args below meth c (Qi E A r h') 0 [(0, .ref (eA E 0))] [] h := by
  unfold f7_close_e at hf0
  have hf1 := hf0
  refine V_aload_n X 0 rfl dX7_close_0 ?_
  refine G_X7_3_29 hE X dX7_close_1 ?_
  refine V_aload_n X 0 rfl dX7_close_4 ?_
  refine G_X7_0_10 hE X dX7_close_5 ?_
  obtain ⟨c1, e_c1, hf3⟩ := obd hf1
  refine V_callVv X (OB_8 hE) rfl rfl (f2_stage_ok hE e_c1) ys_X2_stage yw_X2_stage ml_X7_40 rfl rfl ⟨Nat.le_of_ble_eq_true rfl, Nat.le_of_ble_eq_true rfl⟩ ⟨Nat.zero_le _, Nat.zero_le _⟩ (Nat.le_of_ble_eq_true rfl) dX7_close_8 ?_
  refine V_aload_n X 0 rfl dX7_close_11 ?_
  refine G_X7_3_29 hE X dX7_close_12 ?_
  refine V_aload_n X 0 rfl dX7_close_15 ?_
  refine G_X7_0_10 hE X dX7_close_16 ?_
  obtain ⟨c3, e_c3, hf5⟩ := obd hf3
  refine V_callSi X (f1_closeRing_ok hE e_c3) ys_X1_closeRing yw_X1_closeRing ml_X7_75 rfl rfl ⟨Nat.le_of_ble_eq_true rfl, Nat.le_of_ble_eq_true rfl⟩ ⟨Nat.zero_le _, Nat.zero_le _⟩ (Nat.le_of_ble_eq_true rfl) dX7_close_19 ?_
  obtain ⟨c5, e_c5, hf7⟩ := obd hf5
  refine V_callVi X (OB_8 hE) rfl rfl (f2_recordUnlessError_ok hE e_c5) ys_X2_recordUnlessError yw_X2_recordUnlessError ml_X7_50 rfl rfl ⟨Nat.le_of_ble_eq_true rfl, Nat.le_of_ble_eq_true rfl⟩ ⟨Nat.zero_le _, Nat.zero_le _⟩ (Nat.le_of_ble_eq_true rfl) dX7_close_22 ?_
  exact V_iret X rfl hf7 dX7_close_25
def f7_close (h : Hp) : Re := f7_close_e  h
theorem f7_close_ok (hE : IW E) {h : Hp} {q : Int32 × Hp} (hf0 : f7_close  h = some q) : SMi l E 6 yX7_close cX7_close 1 (some .int) [.ref (eA E 0)] h q.1 q.2 :=
  SMi.of (by decide +kernel) (Nat.le_of_ble_eq_true rfl) (fun p e s m args below meth c A X => f7_close_e_ok hE X (r := q.1) (h' := q.2) hf0)
def f5_dropPatterns_B2 (k : Nat) (k2 : Int32 → Hp → Re) (x1 : Int32) (h : Hp) : Re :=
  if 5 ≤ x1 then (some (0, h)) else ((f5_lay k (3 + x1) (-1) h).bind fun c2 => k2 (x1 + 1) c2.2)
set_option maxRecDepth 20000 in
set_option maxHeartbeats 4000000 in
theorem f5_dropPatterns_B2_ok {k : Nat} (hk : SR E k) (X : XC E RX5 cX5_dropPatterns 2 none A p s m args meth c) {k2 : Int32 → Hp → Re} (hk2 : ∀ (x1 : Int32) (h : Hp), k2 x1 h = some (r, h') → VM E 2 A p l e 1 s m args below meth c (Qv E A h') 2 [(0, .ref (eA E k)), (1, .int x1)] [] h) {x1 : Int32} {h : Hp} (hf0 : f5_dropPatterns_B2 k k2 x1 h = some (r, h')) : VM E 2 A p l e 1 s m args below meth c (Qv E A h') 2 [(0, .ref (eA E k)), (1, .int x1)] [] h := by
  unfold f5_dropPatterns_B2 at hf0
  have hf1 := hf0
  refine V_iload_n X 1 rfl dX5_dropPatterns_2 ?_
  refine V_iconst X (v := 5) (by decide) dX5_dropPatterns_3 ?_
  refine V_icmp_ge X (tgt := 21) (by decide) dX5_dropPatterns_4 (fun q4 => ?_) (fun q4 => ?_)
  · have hf2 := ift hf1 q4
    exact V_vret X rfl hf2 dX5_dropPatterns_21
  · have hf2 := ife hf1 q4
    refine V_aload_n X 0 rfl dX5_dropPatterns_7 ?_
    refine V_iconst X (v := 3) (by decide) dX5_dropPatterns_8 ?_
    refine V_iload_n X 1 rfl dX5_dropPatterns_9 ?_
    refine V_iadd X dX5_dropPatterns_10 ?_
    refine V_iconst X (v := -1) (by decide) dX5_dropPatterns_11 ?_
    obtain ⟨c2, e_c2, hf4⟩ := obd hf2
    refine V_callVv X hk.1 rfl rfl (f5_lay_ok hk e_c2) ys_X5_lay yw_X5_lay ml_X5_15 rfl rfl ⟨Nat.le_of_ble_eq_true rfl, Nat.le_of_ble_eq_true rfl⟩ ⟨Nat.zero_le _, Nat.zero_le _⟩ (Nat.le_of_ble_eq_true rfl) dX5_dropPatterns_12 ?_
    refine V_iinc X (v := _ + 1) 1 rfl (by rfl) (by decide) rfl dX5_dropPatterns_15 ?_
    refine V_goto X (tgt := 2) (by decide) dX5_dropPatterns_18 ?_
    exact V_sub [1, 0] rfl (hk2 _ _ hf4)
def f5_dropPatterns_L2 (k : Nat) : Nat → Int32 → Hp → Re
  | 0 => fun _ _ => none
  | n + 1 => f5_dropPatterns_B2 k (f5_dropPatterns_L2 k n)
theorem f5_dropPatterns_L2_s (k : Nat) (n : Nat) (x1 : Int32) (h : Hp) : f5_dropPatterns_L2 k (n + 1) x1 h = f5_dropPatterns_B2 k (f5_dropPatterns_L2 k n) x1 h := rfl
theorem f5_dropPatterns_L2_ok {k : Nat} (hk : SR E k) (X : XC E RX5 cX5_dropPatterns 2 none A p s m args meth c) : ∀ (n : Nat) (x1 : Int32) (h : Hp), f5_dropPatterns_L2 k n x1 h = some (r, h') → VM E 2 A p l e 1 s m args below meth c (Qv E A h') 2 [(0, .ref (eA E k)), (1, .int x1)] [] h := by
  intro n
  induction n with
  | zero =>
    intro x1 h q
    have q : (none : Re) = some (r, h') := q
    cases q
  | succ n ih =>
    intro x1 h q
    exact f5_dropPatterns_B2_ok hk X ih q
def f5_dropPatterns_e (k : Nat) (h : Hp) : Re :=
  f5_dropPatterns_L2 k FU 0 h
set_option maxRecDepth 20000 in
set_option maxHeartbeats 4000000 in
theorem f5_dropPatterns_e_ok {k : Nat} (hk : SR E k) (X : XC E RX5 cX5_dropPatterns 2 none A p s m args meth c) {h : Hp} (hf0 : f5_dropPatterns_e k  h = some (r, h')) : VM E 2 A p l e 1 s m args below meth c (Qv E A h') 0 [(0, .ref (eA E k))] [] h := by
  unfold f5_dropPatterns_e at hf0
  have hf1 := hf0
  refine V_iconst X (v := 0) (by decide) dX5_dropPatterns_0 ?_
  refine V_istore_n X (by decide) rfl dX5_dropPatterns_1 ?_
  exact V_sub [1, 0] rfl (f5_dropPatterns_L2_ok hk X FU _ _ hf1)
def f5_dropPatterns (k : Nat) (h : Hp) : Re := f5_dropPatterns_e k  h
theorem f5_dropPatterns_ok {k : Nat} (hk : SR E k) {h : Hp} {q : Int32 × Hp} (hf0 : f5_dropPatterns k  h = some q) : SMv l E 1 yX5_dropPatterns cX5_dropPatterns 2 [.ref (eA E k)] h q.2 :=
  SMv.of (by decide +kernel) (Nat.le_of_ble_eq_true rfl) (fun p e s m args below meth c A X => f5_dropPatterns_e_ok hk X (r := q.1) (h' := q.2) hf0)
def f1_beginAnew_e (h : Hp) : Re :=
  (f5_lay 1 20 0 h).bind fun c1 => (f5_lay 1 19 0 c1.2).bind fun c3 => (f5_dropPatterns 1  c3.2).bind fun c5 => (f5_raise 1 21 1 c5.2).bind fun c7 => some (0, c7.2)
set_option maxRecDepth 20000 in
set_option maxHeartbeats 4000000 in
theorem f1_beginAnew_e_ok (hE : IW E) (X : XC E RX1 cX1_beginAnew 1 none A p s m args meth c) {h : Hp} (hf0 : f1_beginAnew_e  h = some (r, h')) : VM E 1 A p l e 2 s m args below meth c (Qv E A h') 0 [(0, .ref (eA E 1))] [] h := by
  unfold f1_beginAnew_e at hf0
  have hf1 := hf0
  refine V_aload_n X 0 rfl dX1_beginAnew_0 ?_
  refine V_bipush X (v := 20) (by decide) dX1_beginAnew_1 ?_
  refine V_iconst X (v := 0) (by decide) dX1_beginAnew_3 ?_
  obtain ⟨c1, e_c1, hf3⟩ := obd hf1
  refine V_callVv X (SR_1 hE).1 rfl rfl (f5_lay_ok (SR_1 hE) e_c1) ys_X5_lay yw_X5_lay ml_X1_25 rfl rfl ⟨Nat.le_of_ble_eq_true rfl, Nat.le_of_ble_eq_true rfl⟩ ⟨Nat.zero_le _, Nat.zero_le _⟩ (Nat.le_of_ble_eq_true rfl) dX1_beginAnew_4 ?_
  refine V_aload_n X 0 rfl dX1_beginAnew_7 ?_
  refine V_bipush X (v := 19) (by decide) dX1_beginAnew_8 ?_
  refine V_iconst X (v := 0) (by decide) dX1_beginAnew_10 ?_
  obtain ⟨c3, e_c3, hf5⟩ := obd hf3
  refine V_callVv X (SR_1 hE).1 rfl rfl (f5_lay_ok (SR_1 hE) e_c3) ys_X5_lay yw_X5_lay ml_X1_25 rfl rfl ⟨Nat.le_of_ble_eq_true rfl, Nat.le_of_ble_eq_true rfl⟩ ⟨Nat.zero_le _, Nat.zero_le _⟩ (Nat.le_of_ble_eq_true rfl) dX1_beginAnew_11 ?_
  refine V_aload_n X 0 rfl dX1_beginAnew_14 ?_
  obtain ⟨c5, e_c5, hf7⟩ := obd hf5
  refine V_callVv X (SR_1 hE).1 rfl rfl (f5_dropPatterns_ok (SR_1 hE) e_c5) ys_X5_dropPatterns yw_X5_dropPatterns ml_X1_110 rfl rfl ⟨Nat.le_of_ble_eq_true rfl, Nat.le_of_ble_eq_true rfl⟩ ⟨Nat.zero_le _, Nat.zero_le _⟩ (Nat.le_of_ble_eq_true rfl) dX1_beginAnew_15 ?_
  refine V_aload_n X 0 rfl dX1_beginAnew_18 ?_
  refine V_bipush X (v := 21) (by decide) dX1_beginAnew_19 ?_
  refine V_iconst X (v := 1) (by decide) dX1_beginAnew_21 ?_
  obtain ⟨c7, e_c7, hf9⟩ := obd hf7
  refine V_callVv X (SR_1 hE).1 rfl rfl (f5_raise_ok (SR_1 hE) e_c7) ys_X5_raise yw_X5_raise ml_X1_82 rfl rfl ⟨Nat.le_of_ble_eq_true rfl, Nat.le_of_ble_eq_true rfl⟩ ⟨Nat.zero_le _, Nat.zero_le _⟩ (Nat.le_of_ble_eq_true rfl) dX1_beginAnew_22 ?_
  exact V_vret X rfl hf9 dX1_beginAnew_25
def f1_beginAnew (h : Hp) : Re := f1_beginAnew_e  h
theorem f1_beginAnew_ok (hE : IW E) {h : Hp} {q : Int32 × Hp} (hf0 : f1_beginAnew  h = some q) : SMv l E 2 yX1_beginAnew cX1_beginAnew 1 [.ref (eA E 1)] h q.2 :=
  SMv.of (by decide +kernel) (Nat.le_of_ble_eq_true rfl) (fun p e s m args below meth c A X => f1_beginAnew_e_ok hE X (r := q.1) (h' := q.2) hf0)
def f1_sweepQuarter_B35 (k27 : Int32 → Int32 → Int32 → Hp → Re) (k35 : Int32 → Int32 → Int32 → Int32 → Hp → Re) (x1 : Int32) (x2 : Int32) (x3 : Int32) (x4 : Int32) (h : Hp) : Re :=
  if 8 ≤ x4 then (k27 x1 x2 (x3 + 1) h) else ((f5_grains 1 x2 x3 x4 h).bind fun c2 => (f5_raise 1 23 c2.1 c2.2).bind fun c4 => (f5_heap 1 x2 x3 x4 0 0 c4.2).bind fun c6 => k35 x1 x2 x3 (x4 + 1) c6.2)
set_option maxRecDepth 20000 in
set_option maxHeartbeats 4000000 in
theorem f1_sweepQuarter_B35_ok (hE : IW E) (X : XC E RX1 cX1_sweepQuarter 5 (some .int) A p s m args meth c) {k27 : Int32 → Int32 → Int32 → Hp → Re} {k35 : Int32 → Int32 → Int32 → Int32 → Hp → Re} (hk27 : ∀ (x1 : Int32) (x2 : Int32) (x3 : Int32) (h : Hp), k27 x1 x2 x3 h = some (r, h') → VM E 5 A p l e 3 s m args below meth c (Qi E A r h') 27 [(0, .ref (eA E 1)), (1, .int x1), (2, .int x2), (3, .int x3)] [] h) (hk35 : ∀ (x1 : Int32) (x2 : Int32) (x3 : Int32) (x4 : Int32) (h : Hp), k35 x1 x2 x3 x4 h = some (r, h') → VM E 5 A p l e 3 s m args below meth c (Qi E A r h') 35 [(0, .ref (eA E 1)), (1, .int x1), (2, .int x2), (3, .int x3), (4, .int x4)] [] h) {x1 : Int32} {x2 : Int32} {x3 : Int32} {x4 : Int32} {h : Hp} (hf0 : f1_sweepQuarter_B35 k27 k35 x1 x2 x3 x4 h = some (r, h')) : VM E 5 A p l e 3 s m args below meth c (Qi E A r h') 35 [(0, .ref (eA E 1)), (1, .int x1), (2, .int x2), (3, .int x3), (4, .int x4)] [] h := by
  unfold f1_sweepQuarter_B35 at hf0
  have hf1 := hf0
  refine V_iload X 4 rfl dX1_sweepQuarter_35 ?_
  refine V_bipush X (v := 8) (by decide) dX1_sweepQuarter_37 ?_
  refine V_icmp_ge X (tgt := 72) (by decide) dX1_sweepQuarter_39 (fun q39 => ?_) (fun q39 => ?_)
  · have hf2 := ift hf1 q39
    refine V_iinc X (v := _ + 1) 3 rfl (by rfl) (by decide) rfl dX1_sweepQuarter_72 ?_
    refine V_goto X (tgt := 27) (by decide) dX1_sweepQuarter_75 ?_
    exact V_sub [1, 2, 3, 0] rfl (hk27 _ _ _ _ hf2)
  · have hf2 := ife hf1 q39
    refine V_aload_n X 0 rfl dX1_sweepQuarter_42 ?_
    refine V_bipush X (v := 23) (by decide) dX1_sweepQuarter_43 ?_
    refine V_aload_n X 0 rfl dX1_sweepQuarter_45 ?_
    refine V_iload_n X 2 rfl dX1_sweepQuarter_46 ?_
    refine V_iload_n X 3 rfl dX1_sweepQuarter_47 ?_
    refine V_iload X 4 rfl dX1_sweepQuarter_48 ?_
    obtain ⟨c2, e_c2, hf4⟩ := obd hf2
    refine V_callVi X (SR_1 hE).1 rfl rfl (f5_grains_ok (SR_1 hE) e_c2) ys_X5_grains yw_X5_grains ml_X1_75 rfl rfl ⟨Nat.le_of_ble_eq_true rfl, Nat.le_of_ble_eq_true rfl⟩ ⟨Nat.zero_le _, Nat.zero_le _⟩ (Nat.le_of_ble_eq_true rfl) dX1_sweepQuarter_50 ?_
    obtain ⟨c4, e_c4, hf6⟩ := obd hf4
    refine V_callVv X (SR_1 hE).1 rfl rfl (f5_raise_ok (SR_1 hE) e_c4) ys_X5_raise yw_X5_raise ml_X1_82 rfl rfl ⟨Nat.le_of_ble_eq_true rfl, Nat.le_of_ble_eq_true rfl⟩ ⟨Nat.zero_le _, Nat.zero_le _⟩ (Nat.le_of_ble_eq_true rfl) dX1_sweepQuarter_53 ?_
    refine V_aload_n X 0 rfl dX1_sweepQuarter_56 ?_
    refine V_iload_n X 2 rfl dX1_sweepQuarter_57 ?_
    refine V_iload_n X 3 rfl dX1_sweepQuarter_58 ?_
    refine V_iload X 4 rfl dX1_sweepQuarter_59 ?_
    refine V_iconst X (v := 0) (by decide) dX1_sweepQuarter_61 ?_
    refine V_iconst X (v := 0) (by decide) dX1_sweepQuarter_62 ?_
    obtain ⟨c6, e_c6, hf8⟩ := obd hf6
    refine V_callVv X (SR_1 hE).1 rfl rfl (f5_heap_ok (SR_1 hE) e_c6) ys_X5_heap yw_X5_heap ml_X1_78 rfl rfl ⟨Nat.le_of_ble_eq_true rfl, Nat.le_of_ble_eq_true rfl⟩ ⟨Nat.zero_le _, Nat.zero_le _⟩ (Nat.le_of_ble_eq_true rfl) dX1_sweepQuarter_63 ?_
    refine V_iinc X (v := _ + 1) 4 rfl (by rfl) (by decide) rfl dX1_sweepQuarter_66 ?_
    refine V_goto X (tgt := 35) (by decide) dX1_sweepQuarter_69 ?_
    exact V_sub [1, 2, 3, 4, 0] rfl (hk35 _ _ _ _ _ hf8)
def f1_sweepQuarter_L35 (k27 : Int32 → Int32 → Int32 → Hp → Re) : Nat → Int32 → Int32 → Int32 → Int32 → Hp → Re
  | 0 => fun _ _ _ _ _ => none
  | n + 1 => f1_sweepQuarter_B35 k27 (f1_sweepQuarter_L35 k27 n)
theorem f1_sweepQuarter_L35_s (k27 : Int32 → Int32 → Int32 → Hp → Re) (n : Nat) (x1 : Int32) (x2 : Int32) (x3 : Int32) (x4 : Int32) (h : Hp) : f1_sweepQuarter_L35 k27 (n + 1) x1 x2 x3 x4 h = f1_sweepQuarter_B35 k27 (f1_sweepQuarter_L35 k27 n) x1 x2 x3 x4 h := rfl
theorem f1_sweepQuarter_L35_ok (hE : IW E) (X : XC E RX1 cX1_sweepQuarter 5 (some .int) A p s m args meth c) {k27 : Int32 → Int32 → Int32 → Hp → Re} (hk27 : ∀ (x1 : Int32) (x2 : Int32) (x3 : Int32) (h : Hp), k27 x1 x2 x3 h = some (r, h') → VM E 5 A p l e 3 s m args below meth c (Qi E A r h') 27 [(0, .ref (eA E 1)), (1, .int x1), (2, .int x2), (3, .int x3)] [] h) : ∀ (n : Nat) (x1 : Int32) (x2 : Int32) (x3 : Int32) (x4 : Int32) (h : Hp), f1_sweepQuarter_L35 k27 n x1 x2 x3 x4 h = some (r, h') → VM E 5 A p l e 3 s m args below meth c (Qi E A r h') 35 [(0, .ref (eA E 1)), (1, .int x1), (2, .int x2), (3, .int x3), (4, .int x4)] [] h := by
  intro n
  induction n with
  | zero =>
    intro x1 x2 x3 x4 h q
    have q : (none : Re) = some (r, h') := q
    cases q
  | succ n ih =>
    intro x1 x2 x3 x4 h q
    exact f1_sweepQuarter_B35_ok hE X hk27 ih q
def f1_sweepQuarter_B27 (k27 : Int32 → Int32 → Int32 → Hp → Re) (x1 : Int32) (x2 : Int32) (x3 : Int32) (h : Hp) : Re :=
  if 5 ≤ x3 then ((f5_lay 1 20 (x1 + 1) h).bind fun c2 => if (x1 + 1) < 4 then (some (x2, c2.2)) else ((f1_beginAnew  c2.2).bind fun c5 => some (x2, c5.2))) else (f1_sweepQuarter_L35 k27 FU x1 x2 x3 0 h)
set_option maxRecDepth 20000 in
set_option maxHeartbeats 4000000 in
theorem f1_sweepQuarter_B27_ok (hE : IW E) (X : XC E RX1 cX1_sweepQuarter 5 (some .int) A p s m args meth c) {k27 : Int32 → Int32 → Int32 → Hp → Re} (hk27 : ∀ (x1 : Int32) (x2 : Int32) (x3 : Int32) (h : Hp), k27 x1 x2 x3 h = some (r, h') → VM E 5 A p l e 3 s m args below meth c (Qi E A r h') 27 [(0, .ref (eA E 1)), (1, .int x1), (2, .int x2), (3, .int x3)] [] h) {x1 : Int32} {x2 : Int32} {x3 : Int32} {h : Hp} (hf0 : f1_sweepQuarter_B27 k27 x1 x2 x3 h = some (r, h')) : VM E 5 A p l e 3 s m args below meth c (Qi E A r h') 27 [(0, .ref (eA E 1)), (1, .int x1), (2, .int x2), (3, .int x3)] [] h := by
  unfold f1_sweepQuarter_B27 at hf0
  have hf1 := hf0
  refine V_iload_n X 3 rfl dX1_sweepQuarter_27 ?_
  refine V_iconst X (v := 5) (by decide) dX1_sweepQuarter_28 ?_
  refine V_icmp_ge X (tgt := 78) (by decide) dX1_sweepQuarter_29 (fun q29 => ?_) (fun q29 => ?_)
  · have hf2 := ift hf1 q29
    refine V_aload_n X 0 rfl dX1_sweepQuarter_78 ?_
    refine V_bipush X (v := 20) (by decide) dX1_sweepQuarter_79 ?_
    refine V_iload_n X 1 rfl dX1_sweepQuarter_81 ?_
    refine V_iconst X (v := 1) (by decide) dX1_sweepQuarter_82 ?_
    refine V_iadd X dX1_sweepQuarter_83 ?_
    obtain ⟨c2, e_c2, hf4⟩ := obd hf2
    refine V_callVv X (SR_1 hE).1 rfl rfl (f5_lay_ok (SR_1 hE) e_c2) ys_X5_lay yw_X5_lay ml_X1_25 rfl rfl ⟨Nat.le_of_ble_eq_true rfl, Nat.le_of_ble_eq_true rfl⟩ ⟨Nat.zero_le _, Nat.zero_le _⟩ (Nat.le_of_ble_eq_true rfl) dX1_sweepQuarter_84 ?_
    refine V_iload_n X 1 rfl dX1_sweepQuarter_87 ?_
    refine V_iconst X (v := 1) (by decide) dX1_sweepQuarter_88 ?_
    refine V_iadd X dX1_sweepQuarter_89 ?_
    refine V_iconst X (v := 4) (by decide) dX1_sweepQuarter_90 ?_
    refine V_icmp_lt X (tgt := 98) (by decide) dX1_sweepQuarter_91 (fun q91 => ?_) (fun q91 => ?_)
    · have hf5 := ift hf4 q91
      refine V_iload_n X 2 rfl dX1_sweepQuarter_98 ?_
      exact V_iret X rfl hf5 dX1_sweepQuarter_99
    · have hf5 := ife hf4 q91
      refine V_aload_n X 0 rfl dX1_sweepQuarter_94 ?_
      obtain ⟨c5, e_c5, hf7⟩ := obd hf5
      refine V_callSv X (f1_beginAnew_ok hE e_c5) ys_X1_beginAnew yw_X1_beginAnew ml_X1_106 rfl rfl ⟨Nat.le_of_ble_eq_true rfl, Nat.le_of_ble_eq_true rfl⟩ ⟨Nat.zero_le _, Nat.zero_le _⟩ (Nat.le_of_ble_eq_true rfl) dX1_sweepQuarter_95 ?_
      refine V_iload_n X 2 rfl dX1_sweepQuarter_98 ?_
      exact V_iret X rfl hf7 dX1_sweepQuarter_99
  · have hf2 := ife hf1 q29
    refine V_iconst X (v := 0) (by decide) dX1_sweepQuarter_32 ?_
    refine V_istore X (by decide) rfl dX1_sweepQuarter_33 ?_
    exact V_sub [1, 2, 3, 4, 0] rfl (f1_sweepQuarter_L35_ok hE X hk27 FU _ _ _ _ _ hf2)
def f1_sweepQuarter_L27 : Nat → Int32 → Int32 → Int32 → Hp → Re
  | 0 => fun _ _ _ _ => none
  | n + 1 => f1_sweepQuarter_B27 (f1_sweepQuarter_L27 n)
theorem f1_sweepQuarter_L27_s (n : Nat) (x1 : Int32) (x2 : Int32) (x3 : Int32) (h : Hp) : f1_sweepQuarter_L27 (n + 1) x1 x2 x3 h = f1_sweepQuarter_B27 (f1_sweepQuarter_L27 n) x1 x2 x3 h := rfl
theorem f1_sweepQuarter_L27_ok (hE : IW E) (X : XC E RX1 cX1_sweepQuarter 5 (some .int) A p s m args meth c) : ∀ (n : Nat) (x1 : Int32) (x2 : Int32) (x3 : Int32) (h : Hp), f1_sweepQuarter_L27 n x1 x2 x3 h = some (r, h') → VM E 5 A p l e 3 s m args below meth c (Qi E A r h') 27 [(0, .ref (eA E 1)), (1, .int x1), (2, .int x2), (3, .int x3)] [] h := by
  intro n
  induction n with
  | zero =>
    intro x1 x2 x3 h q
    have q : (none : Re) = some (r, h') := q
    cases q
  | succ n ih =>
    intro x1 x2 x3 h q
    exact f1_sweepQuarter_B27_ok hE X ih q
def f1_sweepQuarter_e (h : Hp) : Re :=
  (f5_number 1 19 h).bind fun c1 => if 5 ≤ c1.1 then ((f5_number 1 20 c1.2).bind fun c4 => (f1_quarterOfTurn c4.1 c4.2).bind fun c6 => f1_sweepQuarter_L27 FU c4.1 c6.1 0 c6.2) else (some ((-5), c1.2))
set_option maxRecDepth 20000 in
set_option maxHeartbeats 4000000 in
theorem f1_sweepQuarter_e_ok (hE : IW E) (X : XC E RX1 cX1_sweepQuarter 5 (some .int) A p s m args meth c) {h : Hp} (hf0 : f1_sweepQuarter_e  h = some (r, h')) : VM E 5 A p l e 3 s m args below meth c (Qi E A r h') 0 [(0, .ref (eA E 1))] [] h := by
  unfold f1_sweepQuarter_e at hf0
  have hf1 := hf0
  refine V_aload_n X 0 rfl dX1_sweepQuarter_0 ?_
  refine V_bipush X (v := 19) (by decide) dX1_sweepQuarter_1 ?_
  obtain ⟨c1, e_c1, hf3⟩ := obd hf1
  refine V_callVi X (SR_1 hE).1 rfl rfl (f5_number_ok (SR_1 hE) e_c1) ys_X5_number yw_X5_number ml_X1_94 rfl rfl ⟨Nat.le_of_ble_eq_true rfl, Nat.le_of_ble_eq_true rfl⟩ ⟨Nat.zero_le _, Nat.zero_le _⟩ (Nat.le_of_ble_eq_true rfl) dX1_sweepQuarter_3 ?_
  refine V_iconst X (v := 5) (by decide) dX1_sweepQuarter_6 ?_
  refine V_icmp_ge X (tgt := 13) (by decide) dX1_sweepQuarter_7 (fun q7 => ?_) (fun q7 => ?_)
  · have hf4 := ift hf3 q7
    refine V_aload_n X 0 rfl dX1_sweepQuarter_13 ?_
    refine V_bipush X (v := 20) (by decide) dX1_sweepQuarter_14 ?_
    obtain ⟨c4, e_c4, hf6⟩ := obd hf4
    refine V_callVi X (SR_1 hE).1 rfl rfl (f5_number_ok (SR_1 hE) e_c4) ys_X5_number yw_X5_number ml_X1_94 rfl rfl ⟨Nat.le_of_ble_eq_true rfl, Nat.le_of_ble_eq_true rfl⟩ ⟨Nat.zero_le _, Nat.zero_le _⟩ (Nat.le_of_ble_eq_true rfl) dX1_sweepQuarter_16 ?_
    refine V_istore_n X (by decide) rfl dX1_sweepQuarter_19 ?_
    refine V_iload_n X 0 rfl dX1_sweepQuarter_20 ?_
    obtain ⟨c6, e_c6, hf8⟩ := obd hf6
    refine V_callSi X (f1_quarterOfTurn_ok e_c6) ys_X1_quarterOfTurn yw_X1_quarterOfTurn ml_X1_103 rfl rfl ⟨Nat.le_of_ble_eq_true rfl, Nat.le_of_ble_eq_true rfl⟩ ⟨Nat.zero_le _, Nat.zero_le _⟩ (Nat.le_of_ble_eq_true rfl) dX1_sweepQuarter_21 ?_
    refine V_istore_n X (by decide) rfl dX1_sweepQuarter_24 ?_
    refine V_iconst X (v := 0) (by decide) dX1_sweepQuarter_25 ?_
    refine V_istore_n X (by decide) rfl dX1_sweepQuarter_26 ?_
    exact V_sub [3, 2, 1, 0] rfl (f1_sweepQuarter_L27_ok hE X FU _ _ _ _ hf8)
  · have hf4 := ife hf3 q7
    refine V_bipush X (v := -5) (by decide) dX1_sweepQuarter_10 ?_
    exact V_iret X rfl hf4 dX1_sweepQuarter_12
def f1_sweepQuarter (h : Hp) : Re := f1_sweepQuarter_e  h
theorem f1_sweepQuarter_ok (hE : IW E) {h : Hp} {q : Int32 × Hp} (hf0 : f1_sweepQuarter  h = some q) : SMi l E 3 yX1_sweepQuarter cX1_sweepQuarter 5 (some .int) [.ref (eA E 1)] h q.1 q.2 :=
  SMi.of (by decide +kernel) (Nat.le_of_ble_eq_true rfl) (fun p e s m args below meth c A X => f1_sweepQuarter_e_ok hE X (r := q.1) (h' := q.2) hf0)
def f7_sweep_e (h : Hp) : Re :=
  (f2_stage  h).bind fun c1 => (f1_sweepQuarter  c1.2).bind fun c3 => (f2_recordUnlessError c3.1 c3.2).bind fun c5 => some (c5.1, c5.2)
set_option maxRecDepth 20000 in
set_option maxHeartbeats 4000000 in
theorem f7_sweep_e_ok (hE : IW E) (X : XC E RX7 cX7_sweep 1 (some .int) A p s m args meth c) {h : Hp} (hf0 : f7_sweep_e  h = some (r, h')) : VM E 1 A p l e 4 s m args below meth c (Qi E A r h') 0 [(0, .ref (eA E 0))] [] h := by
  unfold f7_sweep_e at hf0
  have hf1 := hf0
  refine V_aload_n X 0 rfl dX7_sweep_0 ?_
  refine G_X7_3_29 hE X dX7_sweep_1 ?_
  refine V_aload_n X 0 rfl dX7_sweep_4 ?_
  refine G_X7_0_10 hE X dX7_sweep_5 ?_
  obtain ⟨c1, e_c1, hf3⟩ := obd hf1
  refine V_callVv X (OB_8 hE) rfl rfl (f2_stage_ok hE e_c1) ys_X2_stage yw_X2_stage ml_X7_40 rfl rfl ⟨Nat.le_of_ble_eq_true rfl, Nat.le_of_ble_eq_true rfl⟩ ⟨Nat.zero_le _, Nat.zero_le _⟩ (Nat.le_of_ble_eq_true rfl) dX7_sweep_8 ?_
  refine V_aload_n X 0 rfl dX7_sweep_11 ?_
  refine G_X7_3_29 hE X dX7_sweep_12 ?_
  refine V_aload_n X 0 rfl dX7_sweep_15 ?_
  refine G_X7_0_10 hE X dX7_sweep_16 ?_
  obtain ⟨c3, e_c3, hf5⟩ := obd hf3
  refine V_callSi X (f1_sweepQuarter_ok hE e_c3) ys_X1_sweepQuarter yw_X1_sweepQuarter ml_X7_79 rfl rfl ⟨Nat.le_of_ble_eq_true rfl, Nat.le_of_ble_eq_true rfl⟩ ⟨Nat.zero_le _, Nat.zero_le _⟩ (Nat.le_of_ble_eq_true rfl) dX7_sweep_19 ?_
  obtain ⟨c5, e_c5, hf7⟩ := obd hf5
  refine V_callVi X (OB_8 hE) rfl rfl (f2_recordUnlessError_ok hE e_c5) ys_X2_recordUnlessError yw_X2_recordUnlessError ml_X7_50 rfl rfl ⟨Nat.le_of_ble_eq_true rfl, Nat.le_of_ble_eq_true rfl⟩ ⟨Nat.zero_le _, Nat.zero_le _⟩ (Nat.le_of_ble_eq_true rfl) dX7_sweep_22 ?_
  exact V_iret X rfl hf7 dX7_sweep_25
def f7_sweep (h : Hp) : Re := f7_sweep_e  h
theorem f7_sweep_ok (hE : IW E) {h : Hp} {q : Int32 × Hp} (hf0 : f7_sweep  h = some q) : SMi l E 4 yX7_sweep cX7_sweep 1 (some .int) [.ref (eA E 0)] h q.1 q.2 :=
  SMi.of (by decide +kernel) (Nat.le_of_ble_eq_true rfl) (fun p e s m args below meth c A X => f7_sweep_e_ok hE X (r := q.1) (h' := q.2) hf0)
def f1_isSettingValue_e (x0 : Int32) (x1 : Int32) (h : Hp) : Re :=
  if x0 = 0 then (if x1 < 1 then (rz 0 h) else (if 50 < x1 then (rz 0 h) else (rz 1 h))) else if x0 = 1 then (if x1 < 1 then (rz 0 h) else (if 99 < x1 then (rz 0 h) else (rz 1 h))) else if x0 = 2 then (if x1 = 0 then (rz 1 h) else (if x1 = 1 then (rz 1 h) else (rz 0 h))) else (rz 0 h)
set_option maxRecDepth 20000 in
set_option maxHeartbeats 4000000 in
theorem f1_isSettingValue_e_ok (X : XC E RX1 cX1_isSettingValue 2 (some .boolean) A p s m args meth c) {x0 : Int32} {x1 : Int32} {h : Hp} (hf0 : f1_isSettingValue_e x0 x1 h = some (r, h')) : VM E 2 A p l e 0 s m args below meth c (Qi E A r h') 0 [(0, .int x0), (1, .int x1)] [] h := by
  unfold f1_isSettingValue_e at hf0
  have hf1 := hf0
  refine V_iload_n X 0 rfl dX1_isSettingValue_0 ?_
  rcases oif hf1 with ⟨q1_0, hf1_0⟩ | ⟨q1_0, hf1_0⟩
  · refine V_table X (tgt := 28) (off := 27) (by rw [q1_0]; decide) (by decide) (by decide) dX1_isSettingValue_1 ?_
    have hf3 := hf1_0
    refine V_iload_n X 1 rfl dX1_isSettingValue_28 ?_
    refine V_iconst X (v := 1) (by decide) dX1_isSettingValue_29 ?_
    refine V_icmp_lt X (tgt := 43) (by decide) dX1_isSettingValue_30 (fun q30 => ?_) (fun q30 => ?_)
    · have hf4 := ift hf3 q30
      refine V_iconst X (v := 0) (by decide) dX1_isSettingValue_43 ?_
      exact V_zret X rfl hf4 dX1_isSettingValue_44
    · have hf4 := ife hf3 q30
      refine V_iload_n X 1 rfl dX1_isSettingValue_33 ?_
      refine V_bipush X (v := 50) (by decide) dX1_isSettingValue_34 ?_
      refine V_icmp_gt X (tgt := 43) (by decide) dX1_isSettingValue_36 (fun q36 => ?_) (fun q36 => ?_)
      · have hf5 := ift hf4 q36
        refine V_iconst X (v := 0) (by decide) dX1_isSettingValue_43 ?_
        exact V_zret X rfl hf5 dX1_isSettingValue_44
      · have hf5 := ife hf4 q36
        refine V_iconst X (v := 1) (by decide) dX1_isSettingValue_39 ?_
        refine V_goto X (tgt := 44) (by decide) dX1_isSettingValue_40 ?_
        exact V_zret X rfl hf5 dX1_isSettingValue_44
  rcases oif hf1_0 with ⟨q1_1, hf1_1⟩ | ⟨q1_1, hf1_1⟩
  · refine V_table X (tgt := 45) (off := 44) (by rw [q1_1]; decide) (by decide) (by decide) dX1_isSettingValue_1 ?_
    have hf6 := hf1_1
    refine V_iload_n X 1 rfl dX1_isSettingValue_45 ?_
    refine V_iconst X (v := 1) (by decide) dX1_isSettingValue_46 ?_
    refine V_icmp_lt X (tgt := 60) (by decide) dX1_isSettingValue_47 (fun q47 => ?_) (fun q47 => ?_)
    · have hf7 := ift hf6 q47
      refine V_iconst X (v := 0) (by decide) dX1_isSettingValue_60 ?_
      exact V_zret X rfl hf7 dX1_isSettingValue_61
    · have hf7 := ife hf6 q47
      refine V_iload_n X 1 rfl dX1_isSettingValue_50 ?_
      refine V_bipush X (v := 99) (by decide) dX1_isSettingValue_51 ?_
      refine V_icmp_gt X (tgt := 60) (by decide) dX1_isSettingValue_53 (fun q53 => ?_) (fun q53 => ?_)
      · have hf8 := ift hf7 q53
        refine V_iconst X (v := 0) (by decide) dX1_isSettingValue_60 ?_
        exact V_zret X rfl hf8 dX1_isSettingValue_61
      · have hf8 := ife hf7 q53
        refine V_iconst X (v := 1) (by decide) dX1_isSettingValue_56 ?_
        refine V_goto X (tgt := 61) (by decide) dX1_isSettingValue_57 ?_
        exact V_zret X rfl hf8 dX1_isSettingValue_61
  rcases oif hf1_1 with ⟨q1_2, hf1_2⟩ | ⟨q1_2, hf1_2⟩
  · refine V_table X (tgt := 62) (off := 61) (by rw [q1_2]; decide) (by decide) (by decide) dX1_isSettingValue_1 ?_
    have hf9 := hf1_2
    refine V_iload_n X 1 rfl dX1_isSettingValue_62 ?_
    refine V_if_eq X (tgt := 71) (by decide) dX1_isSettingValue_63 (fun q63 => ?_) (fun q63 => ?_)
    · have hf10 := ift hf9 q63
      refine V_iconst X (v := 1) (by decide) dX1_isSettingValue_71 ?_
      refine V_goto X (tgt := 76) (by decide) dX1_isSettingValue_72 ?_
      exact V_zret X rfl hf10 dX1_isSettingValue_76
    · have hf10 := ife hf9 q63
      refine V_iload_n X 1 rfl dX1_isSettingValue_66 ?_
      refine V_iconst X (v := 1) (by decide) dX1_isSettingValue_67 ?_
      refine V_icmp_ne X (tgt := 75) (by decide) dX1_isSettingValue_68 (fun q68 => ?_) (fun q68 => ?_)
      · have hf11 := ife hf10 q68
        refine V_iconst X (v := 0) (by decide) dX1_isSettingValue_75 ?_
        exact V_zret X rfl hf11 dX1_isSettingValue_76
      · have hf11 := ift hf10 q68
        refine V_iconst X (v := 1) (by decide) dX1_isSettingValue_71 ?_
        refine V_goto X (tgt := 76) (by decide) dX1_isSettingValue_72 ?_
        exact V_zret X rfl hf11 dX1_isSettingValue_76
  · skip
    refine V_table X (tgt := 77) (off := 76) (tsel_out (by have z0 := lv_neT q1_0 (show (0 : Int32).toInt = 0 by decide); have z1 := lv_neT q1_1 (show (1 : Int32).toInt = 1 by decide); have z2 := lv_neT q1_2 (show (2 : Int32).toInt = 2 by decide); omega)) (by decide) (by decide) dX1_isSettingValue_1 ?_
    have hf12 := hf1_2
    refine V_iconst X (v := 0) (by decide) dX1_isSettingValue_77 ?_
    exact V_zret X rfl hf12 dX1_isSettingValue_78
def f1_isSettingValue (x0 : Int32) (x1 : Int32) (h : Hp) : Re := f1_isSettingValue_e x0 x1 h
theorem f1_isSettingValue_ok {x0 : Int32} {x1 : Int32} {h : Hp} {q : Int32 × Hp} (hf0 : f1_isSettingValue x0 x1 h = some q) : SMi l E 0 yX1_isSettingValue cX1_isSettingValue 2 (some .boolean) [.int x0, .int x1] h q.1 q.2 :=
  SMi.of (by decide +kernel) (Nat.le_of_ble_eq_true rfl) (fun p e s m args below meth c A X => f1_isSettingValue_e_ok X (r := q.1) (h' := q.2) hf0)
def f1_changeSetting_e (x1 : Int32) (x2 : Int32) (h : Hp) : Re :=
  (f1_isSettingValue x1 x2 h).bind fun c1 => if c1.1 = 0 then (some ((-2), c1.2)) else ((f5_setting 1 x1 c1.2).bind fun c4 => (f5_lay 1 (0 + x1) x2 c4.2).bind fun c6 => some (c4.1, c6.2))
set_option maxRecDepth 20000 in
set_option maxHeartbeats 4000000 in
theorem f1_changeSetting_e_ok (hE : IW E) (X : XC E RX1 cX1_changeSetting 4 (some .int) A p s m args meth c) {x1 : Int32} {x2 : Int32} {h : Hp} (hf0 : f1_changeSetting_e x1 x2 h = some (r, h')) : VM E 4 A p l e 2 s m args below meth c (Qi E A r h') 0 [(0, .ref (eA E 1)), (1, .int x1), (2, .int x2)] [] h := by
  unfold f1_changeSetting_e at hf0
  have hf1 := hf0
  refine V_iload_n X 1 rfl dX1_changeSetting_0 ?_
  refine V_iload_n X 2 rfl dX1_changeSetting_1 ?_
  obtain ⟨c1, e_c1, hf3⟩ := obd hf1
  refine V_callSi X (f1_isSettingValue_ok e_c1) ys_X1_isSettingValue yw_X1_isSettingValue ml_X1_15 rfl rfl ⟨Nat.le_of_ble_eq_true rfl, Nat.le_of_ble_eq_true rfl⟩ ⟨Nat.zero_le _, Nat.zero_le _⟩ (Nat.le_of_ble_eq_true rfl) dX1_changeSetting_2 ?_
  refine V_if_ne X (tgt := 11) (by decide) dX1_changeSetting_5 (fun q5 => ?_) (fun q5 => ?_)
  · have hf4 := ife hf3 q5
    refine V_aload_n X 0 rfl dX1_changeSetting_11 ?_
    refine V_iload_n X 1 rfl dX1_changeSetting_12 ?_
    obtain ⟨c4, e_c4, hf6⟩ := obd hf4
    refine V_callVi X (SR_1 hE).1 rfl rfl (f5_setting_ok (SR_1 hE) e_c4) ys_X5_setting yw_X5_setting ml_X1_19 rfl rfl ⟨Nat.le_of_ble_eq_true rfl, Nat.le_of_ble_eq_true rfl⟩ ⟨Nat.zero_le _, Nat.zero_le _⟩ (Nat.le_of_ble_eq_true rfl) dX1_changeSetting_13 ?_
    refine V_istore_n X (by decide) rfl dX1_changeSetting_16 ?_
    refine V_aload_n X 1 rfl dX1_changeSetting_17 ?_
    refine V_iconst X (v := 0) (by decide) dX1_changeSetting_18 ?_
    refine V_iload_n X 2 rfl dX1_changeSetting_19 ?_
    refine V_iadd X dX1_changeSetting_20 ?_
    refine V_iload_n X 3 rfl dX1_changeSetting_21 ?_
    obtain ⟨c6, e_c6, hf8⟩ := obd hf6
    refine V_callVv X (SR_1 hE).1 rfl rfl (f5_lay_ok (SR_1 hE) e_c6) ys_X5_lay yw_X5_lay ml_X1_25 rfl rfl ⟨Nat.le_of_ble_eq_true rfl, Nat.le_of_ble_eq_true rfl⟩ ⟨Nat.zero_le _, Nat.zero_le _⟩ (Nat.le_of_ble_eq_true rfl) dX1_changeSetting_22 ?_
    refine V_iload_n X 0 rfl dX1_changeSetting_25 ?_
    exact V_iret X rfl hf8 dX1_changeSetting_26
  · have hf4 := ift hf3 q5
    refine V_bipush X (v := -2) (by decide) dX1_changeSetting_8 ?_
    exact V_iret X rfl hf4 dX1_changeSetting_10
def f1_changeSetting (x1 : Int32) (x2 : Int32) (h : Hp) : Re := f1_changeSetting_e x1 x2 h
theorem f1_changeSetting_ok (hE : IW E) {x1 : Int32} {x2 : Int32} {h : Hp} {q : Int32 × Hp} (hf0 : f1_changeSetting x1 x2 h = some q) : SMi l E 2 yX1_changeSetting cX1_changeSetting 4 (some .int) [.ref (eA E 1), .int x1, .int x2] h q.1 q.2 :=
  SMi.of (by decide +kernel) (Nat.le_of_ble_eq_true rfl) (fun p e s m args below meth c A X => f1_changeSetting_e_ok hE X (r := q.1) (h' := q.2) hf0)
def f7_set_e (x1 : Int32) (x2 : Int32) (h : Hp) : Re :=
  (f2_stage  h).bind fun c1 => (f1_changeSetting x1 x2 c1.2).bind fun c3 => (f2_recordUnlessError c3.1 c3.2).bind fun c5 => some (c5.1, c5.2)
set_option maxRecDepth 20000 in
set_option maxHeartbeats 4000000 in
theorem f7_set_e_ok (hE : IW E) (X : XC E RX7 cX7_set 3 (some .int) A p s m args meth c) {x1 : Int32} {x2 : Int32} {h : Hp} (hf0 : f7_set_e x1 x2 h = some (r, h')) : VM E 3 A p l e 3 s m args below meth c (Qi E A r h') 0 [(0, .ref (eA E 0)), (1, .int x1), (2, .int x2)] [] h := by
  unfold f7_set_e at hf0
  have hf1 := hf0
  refine V_aload_n X 0 rfl dX7_set_0 ?_
  refine G_X7_3_29 hE X dX7_set_1 ?_
  refine V_aload_n X 0 rfl dX7_set_4 ?_
  refine G_X7_0_10 hE X dX7_set_5 ?_
  obtain ⟨c1, e_c1, hf3⟩ := obd hf1
  refine V_callVv X (OB_8 hE) rfl rfl (f2_stage_ok hE e_c1) ys_X2_stage yw_X2_stage ml_X7_40 rfl rfl ⟨Nat.le_of_ble_eq_true rfl, Nat.le_of_ble_eq_true rfl⟩ ⟨Nat.zero_le _, Nat.zero_le _⟩ (Nat.le_of_ble_eq_true rfl) dX7_set_8 ?_
  refine V_aload_n X 0 rfl dX7_set_11 ?_
  refine G_X7_3_29 hE X dX7_set_12 ?_
  refine V_aload_n X 0 rfl dX7_set_15 ?_
  refine G_X7_0_10 hE X dX7_set_16 ?_
  refine V_iload_n X 1 rfl dX7_set_19 ?_
  refine V_iload_n X 2 rfl dX7_set_20 ?_
  obtain ⟨c3, e_c3, hf5⟩ := obd hf3
  refine V_callSi X (f1_changeSetting_ok hE e_c3) ys_X1_changeSetting yw_X1_changeSetting ml_X7_44 rfl rfl ⟨Nat.le_of_ble_eq_true rfl, Nat.le_of_ble_eq_true rfl⟩ ⟨Nat.zero_le _, Nat.zero_le _⟩ (Nat.le_of_ble_eq_true rfl) dX7_set_21 ?_
  obtain ⟨c5, e_c5, hf7⟩ := obd hf5
  refine V_callVi X (OB_8 hE) rfl rfl (f2_recordUnlessError_ok hE e_c5) ys_X2_recordUnlessError yw_X2_recordUnlessError ml_X7_50 rfl rfl ⟨Nat.le_of_ble_eq_true rfl, Nat.le_of_ble_eq_true rfl⟩ ⟨Nat.zero_le _, Nat.zero_le _⟩ (Nat.le_of_ble_eq_true rfl) dX7_set_24 ?_
  exact V_iret X rfl hf7 dX7_set_27
def f7_set (x1 : Int32) (x2 : Int32) (h : Hp) : Re := f7_set_e x1 x2 h
theorem f7_set_ok (hE : IW E) {x1 : Int32} {x2 : Int32} {h : Hp} {q : Int32 × Hp} (hf0 : f7_set x1 x2 h = some q) : SMi l E 3 yX7_set cX7_set 3 (some .int) [.ref (eA E 0), .int x1, .int x2] h q.1 q.2 :=
  SMi.of (by decide +kernel) (Nat.le_of_ble_eq_true rfl) (fun p e s m args below meth c A X => f7_set_e_ok hE X (r := q.1) (h' := q.2) hf0)
def f5_copyOutOf_e (k : Nat) (x2 : Int32) (h : Hp) : Re :=
  if x2 < 0 then (some (0, h)) else (if (3096 - 344) < x2 then (some (0, h)) else (if cpB x2 0 344 3096 344 = true then (some (hf h (k + 1) (va_cpy (h 9) (h (k + 1)) (Int32.toNatClampNeg x2) (Int32.toNatClampNeg 0) (Int32.toNatClampNeg 344)))).bind fun h4 => some (0, h4) else none))
set_option maxRecDepth 20000 in
set_option maxHeartbeats 4000000 in
theorem f5_copyOutOf_e_ok {k : Nat} (hE : IW E) (hk : SR E k) (X : XC E RX5 cX5_copyOutOf 3 none A p s m args meth c) {x2 : Int32} {h : Hp} (hf0 : f5_copyOutOf_e k x2 h = some (r, h')) : VM E 3 A p l e 1 s m args below meth c (Qv E A h') 0 [(0, .ref (eA E k)), (1, .ref (eA E 9)), (2, .int x2)] [] h := by
  unfold f5_copyOutOf_e at hf0
  have hf1 := hf0
  refine V_iload_n X 2 rfl dX5_copyOutOf_0 ?_
  refine V_if_lt X (tgt := 27) (by decide) dX5_copyOutOf_1 (fun q1 => ?_) (fun q1 => ?_)
  · have hf2 := ift hf1 q1
    exact V_vret X rfl hf2 dX5_copyOutOf_27
  · have hf2 := ife hf1 q1
    refine V_iload_n X 2 rfl dX5_copyOutOf_4 ?_
    refine V_aload_n X 1 rfl dX5_copyOutOf_5 ?_
    refine V_alen (j := 0) (v := 3096) X (AR_9 hE) rfl (by decide) dX5_copyOutOf_6 ?_
    refine V_sipush X (v := 344) (by decide) dX5_copyOutOf_7 ?_
    refine V_isub X dX5_copyOutOf_10 ?_
    refine V_icmp_gt X (tgt := 27) (by decide) dX5_copyOutOf_11 (fun q11 => ?_) (fun q11 => ?_)
    · have hf3 := ift hf2 q11
      exact V_vret X rfl hf3 dX5_copyOutOf_27
    · have hf3 := ife hf2 q11
      refine V_aload_n X 1 rfl dX5_copyOutOf_14 ?_
      refine V_iload_n X 2 rfl dX5_copyOutOf_15 ?_
      refine V_aload_n X 0 rfl dX5_copyOutOf_16 ?_
      refine G_X5_0_11 hk X dX5_copyOutOf_17 ?_
      refine V_iconst X (v := 0) (by decide) dX5_copyOutOf_20 ?_
      refine V_sipush X (v := 344) (by decide) dX5_copyOutOf_21 ?_
      obtain ⟨g103, hf103⟩ := ogd hf3
      obtain ⟨ga, gb, gc, gd, ge⟩ := cpB_of g103
      refine V_copyi X (AR_9 hE) hk.2 cp_X5_26 cp_nat cp_stat cp_ini ga gb gc gd ge (by decide) (by decide) dX5_copyOutOf_24 ?_
      have hf6 := obs hf103
      exact V_vret X rfl hf6 dX5_copyOutOf_27
def f5_copyOutOf (k : Nat) (x2 : Int32) (h : Hp) : Re := f5_copyOutOf_e k x2 h
theorem f5_copyOutOf_ok {k : Nat} (hE : IW E) (hk : SR E k) {x2 : Int32} {h : Hp} {q : Int32 × Hp} (hf0 : f5_copyOutOf k x2 h = some q) : SMv l E 1 yX5_copyOutOf cX5_copyOutOf 3 [.ref (eA E k), .ref (eA E 9), .int x2] h q.2 :=
  SMv.of (by decide +kernel) (Nat.le_of_ble_eq_true rfl) (fun p e s m args below meth c A X => f5_copyOutOf_e_ok hE hk X (r := q.1) (h' := q.2) hf0)
def f2_goBack_e (h : Hp) : Re :=
  if (h 8 2) = 0 then (some ((-5), h)) else ((some (hu h 8 2 ((h 8 2) - 1))).bind fun h2 => (f2_circleRow (h2 8 2) h2).bind fun c4 => (f5_copyOutOf 1 c4.1 c4.2).bind fun c6 => some (c6.2 8 2, c6.2))
set_option maxRecDepth 20000 in
set_option maxHeartbeats 4000000 in
theorem f2_goBack_e_ok (hE : IW E) (X : XC E RX2 cX2_goBack 2 (some .int) A p s m args meth c) {h : Hp} (hf0 : f2_goBack_e  h = some (r, h')) : VM E 2 A p l e 2 s m args below meth c (Qi E A r h') 0 [(0, .ref (eA E 8)), (1, .ref (eA E 1))] [] h := by
  unfold f2_goBack_e at hf0
  have hf1 := hf0
  refine V_aload_n X 0 rfl dX2_goBack_0 ?_
  refine G_X2_2_17 hE X dX2_goBack_1 ?_
  refine V_if_ne X (tgt := 10) (by decide) dX2_goBack_4 (fun q4 => ?_) (fun q4 => ?_)
  · have hf2 := ife hf1 q4
    refine V_aload_n X 0 rfl dX2_goBack_10 ?_
    refine V_dup X rfl dX2_goBack_11 ?_
    refine G_X2_2_17 hE X dX2_goBack_12 ?_
    refine V_iconst X (v := 1) (by decide) dX2_goBack_15 ?_
    refine V_isub X dX2_goBack_16 ?_
    refine P_X2_2_17 hE X dX2_goBack_17 ?_
    have hf4 := obs hf2
    refine V_aload_n X 1 rfl dX2_goBack_20 ?_
    refine V_aload_n X 0 rfl dX2_goBack_21 ?_
    refine G_X2_0_13 hE X dX2_goBack_22 ?_
    refine V_aload_n X 0 rfl dX2_goBack_25 ?_
    refine V_aload_n X 0 rfl dX2_goBack_26 ?_
    refine G_X2_2_17 hE X dX2_goBack_27 ?_
    obtain ⟨c4, e_c4, hf6⟩ := obd hf4
    refine V_callVi X (OB_8 hE) rfl rfl (f2_circleRow_ok hE e_c4) ys_X2_circleRow yw_X2_circleRow ml_X2_21 rfl rfl ⟨Nat.le_of_ble_eq_true rfl, Nat.le_of_ble_eq_true rfl⟩ ⟨Nat.zero_le _, Nat.zero_le _⟩ (Nat.le_of_ble_eq_true rfl) dX2_goBack_30 ?_
    obtain ⟨c6, e_c6, hf8⟩ := obd hf6
    refine V_callVv X (SR_1 hE).1 rfl rfl (f5_copyOutOf_ok hE (SR_1 hE) e_c6) ys_X5_copyOutOf yw_X5_copyOutOf ml_X2_32 rfl rfl ⟨Nat.le_of_ble_eq_true rfl, Nat.le_of_ble_eq_true rfl⟩ ⟨Nat.zero_le _, Nat.zero_le _⟩ (Nat.le_of_ble_eq_true rfl) dX2_goBack_33 ?_
    refine V_aload_n X 0 rfl dX2_goBack_36 ?_
    refine G_X2_2_17 hE X dX2_goBack_37 ?_
    exact V_iret X rfl hf8 dX2_goBack_40
  · have hf2 := ift hf1 q4
    refine V_bipush X (v := -5) (by decide) dX2_goBack_7 ?_
    exact V_iret X rfl hf2 dX2_goBack_9
def f2_goBack (h : Hp) : Re := f2_goBack_e  h
theorem f2_goBack_ok (hE : IW E) {h : Hp} {q : Int32 × Hp} (hf0 : f2_goBack  h = some q) : SMi l E 2 yX2_goBack cX2_goBack 2 (some .int) [.ref (eA E 8), .ref (eA E 1)] h q.1 q.2 :=
  SMi.of (by decide +kernel) (Nat.le_of_ble_eq_true rfl) (fun p e s m args below meth c A X => f2_goBack_e_ok hE X (r := q.1) (h' := q.2) hf0)
def f2_isSlot_e (x0 : Int32) (h : Hp) : Re :=
  if x0 < 0 then (rz 0 h) else (if 2 ≤ x0 then (rz 0 h) else (rz 1 h))
set_option maxRecDepth 20000 in
set_option maxHeartbeats 4000000 in
theorem f2_isSlot_e_ok (X : XC E RX2 cX2_isSlot 1 (some .boolean) A p s m args meth c) {x0 : Int32} {h : Hp} (hf0 : f2_isSlot_e x0 h = some (r, h')) : VM E 1 A p l e 0 s m args below meth c (Qi E A r h') 0 [(0, .int x0)] [] h := by
  unfold f2_isSlot_e at hf0
  have hf1 := hf0
  refine V_iload_n X 0 rfl dX2_isSlot_0 ?_
  refine V_if_lt X (tgt := 13) (by decide) dX2_isSlot_1 (fun q1 => ?_) (fun q1 => ?_)
  · have hf2 := ift hf1 q1
    refine V_iconst X (v := 0) (by decide) dX2_isSlot_13 ?_
    exact V_zret X rfl hf2 dX2_isSlot_14
  · have hf2 := ife hf1 q1
    refine V_iload_n X 0 rfl dX2_isSlot_4 ?_
    refine V_iconst X (v := 2) (by decide) dX2_isSlot_5 ?_
    refine V_icmp_ge X (tgt := 13) (by decide) dX2_isSlot_6 (fun q6 => ?_) (fun q6 => ?_)
    · have hf3 := ift hf2 q6
      refine V_iconst X (v := 0) (by decide) dX2_isSlot_13 ?_
      exact V_zret X rfl hf3 dX2_isSlot_14
    · have hf3 := ife hf2 q6
      refine V_iconst X (v := 1) (by decide) dX2_isSlot_9 ?_
      refine V_goto X (tgt := 14) (by decide) dX2_isSlot_10 ?_
      exact V_zret X rfl hf3 dX2_isSlot_14
def f2_isSlot (x0 : Int32) (h : Hp) : Re := f2_isSlot_e x0 h
theorem f2_isSlot_ok {x0 : Int32} {h : Hp} {q : Int32 × Hp} (hf0 : f2_isSlot x0 h = some q) : SMi l E 0 yX2_isSlot cX2_isSlot 1 (some .boolean) [.int x0] h q.1 q.2 :=
  SMi.of (by decide +kernel) (Nat.le_of_ble_eq_true rfl) (fun p e s m args below meth c A X => f2_isSlot_e_ok X (r := q.1) (h' := q.2) hf0)
def f2_isSaved_e (x1 : Int32) (h : Hp) : Re :=
  if (((h 8 3) >>> (x1 &&& 31)) &&& 1) = 1 then (rz 1 h) else (rz 0 h)
set_option maxRecDepth 20000 in
set_option maxHeartbeats 4000000 in
theorem f2_isSaved_e_ok (hE : IW E) (X : XC E RX2 cX2_isSaved 2 (some .boolean) A p s m args meth c) {x1 : Int32} {h : Hp} (hf0 : f2_isSaved_e x1 h = some (r, h')) : VM E 2 A p l e 0 s m args below meth c (Qi E A r h') 0 [(0, .ref (eA E 8)), (1, .int x1)] [] h := by
  unfold f2_isSaved_e at hf0
  have hf1 := hf0
  refine V_aload_n X 0 rfl dX2_isSaved_0 ?_
  refine G_X2_3_35 hE X dX2_isSaved_1 ?_
  refine V_iload_n X 1 rfl dX2_isSaved_4 ?_
  refine V_ishr X dX2_isSaved_5 ?_
  refine V_iconst X (v := 1) (by decide) dX2_isSaved_6 ?_
  refine V_iand X dX2_isSaved_7 ?_
  refine V_iconst X (v := 1) (by decide) dX2_isSaved_8 ?_
  refine V_icmp_ne X (tgt := 16) (by decide) dX2_isSaved_9 (fun q9 => ?_) (fun q9 => ?_)
  · have hf2 := ife hf1 q9
    refine V_iconst X (v := 0) (by decide) dX2_isSaved_16 ?_
    exact V_zret X rfl hf2 dX2_isSaved_17
  · have hf2 := ift hf1 q9
    refine V_iconst X (v := 1) (by decide) dX2_isSaved_12 ?_
    refine V_goto X (tgt := 17) (by decide) dX2_isSaved_13 ?_
    exact V_zret X rfl hf2 dX2_isSaved_17
def f2_isSaved (x1 : Int32) (h : Hp) : Re := f2_isSaved_e x1 h
theorem f2_isSaved_ok (hE : IW E) {x1 : Int32} {h : Hp} {q : Int32 × Hp} (hf0 : f2_isSaved x1 h = some q) : SMi l E 0 yX2_isSaved cX2_isSaved 2 (some .boolean) [.ref (eA E 8), .int x1] h q.1 q.2 :=
  SMi.of (by decide +kernel) (Nat.le_of_ble_eq_true rfl) (fun p e s m args below meth c A X => f2_isSaved_e_ok hE X (r := q.1) (h' := q.2) hf0)
def f2_slotRow_e (x0 : Int32) (h : Hp) : Re :=
  some ((7 + x0) * 344, h)
set_option maxRecDepth 20000 in
set_option maxHeartbeats 4000000 in
theorem f2_slotRow_e_ok (X : XC E RX2 cX2_slotRow 1 (some .int) A p s m args meth c) {x0 : Int32} {h : Hp} (hf0 : f2_slotRow_e x0 h = some (r, h')) : VM E 1 A p l e 0 s m args below meth c (Qi E A r h') 0 [(0, .int x0)] [] h := by
  unfold f2_slotRow_e at hf0
  have hf1 := hf0
  refine V_bipush X (v := 7) (by decide) dX2_slotRow_0 ?_
  refine V_iload_n X 0 rfl dX2_slotRow_2 ?_
  refine V_iadd X dX2_slotRow_3 ?_
  refine V_sipush X (v := 344) (by decide) dX2_slotRow_4 ?_
  refine V_imul X dX2_slotRow_7 ?_
  exact V_iret X rfl hf1 dX2_slotRow_8
def f2_slotRow (x0 : Int32) (h : Hp) : Re := f2_slotRow_e x0 h
theorem f2_slotRow_ok {x0 : Int32} {h : Hp} {q : Int32 × Hp} (hf0 : f2_slotRow x0 h = some q) : SMi l E 0 yX2_slotRow cX2_slotRow 1 (some .int) [.int x0] h q.1 q.2 :=
  SMi.of (by decide +kernel) (Nat.le_of_ble_eq_true rfl) (fun p e s m args below meth c A X => f2_slotRow_e_ok X (r := q.1) (h' := q.2) hf0)
def f2_keepInSlot_e (x1 : Int32) (h : Hp) : Re :=
  (f2_slotRow x1 h).bind fun c1 => (f5_copyInto 1 c1.1 c1.2).bind fun c3 => (some (hu c3.2 8 3 ((c3.2 8 3) ||| ((1 : Int32) <<< (x1 &&& 31))))).bind fun h5 => some (0, h5)
set_option maxRecDepth 20000 in
set_option maxHeartbeats 4000000 in
theorem f2_keepInSlot_e_ok (hE : IW E) (X : XC E RX2 cX2_keepInSlot 3 none A p s m args meth c) {x1 : Int32} {h : Hp} (hf0 : f2_keepInSlot_e x1 h = some (r, h')) : VM E 3 A p l e 2 s m args below meth c (Qv E A h') 0 [(0, .ref (eA E 8)), (1, .int x1), (2, .ref (eA E 1))] [] h := by
  unfold f2_keepInSlot_e at hf0
  have hf1 := hf0
  refine V_aload_n X 2 rfl dX2_keepInSlot_0 ?_
  refine V_aload_n X 0 rfl dX2_keepInSlot_1 ?_
  refine G_X2_0_13 hE X dX2_keepInSlot_2 ?_
  refine V_iload_n X 1 rfl dX2_keepInSlot_5 ?_
  obtain ⟨c1, e_c1, hf3⟩ := obd hf1
  refine V_callSi X (f2_slotRow_ok e_c1) ys_X2_slotRow yw_X2_slotRow ml_X2_38 rfl rfl ⟨Nat.le_of_ble_eq_true rfl, Nat.le_of_ble_eq_true rfl⟩ ⟨Nat.zero_le _, Nat.zero_le _⟩ (Nat.le_of_ble_eq_true rfl) dX2_keepInSlot_6 ?_
  obtain ⟨c3, e_c3, hf5⟩ := obd hf3
  refine V_callVv X (SR_1 hE).1 rfl rfl (f5_copyInto_ok hE (SR_1 hE) e_c3) ys_X5_copyInto yw_X5_copyInto ml_X2_25 rfl rfl ⟨Nat.le_of_ble_eq_true rfl, Nat.le_of_ble_eq_true rfl⟩ ⟨Nat.zero_le _, Nat.zero_le _⟩ (Nat.le_of_ble_eq_true rfl) dX2_keepInSlot_9 ?_
  refine V_aload_n X 0 rfl dX2_keepInSlot_12 ?_
  refine V_dup X rfl dX2_keepInSlot_13 ?_
  refine G_X2_3_35 hE X dX2_keepInSlot_14 ?_
  refine V_iconst X (v := 1) (by decide) dX2_keepInSlot_17 ?_
  refine V_iload_n X 1 rfl dX2_keepInSlot_18 ?_
  refine V_ishl X dX2_keepInSlot_19 ?_
  refine V_ior X dX2_keepInSlot_20 ?_
  refine P_X2_3_35 hE X dX2_keepInSlot_21 ?_
  have hf7 := obs hf5
  exact V_vret X rfl hf7 dX2_keepInSlot_24
def f2_keepInSlot (x1 : Int32) (h : Hp) : Re := f2_keepInSlot_e x1 h
theorem f2_keepInSlot_ok (hE : IW E) {x1 : Int32} {h : Hp} {q : Int32 × Hp} (hf0 : f2_keepInSlot x1 h = some q) : SMv l E 2 yX2_keepInSlot cX2_keepInSlot 3 [.ref (eA E 8), .int x1, .ref (eA E 1)] h q.2 :=
  SMv.of (by decide +kernel) (Nat.le_of_ble_eq_true rfl) (fun p e s m args below meth c A X => f2_keepInSlot_e_ok hE X (r := q.1) (h' := q.2) hf0)
def f2_bringFromSlot_e (x1 : Int32) (h : Hp) : Re :=
  (f2_slotRow x1 h).bind fun c1 => (f5_copyOutOf 1 c1.1 c1.2).bind fun c3 => some (0, c3.2)
set_option maxRecDepth 20000 in
set_option maxHeartbeats 4000000 in
theorem f2_bringFromSlot_e_ok (hE : IW E) (X : XC E RX2 cX2_bringFromSlot 3 none A p s m args meth c) {x1 : Int32} {h : Hp} (hf0 : f2_bringFromSlot_e x1 h = some (r, h')) : VM E 3 A p l e 2 s m args below meth c (Qv E A h') 0 [(0, .ref (eA E 8)), (1, .int x1), (2, .ref (eA E 1))] [] h := by
  unfold f2_bringFromSlot_e at hf0
  have hf1 := hf0
  refine V_aload_n X 2 rfl dX2_bringFromSlot_0 ?_
  refine V_aload_n X 0 rfl dX2_bringFromSlot_1 ?_
  refine G_X2_0_13 hE X dX2_bringFromSlot_2 ?_
  refine V_iload_n X 1 rfl dX2_bringFromSlot_5 ?_
  obtain ⟨c1, e_c1, hf3⟩ := obd hf1
  refine V_callSi X (f2_slotRow_ok e_c1) ys_X2_slotRow yw_X2_slotRow ml_X2_38 rfl rfl ⟨Nat.le_of_ble_eq_true rfl, Nat.le_of_ble_eq_true rfl⟩ ⟨Nat.zero_le _, Nat.zero_le _⟩ (Nat.le_of_ble_eq_true rfl) dX2_bringFromSlot_6 ?_
  obtain ⟨c3, e_c3, hf5⟩ := obd hf3
  refine V_callVv X (SR_1 hE).1 rfl rfl (f5_copyOutOf_ok hE (SR_1 hE) e_c3) ys_X5_copyOutOf yw_X5_copyOutOf ml_X2_32 rfl rfl ⟨Nat.le_of_ble_eq_true rfl, Nat.le_of_ble_eq_true rfl⟩ ⟨Nat.zero_le _, Nat.zero_le _⟩ (Nat.le_of_ble_eq_true rfl) dX2_bringFromSlot_9 ?_
  exact V_vret X rfl hf5 dX2_bringFromSlot_12
def f2_bringFromSlot (x1 : Int32) (h : Hp) : Re := f2_bringFromSlot_e x1 h
theorem f2_bringFromSlot_ok (hE : IW E) {x1 : Int32} {h : Hp} {q : Int32 × Hp} (hf0 : f2_bringFromSlot x1 h = some q) : SMv l E 2 yX2_bringFromSlot cX2_bringFromSlot 3 [.ref (eA E 8), .int x1, .ref (eA E 1)] h q.2 :=
  SMv.of (by decide +kernel) (Nat.le_of_ble_eq_true rfl) (fun p e s m args below meth c A X => f2_bringFromSlot_e_ok hE X (r := q.1) (h' := q.2) hf0)
def f7_undo_e (h : Hp) : Re :=
  (f2_goBack  h).bind fun c1 => some (c1.1, c1.2)
set_option maxRecDepth 20000 in
set_option maxHeartbeats 4000000 in
theorem f7_undo_e_ok (hE : IW E) (X : XC E RX7 cX7_undo 1 (some .int) A p s m args meth c) {h : Hp} (hf0 : f7_undo_e  h = some (r, h')) : VM E 1 A p l e 3 s m args below meth c (Qi E A r h') 0 [(0, .ref (eA E 0))] [] h := by
  unfold f7_undo_e at hf0
  have hf1 := hf0
  refine V_aload_n X 0 rfl dX7_undo_0 ?_
  refine G_X7_3_29 hE X dX7_undo_1 ?_
  refine V_aload_n X 0 rfl dX7_undo_4 ?_
  refine G_X7_0_10 hE X dX7_undo_5 ?_
  obtain ⟨c1, e_c1, hf3⟩ := obd hf1
  refine V_callVi X (OB_8 hE) rfl rfl (f2_goBack_ok hE e_c1) ys_X2_goBack yw_X2_goBack ml_X7_211 rfl rfl ⟨Nat.le_of_ble_eq_true rfl, Nat.le_of_ble_eq_true rfl⟩ ⟨Nat.zero_le _, Nat.zero_le _⟩ (Nat.le_of_ble_eq_true rfl) dX7_undo_8 ?_
  exact V_iret X rfl hf3 dX7_undo_11
def f7_undo (h : Hp) : Re := f7_undo_e  h
theorem f7_undo_ok (hE : IW E) {h : Hp} {q : Int32 × Hp} (hf0 : f7_undo  h = some q) : SMi l E 3 yX7_undo cX7_undo 1 (some .int) [.ref (eA E 0)] h q.1 q.2 :=
  SMi.of (by decide +kernel) (Nat.le_of_ble_eq_true rfl) (fun p e s m args below meth c A X => f7_undo_e_ok hE X (r := q.1) (h' := q.2) hf0)
def f7_save_e (x1 : Int32) (h : Hp) : Re :=
  (f2_isSlot x1 h).bind fun c1 => if c1.1 = 0 then (some ((-2), c1.2)) else ((f2_keepInSlot x1 c1.2).bind fun c4 => (f5_number 1 19 c4.2).bind fun c6 => some (c6.1, c6.2))
set_option maxRecDepth 20000 in
set_option maxHeartbeats 4000000 in
theorem f7_save_e_ok (hE : IW E) (X : XC E RX7 cX7_save 2 (some .int) A p s m args meth c) {x1 : Int32} {h : Hp} (hf0 : f7_save_e x1 h = some (r, h')) : VM E 2 A p l e 3 s m args below meth c (Qi E A r h') 0 [(0, .ref (eA E 0)), (1, .int x1)] [] h := by
  unfold f7_save_e at hf0
  have hf1 := hf0
  refine V_iload_n X 1 rfl dX7_save_0 ?_
  obtain ⟨c1, e_c1, hf3⟩ := obd hf1
  refine V_callSi X (f2_isSlot_ok e_c1) ys_X2_isSlot yw_X2_isSlot ml_X7_214 rfl rfl ⟨Nat.le_of_ble_eq_true rfl, Nat.le_of_ble_eq_true rfl⟩ ⟨Nat.zero_le _, Nat.zero_le _⟩ (Nat.le_of_ble_eq_true rfl) dX7_save_1 ?_
  refine V_if_ne X (tgt := 10) (by decide) dX7_save_4 (fun q4 => ?_) (fun q4 => ?_)
  · have hf4 := ife hf3 q4
    refine V_aload_n X 0 rfl dX7_save_10 ?_
    refine G_X7_3_29 hE X dX7_save_11 ?_
    refine V_iload_n X 1 rfl dX7_save_14 ?_
    refine V_aload_n X 0 rfl dX7_save_15 ?_
    refine G_X7_0_10 hE X dX7_save_16 ?_
    obtain ⟨c4, e_c4, hf6⟩ := obd hf4
    refine V_callVv X (OB_8 hE) rfl rfl (f2_keepInSlot_ok hE e_c4) ys_X2_keepInSlot yw_X2_keepInSlot ml_X7_217 rfl rfl ⟨Nat.le_of_ble_eq_true rfl, Nat.le_of_ble_eq_true rfl⟩ ⟨Nat.zero_le _, Nat.zero_le _⟩ (Nat.le_of_ble_eq_true rfl) dX7_save_19 ?_
    refine V_aload_n X 0 rfl dX7_save_22 ?_
    refine G_X7_0_10 hE X dX7_save_23 ?_
    refine V_bipush X (v := 19) (by decide) dX7_save_26 ?_
    obtain ⟨c6, e_c6, hf8⟩ := obd hf6
    refine V_callVi X (SR_1 hE).1 rfl rfl (f5_number_ok (SR_1 hE) e_c6) ys_X5_number yw_X5_number ml_X7_151 rfl rfl ⟨Nat.le_of_ble_eq_true rfl, Nat.le_of_ble_eq_true rfl⟩ ⟨Nat.zero_le _, Nat.zero_le _⟩ (Nat.le_of_ble_eq_true rfl) dX7_save_28 ?_
    exact V_iret X rfl hf8 dX7_save_31
  · have hf4 := ift hf3 q4
    refine V_bipush X (v := -2) (by decide) dX7_save_7 ?_
    exact V_iret X rfl hf4 dX7_save_9
def f7_save (x1 : Int32) (h : Hp) : Re := f7_save_e x1 h
theorem f7_save_ok (hE : IW E) {x1 : Int32} {h : Hp} {q : Int32 × Hp} (hf0 : f7_save x1 h = some q) : SMi l E 3 yX7_save cX7_save 2 (some .int) [.ref (eA E 0), .int x1] h q.1 q.2 :=
  SMi.of (by decide +kernel) (Nat.le_of_ble_eq_true rfl) (fun p e s m args below meth c A X => f7_save_e_ok hE X (r := q.1) (h' := q.2) hf0)
def f7_restore_e (x1 : Int32) (h : Hp) : Re :=
  (f2_isSlot x1 h).bind fun c1 => if c1.1 = 0 then (some ((-2), c1.2)) else ((f2_isSaved x1 c1.2).bind fun c4 => if c4.1 = 0 then (some ((-5), c4.2)) else ((f2_stage  c4.2).bind fun c7 => (f2_bringFromSlot x1 c7.2).bind fun c9 => (f5_number 1 19 c9.2).bind fun c11 => (f2_recordUnlessError c11.1 c11.2).bind fun c13 => some (c13.1, c13.2)))
set_option maxRecDepth 20000 in
set_option maxHeartbeats 4000000 in
theorem f7_restore_e_ok (hE : IW E) (X : XC E RX7 cX7_restore 2 (some .int) A p s m args meth c) {x1 : Int32} {h : Hp} (hf0 : f7_restore_e x1 h = some (r, h')) : VM E 2 A p l e 3 s m args below meth c (Qi E A r h') 0 [(0, .ref (eA E 0)), (1, .int x1)] [] h := by
  unfold f7_restore_e at hf0
  have hf1 := hf0
  refine V_iload_n X 1 rfl dX7_restore_0 ?_
  obtain ⟨c1, e_c1, hf3⟩ := obd hf1
  refine V_callSi X (f2_isSlot_ok e_c1) ys_X2_isSlot yw_X2_isSlot ml_X7_214 rfl rfl ⟨Nat.le_of_ble_eq_true rfl, Nat.le_of_ble_eq_true rfl⟩ ⟨Nat.zero_le _, Nat.zero_le _⟩ (Nat.le_of_ble_eq_true rfl) dX7_restore_1 ?_
  refine V_if_ne X (tgt := 10) (by decide) dX7_restore_4 (fun q4 => ?_) (fun q4 => ?_)
  · have hf4 := ife hf3 q4
    refine V_aload_n X 0 rfl dX7_restore_10 ?_
    refine G_X7_3_29 hE X dX7_restore_11 ?_
    refine V_iload_n X 1 rfl dX7_restore_14 ?_
    obtain ⟨c4, e_c4, hf6⟩ := obd hf4
    refine V_callVi X (OB_8 hE) rfl rfl (f2_isSaved_ok hE e_c4) ys_X2_isSaved yw_X2_isSaved ml_X7_221 rfl rfl ⟨Nat.le_of_ble_eq_true rfl, Nat.le_of_ble_eq_true rfl⟩ ⟨Nat.zero_le _, Nat.zero_le _⟩ (Nat.le_of_ble_eq_true rfl) dX7_restore_15 ?_
    refine V_if_ne X (tgt := 24) (by decide) dX7_restore_18 (fun q18 => ?_) (fun q18 => ?_)
    · have hf7 := ife hf6 q18
      refine V_aload_n X 0 rfl dX7_restore_24 ?_
      refine G_X7_3_29 hE X dX7_restore_25 ?_
      refine V_aload_n X 0 rfl dX7_restore_28 ?_
      refine G_X7_0_10 hE X dX7_restore_29 ?_
      obtain ⟨c7, e_c7, hf9⟩ := obd hf7
      refine V_callVv X (OB_8 hE) rfl rfl (f2_stage_ok hE e_c7) ys_X2_stage yw_X2_stage ml_X7_40 rfl rfl ⟨Nat.le_of_ble_eq_true rfl, Nat.le_of_ble_eq_true rfl⟩ ⟨Nat.zero_le _, Nat.zero_le _⟩ (Nat.le_of_ble_eq_true rfl) dX7_restore_32 ?_
      refine V_aload_n X 0 rfl dX7_restore_35 ?_
      refine G_X7_3_29 hE X dX7_restore_36 ?_
      refine V_iload_n X 1 rfl dX7_restore_39 ?_
      refine V_aload_n X 0 rfl dX7_restore_40 ?_
      refine G_X7_0_10 hE X dX7_restore_41 ?_
      obtain ⟨c9, e_c9, hf11⟩ := obd hf9
      refine V_callVv X (OB_8 hE) rfl rfl (f2_bringFromSlot_ok hE e_c9) ys_X2_bringFromSlot yw_X2_bringFromSlot ml_X7_224 rfl rfl ⟨Nat.le_of_ble_eq_true rfl, Nat.le_of_ble_eq_true rfl⟩ ⟨Nat.zero_le _, Nat.zero_le _⟩ (Nat.le_of_ble_eq_true rfl) dX7_restore_44 ?_
      refine V_aload_n X 0 rfl dX7_restore_47 ?_
      refine G_X7_3_29 hE X dX7_restore_48 ?_
      refine V_aload_n X 0 rfl dX7_restore_51 ?_
      refine G_X7_0_10 hE X dX7_restore_52 ?_
      refine V_bipush X (v := 19) (by decide) dX7_restore_55 ?_
      obtain ⟨c11, e_c11, hf13⟩ := obd hf11
      refine V_callVi X (SR_1 hE).1 rfl rfl (f5_number_ok (SR_1 hE) e_c11) ys_X5_number yw_X5_number ml_X7_151 rfl rfl ⟨Nat.le_of_ble_eq_true rfl, Nat.le_of_ble_eq_true rfl⟩ ⟨Nat.zero_le _, Nat.zero_le _⟩ (Nat.le_of_ble_eq_true rfl) dX7_restore_57 ?_
      obtain ⟨c13, e_c13, hf15⟩ := obd hf13
      refine V_callVi X (OB_8 hE) rfl rfl (f2_recordUnlessError_ok hE e_c13) ys_X2_recordUnlessError yw_X2_recordUnlessError ml_X7_50 rfl rfl ⟨Nat.le_of_ble_eq_true rfl, Nat.le_of_ble_eq_true rfl⟩ ⟨Nat.zero_le _, Nat.zero_le _⟩ (Nat.le_of_ble_eq_true rfl) dX7_restore_60 ?_
      exact V_iret X rfl hf15 dX7_restore_63
    · have hf7 := ift hf6 q18
      refine V_bipush X (v := -5) (by decide) dX7_restore_21 ?_
      exact V_iret X rfl hf7 dX7_restore_23
  · have hf4 := ift hf3 q4
    refine V_bipush X (v := -2) (by decide) dX7_restore_7 ?_
    exact V_iret X rfl hf4 dX7_restore_9
def f7_restore (x1 : Int32) (h : Hp) : Re := f7_restore_e x1 h
theorem f7_restore_ok (hE : IW E) {x1 : Int32} {h : Hp} {q : Int32 × Hp} (hf0 : f7_restore x1 h = some q) : SMi l E 3 yX7_restore cX7_restore 2 (some .int) [.ref (eA E 0), .int x1] h q.1 q.2 :=
  SMi.of (by decide +kernel) (Nat.le_of_ble_eq_true rfl) (fun p e s m args below meth c A X => f7_restore_e_ok hE X (r := q.1) (h' := q.2) hf0)
end DM
