section DM
variable {E : EN} {A : Nat → Prop} {p : Program} {l : Launch} {e : Env} {s : State} {m : MethodId} {args : Array Value} {below : List Frame} {meth : Method} {c : Code} {r : Int32} {h' : Hp}
def fL_isRing_j474 (y0 : Int32) (y1 : Int32) (h : Hp) : Re :=
  if y1 = y0 then (rz 1 h) else (rz 0 h)
set_option maxRecDepth 20000 in
set_option maxHeartbeats 4000000 in
theorem fL_isRing_j474_ok (hE : IW E) (X : XC E RL cL_isRing 18 (some .boolean) A p s m args meth c) {y0 : Int32} {y1 : Int32} {h : Hp} (hf0 : fL_isRing_j474 y0 y1 h = some (r, h')) : VM E 18 A p l e 7 s m args below meth c (Qi E A r h') 474 [] [.int y0, .int y1] h := by
  unfold fL_isRing_j474 at hf0
  have hf1 := hf0
  refine V_icmp_ne X (tgt := 481) (by decide) dL_isRing_474 (fun q474 => ?_) (fun q474 => ?_)
  · have hf2 := ife hf1 q474
    refine V_iconst X (v := 0) (by decide) dL_isRing_481 ?_
    exact V_zret X rfl hf2 dL_isRing_482
  · have hf2 := ift hf1 q474
    refine V_iconst X (v := 1) (by decide) dL_isRing_477 ?_
    refine V_goto X (tgt := 482) (by decide) dL_isRing_478 ?_
    exact V_zret X rfl hf2 dL_isRing_482
def fL_isRing_j460 (x1 : Int32) (y0 : Int32) (h : Hp) : Re :=
  (f7_count 0 h).bind fun c1 => if c1.1 ≤ x1 then (fL_isRing_j474 0 y0 c1.2) else (fL_isRing_j474 1 y0 c1.2)
set_option maxRecDepth 20000 in
set_option maxHeartbeats 4000000 in
theorem fL_isRing_j460_ok (hE : IW E) (X : XC E RL cL_isRing 18 (some .boolean) A p s m args meth c) {x1 : Int32} {y0 : Int32} {h : Hp} (hf0 : fL_isRing_j460 x1 y0 h = some (r, h')) : VM E 18 A p l e 7 s m args below meth c (Qi E A r h') 460 [(0, .ref (eA E 0)), (1, .int x1)] [.int y0] h := by
  unfold fL_isRing_j460 at hf0
  have hf1 := hf0
  refine V_iload_n X 1 rfl dL_isRing_460 ?_
  refine V_aload_n X 0 rfl dL_isRing_461 ?_
  refine V_iconst X (v := 0) (by decide) dL_isRing_462 ?_
  obtain ⟨c1, e_c1, hf3⟩ := obd hf1
  refine V_callVi X (OB_0 hE) rfl rfl (f7_count_ok hE e_c1) ys_X7_count yw_X7_count ml_L_19 rfl rfl ⟨Nat.le_of_ble_eq_true rfl, Nat.le_of_ble_eq_true rfl⟩ ⟨Nat.zero_le _, Nat.zero_le _⟩ (Nat.le_of_ble_eq_true rfl) dL_isRing_463 ?_
  refine V_icmp_ge X (tgt := 473) (by decide) dL_isRing_466 (fun q466 => ?_) (fun q466 => ?_)
  · have hf4 := ift hf3 q466
    refine V_iconst X (v := 0) (by decide) dL_isRing_473 ?_
    exact V_sub [] rfl (fL_isRing_j474_ok hE X hf4)
  · have hf4 := ife hf3 q466
    refine V_iconst X (v := 1) (by decide) dL_isRing_469 ?_
    refine V_goto X (tgt := 474) (by decide) dL_isRing_470 ?_
    exact V_sub [] rfl (fL_isRing_j474_ok hE X hf4)
def fL_isRing_j408 (x1 : Int32) (x4 : Int32) (x5 : Int32) (x6 : Int32) (y0 : Int32) (y1 : Int32) (h : Hp) : Re :=
  if y1 = y0 then ((f7_ofRing x1 5 h).bind fun c2 => if c2.1 = x4 then ((f7_ofRing x1 6 c2.2).bind fun c5 => if c5.1 = x5 then ((f7_ofRing x1 3 c5.2).bind fun c8 => if c8.1 = x6 then ((f7_ofRing x1 0 c8.2).bind fun c11 => if c11.1 = 1 then (fL_isRing_j460 x1 1 c11.2) else (fL_isRing_j460 x1 0 c11.2)) else (rz 0 c8.2)) else (rz 0 c5.2)) else (rz 0 c2.2)) else (rz 0 h)
set_option maxRecDepth 20000 in
set_option maxHeartbeats 4000000 in
theorem fL_isRing_j408_ok (hE : IW E) (X : XC E RL cL_isRing 18 (some .boolean) A p s m args meth c) {x1 : Int32} {x4 : Int32} {x5 : Int32} {x6 : Int32} {y0 : Int32} {y1 : Int32} {h : Hp} (hf0 : fL_isRing_j408 x1 x4 x5 x6 y0 y1 h = some (r, h')) : VM E 18 A p l e 7 s m args below meth c (Qi E A r h') 408 [(0, .ref (eA E 0)), (1, .int x1), (4, .int x4), (5, .int x5), (6, .int x6)] [.int y0, .int y1] h := by
  unfold fL_isRing_j408 at hf0
  have hf1 := hf0
  refine V_icmp_ne X (tgt := 481) (by decide) dL_isRing_408 (fun q408 => ?_) (fun q408 => ?_)
  · have hf2 := ife hf1 q408
    refine V_iconst X (v := 0) (by decide) dL_isRing_481 ?_
    exact V_zret X rfl hf2 dL_isRing_482
  · have hf2 := ift hf1 q408
    refine V_aload_n X 0 rfl dL_isRing_411 ?_
    refine V_iload_n X 1 rfl dL_isRing_412 ?_
    refine V_iconst X (v := 5) (by decide) dL_isRing_413 ?_
    obtain ⟨c2, e_c2, hf4⟩ := obd hf2
    refine V_callVi X (OB_0 hE) rfl rfl (f7_ofRing_ok hE e_c2) ys_X7_ofRing yw_X7_ofRing ml_L_9 rfl rfl ⟨Nat.le_of_ble_eq_true rfl, Nat.le_of_ble_eq_true rfl⟩ ⟨Nat.zero_le _, Nat.zero_le _⟩ (Nat.le_of_ble_eq_true rfl) dL_isRing_414 ?_
    refine V_iload X 2 rfl dL_isRing_417 ?_
    refine V_icmp_ne X (tgt := 481) (by decide) dL_isRing_419 (fun q419 => ?_) (fun q419 => ?_)
    · have hf5 := ife hf4 q419
      refine V_iconst X (v := 0) (by decide) dL_isRing_481 ?_
      exact V_zret X rfl hf5 dL_isRing_482
    · have hf5 := ift hf4 q419
      refine V_aload_n X 0 rfl dL_isRing_422 ?_
      refine V_iload_n X 1 rfl dL_isRing_423 ?_
      refine V_bipush X (v := 6) (by decide) dL_isRing_424 ?_
      obtain ⟨c5, e_c5, hf7⟩ := obd hf5
      refine V_callVi X (OB_0 hE) rfl rfl (f7_ofRing_ok hE e_c5) ys_X7_ofRing yw_X7_ofRing ml_L_9 rfl rfl ⟨Nat.le_of_ble_eq_true rfl, Nat.le_of_ble_eq_true rfl⟩ ⟨Nat.zero_le _, Nat.zero_le _⟩ (Nat.le_of_ble_eq_true rfl) dL_isRing_426 ?_
      refine V_iload X 3 rfl dL_isRing_429 ?_
      refine V_icmp_ne X (tgt := 481) (by decide) dL_isRing_431 (fun q431 => ?_) (fun q431 => ?_)
      · have hf8 := ife hf7 q431
        refine V_iconst X (v := 0) (by decide) dL_isRing_481 ?_
        exact V_zret X rfl hf8 dL_isRing_482
      · have hf8 := ift hf7 q431
        refine V_aload_n X 0 rfl dL_isRing_434 ?_
        refine V_iload_n X 1 rfl dL_isRing_435 ?_
        refine V_iconst X (v := 3) (by decide) dL_isRing_436 ?_
        obtain ⟨c8, e_c8, hf10⟩ := obd hf8
        refine V_callVi X (OB_0 hE) rfl rfl (f7_ofRing_ok hE e_c8) ys_X7_ofRing yw_X7_ofRing ml_L_9 rfl rfl ⟨Nat.le_of_ble_eq_true rfl, Nat.le_of_ble_eq_true rfl⟩ ⟨Nat.zero_le _, Nat.zero_le _⟩ (Nat.le_of_ble_eq_true rfl) dL_isRing_437 ?_
        refine V_iload X 4 rfl dL_isRing_440 ?_
        refine V_icmp_ne X (tgt := 481) (by decide) dL_isRing_442 (fun q442 => ?_) (fun q442 => ?_)
        · have hf11 := ife hf10 q442
          refine V_iconst X (v := 0) (by decide) dL_isRing_481 ?_
          exact V_zret X rfl hf11 dL_isRing_482
        · have hf11 := ift hf10 q442
          refine V_aload_n X 0 rfl dL_isRing_445 ?_
          refine V_iload_n X 1 rfl dL_isRing_446 ?_
          refine V_iconst X (v := 0) (by decide) dL_isRing_447 ?_
          obtain ⟨c11, e_c11, hf13⟩ := obd hf11
          refine V_callVi X (OB_0 hE) rfl rfl (f7_ofRing_ok hE e_c11) ys_X7_ofRing yw_X7_ofRing ml_L_9 rfl rfl ⟨Nat.le_of_ble_eq_true rfl, Nat.le_of_ble_eq_true rfl⟩ ⟨Nat.zero_le _, Nat.zero_le _⟩ (Nat.le_of_ble_eq_true rfl) dL_isRing_448 ?_
          refine V_iconst X (v := 1) (by decide) dL_isRing_451 ?_
          refine V_icmp_ne X (tgt := 459) (by decide) dL_isRing_452 (fun q452 => ?_) (fun q452 => ?_)
          · have hf14 := ife hf13 q452
            refine V_iconst X (v := 0) (by decide) dL_isRing_459 ?_
            exact V_sub [0, 1] rfl (fL_isRing_j460_ok hE X hf14)
          · have hf14 := ift hf13 q452
            refine V_iconst X (v := 1) (by decide) dL_isRing_455 ?_
            refine V_goto X (tgt := 460) (by decide) dL_isRing_456 ?_
            exact V_sub [0, 1] rfl (fL_isRing_j460_ok hE X hf14)
def fL_isRing_j378 (x1 : Int32) (x3 : Int32) (x4 : Int32) (x5 : Int32) (x6 : Int32) (x7 : Int32) (h : Hp) : Re :=
  if x7 = 0 then (rz 0 h) else ((f7_ofRing x1 4 h).bind fun c2 => if c2.1 = x3 then ((f7_ofRing x1 2 c2.2).bind fun c5 => if x3 = 0 then (fL_isRing_j408 x1 x4 x5 x6 1 c5.1 c5.2) else (fL_isRing_j408 x1 x4 x5 x6 0 c5.1 c5.2)) else (rz 0 c2.2))
set_option maxRecDepth 20000 in
set_option maxHeartbeats 4000000 in
theorem fL_isRing_j378_ok (hE : IW E) (X : XC E RL cL_isRing 18 (some .boolean) A p s m args meth c) {x1 : Int32} {x3 : Int32} {x4 : Int32} {x5 : Int32} {x6 : Int32} {x7 : Int32} {h : Hp} (hf0 : fL_isRing_j378 x1 x3 x4 x5 x6 x7 h = some (r, h')) : VM E 18 A p l e 7 s m args below meth c (Qi E A r h') 378 [(0, .ref (eA E 0)), (1, .int x1), (3, .int x3), (4, .int x4), (5, .int x5), (6, .int x6), (7, .int x7)] [] h := by
  unfold fL_isRing_j378 at hf0
  have hf1 := hf0
  refine V_iload X 6 rfl dL_isRing_378 ?_
  refine V_if_eq X (tgt := 481) (by decide) dL_isRing_380 (fun q380 => ?_) (fun q380 => ?_)
  · have hf2 := ift hf1 q380
    refine V_iconst X (v := 0) (by decide) dL_isRing_481 ?_
    exact V_zret X rfl hf2 dL_isRing_482
  · have hf2 := ife hf1 q380
    refine V_aload_n X 0 rfl dL_isRing_383 ?_
    refine V_iload_n X 1 rfl dL_isRing_384 ?_
    refine V_iconst X (v := 4) (by decide) dL_isRing_385 ?_
    obtain ⟨c2, e_c2, hf4⟩ := obd hf2
    refine V_callVi X (OB_0 hE) rfl rfl (f7_ofRing_ok hE e_c2) ys_X7_ofRing yw_X7_ofRing ml_L_9 rfl rfl ⟨Nat.le_of_ble_eq_true rfl, Nat.le_of_ble_eq_true rfl⟩ ⟨Nat.zero_le _, Nat.zero_le _⟩ (Nat.le_of_ble_eq_true rfl) dL_isRing_386 ?_
    refine V_iload_n X 2 rfl dL_isRing_389 ?_
    refine V_icmp_ne X (tgt := 481) (by decide) dL_isRing_390 (fun q390 => ?_) (fun q390 => ?_)
    · have hf5 := ife hf4 q390
      refine V_iconst X (v := 0) (by decide) dL_isRing_481 ?_
      exact V_zret X rfl hf5 dL_isRing_482
    · have hf5 := ift hf4 q390
      refine V_aload_n X 0 rfl dL_isRing_393 ?_
      refine V_iload_n X 1 rfl dL_isRing_394 ?_
      refine V_iconst X (v := 2) (by decide) dL_isRing_395 ?_
      obtain ⟨c5, e_c5, hf7⟩ := obd hf5
      refine V_callVi X (OB_0 hE) rfl rfl (f7_ofRing_ok hE e_c5) ys_X7_ofRing yw_X7_ofRing ml_L_9 rfl rfl ⟨Nat.le_of_ble_eq_true rfl, Nat.le_of_ble_eq_true rfl⟩ ⟨Nat.zero_le _, Nat.zero_le _⟩ (Nat.le_of_ble_eq_true rfl) dL_isRing_396 ?_
      refine V_iload_n X 2 rfl dL_isRing_399 ?_
      refine V_if_ne X (tgt := 407) (by decide) dL_isRing_400 (fun q400 => ?_) (fun q400 => ?_)
      · have hf8 := ife hf7 q400
        refine V_iconst X (v := 0) (by decide) dL_isRing_407 ?_
        exact V_sub [0, 1, 3, 4, 5] rfl (fL_isRing_j408_ok hE X hf8)
      · have hf8 := ift hf7 q400
        refine V_iconst X (v := 1) (by decide) dL_isRing_403 ?_
        refine V_goto X (tgt := 408) (by decide) dL_isRing_404 ?_
        exact V_sub [0, 1, 3, 4, 5] rfl (fL_isRing_j408_ok hE X hf8)
def fL_isRing_j362 (k33 : Int32 → Int32 → Int32 → Int32 → Int32 → Int32 → Int32 → Int32 → Hp → Re) (x1 : Int32) (x2 : Int32) (x3 : Int32) (x4 : Int32) (x5 : Int32) (x6 : Int32) (x8 : Int32) (y0 : Int32) (y1 : Int32) (h : Hp) : Re :=
  if y1 = y0 then (k33 x1 x2 x3 x4 x5 x6 1 (x8 + 1) h) else (k33 x1 x2 x3 x4 x5 x6 0 (x8 + 1) h)
set_option maxRecDepth 20000 in
set_option maxHeartbeats 4000000 in
theorem fL_isRing_j362_ok (hE : IW E) (X : XC E RL cL_isRing 18 (some .boolean) A p s m args meth c) {k33 : Int32 → Int32 → Int32 → Int32 → Int32 → Int32 → Int32 → Int32 → Hp → Re} (hk33 : ∀ (x1 : Int32) (x2 : Int32) (x3 : Int32) (x4 : Int32) (x5 : Int32) (x6 : Int32) (x7 : Int32) (x8 : Int32) (h : Hp), k33 x1 x2 x3 x4 x5 x6 x7 x8 h = some (r, h') → VM E 18 A p l e 7 s m args below meth c (Qi E A r h') 33 [(0, .ref (eA E 0)), (1, .int x1), (2, .int x2), (3, .int x3), (4, .int x4), (5, .int x5), (6, .int x6), (7, .int x7), (8, .int x8)] [] h) {x1 : Int32} {x2 : Int32} {x3 : Int32} {x4 : Int32} {x5 : Int32} {x6 : Int32} {x8 : Int32} {y0 : Int32} {y1 : Int32} {h : Hp} (hf0 : fL_isRing_j362 k33 x1 x2 x3 x4 x5 x6 x8 y0 y1 h = some (r, h')) : VM E 18 A p l e 7 s m args below meth c (Qi E A r h') 362 [(0, .ref (eA E 0)), (1, .int x1), (2, .int x2), (3, .int x3), (4, .int x4), (5, .int x5), (6, .int x6), (8, .int x8)] [.int y0, .int y1] h := by
  unfold fL_isRing_j362 at hf0
  have hf1 := hf0
  refine V_icmp_ne X (tgt := 369) (by decide) dL_isRing_362 (fun q362 => ?_) (fun q362 => ?_)
  · have hf2 := ife hf1 q362
    refine V_iconst X (v := 0) (by decide) dL_isRing_369 ?_
    refine V_istore X (by decide) rfl dL_isRing_370 ?_
    refine V_iinc X (v := _ + 1) 8 rfl (by rfl) (by decide) rfl dL_isRing_372 ?_
    refine V_goto X (tgt := 33) (by decide) dL_isRing_375 ?_
    exact V_sub [2, 3, 4, 5, 6, 7, 8, 1, 0] rfl (hk33 _ _ _ _ _ _ _ _ _ hf2)
  · have hf2 := ift hf1 q362
    refine V_iconst X (v := 1) (by decide) dL_isRing_365 ?_
    refine V_goto X (tgt := 370) (by decide) dL_isRing_366 ?_
    refine V_istore X (by decide) rfl dL_isRing_370 ?_
    refine V_iinc X (v := _ + 1) 8 rfl (by rfl) (by decide) rfl dL_isRing_372 ?_
    refine V_goto X (tgt := 33) (by decide) dL_isRing_375 ?_
    exact V_sub [2, 3, 4, 5, 6, 7, 8, 1, 0] rfl (hk33 _ _ _ _ _ _ _ _ _ hf2)
def fL_isRing_j342 (k33 : Int32 → Int32 → Int32 → Int32 → Int32 → Int32 → Int32 → Int32 → Hp → Re) (x1 : Int32) (x2 : Int32) (x3 : Int32) (x4 : Int32) (x5 : Int32) (x6 : Int32) (x8 : Int32) (x9 : Int32) (x10 : Int32) (x15 : Int32) (h : Hp) : Re :=
  (f7_at x9 x1 x10 3 h).bind fun c1 => if x15 = 0 then (fL_isRing_j362 k33 x1 x2 x3 x4 x5 x6 x8 0 c1.1 c1.2) else (fL_isRing_j362 k33 x1 x2 x3 x4 x5 x6 x8 1 c1.1 c1.2)
set_option maxRecDepth 20000 in
set_option maxHeartbeats 4000000 in
theorem fL_isRing_j342_ok (hE : IW E) (X : XC E RL cL_isRing 18 (some .boolean) A p s m args meth c) {k33 : Int32 → Int32 → Int32 → Int32 → Int32 → Int32 → Int32 → Int32 → Hp → Re} (hk33 : ∀ (x1 : Int32) (x2 : Int32) (x3 : Int32) (x4 : Int32) (x5 : Int32) (x6 : Int32) (x7 : Int32) (x8 : Int32) (h : Hp), k33 x1 x2 x3 x4 x5 x6 x7 x8 h = some (r, h') → VM E 18 A p l e 7 s m args below meth c (Qi E A r h') 33 [(0, .ref (eA E 0)), (1, .int x1), (2, .int x2), (3, .int x3), (4, .int x4), (5, .int x5), (6, .int x6), (7, .int x7), (8, .int x8)] [] h) {x1 : Int32} {x2 : Int32} {x3 : Int32} {x4 : Int32} {x5 : Int32} {x6 : Int32} {x8 : Int32} {x9 : Int32} {x10 : Int32} {x15 : Int32} {h : Hp} (hf0 : fL_isRing_j342 k33 x1 x2 x3 x4 x5 x6 x8 x9 x10 x15 h = some (r, h')) : VM E 18 A p l e 7 s m args below meth c (Qi E A r h') 342 [(0, .ref (eA E 0)), (1, .int x1), (2, .int x2), (3, .int x3), (4, .int x4), (5, .int x5), (6, .int x6), (8, .int x8), (9, .int x9), (10, .int x10), (15, .int x15)] [] h := by
  unfold fL_isRing_j342 at hf0
  have hf1 := hf0
  refine V_aload_n X 0 rfl dL_isRing_342 ?_
  refine V_iload X 8 rfl dL_isRing_343 ?_
  refine V_iload_n X 1 rfl dL_isRing_345 ?_
  refine V_iload X 9 rfl dL_isRing_346 ?_
  refine V_iconst X (v := 3) (by decide) dL_isRing_348 ?_
  obtain ⟨c1, e_c1, hf3⟩ := obd hf1
  refine V_callVi X (OB_0 hE) rfl rfl (f7_at_ok hE e_c1) ys_X7_at yw_X7_at ml_L_15 rfl rfl ⟨Nat.le_of_ble_eq_true rfl, Nat.le_of_ble_eq_true rfl⟩ ⟨Nat.zero_le _, Nat.zero_le _⟩ (Nat.le_of_ble_eq_true rfl) dL_isRing_349 ?_
  refine V_iload X 10 rfl dL_isRing_352 ?_
  refine V_if_eq X (tgt := 361) (by decide) dL_isRing_354 (fun q354 => ?_) (fun q354 => ?_)
  · have hf4 := ift hf3 q354
    refine V_iconst X (v := 0) (by decide) dL_isRing_361 ?_
    exact V_sub [0, 1, 2, 3, 4, 5, 6, 7] rfl (fL_isRing_j362_ok hE X hk33 hf4)
  · have hf4 := ife hf3 q354
    refine V_iconst X (v := 1) (by decide) dL_isRing_357 ?_
    refine V_goto X (tgt := 362) (by decide) dL_isRing_358 ?_
    exact V_sub [0, 1, 2, 3, 4, 5, 6, 7] rfl (fL_isRing_j362_ok hE X hk33 hf4)
def fL_isRing_j313 (k33 : Int32 → Int32 → Int32 → Int32 → Int32 → Int32 → Int32 → Int32 → Hp → Re) (x1 : Int32) (x2 : Int32) (x3 : Int32) (x4 : Int32) (x5 : Int32) (x6 : Int32) (x8 : Int32) (x9 : Int32) (x10 : Int32) (x13 : Int32) (x15 : Int32) (y0 : Int32) (y1 : Int32) (h : Hp) : Re :=
  if y1 = y0 then (if x2 = 0 then (if x13 = (-6) then (fL_isRing_j342 k33 x1 x2 x3 x4 x5 x6 x8 x9 x10 x15 h) else (k33 x1 x2 x3 x4 x5 x6 0 (x8 + 1) h)) else (if x13 < 0 then (k33 x1 x2 x3 x4 x5 x6 0 (x8 + 1) h) else (if 6 < x13 then (k33 x1 x2 x3 x4 x5 x6 0 (x8 + 1) h) else (fL_isRing_j342 k33 x1 x2 x3 x4 x5 x6 x8 x9 x10 x15 h)))) else (k33 x1 x2 x3 x4 x5 x6 0 (x8 + 1) h)
set_option maxRecDepth 20000 in
set_option maxHeartbeats 4000000 in
theorem fL_isRing_j313_ok (hE : IW E) (X : XC E RL cL_isRing 18 (some .boolean) A p s m args meth c) {k33 : Int32 → Int32 → Int32 → Int32 → Int32 → Int32 → Int32 → Int32 → Hp → Re} (hk33 : ∀ (x1 : Int32) (x2 : Int32) (x3 : Int32) (x4 : Int32) (x5 : Int32) (x6 : Int32) (x7 : Int32) (x8 : Int32) (h : Hp), k33 x1 x2 x3 x4 x5 x6 x7 x8 h = some (r, h') → VM E 18 A p l e 7 s m args below meth c (Qi E A r h') 33 [(0, .ref (eA E 0)), (1, .int x1), (2, .int x2), (3, .int x3), (4, .int x4), (5, .int x5), (6, .int x6), (7, .int x7), (8, .int x8)] [] h) {x1 : Int32} {x2 : Int32} {x3 : Int32} {x4 : Int32} {x5 : Int32} {x6 : Int32} {x8 : Int32} {x9 : Int32} {x10 : Int32} {x13 : Int32} {x15 : Int32} {y0 : Int32} {y1 : Int32} {h : Hp} (hf0 : fL_isRing_j313 k33 x1 x2 x3 x4 x5 x6 x8 x9 x10 x13 x15 y0 y1 h = some (r, h')) : VM E 18 A p l e 7 s m args below meth c (Qi E A r h') 313 [(0, .ref (eA E 0)), (1, .int x1), (2, .int x2), (3, .int x3), (4, .int x4), (5, .int x5), (6, .int x6), (8, .int x8), (9, .int x9), (10, .int x10), (13, .int x13), (15, .int x15)] [.int y0, .int y1] h := by
  unfold fL_isRing_j313 at hf0
  have hf1 := hf0
  refine V_icmp_ne X (tgt := 369) (by decide) dL_isRing_313 (fun q313 => ?_) (fun q313 => ?_)
  · have hf2 := ife hf1 q313
    refine V_iconst X (v := 0) (by decide) dL_isRing_369 ?_
    refine V_istore X (by decide) rfl dL_isRing_370 ?_
    refine V_iinc X (v := _ + 1) 8 rfl (by rfl) (by decide) rfl dL_isRing_372 ?_
    refine V_goto X (tgt := 33) (by decide) dL_isRing_375 ?_
    exact V_sub [2, 3, 4, 5, 6, 7, 8, 1, 0] rfl (hk33 _ _ _ _ _ _ _ _ _ hf2)
  · have hf2 := ift hf1 q313
    refine V_iload_n X 2 rfl dL_isRing_316 ?_
    refine V_if_eq X (tgt := 335) (by decide) dL_isRing_317 (fun q317 => ?_) (fun q317 => ?_)
    · have hf3 := ift hf2 q317
      refine V_iload X 10 rfl dL_isRing_335 ?_
      refine V_bipush X (v := -6) (by decide) dL_isRing_337 ?_
      refine V_icmp_ne X (tgt := 369) (by decide) dL_isRing_339 (fun q339 => ?_) (fun q339 => ?_)
      · have hf4 := ife hf3 q339
        refine V_iconst X (v := 0) (by decide) dL_isRing_369 ?_
        refine V_istore X (by decide) rfl dL_isRing_370 ?_
        refine V_iinc X (v := _ + 1) 8 rfl (by rfl) (by decide) rfl dL_isRing_372 ?_
        refine V_goto X (tgt := 33) (by decide) dL_isRing_375 ?_
        exact V_sub [2, 3, 4, 5, 6, 7, 8, 1, 0] rfl (hk33 _ _ _ _ _ _ _ _ _ hf4)
      · have hf4 := ift hf3 q339
        exact V_sub [0, 1, 2, 3, 4, 5, 6, 7, 8, 9, 11] rfl (fL_isRing_j342_ok hE X hk33 hf4)
    · have hf3 := ife hf2 q317
      refine V_iload X 10 rfl dL_isRing_320 ?_
      refine V_if_lt X (tgt := 369) (by decide) dL_isRing_322 (fun q322 => ?_) (fun q322 => ?_)
      · have hf5 := ift hf3 q322
        refine V_iconst X (v := 0) (by decide) dL_isRing_369 ?_
        refine V_istore X (by decide) rfl dL_isRing_370 ?_
        refine V_iinc X (v := _ + 1) 8 rfl (by rfl) (by decide) rfl dL_isRing_372 ?_
        refine V_goto X (tgt := 33) (by decide) dL_isRing_375 ?_
        exact V_sub [2, 3, 4, 5, 6, 7, 8, 1, 0] rfl (hk33 _ _ _ _ _ _ _ _ _ hf5)
      · have hf5 := ife hf3 q322
        refine V_iload X 10 rfl dL_isRing_325 ?_
        refine V_bipush X (v := 6) (by decide) dL_isRing_327 ?_
        refine V_icmp_gt X (tgt := 369) (by decide) dL_isRing_329 (fun q329 => ?_) (fun q329 => ?_)
        · have hf6 := ift hf5 q329
          refine V_iconst X (v := 0) (by decide) dL_isRing_369 ?_
          refine V_istore X (by decide) rfl dL_isRing_370 ?_
          refine V_iinc X (v := _ + 1) 8 rfl (by rfl) (by decide) rfl dL_isRing_372 ?_
          refine V_goto X (tgt := 33) (by decide) dL_isRing_375 ?_
          exact V_sub [2, 3, 4, 5, 6, 7, 8, 1, 0] rfl (hk33 _ _ _ _ _ _ _ _ _ hf6)
        · have hf6 := ife hf5 q329
          refine V_goto X (tgt := 342) (by decide) dL_isRing_332 ?_
          exact V_sub [0, 1, 2, 3, 4, 5, 6, 7, 8, 9, 11] rfl (fL_isRing_j342_ok hE X hk33 hf6)
def fL_isRing_j273 (k33 : Int32 → Int32 → Int32 → Int32 → Int32 → Int32 → Int32 → Int32 → Hp → Re) (x1 : Int32) (x2 : Int32) (x3 : Int32) (x4 : Int32) (x5 : Int32) (x6 : Int32) (x8 : Int32) (x9 : Int32) (x10 : Int32) (x11 : Int32) (x12 : Int32) (x13 : Int32) (x14 : Int32) (x15 : Int32) (y0 : Int32) (y1 : Int32) (h : Hp) : Re :=
  if y1 = y0 then (if 99 < x12 then (k33 x1 x2 x3 x4 x5 x6 0 (x8 + 1) h) else (if 6 < x11 then (k33 x1 x2 x3 x4 x5 x6 0 (x8 + 1) h) else ((f7_ofQuarter x9 3 h).bind fun c4 => if c4.1 = 1 then (fL_isRing_j313 k33 x1 x2 x3 x4 x5 x6 x8 x9 x10 x13 x15 ((7 : Int32) - x10) x14 c4.2) else (fL_isRing_j313 k33 x1 x2 x3 x4 x5 x6 x8 x9 x10 x13 x15 x10 x14 c4.2)))) else (k33 x1 x2 x3 x4 x5 x6 0 (x8 + 1) h)
set_option maxRecDepth 20000 in
set_option maxHeartbeats 4000000 in
theorem fL_isRing_j273_ok (hE : IW E) (X : XC E RL cL_isRing 18 (some .boolean) A p s m args meth c) {k33 : Int32 → Int32 → Int32 → Int32 → Int32 → Int32 → Int32 → Int32 → Hp → Re} (hk33 : ∀ (x1 : Int32) (x2 : Int32) (x3 : Int32) (x4 : Int32) (x5 : Int32) (x6 : Int32) (x7 : Int32) (x8 : Int32) (h : Hp), k33 x1 x2 x3 x4 x5 x6 x7 x8 h = some (r, h') → VM E 18 A p l e 7 s m args below meth c (Qi E A r h') 33 [(0, .ref (eA E 0)), (1, .int x1), (2, .int x2), (3, .int x3), (4, .int x4), (5, .int x5), (6, .int x6), (7, .int x7), (8, .int x8)] [] h) {x1 : Int32} {x2 : Int32} {x3 : Int32} {x4 : Int32} {x5 : Int32} {x6 : Int32} {x8 : Int32} {x9 : Int32} {x10 : Int32} {x11 : Int32} {x12 : Int32} {x13 : Int32} {x14 : Int32} {x15 : Int32} {y0 : Int32} {y1 : Int32} {h : Hp} (hf0 : fL_isRing_j273 k33 x1 x2 x3 x4 x5 x6 x8 x9 x10 x11 x12 x13 x14 x15 y0 y1 h = some (r, h')) : VM E 18 A p l e 7 s m args below meth c (Qi E A r h') 273 [(0, .ref (eA E 0)), (1, .int x1), (2, .int x2), (3, .int x3), (4, .int x4), (5, .int x5), (6, .int x6), (8, .int x8), (9, .int x9), (10, .int x10), (11, .int x11), (12, .int x12), (13, .int x13), (14, .int x14), (15, .int x15)] [.int y0, .int y1] h := by
  unfold fL_isRing_j273 at hf0
  have hf1 := hf0
  refine V_icmp_ne X (tgt := 369) (by decide) dL_isRing_273 (fun q273 => ?_) (fun q273 => ?_)
  · have hf2 := ife hf1 q273
    refine V_iconst X (v := 0) (by decide) dL_isRing_369 ?_
    refine V_istore X (by decide) rfl dL_isRing_370 ?_
    refine V_iinc X (v := _ + 1) 8 rfl (by rfl) (by decide) rfl dL_isRing_372 ?_
    refine V_goto X (tgt := 33) (by decide) dL_isRing_375 ?_
    exact V_sub [2, 3, 4, 5, 6, 7, 8, 1, 0] rfl (hk33 _ _ _ _ _ _ _ _ _ hf2)
  · have hf2 := ift hf1 q273
    refine V_iload X 11 rfl dL_isRing_276 ?_
    refine V_bipush X (v := 99) (by decide) dL_isRing_278 ?_
    refine V_icmp_gt X (tgt := 369) (by decide) dL_isRing_280 (fun q280 => ?_) (fun q280 => ?_)
    · have hf3 := ift hf2 q280
      refine V_iconst X (v := 0) (by decide) dL_isRing_369 ?_
      refine V_istore X (by decide) rfl dL_isRing_370 ?_
      refine V_iinc X (v := _ + 1) 8 rfl (by rfl) (by decide) rfl dL_isRing_372 ?_
      refine V_goto X (tgt := 33) (by decide) dL_isRing_375 ?_
      exact V_sub [2, 3, 4, 5, 6, 7, 8, 1, 0] rfl (hk33 _ _ _ _ _ _ _ _ _ hf3)
    · have hf3 := ife hf2 q280
      refine V_iload X 10 rfl dL_isRing_283 ?_
      refine V_bipush X (v := 6) (by decide) dL_isRing_285 ?_
      refine V_icmp_gt X (tgt := 369) (by decide) dL_isRing_287 (fun q287 => ?_) (fun q287 => ?_)
      · have hf4 := ift hf3 q287
        refine V_iconst X (v := 0) (by decide) dL_isRing_369 ?_
        refine V_istore X (by decide) rfl dL_isRing_370 ?_
        refine V_iinc X (v := _ + 1) 8 rfl (by rfl) (by decide) rfl dL_isRing_372 ?_
        refine V_goto X (tgt := 33) (by decide) dL_isRing_375 ?_
        exact V_sub [2, 3, 4, 5, 6, 7, 8, 1, 0] rfl (hk33 _ _ _ _ _ _ _ _ _ hf4)
      · have hf4 := ife hf3 q287
        refine V_iload X 13 rfl dL_isRing_290 ?_
        refine V_aload_n X 0 rfl dL_isRing_292 ?_
        refine V_iload X 8 rfl dL_isRing_293 ?_
        refine V_iconst X (v := 3) (by decide) dL_isRing_295 ?_
        obtain ⟨c4, e_c4, hf6⟩ := obd hf4
        refine V_callVi X (OB_0 hE) rfl rfl (f7_ofQuarter_ok hE e_c4) ys_X7_ofQuarter yw_X7_ofQuarter ml_L_23 rfl rfl ⟨Nat.le_of_ble_eq_true rfl, Nat.le_of_ble_eq_true rfl⟩ ⟨Nat.zero_le _, Nat.zero_le _⟩ (Nat.le_of_ble_eq_true rfl) dL_isRing_296 ?_
        refine V_iconst X (v := 1) (by decide) dL_isRing_299 ?_
        refine V_icmp_ne X (tgt := 311) (by decide) dL_isRing_300 (fun q300 => ?_) (fun q300 => ?_)
        · have hf7 := ife hf6 q300
          refine V_iload X 9 rfl dL_isRing_311 ?_
          exact V_sub [0, 1, 2, 3, 4, 5, 6, 7, 8, 9, 12, 14] rfl (fL_isRing_j313_ok hE X hk33 hf7)
        · have hf7 := ift hf6 q300
          refine V_bipush X (v := 7) (by decide) dL_isRing_303 ?_
          refine V_iload X 9 rfl dL_isRing_305 ?_
          refine V_isub X dL_isRing_307 ?_
          refine V_goto X (tgt := 313) (by decide) dL_isRing_308 ?_
          exact V_sub [0, 1, 2, 3, 4, 5, 6, 7, 8, 9, 12, 14] rfl (fL_isRing_j313_ok hE X hk33 hf7)
def fL_isRing_j263 (k33 : Int32 → Int32 → Int32 → Int32 → Int32 → Int32 → Int32 → Int32 → Hp → Re) (x1 : Int32) (x2 : Int32) (x3 : Int32) (x4 : Int32) (x5 : Int32) (x6 : Int32) (x8 : Int32) (x9 : Int32) (x10 : Int32) (x11 : Int32) (x12 : Int32) (x13 : Int32) (x14 : Int32) (x15 : Int32) (y0 : Int32) (h : Hp) : Re :=
  if x11 = 0 then (fL_isRing_j273 k33 x1 x2 x3 x4 x5 x6 x8 x9 x10 x11 x12 x13 x14 x15 1 y0 h) else (fL_isRing_j273 k33 x1 x2 x3 x4 x5 x6 x8 x9 x10 x11 x12 x13 x14 x15 0 y0 h)
set_option maxRecDepth 20000 in
set_option maxHeartbeats 4000000 in
theorem fL_isRing_j263_ok (hE : IW E) (X : XC E RL cL_isRing 18 (some .boolean) A p s m args meth c) {k33 : Int32 → Int32 → Int32 → Int32 → Int32 → Int32 → Int32 → Int32 → Hp → Re} (hk33 : ∀ (x1 : Int32) (x2 : Int32) (x3 : Int32) (x4 : Int32) (x5 : Int32) (x6 : Int32) (x7 : Int32) (x8 : Int32) (h : Hp), k33 x1 x2 x3 x4 x5 x6 x7 x8 h = some (r, h') → VM E 18 A p l e 7 s m args below meth c (Qi E A r h') 33 [(0, .ref (eA E 0)), (1, .int x1), (2, .int x2), (3, .int x3), (4, .int x4), (5, .int x5), (6, .int x6), (7, .int x7), (8, .int x8)] [] h) {x1 : Int32} {x2 : Int32} {x3 : Int32} {x4 : Int32} {x5 : Int32} {x6 : Int32} {x8 : Int32} {x9 : Int32} {x10 : Int32} {x11 : Int32} {x12 : Int32} {x13 : Int32} {x14 : Int32} {x15 : Int32} {y0 : Int32} {h : Hp} (hf0 : fL_isRing_j263 k33 x1 x2 x3 x4 x5 x6 x8 x9 x10 x11 x12 x13 x14 x15 y0 h = some (r, h')) : VM E 18 A p l e 7 s m args below meth c (Qi E A r h') 263 [(0, .ref (eA E 0)), (1, .int x1), (2, .int x2), (3, .int x3), (4, .int x4), (5, .int x5), (6, .int x6), (8, .int x8), (9, .int x9), (10, .int x10), (11, .int x11), (12, .int x12), (13, .int x13), (14, .int x14), (15, .int x15)] [.int y0] h := by
  unfold fL_isRing_j263 at hf0
  have hf1 := hf0
  refine V_iload X 10 rfl dL_isRing_263 ?_
  refine V_if_ne X (tgt := 272) (by decide) dL_isRing_265 (fun q265 => ?_) (fun q265 => ?_)
  · have hf2 := ife hf1 q265
    refine V_iconst X (v := 0) (by decide) dL_isRing_272 ?_
    exact V_sub [0, 1, 2, 3, 4, 5, 6, 7, 8, 9, 10, 11, 12, 13, 14] rfl (fL_isRing_j273_ok hE X hk33 hf2)
  · have hf2 := ift hf1 q265
    refine V_iconst X (v := 1) (by decide) dL_isRing_268 ?_
    refine V_goto X (tgt := 273) (by decide) dL_isRing_269 ?_
    exact V_sub [0, 1, 2, 3, 4, 5, 6, 7, 8, 9, 10, 11, 12, 13, 14] rfl (fL_isRing_j273_ok hE X hk33 hf2)
def fL_isRing_j250 (k33 : Int32 → Int32 → Int32 → Int32 → Int32 → Int32 → Int32 → Int32 → Hp → Re) (x1 : Int32) (x2 : Int32) (x3 : Int32) (x4 : Int32) (x5 : Int32) (x8 : Int32) (x9 : Int32) (x10 : Int32) (x11 : Int32) (x12 : Int32) (x13 : Int32) (x14 : Int32) (x15 : Int32) (y0 : Int32) (y1 : Int32) (h : Hp) : Re :=
  if x12 = 0 then (fL_isRing_j263 k33 x1 x2 x3 x4 x5 (y1 ||| y0) x8 x9 x10 x11 x12 x13 x14 x15 1 h) else (fL_isRing_j263 k33 x1 x2 x3 x4 x5 (y1 ||| y0) x8 x9 x10 x11 x12 x13 x14 x15 0 h)
set_option maxRecDepth 20000 in
set_option maxHeartbeats 4000000 in
theorem fL_isRing_j250_ok (hE : IW E) (X : XC E RL cL_isRing 18 (some .boolean) A p s m args meth c) {k33 : Int32 → Int32 → Int32 → Int32 → Int32 → Int32 → Int32 → Int32 → Hp → Re} (hk33 : ∀ (x1 : Int32) (x2 : Int32) (x3 : Int32) (x4 : Int32) (x5 : Int32) (x6 : Int32) (x7 : Int32) (x8 : Int32) (h : Hp), k33 x1 x2 x3 x4 x5 x6 x7 x8 h = some (r, h') → VM E 18 A p l e 7 s m args below meth c (Qi E A r h') 33 [(0, .ref (eA E 0)), (1, .int x1), (2, .int x2), (3, .int x3), (4, .int x4), (5, .int x5), (6, .int x6), (7, .int x7), (8, .int x8)] [] h) {x1 : Int32} {x2 : Int32} {x3 : Int32} {x4 : Int32} {x5 : Int32} {x8 : Int32} {x9 : Int32} {x10 : Int32} {x11 : Int32} {x12 : Int32} {x13 : Int32} {x14 : Int32} {x15 : Int32} {y0 : Int32} {y1 : Int32} {h : Hp} (hf0 : fL_isRing_j250 k33 x1 x2 x3 x4 x5 x8 x9 x10 x11 x12 x13 x14 x15 y0 y1 h = some (r, h')) : VM E 18 A p l e 7 s m args below meth c (Qi E A r h') 250 [(0, .ref (eA E 0)), (1, .int x1), (2, .int x2), (3, .int x3), (4, .int x4), (5, .int x5), (8, .int x8), (9, .int x9), (10, .int x10), (11, .int x11), (12, .int x12), (13, .int x13), (14, .int x14), (15, .int x15)] [.int y0, .int y1] h := by
  unfold fL_isRing_j250 at hf0
  have hf1 := hf0
  refine V_ior X dL_isRing_250 ?_
  refine V_istore X (by decide) rfl dL_isRing_251 ?_
  refine V_iload X 11 rfl dL_isRing_253 ?_
  refine V_if_ne X (tgt := 262) (by decide) dL_isRing_255 (fun q255 => ?_) (fun q255 => ?_)
  · have hf2 := ife hf1 q255
    refine V_iconst X (v := 0) (by decide) dL_isRing_262 ?_
    exact V_sub [1, 2, 3, 4, 5, 6, 0, 7, 8, 9, 10, 11, 12, 13, 14] rfl (fL_isRing_j263_ok hE X hk33 hf2)
  · have hf2 := ift hf1 q255
    refine V_iconst X (v := 1) (by decide) dL_isRing_258 ?_
    refine V_goto X (tgt := 263) (by decide) dL_isRing_259 ?_
    exact V_sub [1, 2, 3, 4, 5, 6, 0, 7, 8, 9, 10, 11, 12, 13, 14] rfl (fL_isRing_j263_ok hE X hk33 hf2)
def fL_isRing_j219 (k33 : Int32 → Int32 → Int32 → Int32 → Int32 → Int32 → Int32 → Int32 → Hp → Re) (x1 : Int32) (x2 : Int32) (x3 : Int32) (x4 : Int32) (x6 : Int32) (x8 : Int32) (x9 : Int32) (x10 : Int32) (x11 : Int32) (x12 : Int32) (x13 : Int32) (x14 : Int32) (x15 : Int32) (y0 : Int32) (y1 : Int32) (h : Hp) : Re :=
  (f7_at 0 x1 x14 0 h).bind fun c1 => if x11 = c1.1 then (fL_isRing_j250 k33 x1 x2 x3 x4 (y1 + y0) x8 x9 x10 x11 x12 x13 x14 x15 0 x6 c1.2) else (fL_isRing_j250 k33 x1 x2 x3 x4 (y1 + y0) x8 x9 x10 x11 x12 x13 x14 x15 ((1 : Int32) <<< (x14 &&& 31)) x6 c1.2)
set_option maxRecDepth 20000 in
set_option maxHeartbeats 4000000 in
theorem fL_isRing_j219_ok (hE : IW E) (X : XC E RL cL_isRing 18 (some .boolean) A p s m args meth c) {k33 : Int32 → Int32 → Int32 → Int32 → Int32 → Int32 → Int32 → Int32 → Hp → Re} (hk33 : ∀ (x1 : Int32) (x2 : Int32) (x3 : Int32) (x4 : Int32) (x5 : Int32) (x6 : Int32) (x7 : Int32) (x8 : Int32) (h : Hp), k33 x1 x2 x3 x4 x5 x6 x7 x8 h = some (r, h') → VM E 18 A p l e 7 s m args below meth c (Qi E A r h') 33 [(0, .ref (eA E 0)), (1, .int x1), (2, .int x2), (3, .int x3), (4, .int x4), (5, .int x5), (6, .int x6), (7, .int x7), (8, .int x8)] [] h) {x1 : Int32} {x2 : Int32} {x3 : Int32} {x4 : Int32} {x6 : Int32} {x8 : Int32} {x9 : Int32} {x10 : Int32} {x11 : Int32} {x12 : Int32} {x13 : Int32} {x14 : Int32} {x15 : Int32} {y0 : Int32} {y1 : Int32} {h : Hp} (hf0 : fL_isRing_j219 k33 x1 x2 x3 x4 x6 x8 x9 x10 x11 x12 x13 x14 x15 y0 y1 h = some (r, h')) : VM E 18 A p l e 7 s m args below meth c (Qi E A r h') 219 [(0, .ref (eA E 0)), (1, .int x1), (2, .int x2), (3, .int x3), (4, .int x4), (6, .int x6), (8, .int x8), (9, .int x9), (10, .int x10), (11, .int x11), (12, .int x12), (13, .int x13), (14, .int x14), (15, .int x15)] [.int y0, .int y1] h := by
  unfold fL_isRing_j219 at hf0
  have hf1 := hf0
  refine V_iadd X dL_isRing_219 ?_
  refine V_istore X (by decide) rfl dL_isRing_220 ?_
  refine V_aload_n X 1 rfl dL_isRing_222 ?_
  refine V_iconst X (v := 0) (by decide) dL_isRing_223 ?_
  refine V_iload_n X 2 rfl dL_isRing_224 ?_
  refine V_iload X 13 rfl dL_isRing_225 ?_
  refine V_iconst X (v := 0) (by decide) dL_isRing_227 ?_
  obtain ⟨c1, e_c1, hf3⟩ := obd hf1
  refine V_callVi X (OB_0 hE) rfl rfl (f7_at_ok hE e_c1) ys_X7_at yw_X7_at ml_L_15 rfl rfl ⟨Nat.le_of_ble_eq_true rfl, Nat.le_of_ble_eq_true rfl⟩ ⟨Nat.zero_le _, Nat.zero_le _⟩ (Nat.le_of_ble_eq_true rfl) dL_isRing_228 ?_
  refine V_istore X (by decide) rfl dL_isRing_231 ?_
  refine V_iload X 7 rfl dL_isRing_233 ?_
  refine V_iload X 11 rfl dL_isRing_235 ?_
  refine V_iload X 0 rfl dL_isRing_237 ?_
  refine V_icmp_ne X (tgt := 246) (by decide) dL_isRing_239 (fun q239 => ?_) (fun q239 => ?_)
  · have hf4 := ife hf3 q239
    refine V_iconst X (v := 1) (by decide) dL_isRing_246 ?_
    refine V_iload X 14 rfl dL_isRing_247 ?_
    refine V_ishl X dL_isRing_249 ?_
    exact V_sub [2, 3, 4, 5, 6, 1, 8, 9, 10, 11, 12, 13, 14, 15] rfl (fL_isRing_j250_ok hE X hk33 hf4)
  · have hf4 := ift hf3 q239
    refine V_iconst X (v := 0) (by decide) dL_isRing_242 ?_
    refine V_goto X (tgt := 250) (by decide) dL_isRing_243 ?_
    exact V_sub [2, 3, 4, 5, 6, 1, 8, 9, 10, 11, 12, 13, 14, 15] rfl (fL_isRing_j250_ok hE X hk33 hf4)
def fL_isRing_j218 (k33 : Int32 → Int32 → Int32 → Int32 → Int32 → Int32 → Int32 → Int32 → Hp → Re) (x1 : Int32) (x2 : Int32) (x3 : Int32) (x4 : Int32) (x6 : Int32) (x8 : Int32) (x9 : Int32) (x10 : Int32) (x11 : Int32) (x12 : Int32) (x13 : Int32) (x14 : Int32) (x15 : Int32) (y0 : Int32) (h : Hp) : Re :=
  fL_isRing_j219 k33 x1 x2 x3 x4 x6 x8 x9 x10 x11 x12 x13 x14 x15 0 y0 h
set_option maxRecDepth 20000 in
set_option maxHeartbeats 4000000 in
theorem fL_isRing_j218_ok (hE : IW E) (X : XC E RL cL_isRing 18 (some .boolean) A p s m args meth c) {k33 : Int32 → Int32 → Int32 → Int32 → Int32 → Int32 → Int32 → Int32 → Hp → Re} (hk33 : ∀ (x1 : Int32) (x2 : Int32) (x3 : Int32) (x4 : Int32) (x5 : Int32) (x6 : Int32) (x7 : Int32) (x8 : Int32) (h : Hp), k33 x1 x2 x3 x4 x5 x6 x7 x8 h = some (r, h') → VM E 18 A p l e 7 s m args below meth c (Qi E A r h') 33 [(0, .ref (eA E 0)), (1, .int x1), (2, .int x2), (3, .int x3), (4, .int x4), (5, .int x5), (6, .int x6), (7, .int x7), (8, .int x8)] [] h) {x1 : Int32} {x2 : Int32} {x3 : Int32} {x4 : Int32} {x6 : Int32} {x8 : Int32} {x9 : Int32} {x10 : Int32} {x11 : Int32} {x12 : Int32} {x13 : Int32} {x14 : Int32} {x15 : Int32} {y0 : Int32} {h : Hp} (hf0 : fL_isRing_j218 k33 x1 x2 x3 x4 x6 x8 x9 x10 x11 x12 x13 x14 x15 y0 h = some (r, h')) : VM E 18 A p l e 7 s m args below meth c (Qi E A r h') 218 [(0, .ref (eA E 0)), (1, .int x1), (2, .int x2), (3, .int x3), (4, .int x4), (6, .int x6), (8, .int x8), (9, .int x9), (10, .int x10), (11, .int x11), (12, .int x12), (13, .int x13), (14, .int x14), (15, .int x15)] [.int y0] h := by
  unfold fL_isRing_j218 at hf0
  have hf1 := hf0
  refine V_iconst X (v := 0) (by decide) dL_isRing_218 ?_
  exact V_sub [0, 1, 2, 3, 4, 5, 6, 7, 8, 9, 10, 11, 12, 13] rfl (fL_isRing_j219_ok hE X hk33 hf1)
def fL_isRing_j175 (k33 : Int32 → Int32 → Int32 → Int32 → Int32 → Int32 → Int32 → Int32 → Hp → Re) (x1 : Int32) (x2 : Int32) (x4 : Int32) (x5 : Int32) (x6 : Int32) (x8 : Int32) (x9 : Int32) (x10 : Int32) (x11 : Int32) (x12 : Int32) (x13 : Int32) (x14 : Int32) (x15 : Int32) (x16 : Int32) (y0 : Int32) (y1 : Int32) (h : Hp) : Re :=
  if x2 = 0 then (fL_isRing_j218 k33 x1 x2 (y1 + y0) (x4 + x12) x6 x8 x9 x10 x11 x12 x13 x14 x15 x5 h) else (if x13 ≤ 0 then (fL_isRing_j218 k33 x1 x2 (y1 + y0) (x4 + x12) x6 x8 x9 x10 x11 x12 x13 x14 x15 x5 h) else ((f7_count 7 h).bind fun c3 => if c3.1 ≤ x16 then (fL_isRing_j218 k33 x1 x2 (y1 + y0) (x4 + x12) x6 x8 x9 x10 x11 x12 x13 x14 x15 x5 c3.2) else ((f7_count 7 c3.2).bind fun c6 => fL_isRing_j219 k33 x1 x2 (y1 + y0) (x4 + x12) x6 x8 x9 x10 x11 x12 x13 x14 x15 (c6.1 - x16) x5 c6.2)))
set_option maxRecDepth 20000 in
set_option maxHeartbeats 4000000 in
theorem fL_isRing_j175_ok (hE : IW E) (X : XC E RL cL_isRing 18 (some .boolean) A p s m args meth c) {k33 : Int32 → Int32 → Int32 → Int32 → Int32 → Int32 → Int32 → Int32 → Hp → Re} (hk33 : ∀ (x1 : Int32) (x2 : Int32) (x3 : Int32) (x4 : Int32) (x5 : Int32) (x6 : Int32) (x7 : Int32) (x8 : Int32) (h : Hp), k33 x1 x2 x3 x4 x5 x6 x7 x8 h = some (r, h') → VM E 18 A p l e 7 s m args below meth c (Qi E A r h') 33 [(0, .ref (eA E 0)), (1, .int x1), (2, .int x2), (3, .int x3), (4, .int x4), (5, .int x5), (6, .int x6), (7, .int x7), (8, .int x8)] [] h) {x1 : Int32} {x2 : Int32} {x4 : Int32} {x5 : Int32} {x6 : Int32} {x8 : Int32} {x9 : Int32} {x10 : Int32} {x11 : Int32} {x12 : Int32} {x13 : Int32} {x14 : Int32} {x15 : Int32} {x16 : Int32} {y0 : Int32} {y1 : Int32} {h : Hp} (hf0 : fL_isRing_j175 k33 x1 x2 x4 x5 x6 x8 x9 x10 x11 x12 x13 x14 x15 x16 y0 y1 h = some (r, h')) : VM E 18 A p l e 7 s m args below meth c (Qi E A r h') 175 [(0, .ref (eA E 0)), (1, .int x1), (2, .int x2), (4, .int x4), (5, .int x5), (6, .int x6), (8, .int x8), (9, .int x9), (10, .int x10), (11, .int x11), (12, .int x12), (13, .int x13), (14, .int x14), (15, .int x15), (16, .int x16)] [.int y0, .int y1] h := by
  unfold fL_isRing_j175 at hf0
  have hf1 := hf0
  refine V_iadd X dL_isRing_175 ?_
  refine V_istore_n X (by decide) rfl dL_isRing_176 ?_
  refine V_iload X 4 rfl dL_isRing_177 ?_
  refine V_iload X 11 rfl dL_isRing_179 ?_
  refine V_iadd X dL_isRing_181 ?_
  refine V_istore X (by decide) rfl dL_isRing_182 ?_
  refine V_iload X 5 rfl dL_isRing_184 ?_
  refine V_iload_n X 4 rfl dL_isRing_186 ?_
  refine V_if_eq X (tgt := 218) (by decide) dL_isRing_187 (fun q187 => ?_) (fun q187 => ?_)
  · have hf2 := ift hf1 q187
    exact V_sub [2, 3, 4, 1, 0, 6, 7, 8, 9, 10, 11, 12, 13, 14] rfl (fL_isRing_j218_ok hE X hk33 hf2)
  · have hf2 := ife hf1 q187
    refine V_iload X 12 rfl dL_isRing_190 ?_
    refine V_if_le X (tgt := 218) (by decide) dL_isRing_192 (fun q192 => ?_) (fun q192 => ?_)
    · have hf3 := ift hf2 q192
      exact V_sub [2, 3, 4, 1, 0, 6, 7, 8, 9, 10, 11, 12, 13, 14] rfl (fL_isRing_j218_ok hE X hk33 hf3)
    · have hf3 := ife hf2 q192
      refine V_iload X 15 rfl dL_isRing_195 ?_
      refine V_aload_n X 2 rfl dL_isRing_197 ?_
      refine V_bipush X (v := 7) (by decide) dL_isRing_198 ?_
      obtain ⟨c3, e_c3, hf5⟩ := obd hf3
      refine V_callVi X (OB_0 hE) rfl rfl (f7_count_ok hE e_c3) ys_X7_count yw_X7_count ml_L_19 rfl rfl ⟨Nat.le_of_ble_eq_true rfl, Nat.le_of_ble_eq_true rfl⟩ ⟨Nat.zero_le _, Nat.zero_le _⟩ (Nat.le_of_ble_eq_true rfl) dL_isRing_200 ?_
      refine V_icmp_ge X (tgt := 218) (by decide) dL_isRing_203 (fun q203 => ?_) (fun q203 => ?_)
      · have hf6 := ift hf5 q203
        exact V_sub [2, 3, 4, 1, 0, 6, 7, 8, 9, 10, 11, 12, 13, 14] rfl (fL_isRing_j218_ok hE X hk33 hf6)
      · have hf6 := ife hf5 q203
        refine V_aload_n X 2 rfl dL_isRing_206 ?_
        refine V_bipush X (v := 7) (by decide) dL_isRing_207 ?_
        obtain ⟨c6, e_c6, hf8⟩ := obd hf6
        refine V_callVi X (OB_0 hE) rfl rfl (f7_count_ok hE e_c6) ys_X7_count yw_X7_count ml_L_19 rfl rfl ⟨Nat.le_of_ble_eq_true rfl, Nat.le_of_ble_eq_true rfl⟩ ⟨Nat.zero_le _, Nat.zero_le _⟩ (Nat.le_of_ble_eq_true rfl) dL_isRing_209 ?_
        refine V_iload X 15 rfl dL_isRing_212 ?_
        refine V_isub X dL_isRing_214 ?_
        refine V_goto X (tgt := 219) (by decide) dL_isRing_215 ?_
        exact V_sub [2, 3, 4, 1, 0, 6, 7, 8, 9, 10, 11, 12, 13, 14] rfl (fL_isRing_j219_ok hE X hk33 hf8)
def fL_isRing_j162 (k33 : Int32 → Int32 → Int32 → Int32 → Int32 → Int32 → Int32 → Int32 → Hp → Re) (x1 : Int32) (x2 : Int32) (x3 : Int32) (x4 : Int32) (x5 : Int32) (x6 : Int32) (x8 : Int32) (x9 : Int32) (x10 : Int32) (x11 : Int32) (x12 : Int32) (x13 : Int32) (x14 : Int32) (x15 : Int32) (y0 : Int32) (h : Hp) : Re :=
  if x15 = 0 then (fL_isRing_j175 k33 x1 x2 x4 x5 x6 x8 x9 x10 x11 x12 x13 x14 x15 y0 1 x3 h) else (fL_isRing_j175 k33 x1 x2 x4 x5 x6 x8 x9 x10 x11 x12 x13 x14 x15 y0 0 x3 h)
set_option maxRecDepth 20000 in
set_option maxHeartbeats 4000000 in
theorem fL_isRing_j162_ok (hE : IW E) (X : XC E RL cL_isRing 18 (some .boolean) A p s m args meth c) {k33 : Int32 → Int32 → Int32 → Int32 → Int32 → Int32 → Int32 → Int32 → Hp → Re} (hk33 : ∀ (x1 : Int32) (x2 : Int32) (x3 : Int32) (x4 : Int32) (x5 : Int32) (x6 : Int32) (x7 : Int32) (x8 : Int32) (h : Hp), k33 x1 x2 x3 x4 x5 x6 x7 x8 h = some (r, h') → VM E 18 A p l e 7 s m args below meth c (Qi E A r h') 33 [(0, .ref (eA E 0)), (1, .int x1), (2, .int x2), (3, .int x3), (4, .int x4), (5, .int x5), (6, .int x6), (7, .int x7), (8, .int x8)] [] h) {x1 : Int32} {x2 : Int32} {x3 : Int32} {x4 : Int32} {x5 : Int32} {x6 : Int32} {x8 : Int32} {x9 : Int32} {x10 : Int32} {x11 : Int32} {x12 : Int32} {x13 : Int32} {x14 : Int32} {x15 : Int32} {y0 : Int32} {h : Hp} (hf0 : fL_isRing_j162 k33 x1 x2 x3 x4 x5 x6 x8 x9 x10 x11 x12 x13 x14 x15 y0 h = some (r, h')) : VM E 18 A p l e 7 s m args below meth c (Qi E A r h') 162 [(0, .ref (eA E 0)), (1, .int x1), (2, .int x2), (3, .int x3), (4, .int x4), (5, .int x5), (6, .int x6), (8, .int x8), (9, .int x9), (10, .int x10), (11, .int x11), (12, .int x12), (13, .int x13), (14, .int x14), (15, .int x15)] [.int y0] h := by
  unfold fL_isRing_j162 at hf0
  have hf1 := hf0
  refine V_istore X (by decide) rfl dL_isRing_162 ?_
  refine V_iload_n X 4 rfl dL_isRing_164 ?_
  refine V_iload X 15 rfl dL_isRing_165 ?_
  refine V_if_eq X (tgt := 174) (by decide) dL_isRing_167 (fun q167 => ?_) (fun q167 => ?_)
  · have hf2 := ift hf1 q167
    refine V_iconst X (v := 1) (by decide) dL_isRing_174 ?_
    exact V_sub [1, 2, 3, 5, 6, 7, 8, 9, 10, 11, 12, 13, 14, 15, 0] rfl (fL_isRing_j175_ok hE X hk33 hf2)
  · have hf2 := ife hf1 q167
    refine V_iconst X (v := 0) (by decide) dL_isRing_170 ?_
    refine V_goto X (tgt := 175) (by decide) dL_isRing_171 ?_
    exact V_sub [1, 2, 3, 5, 6, 7, 8, 9, 10, 11, 12, 13, 14, 15, 0] rfl (fL_isRing_j175_ok hE X hk33 hf2)
def fL_isRing_j147 (k33 : Int32 → Int32 → Int32 → Int32 → Int32 → Int32 → Int32 → Int32 → Hp → Re) (x1 : Int32) (x2 : Int32) (x3 : Int32) (x4 : Int32) (x5 : Int32) (x6 : Int32) (x8 : Int32) (x9 : Int32) (x10 : Int32) (x11 : Int32) (x12 : Int32) (x13 : Int32) (x14 : Int32) (y0 : Int32) (h : Hp) : Re :=
  if x11 = x13 then (fL_isRing_j162 k33 x1 x2 x3 x4 x5 x6 x8 x9 x10 x11 x12 x13 x14 y0 x12 h) else (fL_isRing_j162 k33 x1 x2 x3 x4 x5 x6 x8 x9 x10 x11 x12 x13 x14 y0 0 h)
set_option maxRecDepth 20000 in
set_option maxHeartbeats 4000000 in
theorem fL_isRing_j147_ok (hE : IW E) (X : XC E RL cL_isRing 18 (some .boolean) A p s m args meth c) {k33 : Int32 → Int32 → Int32 → Int32 → Int32 → Int32 → Int32 → Int32 → Hp → Re} (hk33 : ∀ (x1 : Int32) (x2 : Int32) (x3 : Int32) (x4 : Int32) (x5 : Int32) (x6 : Int32) (x7 : Int32) (x8 : Int32) (h : Hp), k33 x1 x2 x3 x4 x5 x6 x7 x8 h = some (r, h') → VM E 18 A p l e 7 s m args below meth c (Qi E A r h') 33 [(0, .ref (eA E 0)), (1, .int x1), (2, .int x2), (3, .int x3), (4, .int x4), (5, .int x5), (6, .int x6), (7, .int x7), (8, .int x8)] [] h) {x1 : Int32} {x2 : Int32} {x3 : Int32} {x4 : Int32} {x5 : Int32} {x6 : Int32} {x8 : Int32} {x9 : Int32} {x10 : Int32} {x11 : Int32} {x12 : Int32} {x13 : Int32} {x14 : Int32} {y0 : Int32} {h : Hp} (hf0 : fL_isRing_j147 k33 x1 x2 x3 x4 x5 x6 x8 x9 x10 x11 x12 x13 x14 y0 h = some (r, h')) : VM E 18 A p l e 7 s m args below meth c (Qi E A r h') 147 [(0, .ref (eA E 0)), (1, .int x1), (2, .int x2), (3, .int x3), (4, .int x4), (5, .int x5), (6, .int x6), (8, .int x8), (9, .int x9), (10, .int x10), (11, .int x11), (12, .int x12), (13, .int x13), (14, .int x14)] [.int y0] h := by
  unfold fL_isRing_j147 at hf0
  have hf1 := hf0
  refine V_istore X (by decide) rfl dL_isRing_147 ?_
  refine V_iload X 11 rfl dL_isRing_149 ?_
  refine V_iload X 13 rfl dL_isRing_151 ?_
  refine V_icmp_ne X (tgt := 161) (by decide) dL_isRing_153 (fun q153 => ?_) (fun q153 => ?_)
  · have hf2 := ife hf1 q153
    refine V_iconst X (v := 0) (by decide) dL_isRing_161 ?_
    exact V_sub [1, 2, 3, 4, 5, 6, 7, 8, 9, 10, 11, 12, 13, 14, 0] rfl (fL_isRing_j162_ok hE X hk33 hf2)
  · have hf2 := ift hf1 q153
    refine V_iload X 12 rfl dL_isRing_156 ?_
    refine V_goto X (tgt := 162) (by decide) dL_isRing_158 ?_
    exact V_sub [1, 2, 3, 4, 5, 6, 7, 8, 9, 10, 11, 12, 13, 14, 0] rfl (fL_isRing_j162_ok hE X hk33 hf2)
def fL_isRing_j146 (k33 : Int32 → Int32 → Int32 → Int32 → Int32 → Int32 → Int32 → Int32 → Hp → Re) (x1 : Int32) (x2 : Int32) (x3 : Int32) (x4 : Int32) (x5 : Int32) (x6 : Int32) (x8 : Int32) (x9 : Int32) (x10 : Int32) (x11 : Int32) (x12 : Int32) (x13 : Int32) (x14 : Int32) (h : Hp) : Re :=
  fL_isRing_j147 k33 x1 x2 x3 x4 x5 x6 x8 x9 x10 x11 x12 x13 x14 0 h
set_option maxRecDepth 20000 in
set_option maxHeartbeats 4000000 in
theorem fL_isRing_j146_ok (hE : IW E) (X : XC E RL cL_isRing 18 (some .boolean) A p s m args meth c) {k33 : Int32 → Int32 → Int32 → Int32 → Int32 → Int32 → Int32 → Int32 → Hp → Re} (hk33 : ∀ (x1 : Int32) (x2 : Int32) (x3 : Int32) (x4 : Int32) (x5 : Int32) (x6 : Int32) (x7 : Int32) (x8 : Int32) (h : Hp), k33 x1 x2 x3 x4 x5 x6 x7 x8 h = some (r, h') → VM E 18 A p l e 7 s m args below meth c (Qi E A r h') 33 [(0, .ref (eA E 0)), (1, .int x1), (2, .int x2), (3, .int x3), (4, .int x4), (5, .int x5), (6, .int x6), (7, .int x7), (8, .int x8)] [] h) {x1 : Int32} {x2 : Int32} {x3 : Int32} {x4 : Int32} {x5 : Int32} {x6 : Int32} {x8 : Int32} {x9 : Int32} {x10 : Int32} {x11 : Int32} {x12 : Int32} {x13 : Int32} {x14 : Int32} {h : Hp} (hf0 : fL_isRing_j146 k33 x1 x2 x3 x4 x5 x6 x8 x9 x10 x11 x12 x13 x14 h = some (r, h')) : VM E 18 A p l e 7 s m args below meth c (Qi E A r h') 146 [(0, .ref (eA E 0)), (1, .int x1), (2, .int x2), (3, .int x3), (4, .int x4), (5, .int x5), (6, .int x6), (8, .int x8), (9, .int x9), (10, .int x10), (11, .int x11), (12, .int x12), (13, .int x13), (14, .int x14)] [] h := by
  unfold fL_isRing_j146 at hf0
  have hf1 := hf0
  refine V_iconst X (v := 0) (by decide) dL_isRing_146 ?_
  exact V_sub [0, 1, 2, 3, 4, 5, 6, 7, 8, 9, 10, 11, 12, 13] rfl (fL_isRing_j147_ok hE X hk33 hf1)
def fL_isRing_j142 (k33 : Int32 → Int32 → Int32 → Int32 → Int32 → Int32 → Int32 → Int32 → Hp → Re) (x1 : Int32) (x2 : Int32) (x3 : Int32) (x4 : Int32) (x5 : Int32) (x6 : Int32) (x8 : Int32) (x9 : Int32) (x10 : Int32) (x11 : Int32) (x12 : Int32) (x13 : Int32) (x14 : Int32) (h : Hp) : Re :=
  fL_isRing_j147 k33 x1 x2 x3 x4 x5 x6 x8 x9 x10 x11 x12 x13 x14 1 h
set_option maxRecDepth 20000 in
set_option maxHeartbeats 4000000 in
theorem fL_isRing_j142_ok (hE : IW E) (X : XC E RL cL_isRing 18 (some .boolean) A p s m args meth c) {k33 : Int32 → Int32 → Int32 → Int32 → Int32 → Int32 → Int32 → Int32 → Hp → Re} (hk33 : ∀ (x1 : Int32) (x2 : Int32) (x3 : Int32) (x4 : Int32) (x5 : Int32) (x6 : Int32) (x7 : Int32) (x8 : Int32) (h : Hp), k33 x1 x2 x3 x4 x5 x6 x7 x8 h = some (r, h') → VM E 18 A p l e 7 s m args below meth c (Qi E A r h') 33 [(0, .ref (eA E 0)), (1, .int x1), (2, .int x2), (3, .int x3), (4, .int x4), (5, .int x5), (6, .int x6), (7, .int x7), (8, .int x8)] [] h) {x1 : Int32} {x2 : Int32} {x3 : Int32} {x4 : Int32} {x5 : Int32} {x6 : Int32} {x8 : Int32} {x9 : Int32} {x10 : Int32} {x11 : Int32} {x12 : Int32} {x13 : Int32} {x14 : Int32} {h : Hp} (hf0 : fL_isRing_j142 k33 x1 x2 x3 x4 x5 x6 x8 x9 x10 x11 x12 x13 x14 h = some (r, h')) : VM E 18 A p l e 7 s m args below meth c (Qi E A r h') 142 [(0, .ref (eA E 0)), (1, .int x1), (2, .int x2), (3, .int x3), (4, .int x4), (5, .int x5), (6, .int x6), (8, .int x8), (9, .int x9), (10, .int x10), (11, .int x11), (12, .int x12), (13, .int x13), (14, .int x14)] [] h := by
  unfold fL_isRing_j142 at hf0
  have hf1 := hf0
  refine V_iconst X (v := 1) (by decide) dL_isRing_142 ?_
  refine V_goto X (tgt := 147) (by decide) dL_isRing_143 ?_
  exact V_sub [0, 1, 2, 3, 4, 5, 6, 7, 8, 9, 10, 11, 12, 13] rfl (fL_isRing_j147_ok hE X hk33 hf1)
def fL_isRing_B33 (k33 : Int32 → Int32 → Int32 → Int32 → Int32 → Int32 → Int32 → Int32 → Hp → Re) (x1 : Int32) (x2 : Int32) (x3 : Int32) (x4 : Int32) (x5 : Int32) (x6 : Int32) (x7 : Int32) (x8 : Int32) (h : Hp) : Re :=
  if 32 ≤ x8 then (fL_isRing_j378 x1 x3 x4 x5 x6 x7 h) else (if x7 = 0 then (fL_isRing_j378 x1 x3 x4 x5 x6 x7 h) else ((f7_at (x8 / 8) x1 (x8 - x8 / 8 * 8) 0 h).bind fun c3 => (f7_at (x8 / 8) x1 (x8 - x8 / 8 * 8) 1 c3.2).bind fun c5 => (f7_at (x8 / 8) x1 (x8 - x8 / 8 * 8) 2 c5.2).bind fun c7 => (f7_at (x8 / 8) x1 (x8 - x8 / 8 * 8) 4 c7.2).bind fun c9 => if x2 = 0 then (fL_isRing_j146 k33 x1 x2 x3 x4 x5 x6 x8 (x8 / 8) (x8 - x8 / 8 * 8) c3.1 c5.1 c7.1 c9.1 c9.2) else (if c7.1 = 0 then (if c5.1 = 0 then (fL_isRing_j142 k33 x1 x2 x3 x4 x5 x6 x8 (x8 / 8) (x8 - x8 / 8 * 8) c3.1 c5.1 c7.1 c9.1 c9.2) else (fL_isRing_j146 k33 x1 x2 x3 x4 x5 x6 x8 (x8 / 8) (x8 - x8 / 8 * 8) c3.1 c5.1 c7.1 c9.1 c9.2)) else (if c3.1 = c7.1 then ((f7_count 7 c9.2).bind fun c14 => if c5.1 < c14.1 then (fL_isRing_j146 k33 x1 x2 x3 x4 x5 x6 x8 (x8 / 8) (x8 - x8 / 8 * 8) c3.1 c5.1 c7.1 c9.1 c14.2) else (fL_isRing_j142 k33 x1 x2 x3 x4 x5 x6 x8 (x8 / 8) (x8 - x8 / 8 * 8) c3.1 c5.1 c7.1 c9.1 c14.2)) else (fL_isRing_j146 k33 x1 x2 x3 x4 x5 x6 x8 (x8 / 8) (x8 - x8 / 8 * 8) c3.1 c5.1 c7.1 c9.1 c9.2)))))
set_option maxRecDepth 20000 in
set_option maxHeartbeats 4000000 in
theorem fL_isRing_B33_ok (hE : IW E) (X : XC E RL cL_isRing 18 (some .boolean) A p s m args meth c) {k33 : Int32 → Int32 → Int32 → Int32 → Int32 → Int32 → Int32 → Int32 → Hp → Re} (hk33 : ∀ (x1 : Int32) (x2 : Int32) (x3 : Int32) (x4 : Int32) (x5 : Int32) (x6 : Int32) (x7 : Int32) (x8 : Int32) (h : Hp), k33 x1 x2 x3 x4 x5 x6 x7 x8 h = some (r, h') → VM E 18 A p l e 7 s m args below meth c (Qi E A r h') 33 [(0, .ref (eA E 0)), (1, .int x1), (2, .int x2), (3, .int x3), (4, .int x4), (5, .int x5), (6, .int x6), (7, .int x7), (8, .int x8)] [] h) {x1 : Int32} {x2 : Int32} {x3 : Int32} {x4 : Int32} {x5 : Int32} {x6 : Int32} {x7 : Int32} {x8 : Int32} {h : Hp} (hf0 : fL_isRing_B33 k33 x1 x2 x3 x4 x5 x6 x7 x8 h = some (r, h')) : VM E 18 A p l e 7 s m args below meth c (Qi E A r h') 33 [(0, .ref (eA E 0)), (1, .int x1), (2, .int x2), (3, .int x3), (4, .int x4), (5, .int x5), (6, .int x6), (7, .int x7), (8, .int x8)] [] h := by
  unfold fL_isRing_B33 at hf0
  have hf1 := hf0
  refine V_iload X 8 rfl dL_isRing_33 ?_
  refine V_bipush X (v := 32) (by decide) dL_isRing_35 ?_
  refine V_icmp_ge X (tgt := 378) (by decide) dL_isRing_37 (fun q37 => ?_) (fun q37 => ?_)
  · have hf2 := ift hf1 q37
    exact V_sub [0, 1, 3, 4, 5, 6, 7] rfl (fL_isRing_j378_ok hE X hf2)
  · have hf2 := ife hf1 q37
    refine V_iload X 7 rfl dL_isRing_40 ?_
    refine V_if_eq X (tgt := 378) (by decide) dL_isRing_42 (fun q42 => ?_) (fun q42 => ?_)
    · have hf3 := ift hf2 q42
      exact V_sub [0, 1, 3, 4, 5, 6, 7] rfl (fL_isRing_j378_ok hE X hf3)
    · have hf3 := ife hf2 q42
      refine V_iload X 8 rfl dL_isRing_45 ?_
      refine V_bipush X (v := 8) (by decide) dL_isRing_47 ?_
      refine V_idiv X (by decide) dL_isRing_49 ?_
      refine V_istore X (by decide) rfl dL_isRing_50 ?_
      refine V_iload X 9 rfl dL_isRing_52 ?_
      refine V_bipush X (v := 8) (by decide) dL_isRing_54 ?_
      refine V_irem X (by decide) dL_isRing_56 ?_
      refine V_istore X (by decide) rfl dL_isRing_57 ?_
      refine V_aload_n X 2 rfl dL_isRing_59 ?_
      refine V_iload X 1 rfl dL_isRing_60 ?_
      refine V_iload_n X 3 rfl dL_isRing_62 ?_
      refine V_iload X 0 rfl dL_isRing_63 ?_
      refine V_iconst X (v := 0) (by decide) dL_isRing_65 ?_
      obtain ⟨c3, e_c3, hf5⟩ := obd hf3
      refine V_callVi X (OB_0 hE) rfl rfl (f7_at_ok hE e_c3) ys_X7_at yw_X7_at ml_L_15 rfl rfl ⟨Nat.le_of_ble_eq_true rfl, Nat.le_of_ble_eq_true rfl⟩ ⟨Nat.zero_le _, Nat.zero_le _⟩ (Nat.le_of_ble_eq_true rfl) dL_isRing_66 ?_
      refine V_istore X (by decide) rfl dL_isRing_69 ?_
      refine V_aload_n X 3 rfl dL_isRing_71 ?_
      refine V_iload X 2 rfl dL_isRing_72 ?_
      refine V_iload_n X 4 rfl dL_isRing_74 ?_
      refine V_iload X 1 rfl dL_isRing_75 ?_
      refine V_iconst X (v := 1) (by decide) dL_isRing_77 ?_
      obtain ⟨c5, e_c5, hf7⟩ := obd hf5
      refine V_callVi X (OB_0 hE) rfl rfl (f7_at_ok hE e_c5) ys_X7_at yw_X7_at ml_L_15 rfl rfl ⟨Nat.le_of_ble_eq_true rfl, Nat.le_of_ble_eq_true rfl⟩ ⟨Nat.zero_le _, Nat.zero_le _⟩ (Nat.le_of_ble_eq_true rfl) dL_isRing_78 ?_
      refine V_istore X (by decide) rfl dL_isRing_81 ?_
      refine V_aload_n X 4 rfl dL_isRing_83 ?_
      refine V_iload X 3 rfl dL_isRing_84 ?_
      refine V_iload_n X 5 rfl dL_isRing_86 ?_
      refine V_iload X 2 rfl dL_isRing_87 ?_
      refine V_iconst X (v := 2) (by decide) dL_isRing_89 ?_
      obtain ⟨c7, e_c7, hf9⟩ := obd hf7
      refine V_callVi X (OB_0 hE) rfl rfl (f7_at_ok hE e_c7) ys_X7_at yw_X7_at ml_L_15 rfl rfl ⟨Nat.le_of_ble_eq_true rfl, Nat.le_of_ble_eq_true rfl⟩ ⟨Nat.zero_le _, Nat.zero_le _⟩ (Nat.le_of_ble_eq_true rfl) dL_isRing_90 ?_
      refine V_istore X (by decide) rfl dL_isRing_93 ?_
      refine V_aload_n X 5 rfl dL_isRing_95 ?_
      refine V_iload X 4 rfl dL_isRing_96 ?_
      refine V_iload_n X 6 rfl dL_isRing_98 ?_
      refine V_iload X 3 rfl dL_isRing_99 ?_
      refine V_iconst X (v := 4) (by decide) dL_isRing_101 ?_
      obtain ⟨c9, e_c9, hf11⟩ := obd hf9
      refine V_callVi X (OB_0 hE) rfl rfl (f7_at_ok hE e_c9) ys_X7_at yw_X7_at ml_L_15 rfl rfl ⟨Nat.le_of_ble_eq_true rfl, Nat.le_of_ble_eq_true rfl⟩ ⟨Nat.zero_le _, Nat.zero_le _⟩ (Nat.le_of_ble_eq_true rfl) dL_isRing_102 ?_
      refine V_istore X (by decide) rfl dL_isRing_105 ?_
      refine V_iload_n X 8 rfl dL_isRing_107 ?_
      refine V_if_eq X (tgt := 146) (by decide) dL_isRing_108 (fun q108 => ?_) (fun q108 => ?_)
      · have hf12 := ift hf11 q108
        exact V_sub [6, 7, 8, 9, 10, 11, 12, 14, 5, 4, 3, 2, 1, 0] rfl (fL_isRing_j146_ok hE X hk33 hf12)
      · have hf12 := ife hf11 q108
        refine V_iload X 1 rfl dL_isRing_111 ?_
        refine V_if_ne X (tgt := 124) (by decide) dL_isRing_113 (fun q113 => ?_) (fun q113 => ?_)
        · have hf13 := ife hf12 q113
          refine V_iload X 3 rfl dL_isRing_124 ?_
          refine V_iload X 1 rfl dL_isRing_126 ?_
          refine V_icmp_ne X (tgt := 146) (by decide) dL_isRing_128 (fun q128 => ?_) (fun q128 => ?_)
          · have hf14 := ife hf13 q128
            exact V_sub [6, 7, 8, 9, 10, 11, 12, 14, 5, 4, 3, 2, 1, 0] rfl (fL_isRing_j146_ok hE X hk33 hf14)
          · have hf14 := ift hf13 q128
            refine V_iload X 2 rfl dL_isRing_131 ?_
            refine V_aload_n X 6 rfl dL_isRing_133 ?_
            refine V_bipush X (v := 7) (by decide) dL_isRing_134 ?_
            obtain ⟨c14, e_c14, hf16⟩ := obd hf14
            refine V_callVi X (OB_0 hE) rfl rfl (f7_count_ok hE e_c14) ys_X7_count yw_X7_count ml_L_19 rfl rfl ⟨Nat.le_of_ble_eq_true rfl, Nat.le_of_ble_eq_true rfl⟩ ⟨Nat.zero_le _, Nat.zero_le _⟩ (Nat.le_of_ble_eq_true rfl) dL_isRing_136 ?_
            refine V_icmp_lt X (tgt := 146) (by decide) dL_isRing_139 (fun q139 => ?_) (fun q139 => ?_)
            · have hf17 := ift hf16 q139
              exact V_sub [6, 7, 8, 9, 10, 11, 12, 14, 5, 4, 3, 2, 1, 0] rfl (fL_isRing_j146_ok hE X hk33 hf17)
            · have hf17 := ife hf16 q139
              exact V_sub [6, 7, 8, 9, 10, 11, 12, 14, 5, 4, 3, 2, 1, 0] rfl (fL_isRing_j142_ok hE X hk33 hf17)
        · have hf13 := ift hf12 q113
          refine V_iload X 2 rfl dL_isRing_116 ?_
          refine V_if_ne X (tgt := 146) (by decide) dL_isRing_118 (fun q118 => ?_) (fun q118 => ?_)
          · have hf18 := ife hf13 q118
            exact V_sub [6, 7, 8, 9, 10, 11, 12, 14, 5, 4, 3, 2, 1, 0] rfl (fL_isRing_j146_ok hE X hk33 hf18)
          · have hf18 := ift hf13 q118
            refine V_goto X (tgt := 142) (by decide) dL_isRing_121 ?_
            exact V_sub [6, 7, 8, 9, 10, 11, 12, 14, 5, 4, 3, 2, 1, 0] rfl (fL_isRing_j142_ok hE X hk33 hf18)
def fL_isRing_L33 : Nat → Int32 → Int32 → Int32 → Int32 → Int32 → Int32 → Int32 → Int32 → Hp → Re
  | 0 => fun _ _ _ _ _ _ _ _ _ => none
  | n + 1 => fL_isRing_B33 (fL_isRing_L33 n)
theorem fL_isRing_L33_s (n : Nat) (x1 : Int32) (x2 : Int32) (x3 : Int32) (x4 : Int32) (x5 : Int32) (x6 : Int32) (x7 : Int32) (x8 : Int32) (h : Hp) : fL_isRing_L33 (n + 1) x1 x2 x3 x4 x5 x6 x7 x8 h = fL_isRing_B33 (fL_isRing_L33 n) x1 x2 x3 x4 x5 x6 x7 x8 h := rfl
theorem fL_isRing_L33_ok (hE : IW E) (X : XC E RL cL_isRing 18 (some .boolean) A p s m args meth c) : ∀ (n : Nat) (x1 : Int32) (x2 : Int32) (x3 : Int32) (x4 : Int32) (x5 : Int32) (x6 : Int32) (x7 : Int32) (x8 : Int32) (h : Hp), fL_isRing_L33 n x1 x2 x3 x4 x5 x6 x7 x8 h = some (r, h') → VM E 18 A p l e 7 s m args below meth c (Qi E A r h') 33 [(0, .ref (eA E 0)), (1, .int x1), (2, .int x2), (3, .int x3), (4, .int x4), (5, .int x5), (6, .int x6), (7, .int x7), (8, .int x8)] [] h := by
  intro n
  induction n with
  | zero =>
    intro x1 x2 x3 x4 x5 x6 x7 x8 h q
    have q : (none : Re) = some (r, h') := q
    cases q
  | succ n ih =>
    intro x1 x2 x3 x4 x5 x6 x7 x8 h q
    exact fL_isRing_B33_ok hE X ih q
def fL_isRing_j15 (x1 : Int32) (y0 : Int32) (h : Hp) : Re :=
  fL_isRing_L33 FU x1 y0 0 0 0 0 1 0 h
set_option maxRecDepth 20000 in
set_option maxHeartbeats 4000000 in
theorem fL_isRing_j15_ok (hE : IW E) (X : XC E RL cL_isRing 18 (some .boolean) A p s m args meth c) {x1 : Int32} {y0 : Int32} {h : Hp} (hf0 : fL_isRing_j15 x1 y0 h = some (r, h')) : VM E 18 A p l e 7 s m args below meth c (Qi E A r h') 15 [(0, .ref (eA E 0)), (1, .int x1)] [.int y0] h := by
  unfold fL_isRing_j15 at hf0
  have hf1 := hf0
  refine V_istore_n X (by decide) rfl dL_isRing_15 ?_
  refine V_iconst X (v := 0) (by decide) dL_isRing_16 ?_
  refine V_istore_n X (by decide) rfl dL_isRing_17 ?_
  refine V_iconst X (v := 0) (by decide) dL_isRing_18 ?_
  refine V_istore X (by decide) rfl dL_isRing_19 ?_
  refine V_iconst X (v := 0) (by decide) dL_isRing_21 ?_
  refine V_istore X (by decide) rfl dL_isRing_22 ?_
  refine V_iconst X (v := 0) (by decide) dL_isRing_24 ?_
  refine V_istore X (by decide) rfl dL_isRing_25 ?_
  refine V_iconst X (v := 1) (by decide) dL_isRing_27 ?_
  refine V_istore X (by decide) rfl dL_isRing_28 ?_
  refine V_iconst X (v := 0) (by decide) dL_isRing_30 ?_
  refine V_istore X (by decide) rfl dL_isRing_31 ?_
  exact V_sub [7, 8, 6, 5, 4, 3, 2, 1, 0] rfl (fL_isRing_L33_ok hE X FU _ _ _ _ _ _ _ _ _ hf1)
def fL_isRing_e (x1 : Int32) (h : Hp) : Re :=
  (f7_ofRing x1 1 h).bind fun c1 => if c1.1 = 1 then (fL_isRing_j15 x1 1 c1.2) else (fL_isRing_j15 x1 0 c1.2)
set_option maxRecDepth 20000 in
set_option maxHeartbeats 4000000 in
theorem fL_isRing_e_ok (hE : IW E) (X : XC E RL cL_isRing 18 (some .boolean) A p s m args meth c) {x1 : Int32} {h : Hp} (hf0 : fL_isRing_e x1 h = some (r, h')) : VM E 18 A p l e 7 s m args below meth c (Qi E A r h') 0 [(0, .ref (eA E 0)), (1, .int x1)] [] h := by
  unfold fL_isRing_e at hf0
  have hf1 := hf0
  refine V_aload_n X 0 rfl dL_isRing_0 ?_
  refine V_iload_n X 1 rfl dL_isRing_1 ?_
  refine V_iconst X (v := 1) (by decide) dL_isRing_2 ?_
  obtain ⟨c1, e_c1, hf3⟩ := obd hf1
  refine V_callVi X (OB_0 hE) rfl rfl (f7_ofRing_ok hE e_c1) ys_X7_ofRing yw_X7_ofRing ml_L_9 rfl rfl ⟨Nat.le_of_ble_eq_true rfl, Nat.le_of_ble_eq_true rfl⟩ ⟨Nat.zero_le _, Nat.zero_le _⟩ (Nat.le_of_ble_eq_true rfl) dL_isRing_3 ?_
  refine V_iconst X (v := 1) (by decide) dL_isRing_6 ?_
  refine V_icmp_ne X (tgt := 14) (by decide) dL_isRing_7 (fun q7 => ?_) (fun q7 => ?_)
  · have hf4 := ife hf3 q7
    refine V_iconst X (v := 0) (by decide) dL_isRing_14 ?_
    exact V_sub [0, 1] rfl (fL_isRing_j15_ok hE X hf4)
  · have hf4 := ift hf3 q7
    refine V_iconst X (v := 1) (by decide) dL_isRing_10 ?_
    refine V_goto X (tgt := 15) (by decide) dL_isRing_11 ?_
    exact V_sub [0, 1] rfl (fL_isRing_j15_ok hE X hf4)
def fL_isRing (x1 : Int32) (h : Hp) : Re := fL_isRing_e x1 h
theorem fL_isRing_ok (hE : IW E) {x1 : Int32} {h : Hp} {q : Int32 × Hp} (hf0 : fL_isRing x1 h = some q) : SMi l E 7 yL_isRing cL_isRing 18 (some .boolean) [.ref (eA E 0), .int x1] h q.1 q.2 :=
  SMi.of (by decide +kernel) (Nat.le_of_ble_eq_true rfl) (fun p e s m args below meth c A X => fL_isRing_e_ok hE X (r := q.1) (h' := q.2) hf0)
end DM
