section DM
variable {E : EN} {A : Nat → Prop} {p : Program} {l : Launch} {e : Env} {s : State} {m : MethodId} {args : Array Value} {below : List Frame} {meth : Method} {c : Code} {r : Int32} {h' : Hp}
def fL_areSums_j299 (x1 : Int32) (x2 : Int32) (x3 : Int32) (x4 : Int32) (x5 : Int32) (x6 : Int32) (x7 : Int32) (x8 : Int32) (h : Hp) : Re :=
  if x8 = 0 then (rz 0 h) else ((f7_count 4 h).bind fun c2 => if x1 = c2.1 then (if x2 = x1 then (if x3 = x1 then (if x4 = x5 then ((f7_count 5 c2.2).bind fun c8 => if x6 = c8.1 then ((f7_lacking  c8.2).bind fun c11 => if x7 = c11.1 then ((f7_count 2 c11.2).bind fun c14 => (f7_count 3 c14.2).bind fun c16 => (f7_count 4 c16.2).bind fun c18 => if c14.1 = (c16.1 + c18.1) then ((f7_best  c18.2).bind fun c21 => if c21.1 < 0 then (rz 0 c21.2) else ((f7_best  c21.2).bind fun c24 => if 4 ≤ c24.1 then (rz 0 c24.2) else (rz 1 c24.2))) else (rz 0 c18.2)) else (rz 0 c11.2)) else (rz 0 c8.2)) else (rz 0 c2.2)) else (rz 0 c2.2)) else (rz 0 c2.2)) else (rz 0 c2.2))
set_option maxRecDepth 20000 in
set_option maxHeartbeats 4000000 in
theorem fL_areSums_j299_ok (hE : IW E) (X : XC E RL cL_areSums 12 (some .boolean) A p s m args meth c) {x1 : Int32} {x2 : Int32} {x3 : Int32} {x4 : Int32} {x5 : Int32} {x6 : Int32} {x7 : Int32} {x8 : Int32} {h : Hp} (hf0 : fL_areSums_j299 x1 x2 x3 x4 x5 x6 x7 x8 h = some (r, h')) : VM E 12 A p l e 8 s m args below meth c (Qi E A r h') 299 [(0, .ref (eA E 0)), (1, .int x1), (2, .int x2), (3, .int x3), (4, .int x4), (5, .int x5), (6, .int x6), (7, .int x7), (8, .int x8)] [] h := by
  unfold fL_areSums_j299 at hf0
  have hf1 := hf0
  refine V_iload X 8 rfl dL_areSums_299 ?_
  refine V_if_eq X (tgt := 387) (by decide) dL_areSums_301 (fun q301 => ?_) (fun q301 => ?_)
  · have hf2 := ift hf1 q301
    refine V_iconst X (v := 0) (by decide) dL_areSums_387 ?_
    exact V_zret X rfl hf2 dL_areSums_388
  · have hf2 := ife hf1 q301
    refine V_iload_n X 1 rfl dL_areSums_304 ?_
    refine V_aload_n X 0 rfl dL_areSums_305 ?_
    refine V_iconst X (v := 4) (by decide) dL_areSums_306 ?_
    obtain ⟨c2, e_c2, hf4⟩ := obd hf2
    refine V_callVi X (OB_0 hE) rfl rfl (f7_count_ok hE e_c2) ys_X7_count yw_X7_count ml_L_19 rfl rfl ⟨Nat.le_of_ble_eq_true rfl, Nat.le_of_ble_eq_true rfl⟩ ⟨Nat.zero_le _, Nat.zero_le _⟩ (Nat.le_of_ble_eq_true rfl) dL_areSums_307 ?_
    refine V_icmp_ne X (tgt := 387) (by decide) dL_areSums_310 (fun q310 => ?_) (fun q310 => ?_)
    · have hf5 := ife hf4 q310
      refine V_iconst X (v := 0) (by decide) dL_areSums_387 ?_
      exact V_zret X rfl hf5 dL_areSums_388
    · have hf5 := ift hf4 q310
      refine V_iload_n X 2 rfl dL_areSums_313 ?_
      refine V_iload_n X 1 rfl dL_areSums_314 ?_
      refine V_icmp_ne X (tgt := 387) (by decide) dL_areSums_315 (fun q315 => ?_) (fun q315 => ?_)
      · have hf6 := ife hf5 q315
        refine V_iconst X (v := 0) (by decide) dL_areSums_387 ?_
        exact V_zret X rfl hf6 dL_areSums_388
      · have hf6 := ift hf5 q315
        refine V_iload_n X 3 rfl dL_areSums_318 ?_
        refine V_iload_n X 1 rfl dL_areSums_319 ?_
        refine V_icmp_ne X (tgt := 387) (by decide) dL_areSums_320 (fun q320 => ?_) (fun q320 => ?_)
        · have hf7 := ife hf6 q320
          refine V_iconst X (v := 0) (by decide) dL_areSums_387 ?_
          exact V_zret X rfl hf7 dL_areSums_388
        · have hf7 := ift hf6 q320
          refine V_iload X 4 rfl dL_areSums_323 ?_
          refine V_iload X 5 rfl dL_areSums_325 ?_
          refine V_icmp_ne X (tgt := 387) (by decide) dL_areSums_327 (fun q327 => ?_) (fun q327 => ?_)
          · have hf8 := ife hf7 q327
            refine V_iconst X (v := 0) (by decide) dL_areSums_387 ?_
            exact V_zret X rfl hf8 dL_areSums_388
          · have hf8 := ift hf7 q327
            refine V_iload X 6 rfl dL_areSums_330 ?_
            refine V_aload_n X 0 rfl dL_areSums_332 ?_
            refine V_iconst X (v := 5) (by decide) dL_areSums_333 ?_
            obtain ⟨c8, e_c8, hf10⟩ := obd hf8
            refine V_callVi X (OB_0 hE) rfl rfl (f7_count_ok hE e_c8) ys_X7_count yw_X7_count ml_L_19 rfl rfl ⟨Nat.le_of_ble_eq_true rfl, Nat.le_of_ble_eq_true rfl⟩ ⟨Nat.zero_le _, Nat.zero_le _⟩ (Nat.le_of_ble_eq_true rfl) dL_areSums_334 ?_
            refine V_icmp_ne X (tgt := 387) (by decide) dL_areSums_337 (fun q337 => ?_) (fun q337 => ?_)
            · have hf11 := ife hf10 q337
              refine V_iconst X (v := 0) (by decide) dL_areSums_387 ?_
              exact V_zret X rfl hf11 dL_areSums_388
            · have hf11 := ift hf10 q337
              refine V_iload X 7 rfl dL_areSums_340 ?_
              refine V_aload_n X 0 rfl dL_areSums_342 ?_
              obtain ⟨c11, e_c11, hf13⟩ := obd hf11
              refine V_callVi X (OB_0 hE) rfl rfl (f7_lacking_ok hE e_c11) ys_X7_lacking yw_X7_lacking ml_L_35 rfl rfl ⟨Nat.le_of_ble_eq_true rfl, Nat.le_of_ble_eq_true rfl⟩ ⟨Nat.zero_le _, Nat.zero_le _⟩ (Nat.le_of_ble_eq_true rfl) dL_areSums_343 ?_
              refine V_icmp_ne X (tgt := 387) (by decide) dL_areSums_346 (fun q346 => ?_) (fun q346 => ?_)
              · have hf14 := ife hf13 q346
                refine V_iconst X (v := 0) (by decide) dL_areSums_387 ?_
                exact V_zret X rfl hf14 dL_areSums_388
              · have hf14 := ift hf13 q346
                refine V_aload_n X 0 rfl dL_areSums_349 ?_
                refine V_iconst X (v := 2) (by decide) dL_areSums_350 ?_
                obtain ⟨c14, e_c14, hf16⟩ := obd hf14
                refine V_callVi X (OB_0 hE) rfl rfl (f7_count_ok hE e_c14) ys_X7_count yw_X7_count ml_L_19 rfl rfl ⟨Nat.le_of_ble_eq_true rfl, Nat.le_of_ble_eq_true rfl⟩ ⟨Nat.zero_le _, Nat.zero_le _⟩ (Nat.le_of_ble_eq_true rfl) dL_areSums_351 ?_
                refine V_aload_n X 0 rfl dL_areSums_354 ?_
                refine V_iconst X (v := 3) (by decide) dL_areSums_355 ?_
                obtain ⟨c16, e_c16, hf18⟩ := obd hf16
                refine V_callVi X (OB_0 hE) rfl rfl (f7_count_ok hE e_c16) ys_X7_count yw_X7_count ml_L_19 rfl rfl ⟨Nat.le_of_ble_eq_true rfl, Nat.le_of_ble_eq_true rfl⟩ ⟨Nat.zero_le _, Nat.zero_le _⟩ (Nat.le_of_ble_eq_true rfl) dL_areSums_356 ?_
                refine V_aload_n X 0 rfl dL_areSums_359 ?_
                refine V_iconst X (v := 4) (by decide) dL_areSums_360 ?_
                obtain ⟨c18, e_c18, hf20⟩ := obd hf18
                refine V_callVi X (OB_0 hE) rfl rfl (f7_count_ok hE e_c18) ys_X7_count yw_X7_count ml_L_19 rfl rfl ⟨Nat.le_of_ble_eq_true rfl, Nat.le_of_ble_eq_true rfl⟩ ⟨Nat.zero_le _, Nat.zero_le _⟩ (Nat.le_of_ble_eq_true rfl) dL_areSums_361 ?_
                refine V_iadd X dL_areSums_364 ?_
                refine V_icmp_ne X (tgt := 387) (by decide) dL_areSums_365 (fun q365 => ?_) (fun q365 => ?_)
                · have hf21 := ife hf20 q365
                  refine V_iconst X (v := 0) (by decide) dL_areSums_387 ?_
                  exact V_zret X rfl hf21 dL_areSums_388
                · have hf21 := ift hf20 q365
                  refine V_aload_n X 0 rfl dL_areSums_368 ?_
                  obtain ⟨c21, e_c21, hf23⟩ := obd hf21
                  refine V_callVi X (OB_0 hE) rfl rfl (f7_best_ok hE e_c21) ys_X7_best yw_X7_best ml_L_39 rfl rfl ⟨Nat.le_of_ble_eq_true rfl, Nat.le_of_ble_eq_true rfl⟩ ⟨Nat.zero_le _, Nat.zero_le _⟩ (Nat.le_of_ble_eq_true rfl) dL_areSums_369 ?_
                  refine V_if_lt X (tgt := 387) (by decide) dL_areSums_372 (fun q372 => ?_) (fun q372 => ?_)
                  · have hf24 := ift hf23 q372
                    refine V_iconst X (v := 0) (by decide) dL_areSums_387 ?_
                    exact V_zret X rfl hf24 dL_areSums_388
                  · have hf24 := ife hf23 q372
                    refine V_aload_n X 0 rfl dL_areSums_375 ?_
                    obtain ⟨c24, e_c24, hf26⟩ := obd hf24
                    refine V_callVi X (OB_0 hE) rfl rfl (f7_best_ok hE e_c24) ys_X7_best yw_X7_best ml_L_39 rfl rfl ⟨Nat.le_of_ble_eq_true rfl, Nat.le_of_ble_eq_true rfl⟩ ⟨Nat.zero_le _, Nat.zero_le _⟩ (Nat.le_of_ble_eq_true rfl) dL_areSums_376 ?_
                    refine V_iconst X (v := 4) (by decide) dL_areSums_379 ?_
                    refine V_icmp_ge X (tgt := 387) (by decide) dL_areSums_380 (fun q380 => ?_) (fun q380 => ?_)
                    · have hf27 := ift hf26 q380
                      refine V_iconst X (v := 0) (by decide) dL_areSums_387 ?_
                      exact V_zret X rfl hf27 dL_areSums_388
                    · have hf27 := ife hf26 q380
                      refine V_iconst X (v := 1) (by decide) dL_areSums_383 ?_
                      refine V_goto X (tgt := 388) (by decide) dL_areSums_384 ?_
                      exact V_zret X rfl hf27 dL_areSums_388
def fL_areSums_j286 (k194 : Int32 → Int32 → Int32 → Int32 → Int32 → Int32 → Int32 → Int32 → Int32 → Hp → Re) (x1 : Int32) (x2 : Int32) (x3 : Int32) (x4 : Int32) (x5 : Int32) (x6 : Int32) (x7 : Int32) (x9 : Int32) (h : Hp) : Re :=
  k194 x1 x2 x3 x4 x5 x6 x7 1 (x9 + 1) h
set_option maxRecDepth 20000 in
set_option maxHeartbeats 4000000 in
theorem fL_areSums_j286_ok (hE : IW E) (X : XC E RL cL_areSums 12 (some .boolean) A p s m args meth c) {k194 : Int32 → Int32 → Int32 → Int32 → Int32 → Int32 → Int32 → Int32 → Int32 → Hp → Re} (hk194 : ∀ (x1 : Int32) (x2 : Int32) (x3 : Int32) (x4 : Int32) (x5 : Int32) (x6 : Int32) (x7 : Int32) (x8 : Int32) (x9 : Int32) (h : Hp), k194 x1 x2 x3 x4 x5 x6 x7 x8 x9 h = some (r, h') → VM E 12 A p l e 8 s m args below meth c (Qi E A r h') 194 [(0, .ref (eA E 0)), (1, .int x1), (2, .int x2), (3, .int x3), (4, .int x4), (5, .int x5), (6, .int x6), (7, .int x7), (8, .int x8), (9, .int x9)] [] h) {x1 : Int32} {x2 : Int32} {x3 : Int32} {x4 : Int32} {x5 : Int32} {x6 : Int32} {x7 : Int32} {x9 : Int32} {h : Hp} (hf0 : fL_areSums_j286 k194 x1 x2 x3 x4 x5 x6 x7 x9 h = some (r, h')) : VM E 12 A p l e 8 s m args below meth c (Qi E A r h') 286 [(0, .ref (eA E 0)), (1, .int x1), (2, .int x2), (3, .int x3), (4, .int x4), (5, .int x5), (6, .int x6), (7, .int x7), (9, .int x9)] [] h := by
  unfold fL_areSums_j286 at hf0
  have hf1 := hf0
  refine V_iconst X (v := 1) (by decide) dL_areSums_286 ?_
  refine V_goto X (tgt := 291) (by decide) dL_areSums_287 ?_
  refine V_istore X (by decide) rfl dL_areSums_291 ?_
  refine V_iinc X (v := _ + 1) 9 rfl (by rfl) (by decide) rfl dL_areSums_293 ?_
  refine V_goto X (tgt := 194) (by decide) dL_areSums_296 ?_
  exact V_sub [2, 3, 4, 5, 6, 7, 8, 9, 1, 0] rfl (hk194 _ _ _ _ _ _ _ _ _ _ hf1)
def fL_areSums_j264 (k194 : Int32 → Int32 → Int32 → Int32 → Int32 → Int32 → Int32 → Int32 → Int32 → Hp → Re) (x1 : Int32) (x2 : Int32) (x3 : Int32) (x4 : Int32) (x5 : Int32) (x6 : Int32) (x9 : Int32) (x10 : Int32) (y0 : Int32) (y1 : Int32) (h : Hp) : Re :=
  if x10 = (-6) then (fL_areSums_j286 k194 x1 x2 x3 x4 x5 x6 (y1 ||| y0) x9 h) else ((f7_ofQuarter x10 2 h).bind fun c2 => if c2.1 = x9 then (fL_areSums_j286 k194 x1 x2 x3 x4 x5 x6 (y1 ||| y0) x9 c2.2) else (k194 x1 x2 x3 x4 x5 x6 (y1 ||| y0) 0 (x9 + 1) c2.2))
set_option maxRecDepth 20000 in
set_option maxHeartbeats 4000000 in
theorem fL_areSums_j264_ok (hE : IW E) (X : XC E RL cL_areSums 12 (some .boolean) A p s m args meth c) {k194 : Int32 → Int32 → Int32 → Int32 → Int32 → Int32 → Int32 → Int32 → Int32 → Hp → Re} (hk194 : ∀ (x1 : Int32) (x2 : Int32) (x3 : Int32) (x4 : Int32) (x5 : Int32) (x6 : Int32) (x7 : Int32) (x8 : Int32) (x9 : Int32) (h : Hp), k194 x1 x2 x3 x4 x5 x6 x7 x8 x9 h = some (r, h') → VM E 12 A p l e 8 s m args below meth c (Qi E A r h') 194 [(0, .ref (eA E 0)), (1, .int x1), (2, .int x2), (3, .int x3), (4, .int x4), (5, .int x5), (6, .int x6), (7, .int x7), (8, .int x8), (9, .int x9)] [] h) {x1 : Int32} {x2 : Int32} {x3 : Int32} {x4 : Int32} {x5 : Int32} {x6 : Int32} {x9 : Int32} {x10 : Int32} {y0 : Int32} {y1 : Int32} {h : Hp} (hf0 : fL_areSums_j264 k194 x1 x2 x3 x4 x5 x6 x9 x10 y0 y1 h = some (r, h')) : VM E 12 A p l e 8 s m args below meth c (Qi E A r h') 264 [(0, .ref (eA E 0)), (1, .int x1), (2, .int x2), (3, .int x3), (4, .int x4), (5, .int x5), (6, .int x6), (9, .int x9), (10, .int x10)] [.int y0, .int y1] h := by
  unfold fL_areSums_j264 at hf0
  have hf1 := hf0
  refine V_ior X dL_areSums_264 ?_
  refine V_istore X (by decide) rfl dL_areSums_265 ?_
  refine V_iload X 9 rfl dL_areSums_267 ?_
  refine V_bipush X (v := -6) (by decide) dL_areSums_269 ?_
  refine V_icmp_eq X (tgt := 286) (by decide) dL_areSums_271 (fun q271 => ?_) (fun q271 => ?_)
  · have hf2 := ift hf1 q271
    exact V_sub [1, 2, 3, 4, 5, 6, 7, 0, 8] rfl (fL_areSums_j286_ok hE X hk194 hf2)
  · have hf2 := ife hf1 q271
    refine V_aload_n X 1 rfl dL_areSums_274 ?_
    refine V_iload X 9 rfl dL_areSums_275 ?_
    refine V_iconst X (v := 2) (by decide) dL_areSums_277 ?_
    obtain ⟨c2, e_c2, hf4⟩ := obd hf2
    refine V_callVi X (OB_0 hE) rfl rfl (f7_ofQuarter_ok hE e_c2) ys_X7_ofQuarter yw_X7_ofQuarter ml_L_23 rfl rfl ⟨Nat.le_of_ble_eq_true rfl, Nat.le_of_ble_eq_true rfl⟩ ⟨Nat.zero_le _, Nat.zero_le _⟩ (Nat.le_of_ble_eq_true rfl) dL_areSums_278 ?_
    refine V_iload X 8 rfl dL_areSums_281 ?_
    refine V_icmp_ne X (tgt := 290) (by decide) dL_areSums_283 (fun q283 => ?_) (fun q283 => ?_)
    · have hf5 := ife hf4 q283
      refine V_iconst X (v := 0) (by decide) dL_areSums_290 ?_
      refine V_istore X (by decide) rfl dL_areSums_291 ?_
      refine V_iinc X (v := _ + 1) 9 rfl (by rfl) (by decide) rfl dL_areSums_293 ?_
      refine V_goto X (tgt := 194) (by decide) dL_areSums_296 ?_
      exact V_sub [3, 4, 5, 6, 7, 8, 9, 2, 1, 0] rfl (hk194 _ _ _ _ _ _ _ _ _ _ hf5)
    · have hf5 := ift hf4 q283
      exact V_sub [1, 2, 3, 4, 5, 6, 7, 0, 8] rfl (fL_areSums_j286_ok hE X hk194 hf5)
def fL_areSums_B194 (k194 : Int32 → Int32 → Int32 → Int32 → Int32 → Int32 → Int32 → Int32 → Int32 → Hp → Re) (x1 : Int32) (x2 : Int32) (x3 : Int32) (x4 : Int32) (x5 : Int32) (x6 : Int32) (x7 : Int32) (x8 : Int32) (x9 : Int32) (h : Hp) : Re :=
  if 7 ≤ x9 then (fL_areSums_j299 x1 x2 x3 x4 x5 x6 x7 x8 h) else (if x8 = 0 then (fL_areSums_j299 x1 x2 x3 x4 x5 x6 x7 x8 h) else ((f7_ofColour x9 1 h).bind fun c3 => (f7_ofColour x9 2 c3.2).bind fun c5 => (f7_ofColour x9 4 c5.2).bind fun c7 => (f7_ofColour x9 0 c7.2).bind fun c9 => (f7_ofColour x9 4 c9.2).bind fun c11 => if c11.1 ≤ c9.1 then (fL_areSums_j264 k194 x1 x2 (x3 + c5.1) x4 (x5 + c7.1) x6 x9 c3.1 0 x7 c11.2) else (fL_areSums_j264 k194 x1 x2 (x3 + c5.1) x4 (x5 + c7.1) x6 x9 c3.1 ((1 : Int32) <<< (x9 &&& 31)) x7 c11.2)))
set_option maxRecDepth 20000 in
set_option maxHeartbeats 4000000 in
theorem fL_areSums_B194_ok (hE : IW E) (X : XC E RL cL_areSums 12 (some .boolean) A p s m args meth c) {k194 : Int32 → Int32 → Int32 → Int32 → Int32 → Int32 → Int32 → Int32 → Int32 → Hp → Re} (hk194 : ∀ (x1 : Int32) (x2 : Int32) (x3 : Int32) (x4 : Int32) (x5 : Int32) (x6 : Int32) (x7 : Int32) (x8 : Int32) (x9 : Int32) (h : Hp), k194 x1 x2 x3 x4 x5 x6 x7 x8 x9 h = some (r, h') → VM E 12 A p l e 8 s m args below meth c (Qi E A r h') 194 [(0, .ref (eA E 0)), (1, .int x1), (2, .int x2), (3, .int x3), (4, .int x4), (5, .int x5), (6, .int x6), (7, .int x7), (8, .int x8), (9, .int x9)] [] h) {x1 : Int32} {x2 : Int32} {x3 : Int32} {x4 : Int32} {x5 : Int32} {x6 : Int32} {x7 : Int32} {x8 : Int32} {x9 : Int32} {h : Hp} (hf0 : fL_areSums_B194 k194 x1 x2 x3 x4 x5 x6 x7 x8 x9 h = some (r, h')) : VM E 12 A p l e 8 s m args below meth c (Qi E A r h') 194 [(0, .ref (eA E 0)), (1, .int x1), (2, .int x2), (3, .int x3), (4, .int x4), (5, .int x5), (6, .int x6), (7, .int x7), (8, .int x8), (9, .int x9)] [] h := by
  unfold fL_areSums_B194 at hf0
  have hf1 := hf0
  refine V_iload X 9 rfl dL_areSums_194 ?_
  refine V_bipush X (v := 7) (by decide) dL_areSums_196 ?_
  refine V_icmp_ge X (tgt := 299) (by decide) dL_areSums_198 (fun q198 => ?_) (fun q198 => ?_)
  · have hf2 := ift hf1 q198
    exact V_sub [0, 1, 2, 3, 4, 5, 6, 7, 8] rfl (fL_areSums_j299_ok hE X hf2)
  · have hf2 := ife hf1 q198
    refine V_iload X 8 rfl dL_areSums_201 ?_
    refine V_if_eq X (tgt := 299) (by decide) dL_areSums_203 (fun q203 => ?_) (fun q203 => ?_)
    · have hf3 := ift hf2 q203
      exact V_sub [0, 1, 2, 3, 4, 5, 6, 7, 8] rfl (fL_areSums_j299_ok hE X hf3)
    · have hf3 := ife hf2 q203
      refine V_aload_n X 0 rfl dL_areSums_206 ?_
      refine V_iload X 9 rfl dL_areSums_207 ?_
      refine V_iconst X (v := 1) (by decide) dL_areSums_209 ?_
      obtain ⟨c3, e_c3, hf5⟩ := obd hf3
      refine V_callVi X (OB_0 hE) rfl rfl (f7_ofColour_ok hE e_c3) ys_X7_ofColour yw_X7_ofColour ml_L_32 rfl rfl ⟨Nat.le_of_ble_eq_true rfl, Nat.le_of_ble_eq_true rfl⟩ ⟨Nat.zero_le _, Nat.zero_le _⟩ (Nat.le_of_ble_eq_true rfl) dL_areSums_210 ?_
      refine V_istore X (by decide) rfl dL_areSums_213 ?_
      refine V_iload_n X 4 rfl dL_areSums_215 ?_
      refine V_aload_n X 1 rfl dL_areSums_216 ?_
      refine V_iload X 10 rfl dL_areSums_217 ?_
      refine V_iconst X (v := 2) (by decide) dL_areSums_219 ?_
      obtain ⟨c5, e_c5, hf7⟩ := obd hf5
      refine V_callVi X (OB_0 hE) rfl rfl (f7_ofColour_ok hE e_c5) ys_X7_ofColour yw_X7_ofColour ml_L_32 rfl rfl ⟨Nat.le_of_ble_eq_true rfl, Nat.le_of_ble_eq_true rfl⟩ ⟨Nat.zero_le _, Nat.zero_le _⟩ (Nat.le_of_ble_eq_true rfl) dL_areSums_220 ?_
      refine V_iadd X dL_areSums_223 ?_
      refine V_istore_n X (by decide) rfl dL_areSums_224 ?_
      refine V_iload X 6 rfl dL_areSums_225 ?_
      refine V_aload_n X 2 rfl dL_areSums_227 ?_
      refine V_iload X 10 rfl dL_areSums_228 ?_
      refine V_iconst X (v := 4) (by decide) dL_areSums_230 ?_
      obtain ⟨c7, e_c7, hf9⟩ := obd hf7
      refine V_callVi X (OB_0 hE) rfl rfl (f7_ofColour_ok hE e_c7) ys_X7_ofColour yw_X7_ofColour ml_L_32 rfl rfl ⟨Nat.le_of_ble_eq_true rfl, Nat.le_of_ble_eq_true rfl⟩ ⟨Nat.zero_le _, Nat.zero_le _⟩ (Nat.le_of_ble_eq_true rfl) dL_areSums_231 ?_
      refine V_iadd X dL_areSums_234 ?_
      refine V_istore X (by decide) rfl dL_areSums_235 ?_
      refine V_iload X 8 rfl dL_areSums_237 ?_
      refine V_aload_n X 3 rfl dL_areSums_239 ?_
      refine V_iload X 10 rfl dL_areSums_240 ?_
      refine V_iconst X (v := 0) (by decide) dL_areSums_242 ?_
      obtain ⟨c9, e_c9, hf11⟩ := obd hf9
      refine V_callVi X (OB_0 hE) rfl rfl (f7_ofColour_ok hE e_c9) ys_X7_ofColour yw_X7_ofColour ml_L_32 rfl rfl ⟨Nat.le_of_ble_eq_true rfl, Nat.le_of_ble_eq_true rfl⟩ ⟨Nat.zero_le _, Nat.zero_le _⟩ (Nat.le_of_ble_eq_true rfl) dL_areSums_243 ?_
      refine V_aload_n X 3 rfl dL_areSums_246 ?_
      refine V_iload X 10 rfl dL_areSums_247 ?_
      refine V_iconst X (v := 4) (by decide) dL_areSums_249 ?_
      obtain ⟨c11, e_c11, hf13⟩ := obd hf11
      refine V_callVi X (OB_0 hE) rfl rfl (f7_ofColour_ok hE e_c11) ys_X7_ofColour yw_X7_ofColour ml_L_32 rfl rfl ⟨Nat.le_of_ble_eq_true rfl, Nat.le_of_ble_eq_true rfl⟩ ⟨Nat.zero_le _, Nat.zero_le _⟩ (Nat.le_of_ble_eq_true rfl) dL_areSums_250 ?_
      refine V_icmp_ge X (tgt := 263) (by decide) dL_areSums_253 (fun q253 => ?_) (fun q253 => ?_)
      · have hf14 := ift hf13 q253
        refine V_iconst X (v := 0) (by decide) dL_areSums_263 ?_
        exact V_sub [3, 4, 5, 1, 6, 0, 7, 10, 2] rfl (fL_areSums_j264_ok hE X hk194 hf14)
      · have hf14 := ife hf13 q253
        refine V_iconst X (v := 1) (by decide) dL_areSums_256 ?_
        refine V_iload X 10 rfl dL_areSums_257 ?_
        refine V_ishl X dL_areSums_259 ?_
        refine V_goto X (tgt := 264) (by decide) dL_areSums_260 ?_
        exact V_sub [3, 4, 5, 1, 6, 0, 7, 10, 2] rfl (fL_areSums_j264_ok hE X hk194 hf14)
def fL_areSums_L194 : Nat → Int32 → Int32 → Int32 → Int32 → Int32 → Int32 → Int32 → Int32 → Int32 → Hp → Re
  | 0 => fun _ _ _ _ _ _ _ _ _ _ => none
  | n + 1 => fL_areSums_B194 (fL_areSums_L194 n)
theorem fL_areSums_L194_s (n : Nat) (x1 : Int32) (x2 : Int32) (x3 : Int32) (x4 : Int32) (x5 : Int32) (x6 : Int32) (x7 : Int32) (x8 : Int32) (x9 : Int32) (h : Hp) : fL_areSums_L194 (n + 1) x1 x2 x3 x4 x5 x6 x7 x8 x9 h = fL_areSums_B194 (fL_areSums_L194 n) x1 x2 x3 x4 x5 x6 x7 x8 x9 h := rfl
theorem fL_areSums_L194_ok (hE : IW E) (X : XC E RL cL_areSums 12 (some .boolean) A p s m args meth c) : ∀ (n : Nat) (x1 : Int32) (x2 : Int32) (x3 : Int32) (x4 : Int32) (x5 : Int32) (x6 : Int32) (x7 : Int32) (x8 : Int32) (x9 : Int32) (h : Hp), fL_areSums_L194 n x1 x2 x3 x4 x5 x6 x7 x8 x9 h = some (r, h') → VM E 12 A p l e 8 s m args below meth c (Qi E A r h') 194 [(0, .ref (eA E 0)), (1, .int x1), (2, .int x2), (3, .int x3), (4, .int x4), (5, .int x5), (6, .int x6), (7, .int x7), (8, .int x8), (9, .int x9)] [] h := by
  intro n
  induction n with
  | zero =>
    intro x1 x2 x3 x4 x5 x6 x7 x8 x9 h q
    have q : (none : Re) = some (r, h') := q
    cases q
  | succ n ih =>
    intro x1 x2 x3 x4 x5 x6 x7 x8 x9 h q
    exact fL_areSums_B194_ok hE X ih q
def fL_areSums_j178 (k90 : Int32 → Int32 → Int32 → Int32 → Int32 → Int32 → Int32 → Int32 → Int32 → Hp → Re) (x1 : Int32) (x2 : Int32) (x3 : Int32) (x4 : Int32) (x5 : Int32) (x6 : Int32) (x7 : Int32) (x9 : Int32) (h : Hp) : Re :=
  k90 x1 x2 x3 x4 x5 x6 x7 1 (x9 + 1) h
set_option maxRecDepth 20000 in
set_option maxHeartbeats 4000000 in
theorem fL_areSums_j178_ok (hE : IW E) (X : XC E RL cL_areSums 12 (some .boolean) A p s m args meth c) {k90 : Int32 → Int32 → Int32 → Int32 → Int32 → Int32 → Int32 → Int32 → Int32 → Hp → Re} (hk90 : ∀ (x1 : Int32) (x2 : Int32) (x3 : Int32) (x4 : Int32) (x5 : Int32) (x6 : Int32) (x7 : Int32) (x8 : Int32) (x9 : Int32) (h : Hp), k90 x1 x2 x3 x4 x5 x6 x7 x8 x9 h = some (r, h') → VM E 12 A p l e 8 s m args below meth c (Qi E A r h') 90 [(0, .ref (eA E 0)), (1, .int x1), (2, .int x2), (3, .int x3), (4, .int x4), (5, .int x5), (6, .int x6), (7, .int x7), (8, .int x8), (9, .int x9)] [] h) {x1 : Int32} {x2 : Int32} {x3 : Int32} {x4 : Int32} {x5 : Int32} {x6 : Int32} {x7 : Int32} {x9 : Int32} {h : Hp} (hf0 : fL_areSums_j178 k90 x1 x2 x3 x4 x5 x6 x7 x9 h = some (r, h')) : VM E 12 A p l e 8 s m args below meth c (Qi E A r h') 178 [(0, .ref (eA E 0)), (1, .int x1), (2, .int x2), (3, .int x3), (4, .int x4), (5, .int x5), (6, .int x6), (7, .int x7), (9, .int x9)] [] h := by
  unfold fL_areSums_j178 at hf0
  have hf1 := hf0
  refine V_iconst X (v := 1) (by decide) dL_areSums_178 ?_
  refine V_goto X (tgt := 183) (by decide) dL_areSums_179 ?_
  refine V_istore X (by decide) rfl dL_areSums_183 ?_
  refine V_iinc X (v := _ + 1) 9 rfl (by rfl) (by decide) rfl dL_areSums_185 ?_
  refine V_goto X (tgt := 90) (by decide) dL_areSums_188 ?_
  exact V_sub [2, 3, 4, 5, 6, 7, 8, 9, 1, 0] rfl (hk90 _ _ _ _ _ _ _ _ _ _ hf1)
def fL_areSums_B107 (k90 : Int32 → Int32 → Int32 → Int32 → Int32 → Int32 → Int32 → Int32 → Int32 → Hp → Re) (k107 : Int32 → Int32 → Int32 → Int32 → Int32 → Int32 → Int32 → Int32 → Int32 → Int32 → Hp → Re) (x1 : Int32) (x2 : Int32) (x3 : Int32) (x4 : Int32) (x5 : Int32) (x6 : Int32) (x7 : Int32) (x9 : Int32) (x10 : Int32) (x11 : Int32) (h : Hp) : Re :=
  if 7 ≤ x11 then ((f7_ofQuarter x9 2 h).bind fun c2 => (f7_ofQuarter x9 0 c2.2).bind fun c4 => if x10 = c4.1 then (if c2.1 = 0 then (fL_areSums_j178 k90 x1 (x2 + x10) x3 x4 x5 x6 x7 x9 c4.2) else ((f7_ofColour c2.1 1 c4.2).bind fun c8 => if c8.1 = x9 then (fL_areSums_j178 k90 x1 (x2 + x10) x3 x4 x5 x6 x7 x9 c8.2) else (k90 x1 (x2 + x10) x3 x4 x5 x6 x7 0 (x9 + 1) c8.2))) else (k90 x1 (x2 + x10) x3 x4 x5 x6 x7 0 (x9 + 1) c4.2)) else ((f7_ofQuarter x9 ((4 : Int32) + x11) h).bind fun c11 => k107 x1 x2 x3 x4 x5 x6 x7 x9 (x10 + c11.1) (x11 + 1) c11.2)
set_option maxRecDepth 20000 in
set_option maxHeartbeats 4000000 in
theorem fL_areSums_B107_ok (hE : IW E) (X : XC E RL cL_areSums 12 (some .boolean) A p s m args meth c) {k90 : Int32 → Int32 → Int32 → Int32 → Int32 → Int32 → Int32 → Int32 → Int32 → Hp → Re} {k107 : Int32 → Int32 → Int32 → Int32 → Int32 → Int32 → Int32 → Int32 → Int32 → Int32 → Hp → Re} (hk90 : ∀ (x1 : Int32) (x2 : Int32) (x3 : Int32) (x4 : Int32) (x5 : Int32) (x6 : Int32) (x7 : Int32) (x8 : Int32) (x9 : Int32) (h : Hp), k90 x1 x2 x3 x4 x5 x6 x7 x8 x9 h = some (r, h') → VM E 12 A p l e 8 s m args below meth c (Qi E A r h') 90 [(0, .ref (eA E 0)), (1, .int x1), (2, .int x2), (3, .int x3), (4, .int x4), (5, .int x5), (6, .int x6), (7, .int x7), (8, .int x8), (9, .int x9)] [] h) (hk107 : ∀ (x1 : Int32) (x2 : Int32) (x3 : Int32) (x4 : Int32) (x5 : Int32) (x6 : Int32) (x7 : Int32) (x9 : Int32) (x10 : Int32) (x11 : Int32) (h : Hp), k107 x1 x2 x3 x4 x5 x6 x7 x9 x10 x11 h = some (r, h') → VM E 12 A p l e 8 s m args below meth c (Qi E A r h') 107 [(0, .ref (eA E 0)), (1, .int x1), (2, .int x2), (3, .int x3), (4, .int x4), (5, .int x5), (6, .int x6), (7, .int x7), (9, .int x9), (10, .int x10), (11, .int x11)] [] h) {x1 : Int32} {x2 : Int32} {x3 : Int32} {x4 : Int32} {x5 : Int32} {x6 : Int32} {x7 : Int32} {x9 : Int32} {x10 : Int32} {x11 : Int32} {h : Hp} (hf0 : fL_areSums_B107 k90 k107 x1 x2 x3 x4 x5 x6 x7 x9 x10 x11 h = some (r, h')) : VM E 12 A p l e 8 s m args below meth c (Qi E A r h') 107 [(0, .ref (eA E 0)), (1, .int x1), (2, .int x2), (3, .int x3), (4, .int x4), (5, .int x5), (6, .int x6), (7, .int x7), (9, .int x9), (10, .int x10), (11, .int x11)] [] h := by
  unfold fL_areSums_B107 at hf0
  have hf1 := hf0
  refine V_iload X 10 rfl dL_areSums_107 ?_
  refine V_bipush X (v := 7) (by decide) dL_areSums_109 ?_
  refine V_icmp_ge X (tgt := 135) (by decide) dL_areSums_111 (fun q111 => ?_) (fun q111 => ?_)
  · have hf2 := ift hf1 q111
    refine V_iload_n X 2 rfl dL_areSums_135 ?_
    refine V_iload X 9 rfl dL_areSums_136 ?_
    refine V_iadd X dL_areSums_138 ?_
    refine V_istore_n X (by decide) rfl dL_areSums_139 ?_
    refine V_aload_n X 1 rfl dL_areSums_140 ?_
    refine V_iload X 8 rfl dL_areSums_141 ?_
    refine V_iconst X (v := 2) (by decide) dL_areSums_143 ?_
    obtain ⟨c2, e_c2, hf4⟩ := obd hf2
    refine V_callVi X (OB_0 hE) rfl rfl (f7_ofQuarter_ok hE e_c2) ys_X7_ofQuarter yw_X7_ofQuarter ml_L_23 rfl rfl ⟨Nat.le_of_ble_eq_true rfl, Nat.le_of_ble_eq_true rfl⟩ ⟨Nat.zero_le _, Nat.zero_le _⟩ (Nat.le_of_ble_eq_true rfl) dL_areSums_144 ?_
    refine V_istore X (by decide) rfl dL_areSums_147 ?_
    refine V_iload X 10 rfl dL_areSums_149 ?_
    refine V_aload_n X 2 rfl dL_areSums_151 ?_
    refine V_iload X 9 rfl dL_areSums_152 ?_
    refine V_iconst X (v := 0) (by decide) dL_areSums_154 ?_
    obtain ⟨c4, e_c4, hf6⟩ := obd hf4
    refine V_callVi X (OB_0 hE) rfl rfl (f7_ofQuarter_ok hE e_c4) ys_X7_ofQuarter yw_X7_ofQuarter ml_L_23 rfl rfl ⟨Nat.le_of_ble_eq_true rfl, Nat.le_of_ble_eq_true rfl⟩ ⟨Nat.zero_le _, Nat.zero_le _⟩ (Nat.le_of_ble_eq_true rfl) dL_areSums_155 ?_
    refine V_icmp_ne X (tgt := 182) (by decide) dL_areSums_158 (fun q158 => ?_) (fun q158 => ?_)
    · have hf7 := ife hf6 q158
      refine V_iconst X (v := 0) (by decide) dL_areSums_182 ?_
      refine V_istore X (by decide) rfl dL_areSums_183 ?_
      refine V_iinc X (v := _ + 1) 10 rfl (by rfl) (by decide) rfl dL_areSums_185 ?_
      refine V_goto X (tgt := 90) (by decide) dL_areSums_188 ?_
      exact V_sub [4, 5, 3, 6, 7, 8, 9, 10, 1, 0] rfl (hk90 _ _ _ _ _ _ _ _ _ _ hf7)
    · have hf7 := ift hf6 q158
      refine V_iload X 0 rfl dL_areSums_161 ?_
      refine V_if_eq X (tgt := 178) (by decide) dL_areSums_163 (fun q163 => ?_) (fun q163 => ?_)
      · have hf8 := ift hf7 q163
        exact V_sub [2, 3, 1, 4, 5, 6, 7, 8, 9] rfl (fL_areSums_j178_ok hE X hk90 hf8)
      · have hf8 := ife hf7 q163
        refine V_aload_n X 2 rfl dL_areSums_166 ?_
        refine V_iload X 0 rfl dL_areSums_167 ?_
        refine V_iconst X (v := 1) (by decide) dL_areSums_169 ?_
        obtain ⟨c8, e_c8, hf10⟩ := obd hf8
        refine V_callVi X (OB_0 hE) rfl rfl (f7_ofColour_ok hE e_c8) ys_X7_ofColour yw_X7_ofColour ml_L_32 rfl rfl ⟨Nat.le_of_ble_eq_true rfl, Nat.le_of_ble_eq_true rfl⟩ ⟨Nat.zero_le _, Nat.zero_le _⟩ (Nat.le_of_ble_eq_true rfl) dL_areSums_170 ?_
        refine V_iload X 9 rfl dL_areSums_173 ?_
        refine V_icmp_ne X (tgt := 182) (by decide) dL_areSums_175 (fun q175 => ?_) (fun q175 => ?_)
        · have hf11 := ife hf10 q175
          refine V_iconst X (v := 0) (by decide) dL_areSums_182 ?_
          refine V_istore X (by decide) rfl dL_areSums_183 ?_
          refine V_iinc X (v := _ + 1) 10 rfl (by rfl) (by decide) rfl dL_areSums_185 ?_
          refine V_goto X (tgt := 90) (by decide) dL_areSums_188 ?_
          exact V_sub [4, 5, 3, 6, 7, 8, 9, 10, 1, 0] rfl (hk90 _ _ _ _ _ _ _ _ _ _ hf11)
        · have hf11 := ift hf10 q175
          exact V_sub [2, 3, 1, 4, 5, 6, 7, 8, 9] rfl (fL_areSums_j178_ok hE X hk90 hf11)
  · have hf2 := ife hf1 q111
    refine V_iload X 9 rfl dL_areSums_114 ?_
    refine V_aload_n X 0 rfl dL_areSums_116 ?_
    refine V_iload X 8 rfl dL_areSums_117 ?_
    refine V_iconst X (v := 4) (by decide) dL_areSums_119 ?_
    refine V_iload X 10 rfl dL_areSums_120 ?_
    refine V_iadd X dL_areSums_122 ?_
    obtain ⟨c11, e_c11, hf13⟩ := obd hf2
    refine V_callVi X (OB_0 hE) rfl rfl (f7_ofQuarter_ok hE e_c11) ys_X7_ofQuarter yw_X7_ofQuarter ml_L_23 rfl rfl ⟨Nat.le_of_ble_eq_true rfl, Nat.le_of_ble_eq_true rfl⟩ ⟨Nat.zero_le _, Nat.zero_le _⟩ (Nat.le_of_ble_eq_true rfl) dL_areSums_123 ?_
    refine V_iadd X dL_areSums_126 ?_
    refine V_istore X (by decide) rfl dL_areSums_127 ?_
    refine V_iinc X (v := _ + 1) 10 rfl (by rfl) (by decide) rfl dL_areSums_129 ?_
    refine V_goto X (tgt := 107) (by decide) dL_areSums_132 ?_
    exact V_sub [2, 3, 4, 5, 6, 7, 8, 9, 10, 1, 0] rfl (hk107 _ _ _ _ _ _ _ _ _ _ _ hf13)
def fL_areSums_L107 (k90 : Int32 → Int32 → Int32 → Int32 → Int32 → Int32 → Int32 → Int32 → Int32 → Hp → Re) : Nat → Int32 → Int32 → Int32 → Int32 → Int32 → Int32 → Int32 → Int32 → Int32 → Int32 → Hp → Re
  | 0 => fun _ _ _ _ _ _ _ _ _ _ _ => none
  | n + 1 => fL_areSums_B107 k90 (fL_areSums_L107 k90 n)
theorem fL_areSums_L107_s (k90 : Int32 → Int32 → Int32 → Int32 → Int32 → Int32 → Int32 → Int32 → Int32 → Hp → Re) (n : Nat) (x1 : Int32) (x2 : Int32) (x3 : Int32) (x4 : Int32) (x5 : Int32) (x6 : Int32) (x7 : Int32) (x9 : Int32) (x10 : Int32) (x11 : Int32) (h : Hp) : fL_areSums_L107 k90 (n + 1) x1 x2 x3 x4 x5 x6 x7 x9 x10 x11 h = fL_areSums_B107 k90 (fL_areSums_L107 k90 n) x1 x2 x3 x4 x5 x6 x7 x9 x10 x11 h := rfl
theorem fL_areSums_L107_ok (hE : IW E) (X : XC E RL cL_areSums 12 (some .boolean) A p s m args meth c) {k90 : Int32 → Int32 → Int32 → Int32 → Int32 → Int32 → Int32 → Int32 → Int32 → Hp → Re} (hk90 : ∀ (x1 : Int32) (x2 : Int32) (x3 : Int32) (x4 : Int32) (x5 : Int32) (x6 : Int32) (x7 : Int32) (x8 : Int32) (x9 : Int32) (h : Hp), k90 x1 x2 x3 x4 x5 x6 x7 x8 x9 h = some (r, h') → VM E 12 A p l e 8 s m args below meth c (Qi E A r h') 90 [(0, .ref (eA E 0)), (1, .int x1), (2, .int x2), (3, .int x3), (4, .int x4), (5, .int x5), (6, .int x6), (7, .int x7), (8, .int x8), (9, .int x9)] [] h) : ∀ (n : Nat) (x1 : Int32) (x2 : Int32) (x3 : Int32) (x4 : Int32) (x5 : Int32) (x6 : Int32) (x7 : Int32) (x9 : Int32) (x10 : Int32) (x11 : Int32) (h : Hp), fL_areSums_L107 k90 n x1 x2 x3 x4 x5 x6 x7 x9 x10 x11 h = some (r, h') → VM E 12 A p l e 8 s m args below meth c (Qi E A r h') 107 [(0, .ref (eA E 0)), (1, .int x1), (2, .int x2), (3, .int x3), (4, .int x4), (5, .int x5), (6, .int x6), (7, .int x7), (9, .int x9), (10, .int x10), (11, .int x11)] [] h := by
  intro n
  induction n with
  | zero =>
    intro x1 x2 x3 x4 x5 x6 x7 x9 x10 x11 h q
    have q : (none : Re) = some (r, h') := q
    cases q
  | succ n ih =>
    intro x1 x2 x3 x4 x5 x6 x7 x9 x10 x11 h q
    exact fL_areSums_B107_ok hE X hk90 ih q
def fL_areSums_B90 (k90 : Int32 → Int32 → Int32 → Int32 → Int32 → Int32 → Int32 → Int32 → Int32 → Hp → Re) (x1 : Int32) (x2 : Int32) (x3 : Int32) (x4 : Int32) (x5 : Int32) (x6 : Int32) (x7 : Int32) (x8 : Int32) (x9 : Int32) (h : Hp) : Re :=
  if 4 ≤ x9 then (fL_areSums_L194 FU x1 x2 x3 x4 x5 x6 x7 x8 1 h) else (if x8 = 0 then (fL_areSums_L194 FU x1 x2 x3 x4 x5 x6 x7 x8 1 h) else (fL_areSums_L107 k90 FU x1 x2 x3 x4 x5 x6 x7 x9 0 1 h))
set_option maxRecDepth 20000 in
set_option maxHeartbeats 4000000 in
theorem fL_areSums_B90_ok (hE : IW E) (X : XC E RL cL_areSums 12 (some .boolean) A p s m args meth c) {k90 : Int32 → Int32 → Int32 → Int32 → Int32 → Int32 → Int32 → Int32 → Int32 → Hp → Re} (hk90 : ∀ (x1 : Int32) (x2 : Int32) (x3 : Int32) (x4 : Int32) (x5 : Int32) (x6 : Int32) (x7 : Int32) (x8 : Int32) (x9 : Int32) (h : Hp), k90 x1 x2 x3 x4 x5 x6 x7 x8 x9 h = some (r, h') → VM E 12 A p l e 8 s m args below meth c (Qi E A r h') 90 [(0, .ref (eA E 0)), (1, .int x1), (2, .int x2), (3, .int x3), (4, .int x4), (5, .int x5), (6, .int x6), (7, .int x7), (8, .int x8), (9, .int x9)] [] h) {x1 : Int32} {x2 : Int32} {x3 : Int32} {x4 : Int32} {x5 : Int32} {x6 : Int32} {x7 : Int32} {x8 : Int32} {x9 : Int32} {h : Hp} (hf0 : fL_areSums_B90 k90 x1 x2 x3 x4 x5 x6 x7 x8 x9 h = some (r, h')) : VM E 12 A p l e 8 s m args below meth c (Qi E A r h') 90 [(0, .ref (eA E 0)), (1, .int x1), (2, .int x2), (3, .int x3), (4, .int x4), (5, .int x5), (6, .int x6), (7, .int x7), (8, .int x8), (9, .int x9)] [] h := by
  unfold fL_areSums_B90 at hf0
  have hf1 := hf0
  refine V_iload X 9 rfl dL_areSums_90 ?_
  refine V_iconst X (v := 4) (by decide) dL_areSums_92 ?_
  refine V_icmp_ge X (tgt := 191) (by decide) dL_areSums_93 (fun q93 => ?_) (fun q93 => ?_)
  · have hf2 := ift hf1 q93
    refine V_iconst X (v := 1) (by decide) dL_areSums_191 ?_
    refine V_istore X (by decide) rfl dL_areSums_192 ?_
    exact V_sub [1, 2, 3, 4, 5, 6, 7, 8, 9, 0] rfl (fL_areSums_L194_ok hE X FU _ _ _ _ _ _ _ _ _ _ hf2)
  · have hf2 := ife hf1 q93
    refine V_iload X 8 rfl dL_areSums_96 ?_
    refine V_if_eq X (tgt := 191) (by decide) dL_areSums_98 (fun q98 => ?_) (fun q98 => ?_)
    · have hf3 := ift hf2 q98
      refine V_iconst X (v := 1) (by decide) dL_areSums_191 ?_
      refine V_istore X (by decide) rfl dL_areSums_192 ?_
      exact V_sub [1, 2, 3, 4, 5, 6, 7, 8, 9, 0] rfl (fL_areSums_L194_ok hE X FU _ _ _ _ _ _ _ _ _ _ hf3)
    · have hf3 := ife hf2 q98
      refine V_iconst X (v := 0) (by decide) dL_areSums_101 ?_
      refine V_istore X (by decide) rfl dL_areSums_102 ?_
      refine V_iconst X (v := 1) (by decide) dL_areSums_104 ?_
      refine V_istore X (by decide) rfl dL_areSums_105 ?_
      exact V_sub [2, 3, 4, 5, 6, 7, 8, 9, 11, 1, 0] rfl (fL_areSums_L107_ok hE X hk90 FU _ _ _ _ _ _ _ _ _ _ _ hf3)
def fL_areSums_L90 : Nat → Int32 → Int32 → Int32 → Int32 → Int32 → Int32 → Int32 → Int32 → Int32 → Hp → Re
  | 0 => fun _ _ _ _ _ _ _ _ _ _ => none
  | n + 1 => fL_areSums_B90 (fL_areSums_L90 n)
theorem fL_areSums_L90_s (n : Nat) (x1 : Int32) (x2 : Int32) (x3 : Int32) (x4 : Int32) (x5 : Int32) (x6 : Int32) (x7 : Int32) (x8 : Int32) (x9 : Int32) (h : Hp) : fL_areSums_L90 (n + 1) x1 x2 x3 x4 x5 x6 x7 x8 x9 h = fL_areSums_B90 (fL_areSums_L90 n) x1 x2 x3 x4 x5 x6 x7 x8 x9 h := rfl
theorem fL_areSums_L90_ok (hE : IW E) (X : XC E RL cL_areSums 12 (some .boolean) A p s m args meth c) : ∀ (n : Nat) (x1 : Int32) (x2 : Int32) (x3 : Int32) (x4 : Int32) (x5 : Int32) (x6 : Int32) (x7 : Int32) (x8 : Int32) (x9 : Int32) (h : Hp), fL_areSums_L90 n x1 x2 x3 x4 x5 x6 x7 x8 x9 h = some (r, h') → VM E 12 A p l e 8 s m args below meth c (Qi E A r h') 90 [(0, .ref (eA E 0)), (1, .int x1), (2, .int x2), (3, .int x3), (4, .int x4), (5, .int x5), (6, .int x6), (7, .int x7), (8, .int x8), (9, .int x9)] [] h := by
  intro n
  induction n with
  | zero =>
    intro x1 x2 x3 x4 x5 x6 x7 x8 x9 h q
    have q : (none : Re) = some (r, h') := q
    cases q
  | succ n ih =>
    intro x1 x2 x3 x4 x5 x6 x7 x8 x9 h q
    exact fL_areSums_B90_ok hE X ih q
def fL_areSums_B24 (k24 : Int32 → Int32 → Int32 → Int32 → Int32 → Int32 → Int32 → Int32 → Int32 → Hp → Re) (x1 : Int32) (x2 : Int32) (x3 : Int32) (x4 : Int32) (x5 : Int32) (x6 : Int32) (x7 : Int32) (x8 : Int32) (x9 : Int32) (h : Hp) : Re :=
  if 5 ≤ x9 then (fL_areSums_L90 FU x1 x2 x3 x4 x5 x6 x7 x8 0 h) else (if x8 = 0 then (fL_areSums_L90 FU x1 x2 x3 x4 x5 x6 x7 x8 0 h) else ((f7_ofRing x9 5 h).bind fun c3 => (f7_ofRing x9 6 c3.2).bind fun c5 => (f7_ofRing x9 2 c5.2).bind fun c7 => (fL_isRing x9 c7.2).bind fun c9 => k24 (x1 + c3.1) x2 x3 (x4 + c5.1) x5 (x6 ||| (c7.1 <<< (x9 &&& 31))) x7 c9.1 (x9 + 1) c9.2))
set_option maxRecDepth 20000 in
set_option maxHeartbeats 4000000 in
theorem fL_areSums_B24_ok (hE : IW E) (X : XC E RL cL_areSums 12 (some .boolean) A p s m args meth c) {k24 : Int32 → Int32 → Int32 → Int32 → Int32 → Int32 → Int32 → Int32 → Int32 → Hp → Re} (hk24 : ∀ (x1 : Int32) (x2 : Int32) (x3 : Int32) (x4 : Int32) (x5 : Int32) (x6 : Int32) (x7 : Int32) (x8 : Int32) (x9 : Int32) (h : Hp), k24 x1 x2 x3 x4 x5 x6 x7 x8 x9 h = some (r, h') → VM E 12 A p l e 8 s m args below meth c (Qi E A r h') 24 [(0, .ref (eA E 0)), (1, .int x1), (2, .int x2), (3, .int x3), (4, .int x4), (5, .int x5), (6, .int x6), (7, .int x7), (8, .int x8), (9, .int x9)] [] h) {x1 : Int32} {x2 : Int32} {x3 : Int32} {x4 : Int32} {x5 : Int32} {x6 : Int32} {x7 : Int32} {x8 : Int32} {x9 : Int32} {h : Hp} (hf0 : fL_areSums_B24 k24 x1 x2 x3 x4 x5 x6 x7 x8 x9 h = some (r, h')) : VM E 12 A p l e 8 s m args below meth c (Qi E A r h') 24 [(0, .ref (eA E 0)), (1, .int x1), (2, .int x2), (3, .int x3), (4, .int x4), (5, .int x5), (6, .int x6), (7, .int x7), (8, .int x8), (9, .int x9)] [] h := by
  unfold fL_areSums_B24 at hf0
  have hf1 := hf0
  refine V_iload X 9 rfl dL_areSums_24 ?_
  refine V_iconst X (v := 5) (by decide) dL_areSums_26 ?_
  refine V_icmp_ge X (tgt := 87) (by decide) dL_areSums_27 (fun q27 => ?_) (fun q27 => ?_)
  · have hf2 := ift hf1 q27
    refine V_iconst X (v := 0) (by decide) dL_areSums_87 ?_
    refine V_istore X (by decide) rfl dL_areSums_88 ?_
    exact V_sub [1, 2, 3, 4, 5, 6, 7, 8, 9, 0] rfl (fL_areSums_L90_ok hE X FU _ _ _ _ _ _ _ _ _ _ hf2)
  · have hf2 := ife hf1 q27
    refine V_iload X 8 rfl dL_areSums_30 ?_
    refine V_if_eq X (tgt := 87) (by decide) dL_areSums_32 (fun q32 => ?_) (fun q32 => ?_)
    · have hf3 := ift hf2 q32
      refine V_iconst X (v := 0) (by decide) dL_areSums_87 ?_
      refine V_istore X (by decide) rfl dL_areSums_88 ?_
      exact V_sub [1, 2, 3, 4, 5, 6, 7, 8, 9, 0] rfl (fL_areSums_L90_ok hE X FU _ _ _ _ _ _ _ _ _ _ hf3)
    · have hf3 := ife hf2 q32
      refine V_iload_n X 1 rfl dL_areSums_35 ?_
      refine V_aload_n X 0 rfl dL_areSums_36 ?_
      refine V_iload X 9 rfl dL_areSums_37 ?_
      refine V_iconst X (v := 5) (by decide) dL_areSums_39 ?_
      obtain ⟨c3, e_c3, hf5⟩ := obd hf3
      refine V_callVi X (OB_0 hE) rfl rfl (f7_ofRing_ok hE e_c3) ys_X7_ofRing yw_X7_ofRing ml_L_9 rfl rfl ⟨Nat.le_of_ble_eq_true rfl, Nat.le_of_ble_eq_true rfl⟩ ⟨Nat.zero_le _, Nat.zero_le _⟩ (Nat.le_of_ble_eq_true rfl) dL_areSums_40 ?_
      refine V_iadd X dL_areSums_43 ?_
      refine V_istore_n X (by decide) rfl dL_areSums_44 ?_
      refine V_iload X 4 rfl dL_areSums_45 ?_
      refine V_aload_n X 1 rfl dL_areSums_47 ?_
      refine V_iload X 9 rfl dL_areSums_48 ?_
      refine V_bipush X (v := 6) (by decide) dL_areSums_50 ?_
      obtain ⟨c5, e_c5, hf7⟩ := obd hf5
      refine V_callVi X (OB_0 hE) rfl rfl (f7_ofRing_ok hE e_c5) ys_X7_ofRing yw_X7_ofRing ml_L_9 rfl rfl ⟨Nat.le_of_ble_eq_true rfl, Nat.le_of_ble_eq_true rfl⟩ ⟨Nat.zero_le _, Nat.zero_le _⟩ (Nat.le_of_ble_eq_true rfl) dL_areSums_52 ?_
      refine V_iadd X dL_areSums_55 ?_
      refine V_istore X (by decide) rfl dL_areSums_56 ?_
      refine V_iload X 6 rfl dL_areSums_58 ?_
      refine V_aload_n X 2 rfl dL_areSums_60 ?_
      refine V_iload X 9 rfl dL_areSums_61 ?_
      refine V_iconst X (v := 2) (by decide) dL_areSums_63 ?_
      obtain ⟨c7, e_c7, hf9⟩ := obd hf7
      refine V_callVi X (OB_0 hE) rfl rfl (f7_ofRing_ok hE e_c7) ys_X7_ofRing yw_X7_ofRing ml_L_9 rfl rfl ⟨Nat.le_of_ble_eq_true rfl, Nat.le_of_ble_eq_true rfl⟩ ⟨Nat.zero_le _, Nat.zero_le _⟩ (Nat.le_of_ble_eq_true rfl) dL_areSums_64 ?_
      refine V_iload X 9 rfl dL_areSums_67 ?_
      refine V_ishl X dL_areSums_69 ?_
      refine V_ior X dL_areSums_70 ?_
      refine V_istore X (by decide) rfl dL_areSums_71 ?_
      refine V_aload_n X 3 rfl dL_areSums_73 ?_
      refine V_iload X 9 rfl dL_areSums_74 ?_
      obtain ⟨c9, e_c9, hf11⟩ := obd hf9
      refine V_callSi X (fL_isRing_ok hE e_c9) ys_L_isRing yw_L_isRing ml_L_26 rfl rfl ⟨Nat.le_of_ble_eq_true rfl, Nat.le_of_ble_eq_true rfl⟩ ⟨Nat.zero_le _, Nat.zero_le _⟩ (Nat.le_of_ble_eq_true rfl) dL_areSums_76 ?_
      refine V_istore X (by decide) rfl dL_areSums_79 ?_
      refine V_iinc X (v := _ + 1) 9 rfl (by rfl) (by decide) rfl dL_areSums_81 ?_
      refine V_goto X (tgt := 24) (by decide) dL_areSums_84 ?_
      exact V_sub [5, 4, 6, 7, 3, 8, 2, 9, 1, 0] rfl (hk24 _ _ _ _ _ _ _ _ _ _ hf11)
def fL_areSums_L24 : Nat → Int32 → Int32 → Int32 → Int32 → Int32 → Int32 → Int32 → Int32 → Int32 → Hp → Re
  | 0 => fun _ _ _ _ _ _ _ _ _ _ => none
  | n + 1 => fL_areSums_B24 (fL_areSums_L24 n)
theorem fL_areSums_L24_s (n : Nat) (x1 : Int32) (x2 : Int32) (x3 : Int32) (x4 : Int32) (x5 : Int32) (x6 : Int32) (x7 : Int32) (x8 : Int32) (x9 : Int32) (h : Hp) : fL_areSums_L24 (n + 1) x1 x2 x3 x4 x5 x6 x7 x8 x9 h = fL_areSums_B24 (fL_areSums_L24 n) x1 x2 x3 x4 x5 x6 x7 x8 x9 h := rfl
theorem fL_areSums_L24_ok (hE : IW E) (X : XC E RL cL_areSums 12 (some .boolean) A p s m args meth c) : ∀ (n : Nat) (x1 : Int32) (x2 : Int32) (x3 : Int32) (x4 : Int32) (x5 : Int32) (x6 : Int32) (x7 : Int32) (x8 : Int32) (x9 : Int32) (h : Hp), fL_areSums_L24 n x1 x2 x3 x4 x5 x6 x7 x8 x9 h = some (r, h') → VM E 12 A p l e 8 s m args below meth c (Qi E A r h') 24 [(0, .ref (eA E 0)), (1, .int x1), (2, .int x2), (3, .int x3), (4, .int x4), (5, .int x5), (6, .int x6), (7, .int x7), (8, .int x8), (9, .int x9)] [] h := by
  intro n
  induction n with
  | zero =>
    intro x1 x2 x3 x4 x5 x6 x7 x8 x9 h q
    have q : (none : Re) = some (r, h') := q
    cases q
  | succ n ih =>
    intro x1 x2 x3 x4 x5 x6 x7 x8 x9 h q
    exact fL_areSums_B24_ok hE X ih q
def fL_areSums_e (h : Hp) : Re :=
  fL_areSums_L24 FU 0 0 0 0 0 0 0 1 0 h
set_option maxRecDepth 20000 in
set_option maxHeartbeats 4000000 in
theorem fL_areSums_e_ok (hE : IW E) (X : XC E RL cL_areSums 12 (some .boolean) A p s m args meth c) {h : Hp} (hf0 : fL_areSums_e  h = some (r, h')) : VM E 12 A p l e 8 s m args below meth c (Qi E A r h') 0 [(0, .ref (eA E 0))] [] h := by
  unfold fL_areSums_e at hf0
  have hf1 := hf0
  refine V_iconst X (v := 0) (by decide) dL_areSums_0 ?_
  refine V_istore_n X (by decide) rfl dL_areSums_1 ?_
  refine V_iconst X (v := 0) (by decide) dL_areSums_2 ?_
  refine V_istore_n X (by decide) rfl dL_areSums_3 ?_
  refine V_iconst X (v := 0) (by decide) dL_areSums_4 ?_
  refine V_istore_n X (by decide) rfl dL_areSums_5 ?_
  refine V_iconst X (v := 0) (by decide) dL_areSums_6 ?_
  refine V_istore X (by decide) rfl dL_areSums_7 ?_
  refine V_iconst X (v := 0) (by decide) dL_areSums_9 ?_
  refine V_istore X (by decide) rfl dL_areSums_10 ?_
  refine V_iconst X (v := 0) (by decide) dL_areSums_12 ?_
  refine V_istore X (by decide) rfl dL_areSums_13 ?_
  refine V_iconst X (v := 0) (by decide) dL_areSums_15 ?_
  refine V_istore X (by decide) rfl dL_areSums_16 ?_
  refine V_iconst X (v := 1) (by decide) dL_areSums_18 ?_
  refine V_istore X (by decide) rfl dL_areSums_19 ?_
  refine V_iconst X (v := 0) (by decide) dL_areSums_21 ?_
  refine V_istore X (by decide) rfl dL_areSums_22 ?_
  exact V_sub [9, 8, 7, 6, 5, 4, 3, 2, 1, 0] rfl (fL_areSums_L24_ok hE X FU _ _ _ _ _ _ _ _ _ _ hf1)
def fL_areSums (h : Hp) : Re := fL_areSums_e  h
theorem fL_areSums_ok (hE : IW E) {h : Hp} {q : Int32 × Hp} (hf0 : fL_areSums  h = some q) : SMi l E 8 yL_areSums cL_areSums 12 (some .boolean) [.ref (eA E 0)] h q.1 q.2 :=
  SMi.of (by decide +kernel) (Nat.le_of_ble_eq_true rfl) (fun p e s m args below meth c A X => fL_areSums_e_ok hE X (r := q.1) (h' := q.2) hf0)
end DM
