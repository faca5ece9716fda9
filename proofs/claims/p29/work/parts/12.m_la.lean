section DM
variable {E : EN} {A : Nat → Prop} {p : Program} {l : Launch} {e : Env} {s : State} {m : MethodId} {args : Array Value} {below : List Frame} {meth : Method} {c : Code} {r : Int32} {h' : Hp}
def fL_acts_j185 (x2 : Int32) (x5 : Int32) (x10 : Int32) (x12 : Int32) (h : Hp) : Re :=
  if x12 = x5 then ((f7_ofColour x10 1 h).bind fun c2 => if c2.1 = x2 then (rz 1 c2.2) else (rz 0 c2.2)) else (rz 0 h)
set_option maxRecDepth 20000 in
set_option maxHeartbeats 4000000 in
theorem fL_acts_j185_ok (hE : IW E) (X : XC E RL cL_acts 35 (some .boolean) A p s m args meth c) {x2 : Int32} {x5 : Int32} {x10 : Int32} {x12 : Int32} {h : Hp} (hf0 : fL_acts_j185 x2 x5 x10 x12 h = some (r, h')) : VM E 35 A p l e 7 s m args below meth c (Qi E A r h') 185 [(0, .ref (eA E 0)), (2, .int x2), (5, .int x5), (10, .int x10), (12, .int x12)] [] h := by
  unfold fL_acts_j185 at hf0
  have hf1 := hf0
  refine V_iload X 4 rfl dL_acts_185 ?_
  refine V_iload X 2 rfl dL_acts_187 ?_
  refine V_icmp_ne X (tgt := 207) (by decide) dL_acts_189 (fun q189 => ?_) (fun q189 => ?_)
  · have hf2 := ife hf1 q189
    refine V_iconst X (v := 0) (by decide) dL_acts_207 ?_
    exact V_zret X rfl hf2 dL_acts_208
  · have hf2 := ift hf1 q189
    refine V_aload_n X 0 rfl dL_acts_192 ?_
    refine V_iload X 3 rfl dL_acts_193 ?_
    refine V_iconst X (v := 1) (by decide) dL_acts_195 ?_
    obtain ⟨c2, e_c2, hf4⟩ := obd hf2
    refine V_callVi X (OB_0 hE) rfl rfl (f7_ofColour_ok hE e_c2) ys_X7_ofColour yw_X7_ofColour ml_L_32 rfl rfl ⟨Nat.le_of_ble_eq_true rfl, Nat.le_of_ble_eq_true rfl⟩ ⟨Nat.zero_le _, Nat.zero_le _⟩ (Nat.le_of_ble_eq_true rfl) dL_acts_196 ?_
    refine V_iload_n X 1 rfl dL_acts_199 ?_
    refine V_icmp_ne X (tgt := 207) (by decide) dL_acts_200 (fun q200 => ?_) (fun q200 => ?_)
    · have hf5 := ife hf4 q200
      refine V_iconst X (v := 0) (by decide) dL_acts_207 ?_
      exact V_zret X rfl hf5 dL_acts_208
    · have hf5 := ift hf4 q200
      refine V_iconst X (v := 1) (by decide) dL_acts_203 ?_
      refine V_goto X (tgt := 208) (by decide) dL_acts_204 ?_
      exact V_zret X rfl hf5 dL_acts_208
def fL_acts_j272 (x2 : Int32) (x3 : Int32) (x4 : Int32) (x5 : Int32) (x7 : Int32) (x13 : Int32) (x14 : Int32) (y0 : Int32) (h : Hp) : Re :=
  (f7_pour x2 x3 x4 x13 h).bind fun c1 => if y0 = 0 then (if c1.1 = (-5) then (rz 1 c1.2) else (rz 0 c1.2)) else (if (x7 + x13) ≤ 99 then (if c1.1 = (x7 + x13) then ((f7_at x2 x3 x4 0 c1.2).bind fun c6 => if c6.1 = x5 then ((f7_ofColour x5 0 c6.2).bind fun c9 => if c9.1 = (x14 - x13) then (rz 1 c9.2) else (rz 0 c9.2)) else (rz 0 c6.2)) else (rz 0 c1.2)) else (if c1.1 = (-4) then (rz 1 c1.2) else (rz 0 c1.2)))
set_option maxRecDepth 20000 in
set_option maxHeartbeats 4000000 in
theorem fL_acts_j272_ok (hE : IW E) (X : XC E RL cL_acts 35 (some .boolean) A p s m args meth c) {x2 : Int32} {x3 : Int32} {x4 : Int32} {x5 : Int32} {x7 : Int32} {x13 : Int32} {x14 : Int32} {y0 : Int32} {h : Hp} (hf0 : fL_acts_j272 x2 x3 x4 x5 x7 x13 x14 y0 h = some (r, h')) : VM E 35 A p l e 7 s m args below meth c (Qi E A r h') 272 [(0, .ref (eA E 0)), (2, .int x2), (3, .int x3), (4, .int x4), (5, .int x5), (7, .int x7), (13, .int x13), (14, .int x14)] [.int y0] h := by
  unfold fL_acts_j272 at hf0
  have hf1 := hf0
  refine V_istore X (by decide) rfl dL_acts_272 ?_
  refine V_aload_n X 1 rfl dL_acts_274 ?_
  refine V_iload_n X 2 rfl dL_acts_275 ?_
  refine V_iload_n X 3 rfl dL_acts_276 ?_
  refine V_iload X 4 rfl dL_acts_277 ?_
  refine V_iload X 7 rfl dL_acts_279 ?_
  obtain ⟨c1, e_c1, hf3⟩ := obd hf1
  refine V_callVi X (OB_0 hE) rfl rfl (f7_pour_ok hE e_c1) ys_X7_pour yw_X7_pour ml_L_48 rfl rfl ⟨Nat.le_of_ble_eq_true rfl, Nat.le_of_ble_eq_true rfl⟩ ⟨Nat.zero_le _, Nat.zero_le _⟩ (Nat.le_of_ble_eq_true rfl) dL_acts_281 ?_
  refine V_istore X (by decide) rfl dL_acts_284 ?_
  refine V_iload X 1 rfl dL_acts_286 ?_
  refine V_if_ne X (tgt := 306) (by decide) dL_acts_288 (fun q288 => ?_) (fun q288 => ?_)
  · have hf4 := ife hf3 q288
    refine V_iload X 7 rfl dL_acts_306 ?_
    refine V_iload X 8 rfl dL_acts_308 ?_
    refine V_iadd X dL_acts_310 ?_
    refine V_bipush X (v := 99) (by decide) dL_acts_311 ?_
    refine V_icmp_le X (tgt := 331) (by decide) dL_acts_313 (fun q313 => ?_) (fun q313 => ?_)
    · have hf5 := ift hf4 q313
      refine V_iload X 0 rfl dL_acts_331 ?_
      refine V_iload X 7 rfl dL_acts_333 ?_
      refine V_iload X 8 rfl dL_acts_335 ?_
      refine V_iadd X dL_acts_337 ?_
      refine V_icmp_ne X (tgt := 374) (by decide) dL_acts_338 (fun q338 => ?_) (fun q338 => ?_)
      · have hf6 := ife hf5 q338
        refine V_iconst X (v := 0) (by decide) dL_acts_374 ?_
        exact V_zret X rfl hf6 dL_acts_375
      · have hf6 := ift hf5 q338
        refine V_aload_n X 2 rfl dL_acts_341 ?_
        refine V_iload_n X 3 rfl dL_acts_342 ?_
        refine V_iload_n X 4 rfl dL_acts_343 ?_
        refine V_iload X 5 rfl dL_acts_344 ?_
        refine V_iconst X (v := 0) (by decide) dL_acts_346 ?_
        obtain ⟨c6, e_c6, hf8⟩ := obd hf6
        refine V_callVi X (OB_0 hE) rfl rfl (f7_at_ok hE e_c6) ys_X7_at yw_X7_at ml_L_15 rfl rfl ⟨Nat.le_of_ble_eq_true rfl, Nat.le_of_ble_eq_true rfl⟩ ⟨Nat.zero_le _, Nat.zero_le _⟩ (Nat.le_of_ble_eq_true rfl) dL_acts_347 ?_
        refine V_iload X 6 rfl dL_acts_350 ?_
        refine V_icmp_ne X (tgt := 374) (by decide) dL_acts_352 (fun q352 => ?_) (fun q352 => ?_)
        · have hf9 := ife hf8 q352
          refine V_iconst X (v := 0) (by decide) dL_acts_374 ?_
          exact V_zret X rfl hf9 dL_acts_375
        · have hf9 := ift hf8 q352
          refine V_aload_n X 2 rfl dL_acts_355 ?_
          refine V_iload X 6 rfl dL_acts_356 ?_
          refine V_iconst X (v := 0) (by decide) dL_acts_358 ?_
          obtain ⟨c9, e_c9, hf11⟩ := obd hf9
          refine V_callVi X (OB_0 hE) rfl rfl (f7_ofColour_ok hE e_c9) ys_X7_ofColour yw_X7_ofColour ml_L_32 rfl rfl ⟨Nat.le_of_ble_eq_true rfl, Nat.le_of_ble_eq_true rfl⟩ ⟨Nat.zero_le _, Nat.zero_le _⟩ (Nat.le_of_ble_eq_true rfl) dL_acts_359 ?_
          refine V_iload X 9 rfl dL_acts_362 ?_
          refine V_iload X 8 rfl dL_acts_364 ?_
          refine V_isub X dL_acts_366 ?_
          refine V_icmp_ne X (tgt := 374) (by decide) dL_acts_367 (fun q367 => ?_) (fun q367 => ?_)
          · have hf12 := ife hf11 q367
            refine V_iconst X (v := 0) (by decide) dL_acts_374 ?_
            exact V_zret X rfl hf12 dL_acts_375
          · have hf12 := ift hf11 q367
            refine V_iconst X (v := 1) (by decide) dL_acts_370 ?_
            refine V_goto X (tgt := 375) (by decide) dL_acts_371 ?_
            exact V_zret X rfl hf12 dL_acts_375
    · have hf5 := ife hf4 q313
      refine V_iload X 0 rfl dL_acts_316 ?_
      refine V_bipush X (v := -4) (by decide) dL_acts_318 ?_
      refine V_icmp_ne X (tgt := 327) (by decide) dL_acts_320 (fun q320 => ?_) (fun q320 => ?_)
      · have hf13 := ife hf5 q320
        refine V_iconst X (v := 0) (by decide) dL_acts_327 ?_
        refine V_goto X (tgt := 375) (by decide) dL_acts_328 ?_
        exact V_zret X rfl hf13 dL_acts_375
      · have hf13 := ift hf5 q320
        refine V_iconst X (v := 1) (by decide) dL_acts_323 ?_
        refine V_goto X (tgt := 375) (by decide) dL_acts_324 ?_
        exact V_zret X rfl hf13 dL_acts_375
  · have hf4 := ift hf3 q288
    refine V_iload X 0 rfl dL_acts_291 ?_
    refine V_bipush X (v := -5) (by decide) dL_acts_293 ?_
    refine V_icmp_ne X (tgt := 302) (by decide) dL_acts_295 (fun q295 => ?_) (fun q295 => ?_)
    · have hf14 := ife hf4 q295
      refine V_iconst X (v := 0) (by decide) dL_acts_302 ?_
      refine V_goto X (tgt := 375) (by decide) dL_acts_303 ?_
      exact V_zret X rfl hf14 dL_acts_375
    · have hf14 := ift hf4 q295
      refine V_iconst X (v := 1) (by decide) dL_acts_298 ?_
      refine V_goto X (tgt := 375) (by decide) dL_acts_299 ?_
      exact V_zret X rfl hf14 dL_acts_375
def fL_acts_j271 (x2 : Int32) (x3 : Int32) (x4 : Int32) (x5 : Int32) (x7 : Int32) (x13 : Int32) (x14 : Int32) (h : Hp) : Re :=
  fL_acts_j272 x2 x3 x4 x5 x7 x13 x14 0 h
set_option maxRecDepth 20000 in
set_option maxHeartbeats 4000000 in
theorem fL_acts_j271_ok (hE : IW E) (X : XC E RL cL_acts 35 (some .boolean) A p s m args meth c) {x2 : Int32} {x3 : Int32} {x4 : Int32} {x5 : Int32} {x7 : Int32} {x13 : Int32} {x14 : Int32} {h : Hp} (hf0 : fL_acts_j271 x2 x3 x4 x5 x7 x13 x14 h = some (r, h')) : VM E 35 A p l e 7 s m args below meth c (Qi E A r h') 271 [(0, .ref (eA E 0)), (2, .int x2), (3, .int x3), (4, .int x4), (5, .int x5), (7, .int x7), (13, .int x13), (14, .int x14)] [] h := by
  unfold fL_acts_j271 at hf0
  have hf1 := hf0
  refine V_iconst X (v := 0) (by decide) dL_acts_271 ?_
  exact V_sub [0, 1, 2, 3, 4, 5, 6, 7] rfl (fL_acts_j272_ok hE X hf1)
def fL_acts_j260 (x2 : Int32) (x3 : Int32) (x4 : Int32) (x5 : Int32) (x7 : Int32) (x13 : Int32) (x14 : Int32) (h : Hp) : Re :=
  if x14 < x13 then (fL_acts_j271 x2 x3 x4 x5 x7 x13 x14 h) else (fL_acts_j272 x2 x3 x4 x5 x7 x13 x14 1 h)
set_option maxRecDepth 20000 in
set_option maxHeartbeats 4000000 in
theorem fL_acts_j260_ok (hE : IW E) (X : XC E RL cL_acts 35 (some .boolean) A p s m args meth c) {x2 : Int32} {x3 : Int32} {x4 : Int32} {x5 : Int32} {x7 : Int32} {x13 : Int32} {x14 : Int32} {h : Hp} (hf0 : fL_acts_j260 x2 x3 x4 x5 x7 x13 x14 h = some (r, h')) : VM E 35 A p l e 7 s m args below meth c (Qi E A r h') 260 [(0, .ref (eA E 0)), (2, .int x2), (3, .int x3), (4, .int x4), (5, .int x5), (7, .int x7), (13, .int x13), (14, .int x14)] [] h := by
  unfold fL_acts_j260 at hf0
  have hf1 := hf0
  refine V_iload X 7 rfl dL_acts_260 ?_
  refine V_iload X 6 rfl dL_acts_262 ?_
  refine V_icmp_lt X (tgt := 271) (by decide) dL_acts_264 (fun q264 => ?_) (fun q264 => ?_)
  · have hf2 := ift hf1 q264
    exact V_sub [0, 1, 2, 3, 4, 5, 6, 7] rfl (fL_acts_j271_ok hE X hf2)
  · have hf2 := ife hf1 q264
    refine V_iconst X (v := 1) (by decide) dL_acts_267 ?_
    refine V_goto X (tgt := 272) (by decide) dL_acts_268 ?_
    exact V_sub [0, 1, 2, 3, 4, 5, 6, 7] rfl (fL_acts_j272_ok hE X hf2)
def fL_acts_j236 (x2 : Int32) (x3 : Int32) (x4 : Int32) (x5 : Int32) (x6 : Int32) (x7 : Int32) (x8 : Int32) (x13 : Int32) (y0 : Int32) (h : Hp) : Re :=
  if x5 ≤ 0 then (fL_acts_j271 x2 x3 x4 x5 x7 x13 y0 h) else (if x8 = 0 then (fL_acts_j271 x2 x3 x4 x5 x7 x13 y0 h) else (if x7 = 0 then (fL_acts_j260 x2 x3 x4 x5 x7 x13 y0 h) else (if x6 = x5 then (fL_acts_j260 x2 x3 x4 x5 x7 x13 y0 h) else (fL_acts_j271 x2 x3 x4 x5 x7 x13 y0 h))))
set_option maxRecDepth 20000 in
set_option maxHeartbeats 4000000 in
theorem fL_acts_j236_ok (hE : IW E) (X : XC E RL cL_acts 35 (some .boolean) A p s m args meth c) {x2 : Int32} {x3 : Int32} {x4 : Int32} {x5 : Int32} {x6 : Int32} {x7 : Int32} {x8 : Int32} {x13 : Int32} {y0 : Int32} {h : Hp} (hf0 : fL_acts_j236 x2 x3 x4 x5 x6 x7 x8 x13 y0 h = some (r, h')) : VM E 35 A p l e 7 s m args below meth c (Qi E A r h') 236 [(0, .ref (eA E 0)), (2, .int x2), (3, .int x3), (4, .int x4), (5, .int x5), (6, .int x6), (7, .int x7), (8, .int x8), (13, .int x13)] [.int y0] h := by
  unfold fL_acts_j236 at hf0
  have hf1 := hf0
  refine V_istore X (by decide) rfl dL_acts_236 ?_
  refine V_iload X 5 rfl dL_acts_238 ?_
  refine V_if_le X (tgt := 271) (by decide) dL_acts_240 (fun q240 => ?_) (fun q240 => ?_)
  · have hf2 := ift hf1 q240
    exact V_sub [1, 2, 3, 4, 5, 7, 9, 0] rfl (fL_acts_j271_ok hE X hf2)
  · have hf2 := ife hf1 q240
    refine V_iload X 8 rfl dL_acts_243 ?_
    refine V_if_eq X (tgt := 271) (by decide) dL_acts_245 (fun q245 => ?_) (fun q245 => ?_)
    · have hf3 := ift hf2 q245
      exact V_sub [1, 2, 3, 4, 5, 7, 9, 0] rfl (fL_acts_j271_ok hE X hf3)
    · have hf3 := ife hf2 q245
      refine V_iload X 7 rfl dL_acts_248 ?_
      refine V_if_eq X (tgt := 260) (by decide) dL_acts_250 (fun q250 => ?_) (fun q250 => ?_)
      · have hf4 := ift hf3 q250
        exact V_sub [1, 2, 3, 4, 5, 7, 9, 0] rfl (fL_acts_j260_ok hE X hf4)
      · have hf4 := ife hf3 q250
        refine V_iload X 6 rfl dL_acts_253 ?_
        refine V_iload X 5 rfl dL_acts_255 ?_
        refine V_icmp_ne X (tgt := 271) (by decide) dL_acts_257 (fun q257 => ?_) (fun q257 => ?_)
        · have hf5 := ife hf4 q257
          exact V_sub [1, 2, 3, 4, 5, 7, 9, 0] rfl (fL_acts_j271_ok hE X hf5)
        · have hf5 := ift hf4 q257
          exact V_sub [1, 2, 3, 4, 5, 7, 9, 0] rfl (fL_acts_j260_ok hE X hf5)
def fL_acts_j209 (x1 : Int32) (x2 : Int32) (x3 : Int32) (x4 : Int32) (x5 : Int32) (x6 : Int32) (x7 : Int32) (x8 : Int32) (h : Hp) : Re :=
  (some ((1 : Int32) + ((x1 >>> (12 &&& 31)) - (x1 >>> (12 &&& 31)) / 40 * 40) : Int32)).bind fun z1 => if x5 = 0 then (fL_acts_j236 x2 x3 x4 x5 x6 x7 x8 z1 0 h) else ((f7_ofColour x5 0 h).bind fun c4 => fL_acts_j236 x2 x3 x4 x5 x6 x7 x8 z1 c4.1 c4.2)
set_option maxRecDepth 20000 in
set_option maxHeartbeats 4000000 in
theorem fL_acts_j209_ok (hE : IW E) (X : XC E RL cL_acts 35 (some .boolean) A p s m args meth c) {x1 : Int32} {x2 : Int32} {x3 : Int32} {x4 : Int32} {x5 : Int32} {x6 : Int32} {x7 : Int32} {x8 : Int32} {h : Hp} (hf0 : fL_acts_j209 x1 x2 x3 x4 x5 x6 x7 x8 h = some (r, h')) : VM E 35 A p l e 7 s m args below meth c (Qi E A r h') 209 [(0, .ref (eA E 0)), (1, .int x1), (2, .int x2), (3, .int x3), (4, .int x4), (5, .int x5), (6, .int x6), (7, .int x7), (8, .int x8)] [] h := by
  unfold fL_acts_j209 at hf0
  have hf1 := hf0
  refine V_iconst X (v := 1) (by decide) dL_acts_209 ?_
  refine V_iload_n X 1 rfl dL_acts_210 ?_
  refine V_bipush X (v := 12) (by decide) dL_acts_211 ?_
  refine V_ishr X dL_acts_213 ?_
  refine V_bipush X (v := 40) (by decide) dL_acts_214 ?_
  refine V_irem X (by decide) dL_acts_216 ?_
  refine V_iadd X dL_acts_217 ?_
  refine V_istore X (by decide) rfl dL_acts_218 ?_
  have hf3 := obs hf1
  refine V_iload X 6 rfl dL_acts_220 ?_
  refine V_if_ne X (tgt := 229) (by decide) dL_acts_222 (fun q222 => ?_) (fun q222 => ?_)
  · have hf4 := ife hf3 q222
    refine V_aload_n X 1 rfl dL_acts_229 ?_
    refine V_iload X 6 rfl dL_acts_230 ?_
    refine V_iconst X (v := 0) (by decide) dL_acts_232 ?_
    obtain ⟨c4, e_c4, hf6⟩ := obd hf4
    refine V_callVi X (OB_0 hE) rfl rfl (f7_ofColour_ok hE e_c4) ys_X7_ofColour yw_X7_ofColour ml_L_32 rfl rfl ⟨Nat.le_of_ble_eq_true rfl, Nat.le_of_ble_eq_true rfl⟩ ⟨Nat.zero_le _, Nat.zero_le _⟩ (Nat.le_of_ble_eq_true rfl) dL_acts_233 ?_
    exact V_sub [1, 3, 4, 5, 6, 7, 8, 9, 0] rfl (fL_acts_j236_ok hE X hf6)
  · have hf4 := ift hf3 q222
    refine V_iconst X (v := 0) (by decide) dL_acts_225 ?_
    refine V_goto X (tgt := 236) (by decide) dL_acts_226 ?_
    exact V_sub [1, 3, 4, 5, 6, 7, 8, 9, 0] rfl (fL_acts_j236_ok hE X hf4)
def fL_acts_j396 (x17 : Int32) (h : Hp) : Re :=
  if x17 = (-5) then (rz 1 h) else (rz 0 h)
set_option maxRecDepth 20000 in
set_option maxHeartbeats 4000000 in
theorem fL_acts_j396_ok (hE : IW E) (X : XC E RL cL_acts 35 (some .boolean) A p s m args meth c) {x17 : Int32} {h : Hp} (hf0 : fL_acts_j396 x17 h = some (r, h')) : VM E 35 A p l e 7 s m args below meth c (Qi E A r h') 396 [(17, .int x17)] [] h := by
  unfold fL_acts_j396 at hf0
  have hf1 := hf0
  refine V_iload X 0 rfl dL_acts_396 ?_
  refine V_bipush X (v := -5) (by decide) dL_acts_398 ?_
  refine V_icmp_ne X (tgt := 407) (by decide) dL_acts_400 (fun q400 => ?_) (fun q400 => ?_)
  · have hf2 := ife hf1 q400
    refine V_iconst X (v := 0) (by decide) dL_acts_407 ?_
    refine V_goto X (tgt := 448) (by decide) dL_acts_408 ?_
    exact V_zret X rfl hf2 dL_acts_448
  · have hf2 := ift hf1 q400
    refine V_iconst X (v := 1) (by decide) dL_acts_403 ?_
    refine V_goto X (tgt := 448) (by decide) dL_acts_404 ?_
    exact V_zret X rfl hf2 dL_acts_448
def fL_acts_j677 (y0 : Int32) (y1 : Int32) (h : Hp) : Re :=
  if y1 = y0 then (rz 1 h) else (rz 0 h)
set_option maxRecDepth 20000 in
set_option maxHeartbeats 4000000 in
theorem fL_acts_j677_ok (hE : IW E) (X : XC E RL cL_acts 35 (some .boolean) A p s m args meth c) {y0 : Int32} {y1 : Int32} {h : Hp} (hf0 : fL_acts_j677 y0 y1 h = some (r, h')) : VM E 35 A p l e 7 s m args below meth c (Qi E A r h') 677 [] [.int y0, .int y1] h := by
  unfold fL_acts_j677 at hf0
  have hf1 := hf0
  refine V_icmp_ne X (tgt := 684) (by decide) dL_acts_677 (fun q677 => ?_) (fun q677 => ?_)
  · have hf2 := ife hf1 q677
    refine V_iconst X (v := 0) (by decide) dL_acts_684 ?_
    refine V_goto X (tgt := 700) (by decide) dL_acts_685 ?_
    exact V_zret X rfl hf2 dL_acts_700
  · have hf2 := ift hf1 q677
    refine V_iconst X (v := 1) (by decide) dL_acts_680 ?_
    refine V_goto X (tgt := 700) (by decide) dL_acts_681 ?_
    exact V_zret X rfl hf2 dL_acts_700
def fL_acts_B579 (k579 : Int32 → Int32 → Int32 → Int32 → Int32 → Int32 → Hp → Re) (x1 : Int32) (x3 : Int32) (x8 : Int32) (x24 : Int32) (x25 : Int32) (x26 : Int32) (h : Hp) : Re :=
  if 8 ≤ x26 then ((f7_pattern x3 x25 h).bind fun c2 => if x8 = 0 then (if c2.1 = (-5) then (rz 1 c2.2) else (rz 0 c2.2)) else (if c2.1 = x24 then ((f7_at 0 x3 3 2 c2.2).bind fun c7 => if c7.1 = ((x25 >>> (9 &&& 31)) &&& 7) then ((f7_at 1 x3 4 4 c7.2).bind fun c10 => (f7_count 9 c10.2).bind fun c12 => if c12.1 = 1 then (fL_acts_j677 3 c10.1 c12.2) else (fL_acts_j677 4 c10.1 c12.2)) else (rz 0 c7.2)) else (rz 0 c2.2))) else ((some (x25 + (((x1 >>> (((9 : Int32) + ((2 : Int32) * x26)) &&& 31)) - (x1 >>> (((9 : Int32) + ((2 : Int32) * x26)) &&& 31)) / 7 * 7) <<< (((3 : Int32) * x26) &&& 31)) : Int32)).bind fun z15 => k579 x1 x3 x8 x24 z15 (x26 + 1) h)
set_option maxRecDepth 20000 in
set_option maxHeartbeats 4000000 in
theorem fL_acts_B579_ok (hE : IW E) (X : XC E RL cL_acts 35 (some .boolean) A p s m args meth c) {k579 : Int32 → Int32 → Int32 → Int32 → Int32 → Int32 → Hp → Re} (hk579 : ∀ (x1 : Int32) (x3 : Int32) (x8 : Int32) (x24 : Int32) (x25 : Int32) (x26 : Int32) (h : Hp), k579 x1 x3 x8 x24 x25 x26 h = some (r, h') → VM E 35 A p l e 7 s m args below meth c (Qi E A r h') 579 [(0, .ref (eA E 0)), (1, .int x1), (3, .int x3), (8, .int x8), (24, .int x24), (25, .int x25), (26, .int x26)] [] h) {x1 : Int32} {x3 : Int32} {x8 : Int32} {x24 : Int32} {x25 : Int32} {x26 : Int32} {h : Hp} (hf0 : fL_acts_B579 k579 x1 x3 x8 x24 x25 x26 h = some (r, h')) : VM E 35 A p l e 7 s m args below meth c (Qi E A r h') 579 [(0, .ref (eA E 0)), (1, .int x1), (3, .int x3), (8, .int x8), (24, .int x24), (25, .int x25), (26, .int x26)] [] h := by
  unfold fL_acts_B579 at hf0
  have hf1 := hf0
  refine V_iload X 6 rfl dL_acts_579 ?_
  refine V_bipush X (v := 8) (by decide) dL_acts_581 ?_
  refine V_icmp_ge X (tgt := 614) (by decide) dL_acts_583 (fun q583 => ?_) (fun q583 => ?_)
  · have hf2 := ift hf1 q583
    refine V_aload_n X 0 rfl dL_acts_614 ?_
    refine V_iload_n X 2 rfl dL_acts_615 ?_
    refine V_iload X 5 rfl dL_acts_616 ?_
    obtain ⟨c2, e_c2, hf4⟩ := obd hf2
    refine V_callVi X (OB_0 hE) rfl rfl (f7_pattern_ok hE e_c2) ys_X7_pattern yw_X7_pattern ml_L_61 rfl rfl ⟨Nat.le_of_ble_eq_true rfl, Nat.le_of_ble_eq_true rfl⟩ ⟨Nat.zero_le _, Nat.zero_le _⟩ (Nat.le_of_ble_eq_true rfl) dL_acts_618 ?_
    refine V_istore X (by decide) rfl dL_acts_621 ?_
    refine V_iload X 4 rfl dL_acts_623 ?_
    refine V_if_eq X (tgt := 688) (by decide) dL_acts_625 (fun q625 => ?_) (fun q625 => ?_)
    · have hf5 := ift hf4 q625
      refine V_iload X 0 rfl dL_acts_688 ?_
      refine V_bipush X (v := -5) (by decide) dL_acts_690 ?_
      refine V_icmp_ne X (tgt := 699) (by decide) dL_acts_692 (fun q692 => ?_) (fun q692 => ?_)
      · have hf6 := ife hf5 q692
        refine V_iconst X (v := 0) (by decide) dL_acts_699 ?_
        exact V_zret X rfl hf6 dL_acts_700
      · have hf6 := ift hf5 q692
        refine V_iconst X (v := 1) (by decide) dL_acts_695 ?_
        refine V_goto X (tgt := 700) (by decide) dL_acts_696 ?_
        exact V_zret X rfl hf6 dL_acts_700
    · have hf5 := ife hf4 q625
      refine V_iload X 0 rfl dL_acts_628 ?_
      refine V_iload X 5 rfl dL_acts_630 ?_
      refine V_icmp_ne X (tgt := 684) (by decide) dL_acts_632 (fun q632 => ?_) (fun q632 => ?_)
      · have hf7 := ife hf5 q632
        refine V_iconst X (v := 0) (by decide) dL_acts_684 ?_
        refine V_goto X (tgt := 700) (by decide) dL_acts_685 ?_
        exact V_zret X rfl hf7 dL_acts_700
      · have hf7 := ift hf5 q632
        refine V_aload_n X 1 rfl dL_acts_635 ?_
        refine V_iconst X (v := 0) (by decide) dL_acts_636 ?_
        refine V_iload_n X 3 rfl dL_acts_637 ?_
        refine V_iconst X (v := 3) (by decide) dL_acts_638 ?_
        refine V_iconst X (v := 2) (by decide) dL_acts_639 ?_
        obtain ⟨c7, e_c7, hf9⟩ := obd hf7
        refine V_callVi X (OB_0 hE) rfl rfl (f7_at_ok hE e_c7) ys_X7_at yw_X7_at ml_L_15 rfl rfl ⟨Nat.le_of_ble_eq_true rfl, Nat.le_of_ble_eq_true rfl⟩ ⟨Nat.zero_le _, Nat.zero_le _⟩ (Nat.le_of_ble_eq_true rfl) dL_acts_640 ?_
        refine V_iload X 6 rfl dL_acts_643 ?_
        refine V_bipush X (v := 9) (by decide) dL_acts_645 ?_
        refine V_ishr X dL_acts_647 ?_
        refine V_bipush X (v := 7) (by decide) dL_acts_648 ?_
        refine V_iand X dL_acts_650 ?_
        refine V_icmp_ne X (tgt := 684) (by decide) dL_acts_651 (fun q651 => ?_) (fun q651 => ?_)
        · have hf10 := ife hf9 q651
          refine V_iconst X (v := 0) (by decide) dL_acts_684 ?_
          refine V_goto X (tgt := 700) (by decide) dL_acts_685 ?_
          exact V_zret X rfl hf10 dL_acts_700
        · have hf10 := ift hf9 q651
          refine V_aload_n X 1 rfl dL_acts_654 ?_
          refine V_iconst X (v := 1) (by decide) dL_acts_655 ?_
          refine V_iload_n X 3 rfl dL_acts_656 ?_
          refine V_iconst X (v := 4) (by decide) dL_acts_657 ?_
          refine V_iconst X (v := 4) (by decide) dL_acts_658 ?_
          obtain ⟨c10, e_c10, hf12⟩ := obd hf10
          refine V_callVi X (OB_0 hE) rfl rfl (f7_at_ok hE e_c10) ys_X7_at yw_X7_at ml_L_15 rfl rfl ⟨Nat.le_of_ble_eq_true rfl, Nat.le_of_ble_eq_true rfl⟩ ⟨Nat.zero_le _, Nat.zero_le _⟩ (Nat.le_of_ble_eq_true rfl) dL_acts_659 ?_
          refine V_aload_n X 1 rfl dL_acts_662 ?_
          refine V_bipush X (v := 9) (by decide) dL_acts_663 ?_
          obtain ⟨c12, e_c12, hf14⟩ := obd hf12
          refine V_callVi X (OB_0 hE) rfl rfl (f7_count_ok hE e_c12) ys_X7_count yw_X7_count ml_L_19 rfl rfl ⟨Nat.le_of_ble_eq_true rfl, Nat.le_of_ble_eq_true rfl⟩ ⟨Nat.zero_le _, Nat.zero_le _⟩ (Nat.le_of_ble_eq_true rfl) dL_acts_665 ?_
          refine V_iconst X (v := 1) (by decide) dL_acts_668 ?_
          refine V_icmp_ne X (tgt := 676) (by decide) dL_acts_669 (fun q669 => ?_) (fun q669 => ?_)
          · have hf15 := ife hf14 q669
            refine V_iconst X (v := 4) (by decide) dL_acts_676 ?_
            exact V_sub [] rfl (fL_acts_j677_ok hE X hf15)
          · have hf15 := ift hf14 q669
            refine V_iconst X (v := 3) (by decide) dL_acts_672 ?_
            refine V_goto X (tgt := 677) (by decide) dL_acts_673 ?_
            exact V_sub [] rfl (fL_acts_j677_ok hE X hf15)
  · have hf2 := ife hf1 q583
    refine V_iload X 5 rfl dL_acts_586 ?_
    refine V_iload_n X 1 rfl dL_acts_588 ?_
    refine V_bipush X (v := 9) (by decide) dL_acts_589 ?_
    refine V_iconst X (v := 2) (by decide) dL_acts_591 ?_
    refine V_iload X 6 rfl dL_acts_592 ?_
    refine V_imul X dL_acts_594 ?_
    refine V_iadd X dL_acts_595 ?_
    refine V_ishr X dL_acts_596 ?_
    refine V_bipush X (v := 7) (by decide) dL_acts_597 ?_
    refine V_irem X (by decide) dL_acts_599 ?_
    refine V_iconst X (v := 3) (by decide) dL_acts_600 ?_
    refine V_iload X 6 rfl dL_acts_601 ?_
    refine V_imul X dL_acts_603 ?_
    refine V_ishl X dL_acts_604 ?_
    refine V_iadd X dL_acts_605 ?_
    refine V_istore X (by decide) rfl dL_acts_606 ?_
    have hf17 := obs hf2
    refine V_iinc X (v := _ + 1) 6 rfl (by rfl) (by decide) rfl dL_acts_608 ?_
    refine V_goto X (tgt := 579) (by decide) dL_acts_611 ?_
    exact V_sub [2, 3, 4, 5, 6, 1, 0] rfl (hk579 _ _ _ _ _ _ _ hf17)
def fL_acts_L579 : Nat → Int32 → Int32 → Int32 → Int32 → Int32 → Int32 → Hp → Re
  | 0 => fun _ _ _ _ _ _ _ => none
  | n + 1 => fL_acts_B579 (fL_acts_L579 n)
theorem fL_acts_L579_s (n : Nat) (x1 : Int32) (x3 : Int32) (x8 : Int32) (x24 : Int32) (x25 : Int32) (x26 : Int32) (h : Hp) : fL_acts_L579 (n + 1) x1 x3 x8 x24 x25 x26 h = fL_acts_B579 (fL_acts_L579 n) x1 x3 x8 x24 x25 x26 h := rfl
theorem fL_acts_L579_ok (hE : IW E) (X : XC E RL cL_acts 35 (some .boolean) A p s m args meth c) : ∀ (n : Nat) (x1 : Int32) (x3 : Int32) (x8 : Int32) (x24 : Int32) (x25 : Int32) (x26 : Int32) (h : Hp), fL_acts_L579 n x1 x3 x8 x24 x25 x26 h = some (r, h') → VM E 35 A p l e 7 s m args below meth c (Qi E A r h') 579 [(0, .ref (eA E 0)), (1, .int x1), (3, .int x3), (8, .int x8), (24, .int x24), (25, .int x25), (26, .int x26)] [] h := by
  intro n
  induction n with
  | zero =>
    intro x1 x3 x8 x24 x25 x26 h q
    have q : (none : Re) = some (r, h') := q
    cases q
  | succ n ih =>
    intro x1 x3 x8 x24 x25 x26 h q
    exact fL_acts_B579_ok hE X ih q
def fL_acts_j762 (y0 : Int32) (y1 : Int32) (h : Hp) : Re :=
  if y1 = y0 then (rz 1 h) else (rz 0 h)
set_option maxRecDepth 20000 in
set_option maxHeartbeats 4000000 in
theorem fL_acts_j762_ok (hE : IW E) (X : XC E RL cL_acts 35 (some .boolean) A p s m args meth c) {y0 : Int32} {y1 : Int32} {h : Hp} (hf0 : fL_acts_j762 y0 y1 h = some (r, h')) : VM E 35 A p l e 7 s m args below meth c (Qi E A r h') 762 [] [.int y0, .int y1] h := by
  unfold fL_acts_j762 at hf0
  have hf1 := hf0
  refine V_icmp_ne X (tgt := 769) (by decide) dL_acts_762 (fun q762 => ?_) (fun q762 => ?_)
  · have hf2 := ife hf1 q762
    refine V_iconst X (v := 0) (by decide) dL_acts_769 ?_
    exact V_zret X rfl hf2 dL_acts_770
  · have hf2 := ift hf1 q762
    refine V_iconst X (v := 1) (by decide) dL_acts_765 ?_
    refine V_goto X (tgt := 770) (by decide) dL_acts_766 ?_
    exact V_zret X rfl hf2 dL_acts_770
def fL_acts_j848 (y0 : Int32) (y1 : Int32) (h : Hp) : Re :=
  if y1 = y0 then (rz 1 h) else (rz 0 h)
set_option maxRecDepth 20000 in
set_option maxHeartbeats 4000000 in
theorem fL_acts_j848_ok (hE : IW E) (X : XC E RL cL_acts 35 (some .boolean) A p s m args meth c) {y0 : Int32} {y1 : Int32} {h : Hp} (hf0 : fL_acts_j848 y0 y1 h = some (r, h')) : VM E 35 A p l e 7 s m args below meth c (Qi E A r h') 848 [] [.int y0, .int y1] h := by
  unfold fL_acts_j848 at hf0
  have hf1 := hf0
  refine V_icmp_ne X (tgt := 855) (by decide) dL_acts_848 (fun q848 => ?_) (fun q848 => ?_)
  · have hf2 := ife hf1 q848
    refine V_iconst X (v := 0) (by decide) dL_acts_855 ?_
    exact V_zret X rfl hf2 dL_acts_856
  · have hf2 := ift hf1 q848
    refine V_iconst X (v := 1) (by decide) dL_acts_851 ?_
    refine V_goto X (tgt := 856) (by decide) dL_acts_852 ?_
    exact V_zret X rfl hf2 dL_acts_856
def fL_acts_j846 (y0 : Int32) (h : Hp) : Re :=
  fL_acts_j848 (-5) y0 h
set_option maxRecDepth 20000 in
set_option maxHeartbeats 4000000 in
theorem fL_acts_j846_ok (hE : IW E) (X : XC E RL cL_acts 35 (some .boolean) A p s m args meth c) {y0 : Int32} {h : Hp} (hf0 : fL_acts_j846 y0 h = some (r, h')) : VM E 35 A p l e 7 s m args below meth c (Qi E A r h') 846 [] [.int y0] h := by
  unfold fL_acts_j846 at hf0
  have hf1 := hf0
  refine V_bipush X (v := -5) (by decide) dL_acts_846 ?_
  exact V_sub [] rfl (fL_acts_j848_ok hE X hf1)
def fL_acts_j818 (x30 : Int32) (x31 : Int32) (y0 : Int32) (y1 : Int32) (h : Hp) : Re :=
  if y1 = y0 then (if x30 = 5 then (rz 1 h) else ((f7_sweep  h).bind fun c3 => if x31 = 0 then (fL_acts_j846 c3.1 c3.2) else (if x30 = 4 then (fL_acts_j848 0 c3.1 c3.2) else (fL_acts_j846 c3.1 c3.2)))) else (rz 0 h)
set_option maxRecDepth 20000 in
set_option maxHeartbeats 4000000 in
theorem fL_acts_j818_ok (hE : IW E) (X : XC E RL cL_acts 35 (some .boolean) A p s m args meth c) {x30 : Int32} {x31 : Int32} {y0 : Int32} {y1 : Int32} {h : Hp} (hf0 : fL_acts_j818 x30 x31 y0 y1 h = some (r, h')) : VM E 35 A p l e 7 s m args below meth c (Qi E A r h') 818 [(0, .ref (eA E 0)), (30, .int x30), (31, .int x31)] [.int y0, .int y1] h := by
  unfold fL_acts_j818 at hf0
  have hf1 := hf0
  refine V_icmp_ne X (tgt := 855) (by decide) dL_acts_818 (fun q818 => ?_) (fun q818 => ?_)
  · have hf2 := ife hf1 q818
    refine V_iconst X (v := 0) (by decide) dL_acts_855 ?_
    exact V_zret X rfl hf2 dL_acts_856
  · have hf2 := ift hf1 q818
    refine V_iload X 1 rfl dL_acts_821 ?_
    refine V_iconst X (v := 5) (by decide) dL_acts_823 ?_
    refine V_icmp_eq X (tgt := 851) (by decide) dL_acts_824 (fun q824 => ?_) (fun q824 => ?_)
    · have hf3 := ift hf2 q824
      refine V_iconst X (v := 1) (by decide) dL_acts_851 ?_
      refine V_goto X (tgt := 856) (by decide) dL_acts_852 ?_
      exact V_zret X rfl hf3 dL_acts_856
    · have hf3 := ife hf2 q824
      refine V_aload_n X 0 rfl dL_acts_827 ?_
      obtain ⟨c3, e_c3, hf5⟩ := obd hf3
      refine V_callVi X (OB_0 hE) rfl rfl (f7_sweep_ok hE e_c3) ys_X7_sweep yw_X7_sweep ml_L_70 rfl rfl ⟨Nat.le_of_ble_eq_true rfl, Nat.le_of_ble_eq_true rfl⟩ ⟨Nat.zero_le _, Nat.zero_le _⟩ (Nat.le_of_ble_eq_true rfl) dL_acts_828 ?_
      refine V_iload X 2 rfl dL_acts_831 ?_
      refine V_if_eq X (tgt := 846) (by decide) dL_acts_833 (fun q833 => ?_) (fun q833 => ?_)
      · have hf6 := ift hf5 q833
        exact V_sub [] rfl (fL_acts_j846_ok hE X hf6)
      · have hf6 := ife hf5 q833
        refine V_iload X 1 rfl dL_acts_836 ?_
        refine V_iconst X (v := 4) (by decide) dL_acts_838 ?_
        refine V_icmp_ne X (tgt := 846) (by decide) dL_acts_839 (fun q839 => ?_) (fun q839 => ?_)
        · have hf7 := ife hf6 q839
          exact V_sub [] rfl (fL_acts_j846_ok hE X hf7)
        · have hf7 := ift hf6 q839
          refine V_iconst X (v := 0) (by decide) dL_acts_842 ?_
          refine V_goto X (tgt := 848) (by decide) dL_acts_843 ?_
          exact V_sub [] rfl (fL_acts_j848_ok hE X hf7)
def fL_acts_j800 (x30 : Int32) (y0 : Int32) (h : Hp) : Re :=
  (f7_close  h).bind fun c1 => if y0 = 0 then (fL_acts_j818 x30 y0 (-5) c1.1 c1.2) else (fL_acts_j818 x30 y0 x30 c1.1 c1.2)
set_option maxRecDepth 20000 in
set_option maxHeartbeats 4000000 in
theorem fL_acts_j800_ok (hE : IW E) (X : XC E RL cL_acts 35 (some .boolean) A p s m args meth c) {x30 : Int32} {y0 : Int32} {h : Hp} (hf0 : fL_acts_j800 x30 y0 h = some (r, h')) : VM E 35 A p l e 7 s m args below meth c (Qi E A r h') 800 [(0, .ref (eA E 0)), (30, .int x30)] [.int y0] h := by
  unfold fL_acts_j800 at hf0
  have hf1 := hf0
  refine V_istore X (by decide) rfl dL_acts_800 ?_
  refine V_aload_n X 1 rfl dL_acts_802 ?_
  obtain ⟨c1, e_c1, hf3⟩ := obd hf1
  refine V_callVi X (OB_0 hE) rfl rfl (f7_close_ok hE e_c1) ys_X7_close yw_X7_close ml_L_67 rfl rfl ⟨Nat.le_of_ble_eq_true rfl, Nat.le_of_ble_eq_true rfl⟩ ⟨Nat.zero_le _, Nat.zero_le _⟩ (Nat.le_of_ble_eq_true rfl) dL_acts_803 ?_
  refine V_iload X 0 rfl dL_acts_806 ?_
  refine V_if_eq X (tgt := 816) (by decide) dL_acts_808 (fun q808 => ?_) (fun q808 => ?_)
  · have hf4 := ift hf3 q808
    refine V_bipush X (v := -5) (by decide) dL_acts_816 ?_
    exact V_sub [1, 2, 0] rfl (fL_acts_j818_ok hE X hf4)
  · have hf4 := ife hf3 q808
    refine V_iload X 2 rfl dL_acts_811 ?_
    refine V_goto X (tgt := 818) (by decide) dL_acts_813 ?_
    exact V_sub [1, 2, 0] rfl (fL_acts_j818_ok hE X hf4)
def fL_acts_j799 (x30 : Int32) (h : Hp) : Re :=
  fL_acts_j800 x30 0 h
set_option maxRecDepth 20000 in
set_option maxHeartbeats 4000000 in
theorem fL_acts_j799_ok (hE : IW E) (X : XC E RL cL_acts 35 (some .boolean) A p s m args meth c) {x30 : Int32} {h : Hp} (hf0 : fL_acts_j799 x30 h = some (r, h')) : VM E 35 A p l e 7 s m args below meth c (Qi E A r h') 799 [(0, .ref (eA E 0)), (30, .int x30)] [] h := by
  unfold fL_acts_j799 at hf0
  have hf1 := hf0
  refine V_iconst X (v := 0) (by decide) dL_acts_799 ?_
  exact V_sub [0, 1] rfl (fL_acts_j800_ok hE X hf1)
def fL_acts_j888 (x32 : Int32) (y0 : Int32) (h : Hp) : Re :=
  (f7_count ((7 : Int32) + x32) h).bind fun c1 => (f7_set x32 y0 c1.2).bind fun c3 => if c3.1 = c1.1 then ((f7_count ((7 : Int32) + x32) c3.2).bind fun c6 => if c6.1 = y0 then (rz 1 c6.2) else (rz 0 c6.2)) else (rz 0 c3.2)
set_option maxRecDepth 20000 in
set_option maxHeartbeats 4000000 in
theorem fL_acts_j888_ok (hE : IW E) (X : XC E RL cL_acts 35 (some .boolean) A p s m args meth c) {x32 : Int32} {y0 : Int32} {h : Hp} (hf0 : fL_acts_j888 x32 y0 h = some (r, h')) : VM E 35 A p l e 7 s m args below meth c (Qi E A r h') 888 [(0, .ref (eA E 0)), (32, .int x32)] [.int y0] h := by
  unfold fL_acts_j888 at hf0
  have hf1 := hf0
  refine V_istore X (by decide) rfl dL_acts_888 ?_
  refine V_aload_n X 1 rfl dL_acts_890 ?_
  refine V_bipush X (v := 7) (by decide) dL_acts_891 ?_
  refine V_iload X 2 rfl dL_acts_893 ?_
  refine V_iadd X dL_acts_895 ?_
  obtain ⟨c1, e_c1, hf3⟩ := obd hf1
  refine V_callVi X (OB_0 hE) rfl rfl (f7_count_ok hE e_c1) ys_X7_count yw_X7_count ml_L_19 rfl rfl ⟨Nat.le_of_ble_eq_true rfl, Nat.le_of_ble_eq_true rfl⟩ ⟨Nat.zero_le _, Nat.zero_le _⟩ (Nat.le_of_ble_eq_true rfl) dL_acts_896 ?_
  refine V_istore X (by decide) rfl dL_acts_899 ?_
  refine V_aload_n X 2 rfl dL_acts_901 ?_
  refine V_iload X 3 rfl dL_acts_902 ?_
  refine V_iload X 1 rfl dL_acts_904 ?_
  obtain ⟨c3, e_c3, hf5⟩ := obd hf3
  refine V_callVi X (OB_0 hE) rfl rfl (f7_set_ok hE e_c3) ys_X7_set yw_X7_set ml_L_73 rfl rfl ⟨Nat.le_of_ble_eq_true rfl, Nat.le_of_ble_eq_true rfl⟩ ⟨Nat.zero_le _, Nat.zero_le _⟩ (Nat.le_of_ble_eq_true rfl) dL_acts_906 ?_
  refine V_iload X 0 rfl dL_acts_909 ?_
  refine V_icmp_ne X (tgt := 932) (by decide) dL_acts_911 (fun q911 => ?_) (fun q911 => ?_)
  · have hf6 := ife hf5 q911
    refine V_iconst X (v := 0) (by decide) dL_acts_932 ?_
    exact V_zret X rfl hf6 dL_acts_933
  · have hf6 := ift hf5 q911
    refine V_aload_n X 2 rfl dL_acts_914 ?_
    refine V_bipush X (v := 7) (by decide) dL_acts_915 ?_
    refine V_iload X 3 rfl dL_acts_917 ?_
    refine V_iadd X dL_acts_919 ?_
    obtain ⟨c6, e_c6, hf8⟩ := obd hf6
    refine V_callVi X (OB_0 hE) rfl rfl (f7_count_ok hE e_c6) ys_X7_count yw_X7_count ml_L_19 rfl rfl ⟨Nat.le_of_ble_eq_true rfl, Nat.le_of_ble_eq_true rfl⟩ ⟨Nat.zero_le _, Nat.zero_le _⟩ (Nat.le_of_ble_eq_true rfl) dL_acts_920 ?_
    refine V_iload X 1 rfl dL_acts_923 ?_
    refine V_icmp_ne X (tgt := 932) (by decide) dL_acts_925 (fun q925 => ?_) (fun q925 => ?_)
    · have hf9 := ife hf8 q925
      refine V_iconst X (v := 0) (by decide) dL_acts_932 ?_
      exact V_zret X rfl hf9 dL_acts_933
    · have hf9 := ift hf8 q925
      refine V_iconst X (v := 1) (by decide) dL_acts_928 ?_
      refine V_goto X (tgt := 933) (by decide) dL_acts_929 ?_
      exact V_zret X rfl hf9 dL_acts_933
def fL_acts_j66 (x1 : Int32) (x2 : Int32) (x3 : Int32) (x4 : Int32) (x5 : Int32) (x6 : Int32) (x7 : Int32) (y0 : Int32) (h : Hp) : Re :=
  (f7_count 3 h).bind fun c1 => if (x1 - x1 / 10 * 10) = 0 then ((some ((1 : Int32) + ((x1 >>> (12 &&& 31)) - (x1 >>> (12 &&& 31)) / 6 * 6) : Int32)).bind fun z5 => (f7_ofColour z5 1 c1.2).bind fun c7 => (f7_take x2 z5 c7.2).bind fun c9 => if c7.1 = (-6) then (fL_acts_j185 x2 x5 z5 c9.1 c9.2) else (if c7.1 = x2 then (fL_acts_j185 x2 x5 z5 c9.1 c9.2) else (if c9.1 = (-5) then (rz 1 c9.2) else (rz 0 c9.2)))) else if (x1 - x1 / 10 * 10) = 1 then (fL_acts_j209 x1 x2 x3 x4 x5 x6 x7 y0 c1.2) else if (x1 - x1 / 10 * 10) = 2 then (fL_acts_j209 x1 x2 x3 x4 x5 x6 x7 y0 c1.2) else if (x1 - x1 / 10 * 10) = 3 then (fL_acts_j209 x1 x2 x3 x4 x5 x6 x7 y0 c1.2) else if (x1 - x1 / 10 * 10) = 4 then ((f7_scrape x2 x3 x4 c1.2).bind fun c18 => if y0 = 0 then (fL_acts_j396 c18.1 c18.2) else (if x7 = 0 then (fL_acts_j396 c18.1 c18.2) else (if c18.1 = x7 then ((f7_count 3 c18.2).bind fun c23 => if c23.1 = (c1.1 + x7) then ((f7_at x2 x3 x4 0 c23.2).bind fun c26 => if c26.1 = 0 then (rz 1 c26.2) else (rz 0 c26.2)) else (rz 0 c23.2)) else (rz 0 c18.2)))) else if (x1 - x1 / 10 * 10) = 5 then ((some ((x1 >>> (6 &&& 31)) - (x1 >>> (6 &&& 31)) / 2 * 2 : Int32)).bind fun z30 => (f7_ofQuarter x2 0 c1.2).bind fun c32 => (f7_ifBreathed x2 z30 0 c32.2).bind fun c34 => (f7_ofQuarter x2 1 c34.2).bind fun c36 => (f7_ifBreathed x2 z30 1 c36.2).bind fun c38 => (f7_ifBreathed x2 z30 2 c38.2).bind fun c40 => (f7_breathe x2 z30 c40.2).bind fun c42 => if c42.1 = c34.1 then ((f7_ofQuarter x2 0 c42.2).bind fun c45 => if c45.1 = (c32.1 - c34.1) then ((f7_count 3 c45.2).bind fun c48 => if c48.1 = (c1.1 + c34.1) then ((f7_ofQuarter x2 1 c48.2).bind fun c51 => if c51.1 = ((c36.1 + c38.1) - c40.1) then (rz 1 c51.2) else (rz 0 c51.2)) else (rz 0 c48.2)) else (rz 0 c45.2)) else (rz 0 c42.2)) else if (x1 - x1 / 10 * 10) = 6 then ((f7_ofRing x3 1 c1.2).bind fun c55 => fL_acts_L579 FU x1 x3 y0 c55.1 0 0 c55.2) else if (x1 - x1 / 10 * 10) = 7 then ((some ((1 : Int32) + ((x1 >>> (4 &&& 31)) - (x1 >>> (4 &&& 31)) / 6 * 6) : Int32)).bind fun z58 => (f7_ofColour z58 0 c1.2).bind fun c60 => (some ((1 : Int32) + ((x1 >>> (7 &&& 31)) - (x1 >>> (7 &&& 31)) / 900 * 900) : Int32)).bind fun z62 => (f7_fill z58 z62 c60.2).bind fun c64 => if (c60.1 + z62) ≤ 9999 then (fL_acts_j762 (c60.1 + z62) c64.1 c64.2) else (fL_acts_j762 9999 c64.1 c64.2)) else if (x1 - x1 / 10 * 10) = 8 then ((f7_count 0 c1.2).bind fun c68 => if 5 ≤ c68.1 then (fL_acts_j799 c68.1 c68.2) else ((f7_ofRing c68.1 2 c68.2).bind fun c71 => if c71.1 = 1 then (fL_acts_j800 c68.1 1 c71.2) else (fL_acts_j799 c68.1 c71.2))) else ((some ((x1 >>> (4 &&& 31)) - (x1 >>> (4 &&& 31)) / 3 * 3 : Int32)).bind fun z75 => if z75 = 2 then (fL_acts_j888 z75 ((x1 >>> (8 &&& 31)) - (x1 >>> (8 &&& 31)) / 2 * 2) c1.2) else (fL_acts_j888 z75 ((1 : Int32) + ((x1 >>> (8 &&& 31)) - (x1 >>> (8 &&& 31)) / 40 * 40)) c1.2))
set_option maxRecDepth 20000 in
set_option maxHeartbeats 4000000 in
theorem fL_acts_j66_ok (hE : IW E) (X : XC E RL cL_acts 35 (some .boolean) A p s m args meth c) {x1 : Int32} {x2 : Int32} {x3 : Int32} {x4 : Int32} {x5 : Int32} {x6 : Int32} {x7 : Int32} {y0 : Int32} {h : Hp} (hf0 : fL_acts_j66 x1 x2 x3 x4 x5 x6 x7 y0 h = some (r, h')) : VM E 35 A p l e 7 s m args below meth c (Qi E A r h') 66 [(0, .ref (eA E 0)), (1, .int x1), (2, .int x2), (3, .int x3), (4, .int x4), (5, .int x5), (6, .int x6), (7, .int x7)] [.int y0] h := by
  unfold fL_acts_j66 at hf0
  have hf1 := hf0
  refine V_istore X (by decide) rfl dL_acts_66 ?_
  refine V_aload_n X 1 rfl dL_acts_68 ?_
  refine V_iconst X (v := 3) (by decide) dL_acts_69 ?_
  obtain ⟨c1, e_c1, hf3⟩ := obd hf1
  refine V_callVi X (OB_0 hE) rfl rfl (f7_count_ok hE e_c1) ys_X7_count yw_X7_count ml_L_19 rfl rfl ⟨Nat.le_of_ble_eq_true rfl, Nat.le_of_ble_eq_true rfl⟩ ⟨Nat.zero_le _, Nat.zero_le _⟩ (Nat.le_of_ble_eq_true rfl) dL_acts_70 ?_
  refine V_istore X (by decide) rfl dL_acts_73 ?_
  refine V_iload_n X 3 rfl dL_acts_75 ?_
  refine V_bipush X (v := 10) (by decide) dL_acts_76 ?_
  refine V_irem X (by decide) dL_acts_78 ?_
  rcases oif hf3 with ⟨q79_0, hf79_0⟩ | ⟨q79_0, hf79_0⟩
  · refine V_table X (tgt := 128) (off := 49) (by rw [q79_0]; decide) (by decide) (by decide) dL_acts_79 ?_
    have hf5 := hf79_0
    refine V_iconst X (v := 1) (by decide) dL_acts_128 ?_
    refine V_iload_n X 3 rfl dL_acts_129 ?_
    refine V_bipush X (v := 12) (by decide) dL_acts_130 ?_
    refine V_ishr X dL_acts_132 ?_
    refine V_bipush X (v := 6) (by decide) dL_acts_133 ?_
    refine V_irem X (by decide) dL_acts_135 ?_
    refine V_iadd X dL_acts_136 ?_
    refine V_istore X (by decide) rfl dL_acts_137 ?_
    have hf7 := obs hf5
    refine V_aload_n X 3 rfl dL_acts_139 ?_
    refine V_iload X 0 rfl dL_acts_140 ?_
    refine V_iconst X (v := 1) (by decide) dL_acts_142 ?_
    obtain ⟨c7, e_c7, hf9⟩ := obd hf7
    refine V_callVi X (OB_0 hE) rfl rfl (f7_ofColour_ok hE e_c7) ys_X7_ofColour yw_X7_ofColour ml_L_32 rfl rfl ⟨Nat.le_of_ble_eq_true rfl, Nat.le_of_ble_eq_true rfl⟩ ⟨Nat.zero_le _, Nat.zero_le _⟩ (Nat.le_of_ble_eq_true rfl) dL_acts_143 ?_
    refine V_istore X (by decide) rfl dL_acts_146 ?_
    refine V_aload_n X 4 rfl dL_acts_148 ?_
    refine V_iload_n X 6 rfl dL_acts_149 ?_
    refine V_iload X 1 rfl dL_acts_150 ?_
    obtain ⟨c9, e_c9, hf11⟩ := obd hf9
    refine V_callVi X (OB_0 hE) rfl rfl (f7_take_ok hE e_c9) ys_X7_take yw_X7_take ml_L_45 rfl rfl ⟨Nat.le_of_ble_eq_true rfl, Nat.le_of_ble_eq_true rfl⟩ ⟨Nat.zero_le _, Nat.zero_le _⟩ (Nat.le_of_ble_eq_true rfl) dL_acts_152 ?_
    refine V_istore X (by decide) rfl dL_acts_155 ?_
    refine V_iload X 1 rfl dL_acts_157 ?_
    refine V_bipush X (v := -6) (by decide) dL_acts_159 ?_
    refine V_icmp_eq X (tgt := 185) (by decide) dL_acts_161 (fun q161 => ?_) (fun q161 => ?_)
    · have hf12 := ift hf11 q161
      exact V_sub [5, 7, 10, 2, 0] rfl (fL_acts_j185_ok hE X hf12)
    · have hf12 := ife hf11 q161
      refine V_iload X 1 rfl dL_acts_164 ?_
      refine V_iload_n X 7 rfl dL_acts_166 ?_
      refine V_icmp_eq X (tgt := 185) (by decide) dL_acts_167 (fun q167 => ?_) (fun q167 => ?_)
      · have hf13 := ift hf12 q167
        exact V_sub [5, 7, 10, 2, 0] rfl (fL_acts_j185_ok hE X hf13)
      · have hf13 := ife hf12 q167
        refine V_iload X 0 rfl dL_acts_170 ?_
        refine V_bipush X (v := -5) (by decide) dL_acts_172 ?_
        refine V_icmp_ne X (tgt := 181) (by decide) dL_acts_174 (fun q174 => ?_) (fun q174 => ?_)
        · have hf14 := ife hf13 q174
          refine V_iconst X (v := 0) (by decide) dL_acts_181 ?_
          refine V_goto X (tgt := 208) (by decide) dL_acts_182 ?_
          exact V_zret X rfl hf14 dL_acts_208
        · have hf14 := ift hf13 q174
          refine V_iconst X (v := 1) (by decide) dL_acts_177 ?_
          refine V_goto X (tgt := 208) (by decide) dL_acts_178 ?_
          exact V_zret X rfl hf14 dL_acts_208
  rcases oif hf79_0 with ⟨q79_1, hf79_1⟩ | ⟨q79_1, hf79_1⟩
  · refine V_table X (tgt := 209) (off := 130) (by rw [q79_1]; decide) (by decide) (by decide) dL_acts_79 ?_
    have hf15 := hf79_1
    exact V_sub [2, 3, 4, 5, 6, 7, 8, 9, 1] rfl (fL_acts_j209_ok hE X hf15)
  rcases oif hf79_1 with ⟨q79_2, hf79_2⟩ | ⟨q79_2, hf79_2⟩
  · refine V_table X (tgt := 209) (off := 130) (by rw [q79_2]; decide) (by decide) (by decide) dL_acts_79 ?_
    have hf16 := hf79_2
    exact V_sub [2, 3, 4, 5, 6, 7, 8, 9, 1] rfl (fL_acts_j209_ok hE X hf16)
  rcases oif hf79_2 with ⟨q79_3, hf79_3⟩ | ⟨q79_3, hf79_3⟩
  · refine V_table X (tgt := 209) (off := 130) (by rw [q79_3]; decide) (by decide) (by decide) dL_acts_79 ?_
    have hf17 := hf79_3
    exact V_sub [2, 3, 4, 5, 6, 7, 8, 9, 1] rfl (fL_acts_j209_ok hE X hf17)
  rcases oif hf79_3 with ⟨q79_4, hf79_4⟩ | ⟨q79_4, hf79_4⟩
  · refine V_table X (tgt := 376) (off := 297) (by rw [q79_4]; decide) (by decide) (by decide) dL_acts_79 ?_
    have hf18 := hf79_4
    refine V_aload_n X 2 rfl dL_acts_376 ?_
    refine V_iload_n X 4 rfl dL_acts_377 ?_
    refine V_iload_n X 5 rfl dL_acts_378 ?_
    refine V_iload X 6 rfl dL_acts_379 ?_
    obtain ⟨c18, e_c18, hf20⟩ := obd hf18
    refine V_callVi X (OB_0 hE) rfl rfl (f7_scrape_ok hE e_c18) ys_X7_scrape yw_X7_scrape ml_L_51 rfl rfl ⟨Nat.le_of_ble_eq_true rfl, Nat.le_of_ble_eq_true rfl⟩ ⟨Nat.zero_le _, Nat.zero_le _⟩ (Nat.le_of_ble_eq_true rfl) dL_acts_381 ?_
    refine V_istore X (by decide) rfl dL_acts_384 ?_
    refine V_iload X 2 rfl dL_acts_386 ?_
    refine V_if_eq X (tgt := 396) (by decide) dL_acts_388 (fun q388 => ?_) (fun q388 => ?_)
    · have hf21 := ift hf20 q388
      exact V_sub [0] rfl (fL_acts_j396_ok hE X hf21)
    · have hf21 := ife hf20 q388
      refine V_iload X 10 rfl dL_acts_391 ?_
      refine V_if_ne X (tgt := 411) (by decide) dL_acts_393 (fun q393 => ?_) (fun q393 => ?_)
      · have hf22 := ife hf21 q393
        refine V_iload X 0 rfl dL_acts_411 ?_
        refine V_iload X 10 rfl dL_acts_413 ?_
        refine V_icmp_ne X (tgt := 447) (by decide) dL_acts_415 (fun q415 => ?_) (fun q415 => ?_)
        · have hf23 := ife hf22 q415
          refine V_iconst X (v := 0) (by decide) dL_acts_447 ?_
          exact V_zret X rfl hf23 dL_acts_448
        · have hf23 := ift hf22 q415
          refine V_aload_n X 3 rfl dL_acts_418 ?_
          refine V_iconst X (v := 3) (by decide) dL_acts_419 ?_
          obtain ⟨c23, e_c23, hf25⟩ := obd hf23
          refine V_callVi X (OB_0 hE) rfl rfl (f7_count_ok hE e_c23) ys_X7_count yw_X7_count ml_L_19 rfl rfl ⟨Nat.le_of_ble_eq_true rfl, Nat.le_of_ble_eq_true rfl⟩ ⟨Nat.zero_le _, Nat.zero_le _⟩ (Nat.le_of_ble_eq_true rfl) dL_acts_420 ?_
          refine V_iload X 1 rfl dL_acts_423 ?_
          refine V_iload X 10 rfl dL_acts_425 ?_
          refine V_iadd X dL_acts_427 ?_
          refine V_icmp_ne X (tgt := 447) (by decide) dL_acts_428 (fun q428 => ?_) (fun q428 => ?_)
          · have hf26 := ife hf25 q428
            refine V_iconst X (v := 0) (by decide) dL_acts_447 ?_
            exact V_zret X rfl hf26 dL_acts_448
          · have hf26 := ift hf25 q428
            refine V_aload_n X 3 rfl dL_acts_431 ?_
            refine V_iload_n X 5 rfl dL_acts_432 ?_
            refine V_iload_n X 6 rfl dL_acts_433 ?_
            refine V_iload X 7 rfl dL_acts_434 ?_
            refine V_iconst X (v := 0) (by decide) dL_acts_436 ?_
            obtain ⟨c26, e_c26, hf28⟩ := obd hf26
            refine V_callVi X (OB_0 hE) rfl rfl (f7_at_ok hE e_c26) ys_X7_at yw_X7_at ml_L_15 rfl rfl ⟨Nat.le_of_ble_eq_true rfl, Nat.le_of_ble_eq_true rfl⟩ ⟨Nat.zero_le _, Nat.zero_le _⟩ (Nat.le_of_ble_eq_true rfl) dL_acts_437 ?_
            refine V_if_ne X (tgt := 447) (by decide) dL_acts_440 (fun q440 => ?_) (fun q440 => ?_)
            · have hf29 := ife hf28 q440
              refine V_iconst X (v := 0) (by decide) dL_acts_447 ?_
              exact V_zret X rfl hf29 dL_acts_448
            · have hf29 := ift hf28 q440
              refine V_iconst X (v := 1) (by decide) dL_acts_443 ?_
              refine V_goto X (tgt := 448) (by decide) dL_acts_444 ?_
              exact V_zret X rfl hf29 dL_acts_448
      · have hf22 := ift hf21 q393
        exact V_sub [0] rfl (fL_acts_j396_ok hE X hf22)
  rcases oif hf79_4 with ⟨q79_5, hf79_5⟩ | ⟨q79_5, hf79_5⟩
  · refine V_table X (tgt := 449) (off := 370) (by rw [q79_5]; decide) (by decide) (by decide) dL_acts_79 ?_
    have hf30 := hf79_5
    refine V_iload_n X 3 rfl dL_acts_449 ?_
    refine V_bipush X (v := 6) (by decide) dL_acts_450 ?_
    refine V_ishr X dL_acts_452 ?_
    refine V_iconst X (v := 2) (by decide) dL_acts_453 ?_
    refine V_irem X (by decide) dL_acts_454 ?_
    refine V_istore X (by decide) rfl dL_acts_455 ?_
    have hf32 := obs hf30
    refine V_aload_n X 3 rfl dL_acts_457 ?_
    refine V_iload_n X 5 rfl dL_acts_458 ?_
    refine V_iconst X (v := 0) (by decide) dL_acts_459 ?_
    obtain ⟨c32, e_c32, hf34⟩ := obd hf32
    refine V_callVi X (OB_0 hE) rfl rfl (f7_ofQuarter_ok hE e_c32) ys_X7_ofQuarter yw_X7_ofQuarter ml_L_23 rfl rfl ⟨Nat.le_of_ble_eq_true rfl, Nat.le_of_ble_eq_true rfl⟩ ⟨Nat.zero_le _, Nat.zero_le _⟩ (Nat.le_of_ble_eq_true rfl) dL_acts_460 ?_
    refine V_istore X (by decide) rfl dL_acts_463 ?_
    refine V_aload_n X 4 rfl dL_acts_465 ?_
    refine V_iload_n X 6 rfl dL_acts_466 ?_
    refine V_iload X 1 rfl dL_acts_467 ?_
    refine V_iconst X (v := 0) (by decide) dL_acts_469 ?_
    obtain ⟨c34, e_c34, hf36⟩ := obd hf34
    refine V_callVi X (OB_0 hE) rfl rfl (f7_ifBreathed_ok hE e_c34) ys_X7_ifBreathed yw_X7_ifBreathed ml_L_55 rfl rfl ⟨Nat.le_of_ble_eq_true rfl, Nat.le_of_ble_eq_true rfl⟩ ⟨Nat.zero_le _, Nat.zero_le _⟩ (Nat.le_of_ble_eq_true rfl) dL_acts_470 ?_
    refine V_istore X (by decide) rfl dL_acts_473 ?_
    refine V_aload_n X 5 rfl dL_acts_475 ?_
    refine V_iload_n X 7 rfl dL_acts_476 ?_
    refine V_iconst X (v := 1) (by decide) dL_acts_477 ?_
    obtain ⟨c36, e_c36, hf38⟩ := obd hf36
    refine V_callVi X (OB_0 hE) rfl rfl (f7_ofQuarter_ok hE e_c36) ys_X7_ofQuarter yw_X7_ofQuarter ml_L_23 rfl rfl ⟨Nat.le_of_ble_eq_true rfl, Nat.le_of_ble_eq_true rfl⟩ ⟨Nat.zero_le _, Nat.zero_le _⟩ (Nat.le_of_ble_eq_true rfl) dL_acts_478 ?_
    refine V_istore X (by decide) rfl dL_acts_481 ?_
    refine V_aload_n X 6 rfl dL_acts_483 ?_
    refine V_iload_n X 8 rfl dL_acts_484 ?_
    refine V_iload X 3 rfl dL_acts_485 ?_
    refine V_iconst X (v := 1) (by decide) dL_acts_487 ?_
    obtain ⟨c38, e_c38, hf40⟩ := obd hf38
    refine V_callVi X (OB_0 hE) rfl rfl (f7_ifBreathed_ok hE e_c38) ys_X7_ifBreathed yw_X7_ifBreathed ml_L_55 rfl rfl ⟨Nat.le_of_ble_eq_true rfl, Nat.le_of_ble_eq_true rfl⟩ ⟨Nat.zero_le _, Nat.zero_le _⟩ (Nat.le_of_ble_eq_true rfl) dL_acts_488 ?_
    refine V_istore X (by decide) rfl dL_acts_491 ?_
    refine V_aload_n X 7 rfl dL_acts_493 ?_
    refine V_iload_n X 9 rfl dL_acts_494 ?_
    refine V_iload X 4 rfl dL_acts_495 ?_
    refine V_iconst X (v := 2) (by decide) dL_acts_497 ?_
    obtain ⟨c40, e_c40, hf42⟩ := obd hf40
    refine V_callVi X (OB_0 hE) rfl rfl (f7_ifBreathed_ok hE e_c40) ys_X7_ifBreathed yw_X7_ifBreathed ml_L_55 rfl rfl ⟨Nat.le_of_ble_eq_true rfl, Nat.le_of_ble_eq_true rfl⟩ ⟨Nat.zero_le _, Nat.zero_le _⟩ (Nat.le_of_ble_eq_true rfl) dL_acts_498 ?_
    refine V_istore X (by decide) rfl dL_acts_501 ?_
    refine V_aload_n X 8 rfl dL_acts_503 ?_
    refine V_iload_n X 10 rfl dL_acts_504 ?_
    refine V_iload X 5 rfl dL_acts_505 ?_
    obtain ⟨c42, e_c42, hf44⟩ := obd hf42
    refine V_callVi X (OB_0 hE) rfl rfl (f7_breathe_ok hE e_c42) ys_X7_breathe yw_X7_breathe ml_L_58 rfl rfl ⟨Nat.le_of_ble_eq_true rfl, Nat.le_of_ble_eq_true rfl⟩ ⟨Nat.zero_le _, Nat.zero_le _⟩ (Nat.le_of_ble_eq_true rfl) dL_acts_507 ?_
    refine V_iload X 3 rfl dL_acts_510 ?_
    refine V_icmp_ne X (tgt := 563) (by decide) dL_acts_512 (fun q512 => ?_) (fun q512 => ?_)
    · have hf45 := ife hf44 q512
      refine V_iconst X (v := 0) (by decide) dL_acts_563 ?_
      exact V_zret X rfl hf45 dL_acts_564
    · have hf45 := ift hf44 q512
      refine V_aload_n X 8 rfl dL_acts_515 ?_
      refine V_iload_n X 10 rfl dL_acts_516 ?_
      refine V_iconst X (v := 0) (by decide) dL_acts_517 ?_
      obtain ⟨c45, e_c45, hf47⟩ := obd hf45
      refine V_callVi X (OB_0 hE) rfl rfl (f7_ofQuarter_ok hE e_c45) ys_X7_ofQuarter yw_X7_ofQuarter ml_L_23 rfl rfl ⟨Nat.le_of_ble_eq_true rfl, Nat.le_of_ble_eq_true rfl⟩ ⟨Nat.zero_le _, Nat.zero_le _⟩ (Nat.le_of_ble_eq_true rfl) dL_acts_518 ?_
      refine V_iload X 4 rfl dL_acts_521 ?_
      refine V_iload X 3 rfl dL_acts_523 ?_
      refine V_isub X dL_acts_525 ?_
      refine V_icmp_ne X (tgt := 563) (by decide) dL_acts_526 (fun q526 => ?_) (fun q526 => ?_)
      · have hf48 := ife hf47 q526
        refine V_iconst X (v := 0) (by decide) dL_acts_563 ?_
        exact V_zret X rfl hf48 dL_acts_564
      · have hf48 := ift hf47 q526
        refine V_aload_n X 8 rfl dL_acts_529 ?_
        refine V_iconst X (v := 3) (by decide) dL_acts_530 ?_
        obtain ⟨c48, e_c48, hf50⟩ := obd hf48
        refine V_callVi X (OB_0 hE) rfl rfl (f7_count_ok hE e_c48) ys_X7_count yw_X7_count ml_L_19 rfl rfl ⟨Nat.le_of_ble_eq_true rfl, Nat.le_of_ble_eq_true rfl⟩ ⟨Nat.zero_le _, Nat.zero_le _⟩ (Nat.le_of_ble_eq_true rfl) dL_acts_531 ?_
        refine V_iload X 6 rfl dL_acts_534 ?_
        refine V_iload X 3 rfl dL_acts_536 ?_
        refine V_iadd X dL_acts_538 ?_
        refine V_icmp_ne X (tgt := 563) (by decide) dL_acts_539 (fun q539 => ?_) (fun q539 => ?_)
        · have hf51 := ife hf50 q539
          refine V_iconst X (v := 0) (by decide) dL_acts_563 ?_
          exact V_zret X rfl hf51 dL_acts_564
        · have hf51 := ift hf50 q539
          refine V_aload_n X 8 rfl dL_acts_542 ?_
          refine V_iload_n X 10 rfl dL_acts_543 ?_
          refine V_iconst X (v := 1) (by decide) dL_acts_544 ?_
          obtain ⟨c51, e_c51, hf53⟩ := obd hf51
          refine V_callVi X (OB_0 hE) rfl rfl (f7_ofQuarter_ok hE e_c51) ys_X7_ofQuarter yw_X7_ofQuarter ml_L_23 rfl rfl ⟨Nat.le_of_ble_eq_true rfl, Nat.le_of_ble_eq_true rfl⟩ ⟨Nat.zero_le _, Nat.zero_le _⟩ (Nat.le_of_ble_eq_true rfl) dL_acts_545 ?_
          refine V_iload X 2 rfl dL_acts_548 ?_
          refine V_iload X 1 rfl dL_acts_550 ?_
          refine V_iadd X dL_acts_552 ?_
          refine V_iload X 0 rfl dL_acts_553 ?_
          refine V_isub X dL_acts_555 ?_
          refine V_icmp_ne X (tgt := 563) (by decide) dL_acts_556 (fun q556 => ?_) (fun q556 => ?_)
          · have hf54 := ife hf53 q556
            refine V_iconst X (v := 0) (by decide) dL_acts_563 ?_
            exact V_zret X rfl hf54 dL_acts_564
          · have hf54 := ift hf53 q556
            refine V_iconst X (v := 1) (by decide) dL_acts_559 ?_
            refine V_goto X (tgt := 564) (by decide) dL_acts_560 ?_
            exact V_zret X rfl hf54 dL_acts_564
  rcases oif hf79_5 with ⟨q79_6, hf79_6⟩ | ⟨q79_6, hf79_6⟩
  · refine V_table X (tgt := 565) (off := 486) (by rw [q79_6]; decide) (by decide) (by decide) dL_acts_79 ?_
    have hf55 := hf79_6
    refine V_aload_n X 2 rfl dL_acts_565 ?_
    refine V_iload_n X 5 rfl dL_acts_566 ?_
    refine V_iconst X (v := 1) (by decide) dL_acts_567 ?_
    obtain ⟨c55, e_c55, hf57⟩ := obd hf55
    refine V_callVi X (OB_0 hE) rfl rfl (f7_ofRing_ok hE e_c55) ys_X7_ofRing yw_X7_ofRing ml_L_9 rfl rfl ⟨Nat.le_of_ble_eq_true rfl, Nat.le_of_ble_eq_true rfl⟩ ⟨Nat.zero_le _, Nat.zero_le _⟩ (Nat.le_of_ble_eq_true rfl) dL_acts_568 ?_
    refine V_istore X (by decide) rfl dL_acts_571 ?_
    refine V_iconst X (v := 0) (by decide) dL_acts_573 ?_
    refine V_istore X (by decide) rfl dL_acts_574 ?_
    refine V_iconst X (v := 0) (by decide) dL_acts_576 ?_
    refine V_istore X (by decide) rfl dL_acts_577 ?_
    exact V_sub [5, 6, 8, 4, 2, 1, 0] rfl (fL_acts_L579_ok hE X FU _ _ _ _ _ _ _ hf57)
  rcases oif hf79_6 with ⟨q79_7, hf79_7⟩ | ⟨q79_7, hf79_7⟩
  · refine V_table X (tgt := 701) (off := 622) (by rw [q79_7]; decide) (by decide) (by decide) dL_acts_79 ?_
    have hf58 := hf79_7
    refine V_iconst X (v := 1) (by decide) dL_acts_701 ?_
    refine V_iload_n X 3 rfl dL_acts_702 ?_
    refine V_iconst X (v := 4) (by decide) dL_acts_703 ?_
    refine V_ishr X dL_acts_704 ?_
    refine V_bipush X (v := 6) (by decide) dL_acts_705 ?_
    refine V_irem X (by decide) dL_acts_707 ?_
    refine V_iadd X dL_acts_708 ?_
    refine V_istore X (by decide) rfl dL_acts_709 ?_
    have hf60 := obs hf58
    refine V_aload_n X 3 rfl dL_acts_711 ?_
    refine V_iload X 0 rfl dL_acts_712 ?_
    refine V_iconst X (v := 0) (by decide) dL_acts_714 ?_
    obtain ⟨c60, e_c60, hf62⟩ := obd hf60
    refine V_callVi X (OB_0 hE) rfl rfl (f7_ofColour_ok hE e_c60) ys_X7_ofColour yw_X7_ofColour ml_L_32 rfl rfl ⟨Nat.le_of_ble_eq_true rfl, Nat.le_of_ble_eq_true rfl⟩ ⟨Nat.zero_le _, Nat.zero_le _⟩ (Nat.le_of_ble_eq_true rfl) dL_acts_715 ?_
    refine V_istore X (by decide) rfl dL_acts_718 ?_
    refine V_iconst X (v := 1) (by decide) dL_acts_720 ?_
    refine V_iload_n X 5 rfl dL_acts_721 ?_
    refine V_bipush X (v := 7) (by decide) dL_acts_722 ?_
    refine V_ishr X dL_acts_724 ?_
    refine V_sipush X (v := 900) (by decide) dL_acts_725 ?_
    refine V_irem X (by decide) dL_acts_728 ?_
    refine V_iadd X dL_acts_729 ?_
    refine V_istore X (by decide) rfl dL_acts_730 ?_
    have hf64 := obs hf62
    refine V_aload_n X 5 rfl dL_acts_732 ?_
    refine V_iload X 2 rfl dL_acts_733 ?_
    refine V_iload X 0 rfl dL_acts_735 ?_
    obtain ⟨c64, e_c64, hf66⟩ := obd hf64
    refine V_callVi X (OB_0 hE) rfl rfl (f7_fill_ok hE e_c64) ys_X7_fill yw_X7_fill ml_L_64 rfl rfl ⟨Nat.le_of_ble_eq_true rfl, Nat.le_of_ble_eq_true rfl⟩ ⟨Nat.zero_le _, Nat.zero_le _⟩ (Nat.le_of_ble_eq_true rfl) dL_acts_737 ?_
    refine V_iload X 1 rfl dL_acts_740 ?_
    refine V_iload X 0 rfl dL_acts_742 ?_
    refine V_iadd X dL_acts_744 ?_
    refine V_sipush X (v := 9999) (by decide) dL_acts_745 ?_
    refine V_icmp_le X (tgt := 757) (by decide) dL_acts_748 (fun q748 => ?_) (fun q748 => ?_)
    · have hf67 := ift hf66 q748
      refine V_iload X 1 rfl dL_acts_757 ?_
      refine V_iload X 0 rfl dL_acts_759 ?_
      refine V_iadd X dL_acts_761 ?_
      exact V_sub [] rfl (fL_acts_j762_ok hE X hf67)
    · have hf67 := ife hf66 q748
      refine V_sipush X (v := 9999) (by decide) dL_acts_751 ?_
      refine V_goto X (tgt := 762) (by decide) dL_acts_754 ?_
      exact V_sub [] rfl (fL_acts_j762_ok hE X hf67)
  rcases oif hf79_7 with ⟨q79_8, hf79_8⟩ | ⟨q79_8, hf79_8⟩
  · refine V_table X (tgt := 771) (off := 692) (by rw [q79_8]; decide) (by decide) (by decide) dL_acts_79 ?_
    have hf68 := hf79_8
    refine V_aload_n X 2 rfl dL_acts_771 ?_
    refine V_iconst X (v := 0) (by decide) dL_acts_772 ?_
    obtain ⟨c68, e_c68, hf70⟩ := obd hf68
    refine V_callVi X (OB_0 hE) rfl rfl (f7_count_ok hE e_c68) ys_X7_count yw_X7_count ml_L_19 rfl rfl ⟨Nat.le_of_ble_eq_true rfl, Nat.le_of_ble_eq_true rfl⟩ ⟨Nat.zero_le _, Nat.zero_le _⟩ (Nat.le_of_ble_eq_true rfl) dL_acts_773 ?_
    refine V_istore X (by decide) rfl dL_acts_776 ?_
    refine V_iload X 0 rfl dL_acts_778 ?_
    refine V_iconst X (v := 5) (by decide) dL_acts_780 ?_
    refine V_icmp_ge X (tgt := 799) (by decide) dL_acts_781 (fun q781 => ?_) (fun q781 => ?_)
    · have hf71 := ift hf70 q781
      exact V_sub [3, 0] rfl (fL_acts_j799_ok hE X hf71)
    · have hf71 := ife hf70 q781
      refine V_aload_n X 3 rfl dL_acts_784 ?_
      refine V_iload X 0 rfl dL_acts_785 ?_
      refine V_iconst X (v := 2) (by decide) dL_acts_787 ?_
      obtain ⟨c71, e_c71, hf73⟩ := obd hf71
      refine V_callVi X (OB_0 hE) rfl rfl (f7_ofRing_ok hE e_c71) ys_X7_ofRing yw_X7_ofRing ml_L_9 rfl rfl ⟨Nat.le_of_ble_eq_true rfl, Nat.le_of_ble_eq_true rfl⟩ ⟨Nat.zero_le _, Nat.zero_le _⟩ (Nat.le_of_ble_eq_true rfl) dL_acts_788 ?_
      refine V_iconst X (v := 1) (by decide) dL_acts_791 ?_
      refine V_icmp_ne X (tgt := 799) (by decide) dL_acts_792 (fun q792 => ?_) (fun q792 => ?_)
      · have hf74 := ife hf73 q792
        exact V_sub [3, 0] rfl (fL_acts_j799_ok hE X hf74)
      · have hf74 := ift hf73 q792
        refine V_iconst X (v := 1) (by decide) dL_acts_795 ?_
        refine V_goto X (tgt := 800) (by decide) dL_acts_796 ?_
        exact V_sub [3, 0] rfl (fL_acts_j800_ok hE X hf74)
  · skip
    refine V_table X (tgt := 857) (off := 778) (tsel_out (by have z0 := lv_neT q79_0 (show (0 : Int32).toInt = 0 by decide); have z1 := lv_neT q79_1 (show (1 : Int32).toInt = 1 by decide); have z2 := lv_neT q79_2 (show (2 : Int32).toInt = 2 by decide); have z3 := lv_neT q79_3 (show (3 : Int32).toInt = 3 by decide); have z4 := lv_neT q79_4 (show (4 : Int32).toInt = 4 by decide); have z5 := lv_neT q79_5 (show (5 : Int32).toInt = 5 by decide); have z6 := lv_neT q79_6 (show (6 : Int32).toInt = 6 by decide); have z7 := lv_neT q79_7 (show (7 : Int32).toInt = 7 by decide); have z8 := lv_neT q79_8 (show (8 : Int32).toInt = 8 by decide); omega)) (by decide) (by decide) dL_acts_79 ?_
    have hf75 := hf79_8
    refine V_iload_n X 3 rfl dL_acts_857 ?_
    refine V_iconst X (v := 4) (by decide) dL_acts_858 ?_
    refine V_ishr X dL_acts_859 ?_
    refine V_iconst X (v := 3) (by decide) dL_acts_860 ?_
    refine V_irem X (by decide) dL_acts_861 ?_
    refine V_istore X (by decide) rfl dL_acts_862 ?_
    have hf77 := obs hf75
    refine V_iload X 0 rfl dL_acts_864 ?_
    refine V_iconst X (v := 2) (by decide) dL_acts_866 ?_
    refine V_icmp_ne X (tgt := 879) (by decide) dL_acts_867 (fun q867 => ?_) (fun q867 => ?_)
    · have hf78 := ife hf77 q867
      refine V_iconst X (v := 1) (by decide) dL_acts_879 ?_
      refine V_iload_n X 4 rfl dL_acts_880 ?_
      refine V_bipush X (v := 8) (by decide) dL_acts_881 ?_
      refine V_ishr X dL_acts_883 ?_
      refine V_bipush X (v := 40) (by decide) dL_acts_884 ?_
      refine V_irem X (by decide) dL_acts_886 ?_
      refine V_iadd X dL_acts_887 ?_
      exact V_sub [3, 0] rfl (fL_acts_j888_ok hE X hf78)
    · have hf78 := ift hf77 q867
      refine V_iload_n X 4 rfl dL_acts_870 ?_
      refine V_bipush X (v := 8) (by decide) dL_acts_871 ?_
      refine V_ishr X dL_acts_873 ?_
      refine V_iconst X (v := 2) (by decide) dL_acts_874 ?_
      refine V_irem X (by decide) dL_acts_875 ?_
      refine V_goto X (tgt := 888) (by decide) dL_acts_876 ?_
      exact V_sub [3, 0] rfl (fL_acts_j888_ok hE X hf78)
def fL_acts_e (x1 : Int32) (h : Hp) : Re :=
  (some ((x1 >>> (4 &&& 31)) - (x1 >>> (4 &&& 31)) / 4 * 4 : Int32)).bind fun z1 => (some ((x1 >>> (6 &&& 31)) - (x1 >>> (6 &&& 31)) / 5 * 5 : Int32)).bind fun z3 => (some ((x1 >>> (9 &&& 31)) - (x1 >>> (9 &&& 31)) / 8 * 8 : Int32)).bind fun z5 => (f7_ofQuarter z1 2 h).bind fun c7 => (f7_at z1 z3 z5 0 c7.2).bind fun c9 => (f7_at z1 z3 z5 1 c9.2).bind fun c11 => (f7_ofRing z3 0 c11.2).bind fun c13 => if c13.1 = 0 then (fL_acts_j66 x1 z1 z3 z5 c7.1 c9.1 c11.1 1 c13.2) else (fL_acts_j66 x1 z1 z3 z5 c7.1 c9.1 c11.1 0 c13.2)
set_option maxRecDepth 20000 in
set_option maxHeartbeats 4000000 in
theorem fL_acts_e_ok (hE : IW E) (X : XC E RL cL_acts 35 (some .boolean) A p s m args meth c) {x1 : Int32} {h : Hp} (hf0 : fL_acts_e x1 h = some (r, h')) : VM E 35 A p l e 7 s m args below meth c (Qi E A r h') 0 [(0, .ref (eA E 0)), (1, .int x1)] [] h := by
  unfold fL_acts_e at hf0
  have hf1 := hf0
  refine V_iload_n X 1 rfl dL_acts_0 ?_
  refine V_iconst X (v := 4) (by decide) dL_acts_1 ?_
  refine V_ishr X dL_acts_2 ?_
  refine V_iconst X (v := 4) (by decide) dL_acts_3 ?_
  refine V_irem X (by decide) dL_acts_4 ?_
  refine V_istore_n X (by decide) rfl dL_acts_5 ?_
  have hf3 := obs hf1
  refine V_iload_n X 2 rfl dL_acts_6 ?_
  refine V_bipush X (v := 6) (by decide) dL_acts_7 ?_
  refine V_ishr X dL_acts_9 ?_
  refine V_iconst X (v := 5) (by decide) dL_acts_10 ?_
  refine V_irem X (by decide) dL_acts_11 ?_
  refine V_istore_n X (by decide) rfl dL_acts_12 ?_
  have hf5 := obs hf3
  refine V_iload_n X 3 rfl dL_acts_13 ?_
  refine V_bipush X (v := 9) (by decide) dL_acts_14 ?_
  refine V_ishr X dL_acts_16 ?_
  refine V_bipush X (v := 8) (by decide) dL_acts_17 ?_
  refine V_irem X (by decide) dL_acts_19 ?_
  refine V_istore X (by decide) rfl dL_acts_20 ?_
  have hf7 := obs hf5
  refine V_aload_n X 3 rfl dL_acts_22 ?_
  refine V_iload_n X 2 rfl dL_acts_23 ?_
  refine V_iconst X (v := 2) (by decide) dL_acts_24 ?_
  obtain ⟨c7, e_c7, hf9⟩ := obd hf7
  refine V_callVi X (OB_0 hE) rfl rfl (f7_ofQuarter_ok hE e_c7) ys_X7_ofQuarter yw_X7_ofQuarter ml_L_23 rfl rfl ⟨Nat.le_of_ble_eq_true rfl, Nat.le_of_ble_eq_true rfl⟩ ⟨Nat.zero_le _, Nat.zero_le _⟩ (Nat.le_of_ble_eq_true rfl) dL_acts_25 ?_
  refine V_istore X (by decide) rfl dL_acts_28 ?_
  refine V_aload_n X 4 rfl dL_acts_30 ?_
  refine V_iload_n X 3 rfl dL_acts_31 ?_
  refine V_iload_n X 2 rfl dL_acts_32 ?_
  refine V_iload X 1 rfl dL_acts_33 ?_
  refine V_iconst X (v := 0) (by decide) dL_acts_35 ?_
  obtain ⟨c9, e_c9, hf11⟩ := obd hf9
  refine V_callVi X (OB_0 hE) rfl rfl (f7_at_ok hE e_c9) ys_X7_at yw_X7_at ml_L_15 rfl rfl ⟨Nat.le_of_ble_eq_true rfl, Nat.le_of_ble_eq_true rfl⟩ ⟨Nat.zero_le _, Nat.zero_le _⟩ (Nat.le_of_ble_eq_true rfl) dL_acts_36 ?_
  refine V_istore X (by decide) rfl dL_acts_39 ?_
  refine V_aload_n X 5 rfl dL_acts_41 ?_
  refine V_iload_n X 4 rfl dL_acts_42 ?_
  refine V_iload_n X 3 rfl dL_acts_43 ?_
  refine V_iload X 2 rfl dL_acts_44 ?_
  refine V_iconst X (v := 1) (by decide) dL_acts_46 ?_
  obtain ⟨c11, e_c11, hf13⟩ := obd hf11
  refine V_callVi X (OB_0 hE) rfl rfl (f7_at_ok hE e_c11) ys_X7_at yw_X7_at ml_L_15 rfl rfl ⟨Nat.le_of_ble_eq_true rfl, Nat.le_of_ble_eq_true rfl⟩ ⟨Nat.zero_le _, Nat.zero_le _⟩ (Nat.le_of_ble_eq_true rfl) dL_acts_47 ?_
  refine V_istore X (by decide) rfl dL_acts_50 ?_
  refine V_aload_n X 6 rfl dL_acts_52 ?_
  refine V_iload_n X 4 rfl dL_acts_53 ?_
  refine V_iconst X (v := 0) (by decide) dL_acts_54 ?_
  obtain ⟨c13, e_c13, hf15⟩ := obd hf13
  refine V_callVi X (OB_0 hE) rfl rfl (f7_ofRing_ok hE e_c13) ys_X7_ofRing yw_X7_ofRing ml_L_9 rfl rfl ⟨Nat.le_of_ble_eq_true rfl, Nat.le_of_ble_eq_true rfl⟩ ⟨Nat.zero_le _, Nat.zero_le _⟩ (Nat.le_of_ble_eq_true rfl) dL_acts_55 ?_
  refine V_if_ne X (tgt := 65) (by decide) dL_acts_58 (fun q58 => ?_) (fun q58 => ?_)
  · have hf16 := ife hf15 q58
    refine V_iconst X (v := 0) (by decide) dL_acts_65 ?_
    exact V_sub [6, 7, 5, 4, 3, 2, 1, 0] rfl (fL_acts_j66_ok hE X hf16)
  · have hf16 := ift hf15 q58
    refine V_iconst X (v := 1) (by decide) dL_acts_61 ?_
    refine V_goto X (tgt := 66) (by decide) dL_acts_62 ?_
    exact V_sub [6, 7, 5, 4, 3, 2, 1, 0] rfl (fL_acts_j66_ok hE X hf16)
def fL_acts (x1 : Int32) (h : Hp) : Re := fL_acts_e x1 h
theorem fL_acts_ok (hE : IW E) {x1 : Int32} {h : Hp} {q : Int32 × Hp} (hf0 : fL_acts x1 h = some q) : SMi l E 7 yL_acts cL_acts 35 (some .boolean) [.ref (eA E 0), .int x1] h q.1 q.2 :=
  SMi.of (by decide +kernel) (Nat.le_of_ble_eq_true rfl) (fun p e s m args below meth c A X => fL_acts_e_ok hE X (r := q.1) (h' := q.2) hf0)
end DM
