section DM
variable {E : EN} {A : Nat → Prop} {p : Program} {l : Launch} {e : Env} {s : State} {m : MethodId} {args : Array Value} {below : List Frame} {meth : Method} {c : Code} {r : Int32} {h' : Hp}
def fL_isNeeded_j307 (k143 : Int32 → Int32 → Int32 → Int32 → Int32 → Int32 → Hp → Re) (x1 : Int32) (x2 : Int32) (x3 : Int32) (x4 : Int32) (x6 : Int32) (h : Hp) : Re :=
  k143 x1 x2 x3 x4 1 (x6 + 1) h
set_option maxRecDepth 20000 in
set_option maxHeartbeats 4000000 in
theorem fL_isNeeded_j307_ok (hE : IW E) (X : XC E RL cL_isNeeded 13 (some .boolean) A p s m args meth c) {k143 : Int32 → Int32 → Int32 → Int32 → Int32 → Int32 → Hp → Re} (hk143 : ∀ (x1 : Int32) (x2 : Int32) (x3 : Int32) (x4 : Int32) (x5 : Int32) (x6 : Int32) (h : Hp), k143 x1 x2 x3 x4 x5 x6 h = some (r, h') → VM E 13 A p l e 7 s m args below meth c (Qi E A r h') 143 [(0, .ref (eA E 0)), (1, .int x1), (2, .int x2), (3, .int x3), (4, .int x4), (5, .int x5), (6, .int x6)] [] h) {x1 : Int32} {x2 : Int32} {x3 : Int32} {x4 : Int32} {x6 : Int32} {h : Hp} (hf0 : fL_isNeeded_j307 k143 x1 x2 x3 x4 x6 h = some (r, h')) : VM E 13 A p l e 7 s m args below meth c (Qi E A r h') 307 [(0, .ref (eA E 0)), (1, .int x1), (2, .int x2), (3, .int x3), (4, .int x4), (6, .int x6)] [] h := by
  unfold fL_isNeeded_j307 at hf0
  have hf1 := hf0
  refine V_iconst X (v := 1) (by decide) dL_isNeeded_307 ?_
  refine V_goto X (tgt := 312) (by decide) dL_isNeeded_308 ?_
  refine V_istore X (by decide) rfl dL_isNeeded_312 ?_
  refine V_iinc X (v := _ + 1) 6 rfl (by rfl) (by decide) rfl dL_isNeeded_314 ?_
  refine V_goto X (tgt := 143) (by decide) dL_isNeeded_317 ?_
  exact V_sub [2, 3, 4, 5, 6, 1, 0] rfl (hk143 _ _ _ _ _ _ _ hf1)
def fL_isNeeded_j253 (k143 : Int32 → Int32 → Int32 → Int32 → Int32 → Int32 → Hp → Re) (x1 : Int32) (x2 : Int32) (x3 : Int32) (x4 : Int32) (x6 : Int32) (x7 : Int32) (x8 : Int32) (x11 : Int32) (y0 : Int32) (h : Hp) : Re :=
  if y0 = 0 then (fL_isNeeded_j307 k143 x1 x2 x3 x4 x6 h) else (if x4 < x11 then (fL_isNeeded_j307 k143 x1 x2 x3 x4 x6 h) else (if x11 = x4 then (if x1 < x7 then (fL_isNeeded_j307 k143 x1 x2 x3 x4 x6 h) else (if x7 = x1 then (if x2 < x8 then (fL_isNeeded_j307 k143 x1 x2 x3 x4 x6 h) else (if x8 = x2 then (if (x6 - x6 / 8 * 8) < x3 then (k143 x1 x2 x3 x4 0 (x6 + 1) h) else (fL_isNeeded_j307 k143 x1 x2 x3 x4 x6 h)) else (k143 x1 x2 x3 x4 0 (x6 + 1) h))) else (k143 x1 x2 x3 x4 0 (x6 + 1) h))) else (k143 x1 x2 x3 x4 0 (x6 + 1) h)))
set_option maxRecDepth 20000 in
set_option maxHeartbeats 4000000 in
theorem fL_isNeeded_j253_ok (hE : IW E) (X : XC E RL cL_isNeeded 13 (some .boolean) A p s m args meth c) {k143 : Int32 → Int32 → Int32 → Int32 → Int32 → Int32 → Hp → Re} (hk143 : ∀ (x1 : Int32) (x2 : Int32) (x3 : Int32) (x4 : Int32) (x5 : Int32) (x6 : Int32) (h : Hp), k143 x1 x2 x3 x4 x5 x6 h = some (r, h') → VM E 13 A p l e 7 s m args below meth c (Qi E A r h') 143 [(0, .ref (eA E 0)), (1, .int x1), (2, .int x2), (3, .int x3), (4, .int x4), (5, .int x5), (6, .int x6)] [] h) {x1 : Int32} {x2 : Int32} {x3 : Int32} {x4 : Int32} {x6 : Int32} {x7 : Int32} {x8 : Int32} {x11 : Int32} {y0 : Int32} {h : Hp} (hf0 : fL_isNeeded_j253 k143 x1 x2 x3 x4 x6 x7 x8 x11 y0 h = some (r, h')) : VM E 13 A p l e 7 s m args below meth c (Qi E A r h') 253 [(0, .ref (eA E 0)), (1, .int x1), (2, .int x2), (3, .int x3), (4, .int x4), (6, .int x6), (7, .int x7), (8, .int x8), (11, .int x11)] [.int y0] h := by
  unfold fL_isNeeded_j253 at hf0
  have hf1 := hf0
  refine V_istore X (by decide) rfl dL_isNeeded_253 ?_
  refine V_iload X 0 rfl dL_isNeeded_255 ?_
  refine V_if_eq X (tgt := 307) (by decide) dL_isNeeded_257 (fun q257 => ?_) (fun q257 => ?_)
  · have hf2 := ift hf1 q257
    exact V_sub [1, 2, 3, 4, 5, 6] rfl (fL_isNeeded_j307_ok hE X hk143 hf2)
  · have hf2 := ife hf1 q257
    refine V_iload X 9 rfl dL_isNeeded_260 ?_
    refine V_iload X 5 rfl dL_isNeeded_262 ?_
    refine V_icmp_gt X (tgt := 307) (by decide) dL_isNeeded_264 (fun q264 => ?_) (fun q264 => ?_)
    · have hf3 := ift hf2 q264
      exact V_sub [1, 2, 3, 4, 5, 6] rfl (fL_isNeeded_j307_ok hE X hk143 hf3)
    · have hf3 := ife hf2 q264
      refine V_iload X 9 rfl dL_isNeeded_267 ?_
      refine V_iload X 5 rfl dL_isNeeded_269 ?_
      refine V_icmp_ne X (tgt := 311) (by decide) dL_isNeeded_271 (fun q271 => ?_) (fun q271 => ?_)
      · have hf4 := ife hf3 q271
        refine V_iconst X (v := 0) (by decide) dL_isNeeded_311 ?_
        refine V_istore X (by decide) rfl dL_isNeeded_312 ?_
        refine V_iinc X (v := _ + 1) 7 rfl (by rfl) (by decide) rfl dL_isNeeded_314 ?_
        refine V_goto X (tgt := 143) (by decide) dL_isNeeded_317 ?_
        exact V_sub [3, 4, 5, 6, 7, 1, 0] rfl (hk143 _ _ _ _ _ _ _ hf4)
      · have hf4 := ift hf3 q271
        refine V_iload X 7 rfl dL_isNeeded_274 ?_
        refine V_iload_n X 2 rfl dL_isNeeded_276 ?_
        refine V_icmp_gt X (tgt := 307) (by decide) dL_isNeeded_277 (fun q277 => ?_) (fun q277 => ?_)
        · have hf5 := ift hf4 q277
          exact V_sub [1, 2, 3, 4, 5, 6] rfl (fL_isNeeded_j307_ok hE X hk143 hf5)
        · have hf5 := ife hf4 q277
          refine V_iload X 7 rfl dL_isNeeded_280 ?_
          refine V_iload_n X 2 rfl dL_isNeeded_282 ?_
          refine V_icmp_ne X (tgt := 311) (by decide) dL_isNeeded_283 (fun q283 => ?_) (fun q283 => ?_)
          · have hf6 := ife hf5 q283
            refine V_iconst X (v := 0) (by decide) dL_isNeeded_311 ?_
            refine V_istore X (by decide) rfl dL_isNeeded_312 ?_
            refine V_iinc X (v := _ + 1) 7 rfl (by rfl) (by decide) rfl dL_isNeeded_314 ?_
            refine V_goto X (tgt := 143) (by decide) dL_isNeeded_317 ?_
            exact V_sub [3, 4, 5, 6, 7, 1, 0] rfl (hk143 _ _ _ _ _ _ _ hf6)
          · have hf6 := ift hf5 q283
            refine V_iload X 8 rfl dL_isNeeded_286 ?_
            refine V_iload_n X 3 rfl dL_isNeeded_288 ?_
            refine V_icmp_gt X (tgt := 307) (by decide) dL_isNeeded_289 (fun q289 => ?_) (fun q289 => ?_)
            · have hf7 := ift hf6 q289
              exact V_sub [1, 2, 3, 4, 5, 6] rfl (fL_isNeeded_j307_ok hE X hk143 hf7)
            · have hf7 := ife hf6 q289
              refine V_iload X 8 rfl dL_isNeeded_292 ?_
              refine V_iload_n X 3 rfl dL_isNeeded_294 ?_
              refine V_icmp_ne X (tgt := 311) (by decide) dL_isNeeded_295 (fun q295 => ?_) (fun q295 => ?_)
              · have hf8 := ife hf7 q295
                refine V_iconst X (v := 0) (by decide) dL_isNeeded_311 ?_
                refine V_istore X (by decide) rfl dL_isNeeded_312 ?_
                refine V_iinc X (v := _ + 1) 7 rfl (by rfl) (by decide) rfl dL_isNeeded_314 ?_
                refine V_goto X (tgt := 143) (by decide) dL_isNeeded_317 ?_
                exact V_sub [3, 4, 5, 6, 7, 1, 0] rfl (hk143 _ _ _ _ _ _ _ hf8)
              · have hf8 := ift hf7 q295
                refine V_iload X 6 rfl dL_isNeeded_298 ?_
                refine V_bipush X (v := 8) (by decide) dL_isNeeded_300 ?_
                refine V_irem X (by decide) dL_isNeeded_302 ?_
                refine V_iload_n X 4 rfl dL_isNeeded_303 ?_
                refine V_icmp_lt X (tgt := 311) (by decide) dL_isNeeded_304 (fun q304 => ?_) (fun q304 => ?_)
                · have hf9 := ift hf8 q304
                  refine V_iconst X (v := 0) (by decide) dL_isNeeded_311 ?_
                  refine V_istore X (by decide) rfl dL_isNeeded_312 ?_
                  refine V_iinc X (v := _ + 1) 7 rfl (by rfl) (by decide) rfl dL_isNeeded_314 ?_
                  refine V_goto X (tgt := 143) (by decide) dL_isNeeded_317 ?_
                  exact V_sub [3, 4, 5, 6, 7, 1, 0] rfl (hk143 _ _ _ _ _ _ _ hf9)
                · have hf9 := ife hf8 q304
                  exact V_sub [1, 2, 3, 4, 5, 6] rfl (fL_isNeeded_j307_ok hE X hk143 hf9)
def fL_isNeeded_j252 (k143 : Int32 → Int32 → Int32 → Int32 → Int32 → Int32 → Hp → Re) (x1 : Int32) (x2 : Int32) (x3 : Int32) (x4 : Int32) (x6 : Int32) (x7 : Int32) (x8 : Int32) (x11 : Int32) (h : Hp) : Re :=
  fL_isNeeded_j253 k143 x1 x2 x3 x4 x6 x7 x8 x11 0 h
set_option maxRecDepth 20000 in
set_option maxHeartbeats 4000000 in
theorem fL_isNeeded_j252_ok (hE : IW E) (X : XC E RL cL_isNeeded 13 (some .boolean) A p s m args meth c) {k143 : Int32 → Int32 → Int32 → Int32 → Int32 → Int32 → Hp → Re} (hk143 : ∀ (x1 : Int32) (x2 : Int32) (x3 : Int32) (x4 : Int32) (x5 : Int32) (x6 : Int32) (h : Hp), k143 x1 x2 x3 x4 x5 x6 h = some (r, h') → VM E 13 A p l e 7 s m args below meth c (Qi E A r h') 143 [(0, .ref (eA E 0)), (1, .int x1), (2, .int x2), (3, .int x3), (4, .int x4), (5, .int x5), (6, .int x6)] [] h) {x1 : Int32} {x2 : Int32} {x3 : Int32} {x4 : Int32} {x6 : Int32} {x7 : Int32} {x8 : Int32} {x11 : Int32} {h : Hp} (hf0 : fL_isNeeded_j252 k143 x1 x2 x3 x4 x6 x7 x8 x11 h = some (r, h')) : VM E 13 A p l e 7 s m args below meth c (Qi E A r h') 252 [(0, .ref (eA E 0)), (1, .int x1), (2, .int x2), (3, .int x3), (4, .int x4), (6, .int x6), (7, .int x7), (8, .int x8), (11, .int x11)] [] h := by
  unfold fL_isNeeded_j252 at hf0
  have hf1 := hf0
  refine V_iconst X (v := 0) (by decide) dL_isNeeded_252 ?_
  exact V_sub [0, 1, 2, 3, 4, 5, 6, 7, 8] rfl (fL_isNeeded_j253_ok hE X hk143 hf1)
def fL_isNeeded_j248 (k143 : Int32 → Int32 → Int32 → Int32 → Int32 → Int32 → Hp → Re) (x1 : Int32) (x2 : Int32) (x3 : Int32) (x4 : Int32) (x6 : Int32) (x7 : Int32) (x8 : Int32) (x11 : Int32) (h : Hp) : Re :=
  fL_isNeeded_j253 k143 x1 x2 x3 x4 x6 x7 x8 x11 1 h
set_option maxRecDepth 20000 in
set_option maxHeartbeats 4000000 in
theorem fL_isNeeded_j248_ok (hE : IW E) (X : XC E RL cL_isNeeded 13 (some .boolean) A p s m args meth c) {k143 : Int32 → Int32 → Int32 → Int32 → Int32 → Int32 → Hp → Re} (hk143 : ∀ (x1 : Int32) (x2 : Int32) (x3 : Int32) (x4 : Int32) (x5 : Int32) (x6 : Int32) (h : Hp), k143 x1 x2 x3 x4 x5 x6 h = some (r, h') → VM E 13 A p l e 7 s m args below meth c (Qi E A r h') 143 [(0, .ref (eA E 0)), (1, .int x1), (2, .int x2), (3, .int x3), (4, .int x4), (5, .int x5), (6, .int x6)] [] h) {x1 : Int32} {x2 : Int32} {x3 : Int32} {x4 : Int32} {x6 : Int32} {x7 : Int32} {x8 : Int32} {x11 : Int32} {h : Hp} (hf0 : fL_isNeeded_j248 k143 x1 x2 x3 x4 x6 x7 x8 x11 h = some (r, h')) : VM E 13 A p l e 7 s m args below meth c (Qi E A r h') 248 [(0, .ref (eA E 0)), (1, .int x1), (2, .int x2), (3, .int x3), (4, .int x4), (6, .int x6), (7, .int x7), (8, .int x8), (11, .int x11)] [] h := by
  unfold fL_isNeeded_j248 at hf0
  have hf1 := hf0
  refine V_iconst X (v := 1) (by decide) dL_isNeeded_248 ?_
  refine V_goto X (tgt := 253) (by decide) dL_isNeeded_249 ?_
  exact V_sub [0, 1, 2, 3, 4, 5, 6, 7, 8] rfl (fL_isNeeded_j253_ok hE X hk143 hf1)
def fL_isNeeded_B143 (k143 : Int32 → Int32 → Int32 → Int32 → Int32 → Int32 → Hp → Re) (x1 : Int32) (x2 : Int32) (x3 : Int32) (x4 : Int32) (x5 : Int32) (x6 : Int32) (h : Hp) : Re :=
  if 160 ≤ x6 then (rz x5 h) else (if x5 = 0 then (rz x5 h) else ((f7_at ((x6 - x6 / 32 * 32) / 8) (x6 / 32) (x6 - x6 / 8 * 8) 0 h).bind fun c3 => (f7_at ((x6 - x6 / 32 * 32) / 8) (x6 / 32) (x6 - x6 / 8 * 8) 2 c3.2).bind fun c5 => (f7_at ((x6 - x6 / 32 * 32) / 8) (x6 / 32) (x6 - x6 / 8 * 8) 1 c5.2).bind fun c7 => (f7_count 0 c7.2).bind fun c9 => if (x6 / 32) < c9.1 then (fL_isNeeded_j252 k143 x1 x2 x3 x4 x6 (x6 / 32) ((x6 - x6 / 32 * 32) / 8) c7.1 c9.2) else (if c5.1 ≤ 0 then (fL_isNeeded_j252 k143 x1 x2 x3 x4 x6 (x6 / 32) ((x6 - x6 / 32 * 32) / 8) c7.1 c9.2) else (if c7.1 = 0 then (fL_isNeeded_j248 k143 x1 x2 x3 x4 x6 (x6 / 32) ((x6 - x6 / 32 * 32) / 8) c7.1 c9.2) else (if c3.1 = c5.1 then (fL_isNeeded_j248 k143 x1 x2 x3 x4 x6 (x6 / 32) ((x6 - x6 / 32 * 32) / 8) c7.1 c9.2) else (fL_isNeeded_j252 k143 x1 x2 x3 x4 x6 (x6 / 32) ((x6 - x6 / 32 * 32) / 8) c7.1 c9.2))))))
set_option maxRecDepth 20000 in
set_option maxHeartbeats 4000000 in
theorem fL_isNeeded_B143_ok (hE : IW E) (X : XC E RL cL_isNeeded 13 (some .boolean) A p s m args meth c) {k143 : Int32 → Int32 → Int32 → Int32 → Int32 → Int32 → Hp → Re} (hk143 : ∀ (x1 : Int32) (x2 : Int32) (x3 : Int32) (x4 : Int32) (x5 : Int32) (x6 : Int32) (h : Hp), k143 x1 x2 x3 x4 x5 x6 h = some (r, h') → VM E 13 A p l e 7 s m args below meth c (Qi E A r h') 143 [(0, .ref (eA E 0)), (1, .int x1), (2, .int x2), (3, .int x3), (4, .int x4), (5, .int x5), (6, .int x6)] [] h) {x1 : Int32} {x2 : Int32} {x3 : Int32} {x4 : Int32} {x5 : Int32} {x6 : Int32} {h : Hp} (hf0 : fL_isNeeded_B143 k143 x1 x2 x3 x4 x5 x6 h = some (r, h')) : VM E 13 A p l e 7 s m args below meth c (Qi E A r h') 143 [(0, .ref (eA E 0)), (1, .int x1), (2, .int x2), (3, .int x3), (4, .int x4), (5, .int x5), (6, .int x6)] [] h := by
  unfold fL_isNeeded_B143 at hf0
  have hf1 := hf0
  refine V_iload X 6 rfl dL_isNeeded_143 ?_
  refine V_sipush X (v := 160) (by decide) dL_isNeeded_145 ?_
  refine V_icmp_ge X (tgt := 320) (by decide) dL_isNeeded_148 (fun q148 => ?_) (fun q148 => ?_)
  · have hf2 := ift hf1 q148
    refine V_iload X 5 rfl dL_isNeeded_320 ?_
    exact V_zret X rfl hf2 dL_isNeeded_322
  · have hf2 := ife hf1 q148
    refine V_iload X 5 rfl dL_isNeeded_151 ?_
    refine V_if_eq X (tgt := 320) (by decide) dL_isNeeded_153 (fun q153 => ?_) (fun q153 => ?_)
    · have hf3 := ift hf2 q153
      refine V_iload X 5 rfl dL_isNeeded_320 ?_
      exact V_zret X rfl hf3 dL_isNeeded_322
    · have hf3 := ife hf2 q153
      refine V_iload X 6 rfl dL_isNeeded_156 ?_
      refine V_bipush X (v := 32) (by decide) dL_isNeeded_158 ?_
      refine V_idiv X (by decide) dL_isNeeded_160 ?_
      refine V_istore X (by decide) rfl dL_isNeeded_161 ?_
      refine V_iload X 7 rfl dL_isNeeded_163 ?_
      refine V_bipush X (v := 32) (by decide) dL_isNeeded_165 ?_
      refine V_irem X (by decide) dL_isNeeded_167 ?_
      refine V_bipush X (v := 8) (by decide) dL_isNeeded_168 ?_
      refine V_idiv X (by decide) dL_isNeeded_170 ?_
      refine V_istore X (by decide) rfl dL_isNeeded_171 ?_
      refine V_aload_n X 2 rfl dL_isNeeded_173 ?_
      refine V_iload X 0 rfl dL_isNeeded_174 ?_
      refine V_iload X 1 rfl dL_isNeeded_176 ?_
      refine V_iload X 8 rfl dL_isNeeded_178 ?_
      refine V_bipush X (v := 8) (by decide) dL_isNeeded_180 ?_
      refine V_irem X (by decide) dL_isNeeded_182 ?_
      refine V_iconst X (v := 0) (by decide) dL_isNeeded_183 ?_
      obtain ⟨c3, e_c3, hf5⟩ := obd hf3
      refine V_callVi X (OB_0 hE) rfl rfl (f7_at_ok hE e_c3) ys_X7_at yw_X7_at ml_L_15 rfl rfl ⟨Nat.le_of_ble_eq_true rfl, Nat.le_of_ble_eq_true rfl⟩ ⟨Nat.zero_le _, Nat.zero_le _⟩ (Nat.le_of_ble_eq_true rfl) dL_isNeeded_184 ?_
      refine V_istore X (by decide) rfl dL_isNeeded_187 ?_
      refine V_aload_n X 3 rfl dL_isNeeded_189 ?_
      refine V_iload X 1 rfl dL_isNeeded_190 ?_
      refine V_iload X 2 rfl dL_isNeeded_192 ?_
      refine V_iload X 9 rfl dL_isNeeded_194 ?_
      refine V_bipush X (v := 8) (by decide) dL_isNeeded_196 ?_
      refine V_irem X (by decide) dL_isNeeded_198 ?_
      refine V_iconst X (v := 2) (by decide) dL_isNeeded_199 ?_
      obtain ⟨c5, e_c5, hf7⟩ := obd hf5
      refine V_callVi X (OB_0 hE) rfl rfl (f7_at_ok hE e_c5) ys_X7_at yw_X7_at ml_L_15 rfl rfl ⟨Nat.le_of_ble_eq_true rfl, Nat.le_of_ble_eq_true rfl⟩ ⟨Nat.zero_le _, Nat.zero_le _⟩ (Nat.le_of_ble_eq_true rfl) dL_isNeeded_200 ?_
      refine V_istore X (by decide) rfl dL_isNeeded_203 ?_
      refine V_aload_n X 4 rfl dL_isNeeded_205 ?_
      refine V_iload X 2 rfl dL_isNeeded_206 ?_
      refine V_iload X 3 rfl dL_isNeeded_208 ?_
      refine V_iload X 10 rfl dL_isNeeded_210 ?_
      refine V_bipush X (v := 8) (by decide) dL_isNeeded_212 ?_
      refine V_irem X (by decide) dL_isNeeded_214 ?_
      refine V_iconst X (v := 1) (by decide) dL_isNeeded_215 ?_
      obtain ⟨c7, e_c7, hf9⟩ := obd hf7
      refine V_callVi X (OB_0 hE) rfl rfl (f7_at_ok hE e_c7) ys_X7_at yw_X7_at ml_L_15 rfl rfl ⟨Nat.le_of_ble_eq_true rfl, Nat.le_of_ble_eq_true rfl⟩ ⟨Nat.zero_le _, Nat.zero_le _⟩ (Nat.le_of_ble_eq_true rfl) dL_isNeeded_216 ?_
      refine V_istore X (by decide) rfl dL_isNeeded_219 ?_
      refine V_iload X 4 rfl dL_isNeeded_221 ?_
      refine V_aload_n X 5 rfl dL_isNeeded_223 ?_
      refine V_iconst X (v := 0) (by decide) dL_isNeeded_224 ?_
      obtain ⟨c9, e_c9, hf11⟩ := obd hf9
      refine V_callVi X (OB_0 hE) rfl rfl (f7_count_ok hE e_c9) ys_X7_count yw_X7_count ml_L_19 rfl rfl ⟨Nat.le_of_ble_eq_true rfl, Nat.le_of_ble_eq_true rfl⟩ ⟨Nat.zero_le _, Nat.zero_le _⟩ (Nat.le_of_ble_eq_true rfl) dL_isNeeded_225 ?_
      refine V_icmp_lt X (tgt := 252) (by decide) dL_isNeeded_228 (fun q228 => ?_) (fun q228 => ?_)
      · have hf12 := ift hf11 q228
        exact V_sub [5, 6, 7, 8, 9, 11, 4, 3, 0] rfl (fL_isNeeded_j252_ok hE X hk143 hf12)
      · have hf12 := ife hf11 q228
        refine V_iload X 1 rfl dL_isNeeded_231 ?_
        refine V_if_le X (tgt := 252) (by decide) dL_isNeeded_233 (fun q233 => ?_) (fun q233 => ?_)
        · have hf13 := ift hf12 q233
          exact V_sub [5, 6, 7, 8, 9, 11, 4, 3, 0] rfl (fL_isNeeded_j252_ok hE X hk143 hf13)
        · have hf13 := ife hf12 q233
          refine V_iload X 0 rfl dL_isNeeded_236 ?_
          refine V_if_eq X (tgt := 248) (by decide) dL_isNeeded_238 (fun q238 => ?_) (fun q238 => ?_)
          · have hf14 := ift hf13 q238
            exact V_sub [5, 6, 7, 8, 9, 11, 4, 3, 0] rfl (fL_isNeeded_j248_ok hE X hk143 hf14)
          · have hf14 := ife hf13 q238
            refine V_iload X 2 rfl dL_isNeeded_241 ?_
            refine V_iload X 1 rfl dL_isNeeded_243 ?_
            refine V_icmp_ne X (tgt := 252) (by decide) dL_isNeeded_245 (fun q245 => ?_) (fun q245 => ?_)
            · have hf15 := ife hf14 q245
              exact V_sub [5, 6, 7, 8, 9, 11, 4, 3, 0] rfl (fL_isNeeded_j252_ok hE X hk143 hf15)
            · have hf15 := ift hf14 q245
              exact V_sub [5, 6, 7, 8, 9, 11, 4, 3, 0] rfl (fL_isNeeded_j248_ok hE X hk143 hf15)
def fL_isNeeded_L143 : Nat → Int32 → Int32 → Int32 → Int32 → Int32 → Int32 → Hp → Re
  | 0 => fun _ _ _ _ _ _ _ => none
  | n + 1 => fL_isNeeded_B143 (fL_isNeeded_L143 n)
theorem fL_isNeeded_L143_s (n : Nat) (x1 : Int32) (x2 : Int32) (x3 : Int32) (x4 : Int32) (x5 : Int32) (x6 : Int32) (h : Hp) : fL_isNeeded_L143 (n + 1) x1 x2 x3 x4 x5 x6 h = fL_isNeeded_B143 (fL_isNeeded_L143 n) x1 x2 x3 x4 x5 x6 h := rfl
theorem fL_isNeeded_L143_ok (hE : IW E) (X : XC E RL cL_isNeeded 13 (some .boolean) A p s m args meth c) : ∀ (n : Nat) (x1 : Int32) (x2 : Int32) (x3 : Int32) (x4 : Int32) (x5 : Int32) (x6 : Int32) (h : Hp), fL_isNeeded_L143 n x1 x2 x3 x4 x5 x6 h = some (r, h') → VM E 13 A p l e 7 s m args below meth c (Qi E A r h') 143 [(0, .ref (eA E 0)), (1, .int x1), (2, .int x2), (3, .int x3), (4, .int x4), (5, .int x5), (6, .int x6)] [] h := by
  intro n
  induction n with
  | zero =>
    intro x1 x2 x3 x4 x5 x6 h q
    have q : (none : Re) = some (r, h') := q
    cases q
  | succ n ih =>
    intro x1 x2 x3 x4 x5 x6 h q
    exact fL_isNeeded_B143_ok hE X ih q
def fL_isNeeded_j133 (x1 : Int32) (x2 : Int32) (x3 : Int32) (x4 : Int32) (h : Hp) : Re :=
  fL_isNeeded_L143 FU x1 x2 x3 x4 1 0 h
set_option maxRecDepth 20000 in
set_option maxHeartbeats 4000000 in
theorem fL_isNeeded_j133_ok (hE : IW E) (X : XC E RL cL_isNeeded 13 (some .boolean) A p s m args meth c) {x1 : Int32} {x2 : Int32} {x3 : Int32} {x4 : Int32} {h : Hp} (hf0 : fL_isNeeded_j133 x1 x2 x3 x4 h = some (r, h')) : VM E 13 A p l e 7 s m args below meth c (Qi E A r h') 133 [(0, .ref (eA E 0)), (1, .int x1), (2, .int x2), (3, .int x3), (4, .int x4)] [] h := by
  unfold fL_isNeeded_j133 at hf0
  have hf1 := hf0
  refine V_iconst X (v := 1) (by decide) dL_isNeeded_133 ?_
  refine V_goto X (tgt := 138) (by decide) dL_isNeeded_134 ?_
  refine V_istore X (by decide) rfl dL_isNeeded_138 ?_
  refine V_iconst X (v := 0) (by decide) dL_isNeeded_140 ?_
  refine V_istore X (by decide) rfl dL_isNeeded_141 ?_
  exact V_sub [2, 3, 4, 5, 6, 1, 0] rfl (fL_isNeeded_L143_ok hE X FU _ _ _ _ _ _ _ hf1)
def fL_isNeeded_e (h : Hp) : Re :=
  (f7_needed 1 h).bind fun c1 => if 0 ≤ c1.1 then ((f7_needed 0 c1.2).bind fun c4 => (f7_needed 2 c4.2).bind fun c6 => (f7_at c4.1 c1.1 c6.1 1 c6.2).bind fun c8 => (f7_count 0 c8.2).bind fun c10 => if c1.1 < c10.1 then (fL_isNeeded_L143 FU c1.1 c4.1 c6.1 c8.1 0 0 c10.2) else ((f7_needed 3 c10.2).bind fun c13 => (f7_at c4.1 c1.1 c6.1 2 c13.2).bind fun c15 => if c13.1 = c15.1 then ((f7_needed 3 c15.2).bind fun c18 => if c18.1 ≤ 0 then (fL_isNeeded_L143 FU c1.1 c4.1 c6.1 c8.1 0 0 c18.2) else ((f7_needed 4 c18.2).bind fun c21 => (f7_count 7 c21.2).bind fun c23 => if c21.1 = (c23.1 - c8.1) then ((f7_needed 4 c23.2).bind fun c26 => if c26.1 ≤ 0 then (fL_isNeeded_L143 FU c1.1 c4.1 c6.1 c8.1 0 0 c26.2) else (if c8.1 = 0 then (fL_isNeeded_j133 c1.1 c4.1 c6.1 c8.1 c26.2) else ((f7_at c4.1 c1.1 c6.1 0 c26.2).bind fun c30 => (f7_needed 3 c30.2).bind fun c32 => if c30.1 = c32.1 then (fL_isNeeded_j133 c1.1 c4.1 c6.1 c8.1 c32.2) else (fL_isNeeded_L143 FU c1.1 c4.1 c6.1 c8.1 0 0 c32.2)))) else (fL_isNeeded_L143 FU c1.1 c4.1 c6.1 c8.1 0 0 c23.2))) else (fL_isNeeded_L143 FU c1.1 c4.1 c6.1 c8.1 0 0 c15.2))) else (if c1.1 = (-6) then ((f7_needed 4 c1.2).bind fun c36 => if c36.1 = (-6) then (rz 1 c36.2) else (rz 0 c36.2)) else (rz 0 c1.2))
set_option maxRecDepth 20000 in
set_option maxHeartbeats 4000000 in
theorem fL_isNeeded_e_ok (hE : IW E) (X : XC E RL cL_isNeeded 13 (some .boolean) A p s m args meth c) {h : Hp} (hf0 : fL_isNeeded_e  h = some (r, h')) : VM E 13 A p l e 7 s m args below meth c (Qi E A r h') 0 [(0, .ref (eA E 0))] [] h := by
  unfold fL_isNeeded_e at hf0
  have hf1 := hf0
  refine V_aload_n X 0 rfl dL_isNeeded_0 ?_
  refine V_iconst X (v := 1) (by decide) dL_isNeeded_1 ?_
  obtain ⟨c1, e_c1, hf3⟩ := obd hf1
  refine V_callVi X (OB_0 hE) rfl rfl (f7_needed_ok hE e_c1) ys_X7_needed yw_X7_needed ml_L_42 rfl rfl ⟨Nat.le_of_ble_eq_true rfl, Nat.le_of_ble_eq_true rfl⟩ ⟨Nat.zero_le _, Nat.zero_le _⟩ (Nat.le_of_ble_eq_true rfl) dL_isNeeded_2 ?_
  refine V_istore_n X (by decide) rfl dL_isNeeded_5 ?_
  refine V_iload_n X 0 rfl dL_isNeeded_6 ?_
  refine V_if_ge X (tgt := 32) (by decide) dL_isNeeded_7 (fun q7 => ?_) (fun q7 => ?_)
  · have hf4 := ift hf3 q7
    refine V_aload_n X 1 rfl dL_isNeeded_32 ?_
    refine V_iconst X (v := 0) (by decide) dL_isNeeded_33 ?_
    obtain ⟨c4, e_c4, hf6⟩ := obd hf4
    refine V_callVi X (OB_0 hE) rfl rfl (f7_needed_ok hE e_c4) ys_X7_needed yw_X7_needed ml_L_42 rfl rfl ⟨Nat.le_of_ble_eq_true rfl, Nat.le_of_ble_eq_true rfl⟩ ⟨Nat.zero_le _, Nat.zero_le _⟩ (Nat.le_of_ble_eq_true rfl) dL_isNeeded_34 ?_
    refine V_istore_n X (by decide) rfl dL_isNeeded_37 ?_
    refine V_aload_n X 2 rfl dL_isNeeded_38 ?_
    refine V_iconst X (v := 2) (by decide) dL_isNeeded_39 ?_
    obtain ⟨c6, e_c6, hf8⟩ := obd hf6
    refine V_callVi X (OB_0 hE) rfl rfl (f7_needed_ok hE e_c6) ys_X7_needed yw_X7_needed ml_L_42 rfl rfl ⟨Nat.le_of_ble_eq_true rfl, Nat.le_of_ble_eq_true rfl⟩ ⟨Nat.zero_le _, Nat.zero_le _⟩ (Nat.le_of_ble_eq_true rfl) dL_isNeeded_40 ?_
    refine V_istore_n X (by decide) rfl dL_isNeeded_43 ?_
    refine V_aload_n X 3 rfl dL_isNeeded_44 ?_
    refine V_iload_n X 1 rfl dL_isNeeded_45 ?_
    refine V_iload_n X 2 rfl dL_isNeeded_46 ?_
    refine V_iload_n X 0 rfl dL_isNeeded_47 ?_
    refine V_iconst X (v := 1) (by decide) dL_isNeeded_48 ?_
    obtain ⟨c8, e_c8, hf10⟩ := obd hf8
    refine V_callVi X (OB_0 hE) rfl rfl (f7_at_ok hE e_c8) ys_X7_at yw_X7_at ml_L_15 rfl rfl ⟨Nat.le_of_ble_eq_true rfl, Nat.le_of_ble_eq_true rfl⟩ ⟨Nat.zero_le _, Nat.zero_le _⟩ (Nat.le_of_ble_eq_true rfl) dL_isNeeded_49 ?_
    refine V_istore X (by decide) rfl dL_isNeeded_52 ?_
    refine V_iload_n X 3 rfl dL_isNeeded_54 ?_
    refine V_aload_n X 4 rfl dL_isNeeded_55 ?_
    refine V_iconst X (v := 0) (by decide) dL_isNeeded_56 ?_
    obtain ⟨c10, e_c10, hf12⟩ := obd hf10
    refine V_callVi X (OB_0 hE) rfl rfl (f7_count_ok hE e_c10) ys_X7_count yw_X7_count ml_L_19 rfl rfl ⟨Nat.le_of_ble_eq_true rfl, Nat.le_of_ble_eq_true rfl⟩ ⟨Nat.zero_le _, Nat.zero_le _⟩ (Nat.le_of_ble_eq_true rfl) dL_isNeeded_57 ?_
    refine V_icmp_lt X (tgt := 137) (by decide) dL_isNeeded_60 (fun q60 => ?_) (fun q60 => ?_)
    · have hf13 := ift hf12 q60
      refine V_iconst X (v := 0) (by decide) dL_isNeeded_137 ?_
      refine V_istore X (by decide) rfl dL_isNeeded_138 ?_
      refine V_iconst X (v := 0) (by decide) dL_isNeeded_140 ?_
      refine V_istore X (by decide) rfl dL_isNeeded_141 ?_
      exact V_sub [6, 5, 4, 3, 2, 1, 0] rfl (fL_isNeeded_L143_ok hE X FU _ _ _ _ _ _ _ hf13)
    · have hf13 := ife hf12 q60
      refine V_aload_n X 4 rfl dL_isNeeded_63 ?_
      refine V_iconst X (v := 3) (by decide) dL_isNeeded_64 ?_
      obtain ⟨c13, e_c13, hf15⟩ := obd hf13
      refine V_callVi X (OB_0 hE) rfl rfl (f7_needed_ok hE e_c13) ys_X7_needed yw_X7_needed ml_L_42 rfl rfl ⟨Nat.le_of_ble_eq_true rfl, Nat.le_of_ble_eq_true rfl⟩ ⟨Nat.zero_le _, Nat.zero_le _⟩ (Nat.le_of_ble_eq_true rfl) dL_isNeeded_65 ?_
      refine V_aload_n X 4 rfl dL_isNeeded_68 ?_
      refine V_iload_n X 2 rfl dL_isNeeded_69 ?_
      refine V_iload_n X 3 rfl dL_isNeeded_70 ?_
      refine V_iload_n X 1 rfl dL_isNeeded_71 ?_
      refine V_iconst X (v := 2) (by decide) dL_isNeeded_72 ?_
      obtain ⟨c15, e_c15, hf17⟩ := obd hf15
      refine V_callVi X (OB_0 hE) rfl rfl (f7_at_ok hE e_c15) ys_X7_at yw_X7_at ml_L_15 rfl rfl ⟨Nat.le_of_ble_eq_true rfl, Nat.le_of_ble_eq_true rfl⟩ ⟨Nat.zero_le _, Nat.zero_le _⟩ (Nat.le_of_ble_eq_true rfl) dL_isNeeded_73 ?_
      refine V_icmp_ne X (tgt := 137) (by decide) dL_isNeeded_76 (fun q76 => ?_) (fun q76 => ?_)
      · have hf18 := ife hf17 q76
        refine V_iconst X (v := 0) (by decide) dL_isNeeded_137 ?_
        refine V_istore X (by decide) rfl dL_isNeeded_138 ?_
        refine V_iconst X (v := 0) (by decide) dL_isNeeded_140 ?_
        refine V_istore X (by decide) rfl dL_isNeeded_141 ?_
        exact V_sub [6, 5, 4, 3, 2, 1, 0] rfl (fL_isNeeded_L143_ok hE X FU _ _ _ _ _ _ _ hf18)
      · have hf18 := ift hf17 q76
        refine V_aload_n X 4 rfl dL_isNeeded_79 ?_
        refine V_iconst X (v := 3) (by decide) dL_isNeeded_80 ?_
        obtain ⟨c18, e_c18, hf20⟩ := obd hf18
        refine V_callVi X (OB_0 hE) rfl rfl (f7_needed_ok hE e_c18) ys_X7_needed yw_X7_needed ml_L_42 rfl rfl ⟨Nat.le_of_ble_eq_true rfl, Nat.le_of_ble_eq_true rfl⟩ ⟨Nat.zero_le _, Nat.zero_le _⟩ (Nat.le_of_ble_eq_true rfl) dL_isNeeded_81 ?_
        refine V_if_le X (tgt := 137) (by decide) dL_isNeeded_84 (fun q84 => ?_) (fun q84 => ?_)
        · have hf21 := ift hf20 q84
          refine V_iconst X (v := 0) (by decide) dL_isNeeded_137 ?_
          refine V_istore X (by decide) rfl dL_isNeeded_138 ?_
          refine V_iconst X (v := 0) (by decide) dL_isNeeded_140 ?_
          refine V_istore X (by decide) rfl dL_isNeeded_141 ?_
          exact V_sub [6, 5, 4, 3, 2, 1, 0] rfl (fL_isNeeded_L143_ok hE X FU _ _ _ _ _ _ _ hf21)
        · have hf21 := ife hf20 q84
          refine V_aload_n X 4 rfl dL_isNeeded_87 ?_
          refine V_iconst X (v := 4) (by decide) dL_isNeeded_88 ?_
          obtain ⟨c21, e_c21, hf23⟩ := obd hf21
          refine V_callVi X (OB_0 hE) rfl rfl (f7_needed_ok hE e_c21) ys_X7_needed yw_X7_needed ml_L_42 rfl rfl ⟨Nat.le_of_ble_eq_true rfl, Nat.le_of_ble_eq_true rfl⟩ ⟨Nat.zero_le _, Nat.zero_le _⟩ (Nat.le_of_ble_eq_true rfl) dL_isNeeded_89 ?_
          refine V_aload_n X 4 rfl dL_isNeeded_92 ?_
          refine V_bipush X (v := 7) (by decide) dL_isNeeded_93 ?_
          obtain ⟨c23, e_c23, hf25⟩ := obd hf23
          refine V_callVi X (OB_0 hE) rfl rfl (f7_count_ok hE e_c23) ys_X7_count yw_X7_count ml_L_19 rfl rfl ⟨Nat.le_of_ble_eq_true rfl, Nat.le_of_ble_eq_true rfl⟩ ⟨Nat.zero_le _, Nat.zero_le _⟩ (Nat.le_of_ble_eq_true rfl) dL_isNeeded_95 ?_
          refine V_iload X 0 rfl dL_isNeeded_98 ?_
          refine V_isub X dL_isNeeded_100 ?_
          refine V_icmp_ne X (tgt := 137) (by decide) dL_isNeeded_101 (fun q101 => ?_) (fun q101 => ?_)
          · have hf26 := ife hf25 q101
            refine V_iconst X (v := 0) (by decide) dL_isNeeded_137 ?_
            refine V_istore X (by decide) rfl dL_isNeeded_138 ?_
            refine V_iconst X (v := 0) (by decide) dL_isNeeded_140 ?_
            refine V_istore X (by decide) rfl dL_isNeeded_141 ?_
            exact V_sub [6, 5, 4, 3, 2, 1, 0] rfl (fL_isNeeded_L143_ok hE X FU _ _ _ _ _ _ _ hf26)
          · have hf26 := ift hf25 q101
            refine V_aload_n X 4 rfl dL_isNeeded_104 ?_
            refine V_iconst X (v := 4) (by decide) dL_isNeeded_105 ?_
            obtain ⟨c26, e_c26, hf28⟩ := obd hf26
            refine V_callVi X (OB_0 hE) rfl rfl (f7_needed_ok hE e_c26) ys_X7_needed yw_X7_needed ml_L_42 rfl rfl ⟨Nat.le_of_ble_eq_true rfl, Nat.le_of_ble_eq_true rfl⟩ ⟨Nat.zero_le _, Nat.zero_le _⟩ (Nat.le_of_ble_eq_true rfl) dL_isNeeded_106 ?_
            refine V_if_le X (tgt := 137) (by decide) dL_isNeeded_109 (fun q109 => ?_) (fun q109 => ?_)
            · have hf29 := ift hf28 q109
              refine V_iconst X (v := 0) (by decide) dL_isNeeded_137 ?_
              refine V_istore X (by decide) rfl dL_isNeeded_138 ?_
              refine V_iconst X (v := 0) (by decide) dL_isNeeded_140 ?_
              refine V_istore X (by decide) rfl dL_isNeeded_141 ?_
              exact V_sub [6, 5, 4, 3, 2, 1, 0] rfl (fL_isNeeded_L143_ok hE X FU _ _ _ _ _ _ _ hf29)
            · have hf29 := ife hf28 q109
              refine V_iload X 0 rfl dL_isNeeded_112 ?_
              refine V_if_eq X (tgt := 133) (by decide) dL_isNeeded_114 (fun q114 => ?_) (fun q114 => ?_)
              · have hf30 := ift hf29 q114
                exact V_sub [4, 3, 2, 1, 0] rfl (fL_isNeeded_j133_ok hE X hf30)
              · have hf30 := ife hf29 q114
                refine V_aload_n X 4 rfl dL_isNeeded_117 ?_
                refine V_iload_n X 2 rfl dL_isNeeded_118 ?_
                refine V_iload_n X 3 rfl dL_isNeeded_119 ?_
                refine V_iload_n X 1 rfl dL_isNeeded_120 ?_
                refine V_iconst X (v := 0) (by decide) dL_isNeeded_121 ?_
                obtain ⟨c30, e_c30, hf32⟩ := obd hf30
                refine V_callVi X (OB_0 hE) rfl rfl (f7_at_ok hE e_c30) ys_X7_at yw_X7_at ml_L_15 rfl rfl ⟨Nat.le_of_ble_eq_true rfl, Nat.le_of_ble_eq_true rfl⟩ ⟨Nat.zero_le _, Nat.zero_le _⟩ (Nat.le_of_ble_eq_true rfl) dL_isNeeded_122 ?_
                refine V_aload_n X 4 rfl dL_isNeeded_125 ?_
                refine V_iconst X (v := 3) (by decide) dL_isNeeded_126 ?_
                obtain ⟨c32, e_c32, hf34⟩ := obd hf32
                refine V_callVi X (OB_0 hE) rfl rfl (f7_needed_ok hE e_c32) ys_X7_needed yw_X7_needed ml_L_42 rfl rfl ⟨Nat.le_of_ble_eq_true rfl, Nat.le_of_ble_eq_true rfl⟩ ⟨Nat.zero_le _, Nat.zero_le _⟩ (Nat.le_of_ble_eq_true rfl) dL_isNeeded_127 ?_
                refine V_icmp_ne X (tgt := 137) (by decide) dL_isNeeded_130 (fun q130 => ?_) (fun q130 => ?_)
                · have hf35 := ife hf34 q130
                  refine V_iconst X (v := 0) (by decide) dL_isNeeded_137 ?_
                  refine V_istore X (by decide) rfl dL_isNeeded_138 ?_
                  refine V_iconst X (v := 0) (by decide) dL_isNeeded_140 ?_
                  refine V_istore X (by decide) rfl dL_isNeeded_141 ?_
                  exact V_sub [6, 5, 4, 3, 2, 1, 0] rfl (fL_isNeeded_L143_ok hE X FU _ _ _ _ _ _ _ hf35)
                · have hf35 := ift hf34 q130
                  exact V_sub [4, 3, 2, 1, 0] rfl (fL_isNeeded_j133_ok hE X hf35)
  · have hf4 := ife hf3 q7
    refine V_iload_n X 0 rfl dL_isNeeded_10 ?_
    refine V_bipush X (v := -6) (by decide) dL_isNeeded_11 ?_
    refine V_icmp_ne X (tgt := 30) (by decide) dL_isNeeded_13 (fun q13 => ?_) (fun q13 => ?_)
    · have hf36 := ife hf4 q13
      refine V_iconst X (v := 0) (by decide) dL_isNeeded_30 ?_
      exact V_zret X rfl hf36 dL_isNeeded_31
    · have hf36 := ift hf4 q13
      refine V_aload_n X 1 rfl dL_isNeeded_16 ?_
      refine V_iconst X (v := 4) (by decide) dL_isNeeded_17 ?_
      obtain ⟨c36, e_c36, hf38⟩ := obd hf36
      refine V_callVi X (OB_0 hE) rfl rfl (f7_needed_ok hE e_c36) ys_X7_needed yw_X7_needed ml_L_42 rfl rfl ⟨Nat.le_of_ble_eq_true rfl, Nat.le_of_ble_eq_true rfl⟩ ⟨Nat.zero_le _, Nat.zero_le _⟩ (Nat.le_of_ble_eq_true rfl) dL_isNeeded_18 ?_
      refine V_bipush X (v := -6) (by decide) dL_isNeeded_21 ?_
      refine V_icmp_ne X (tgt := 30) (by decide) dL_isNeeded_23 (fun q23 => ?_) (fun q23 => ?_)
      · have hf39 := ife hf38 q23
        refine V_iconst X (v := 0) (by decide) dL_isNeeded_30 ?_
        exact V_zret X rfl hf39 dL_isNeeded_31
      · have hf39 := ift hf38 q23
        refine V_iconst X (v := 1) (by decide) dL_isNeeded_26 ?_
        refine V_goto X (tgt := 31) (by decide) dL_isNeeded_27 ?_
        exact V_zret X rfl hf39 dL_isNeeded_31
def fL_isNeeded (h : Hp) : Re := fL_isNeeded_e  h
theorem fL_isNeeded_ok (hE : IW E) {h : Hp} {q : Int32 × Hp} (hf0 : fL_isNeeded  h = some q) : SMi l E 7 yL_isNeeded cL_isNeeded 13 (some .boolean) [.ref (eA E 0)] h q.1 q.2 :=
  SMi.of (by decide +kernel) (Nat.le_of_ble_eq_true rfl) (fun p e s m args below meth c A X => fL_isNeeded_e_ok hE X (r := q.1) (h' := q.2) hf0)
end DM
