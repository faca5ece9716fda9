section DL
variable {E : EN} {p : Program} {l : Launch} {e : Env} {s : State} {m : MethodId} {below : List Frame} {meth : Method} {c : Code} {h' : Hp} {b L : Nat} {xs : Nat → Int32}
def fL_law_j228 (L : Nat) (xs : Nat → Int32) (x3 : Int32) (y0 : Int32) (h : Hp) : Re :=
  if y0 = 0 then (rz 0 h) else ((f7_undo  h).bind fun c2 => if c2.1 < 0 then (rz 0 c2.2) else ((f7_count 0 c2.2).bind fun c5 => if c5.1 = x3 then (rz 1 c5.2) else (rz 0 c5.2)))
set_option maxRecDepth 20000 in
set_option maxHeartbeats 4000000 in
theorem fL_law_j228_ok (hE : IW E) (hX : va_X b L xs s s.heap) (hbl : b < s.heap.size) (hbA : ¬ (fun q => s.heap.size ≤ q) b) (hL : L ≤ 260) (X : XC E RL cL_law 5 ret (fun q => s.heap.size ≤ q) p s m #[Value.ref b] meth c) {x3 : Int32} {y0 : Int32} {h : Hp} (hf0 : fL_law_j228 L xs x3 y0 h = some (1, h')) : VL E p l e s m below meth c b 228 [(1, .ref (eA E 0)), (3, .int x3)] [.int y0] h := by
  unfold fL_law_j228 at hf0
  have hf1 := hf0
  refine V_istore_n X (by decide) rfl dL_law_228 ?_
  refine V_iload_n X 0 rfl dL_law_229 ?_
  refine V_if_eq X (tgt := 253) (by decide) dL_law_230 (fun q230 => ?_) (fun q230 => ?_)
  · have hf2 := ift hf1 q230
    refine V_iconst X (v := 0) (by decide) dL_law_253 ?_
    exact V_lret X hf2 dL_law_254
  · have hf2 := ife hf1 q230
    refine V_aload_n X 1 rfl dL_law_233 ?_
    obtain ⟨c2, e_c2, hf4⟩ := obd hf2
    refine V_callVi X (OB_0 hE) rfl rfl (f7_undo_ok hE e_c2) ys_X7_undo yw_X7_undo ml_L_77 rfl rfl ⟨Nat.le_of_ble_eq_true rfl, Nat.le_of_ble_eq_true rfl⟩ ⟨Nat.le_of_ble_eq_true rfl, Nat.le_of_ble_eq_true rfl⟩ (Nat.le_of_ble_eq_true rfl) dL_law_234 ?_
    refine V_if_lt X (tgt := 253) (by decide) dL_law_237 (fun q237 => ?_) (fun q237 => ?_)
    · have hf5 := ift hf4 q237
      refine V_iconst X (v := 0) (by decide) dL_law_253 ?_
      exact V_lret X hf5 dL_law_254
    · have hf5 := ife hf4 q237
      refine V_aload_n X 1 rfl dL_law_240 ?_
      refine V_iconst X (v := 0) (by decide) dL_law_241 ?_
      obtain ⟨c5, e_c5, hf7⟩ := obd hf5
      refine V_callVi X (OB_0 hE) rfl rfl (f7_count_ok hE e_c5) ys_X7_count yw_X7_count ml_L_19 rfl rfl ⟨Nat.le_of_ble_eq_true rfl, Nat.le_of_ble_eq_true rfl⟩ ⟨Nat.le_of_ble_eq_true rfl, Nat.le_of_ble_eq_true rfl⟩ (Nat.le_of_ble_eq_true rfl) dL_law_242 ?_
      refine V_iload_n X 2 rfl dL_law_245 ?_
      refine V_icmp_ne X (tgt := 253) (by decide) dL_law_246 (fun q246 => ?_) (fun q246 => ?_)
      · have hf8 := ife hf7 q246
        refine V_iconst X (v := 0) (by decide) dL_law_253 ?_
        exact V_lret X hf8 dL_law_254
      · have hf8 := ift hf7 q246
        refine V_iconst X (v := 1) (by decide) dL_law_249 ?_
        refine V_goto X (tgt := 254) (by decide) dL_law_250 ?_
        exact V_lret X hf8 dL_law_254
def fL_law_j227 (L : Nat) (xs : Nat → Int32) (x3 : Int32) (h : Hp) : Re :=
  fL_law_j228 L xs x3 0 h
set_option maxRecDepth 20000 in
set_option maxHeartbeats 4000000 in
theorem fL_law_j227_ok (hE : IW E) (hX : va_X b L xs s s.heap) (hbl : b < s.heap.size) (hbA : ¬ (fun q => s.heap.size ≤ q) b) (hL : L ≤ 260) (X : XC E RL cL_law 5 ret (fun q => s.heap.size ≤ q) p s m #[Value.ref b] meth c) {x3 : Int32} {h : Hp} (hf0 : fL_law_j227 L xs x3 h = some (1, h')) : VL E p l e s m below meth c b 227 [(1, .ref (eA E 0)), (3, .int x3)] [] h := by
  unfold fL_law_j227 at hf0
  have hf1 := hf0
  refine V_iconst X (v := 0) (by decide) dL_law_227 ?_
  exact V_sub [0, 1] rfl (fL_law_j228_ok hE hX hbl hbA hL X hf1)
def fL_law_j145 (L : Nat) (xs : Nat → Int32) (x2 : Int32) (h : Hp) : Re :=
  (f7_count 0 h).bind fun c1 => (f7_count 4 c1.2).bind fun c3 => if x2 = 0 then (fL_law_j227 L xs c1.1 c3.2) else ((fL_isNeeded  c3.2).bind fun c6 => if c6.1 = 0 then (fL_law_j227 L xs c1.1 c6.2) else ((fL_areSums  c6.2).bind fun c9 => if c9.1 = 0 then (fL_law_j227 L xs c1.1 c9.2) else ((f7_save 1 c9.2).bind fun c12 => if c12.1 = c1.1 then ((f7_breathe 0 1 c12.2).bind fun c15 => if c15.1 < 0 then (fL_law_j227 L xs c1.1 c15.2) else ((f7_fill 1 7 c15.2).bind fun c18 => if c18.1 ≤ 0 then (fL_law_j227 L xs c1.1 c18.2) else ((f7_restore 1 c18.2).bind fun c21 => if c21.1 = c1.1 then ((f7_count 4 c21.2).bind fun c24 => if c24.1 = c3.1 then (fL_law_j228 L xs c1.1 1 c24.2) else (fL_law_j227 L xs c1.1 c24.2)) else (fL_law_j227 L xs c1.1 c21.2)))) else (fL_law_j227 L xs c1.1 c12.2))))
set_option maxRecDepth 20000 in
set_option maxHeartbeats 4000000 in
theorem fL_law_j145_ok (hE : IW E) (hX : va_X b L xs s s.heap) (hbl : b < s.heap.size) (hbA : ¬ (fun q => s.heap.size ≤ q) b) (hL : L ≤ 260) (X : XC E RL cL_law 5 ret (fun q => s.heap.size ≤ q) p s m #[Value.ref b] meth c) {x2 : Int32} {h : Hp} (hf0 : fL_law_j145 L xs x2 h = some (1, h')) : VL E p l e s m below meth c b 145 [(1, .ref (eA E 0)), (2, .int x2)] [] h := by
  unfold fL_law_j145 at hf0
  have hf1 := hf0
  refine V_aload_n X 0 rfl dL_law_145 ?_
  refine V_iconst X (v := 0) (by decide) dL_law_146 ?_
  obtain ⟨c1, e_c1, hf3⟩ := obd hf1
  refine V_callVi X (OB_0 hE) rfl rfl (f7_count_ok hE e_c1) ys_X7_count yw_X7_count ml_L_19 rfl rfl ⟨Nat.le_of_ble_eq_true rfl, Nat.le_of_ble_eq_true rfl⟩ ⟨Nat.le_of_ble_eq_true rfl, Nat.le_of_ble_eq_true rfl⟩ (Nat.le_of_ble_eq_true rfl) dL_law_147 ?_
  refine V_istore_n X (by decide) rfl dL_law_150 ?_
  refine V_aload_n X 1 rfl dL_law_151 ?_
  refine V_iconst X (v := 4) (by decide) dL_law_152 ?_
  obtain ⟨c3, e_c3, hf5⟩ := obd hf3
  refine V_callVi X (OB_0 hE) rfl rfl (f7_count_ok hE e_c3) ys_X7_count yw_X7_count ml_L_19 rfl rfl ⟨Nat.le_of_ble_eq_true rfl, Nat.le_of_ble_eq_true rfl⟩ ⟨Nat.le_of_ble_eq_true rfl, Nat.le_of_ble_eq_true rfl⟩ (Nat.le_of_ble_eq_true rfl) dL_law_153 ?_
  refine V_istore X (by decide) rfl dL_law_156 ?_
  refine V_iload_n X 3 rfl dL_law_158 ?_
  refine V_if_eq X (tgt := 227) (by decide) dL_law_159 (fun q159 => ?_) (fun q159 => ?_)
  · have hf6 := ift hf5 q159
    exact V_sub [2, 1] rfl (fL_law_j227_ok hE hX hbl hbA hL X hf6)
  · have hf6 := ife hf5 q159
    refine V_aload_n X 2 rfl dL_law_162 ?_
    obtain ⟨c6, e_c6, hf8⟩ := obd hf6
    refine V_callSi X (fL_isNeeded_ok hE e_c6) ys_L_isNeeded yw_L_isNeeded ml_L_90 rfl rfl ⟨Nat.le_of_ble_eq_true rfl, Nat.le_of_ble_eq_true rfl⟩ ⟨Nat.le_of_ble_eq_true rfl, Nat.le_of_ble_eq_true rfl⟩ (Nat.le_of_ble_eq_true rfl) dL_law_163 ?_
    refine V_if_eq X (tgt := 227) (by decide) dL_law_166 (fun q166 => ?_) (fun q166 => ?_)
    · have hf9 := ift hf8 q166
      exact V_sub [2, 1] rfl (fL_law_j227_ok hE hX hbl hbA hL X hf9)
    · have hf9 := ife hf8 q166
      refine V_aload_n X 2 rfl dL_law_169 ?_
      obtain ⟨c9, e_c9, hf11⟩ := obd hf9
      refine V_callSi X (fL_areSums_ok hE e_c9) ys_L_areSums yw_L_areSums ml_L_94 rfl rfl ⟨Nat.le_of_ble_eq_true rfl, Nat.le_of_ble_eq_true rfl⟩ ⟨Nat.le_of_ble_eq_true rfl, Nat.le_of_ble_eq_true rfl⟩ (Nat.le_of_ble_eq_true rfl) dL_law_170 ?_
      refine V_if_eq X (tgt := 227) (by decide) dL_law_173 (fun q173 => ?_) (fun q173 => ?_)
      · have hf12 := ift hf11 q173
        exact V_sub [2, 1] rfl (fL_law_j227_ok hE hX hbl hbA hL X hf12)
      · have hf12 := ife hf11 q173
        refine V_aload_n X 2 rfl dL_law_176 ?_
        refine V_iconst X (v := 1) (by decide) dL_law_177 ?_
        obtain ⟨c12, e_c12, hf14⟩ := obd hf12
        refine V_callVi X (OB_0 hE) rfl rfl (f7_save_ok hE e_c12) ys_X7_save yw_X7_save ml_L_97 rfl rfl ⟨Nat.le_of_ble_eq_true rfl, Nat.le_of_ble_eq_true rfl⟩ ⟨Nat.le_of_ble_eq_true rfl, Nat.le_of_ble_eq_true rfl⟩ (Nat.le_of_ble_eq_true rfl) dL_law_178 ?_
        refine V_iload_n X 1 rfl dL_law_181 ?_
        refine V_icmp_ne X (tgt := 227) (by decide) dL_law_182 (fun q182 => ?_) (fun q182 => ?_)
        · have hf15 := ife hf14 q182
          exact V_sub [2, 1] rfl (fL_law_j227_ok hE hX hbl hbA hL X hf15)
        · have hf15 := ift hf14 q182
          refine V_aload_n X 2 rfl dL_law_185 ?_
          refine V_iconst X (v := 0) (by decide) dL_law_186 ?_
          refine V_iconst X (v := 1) (by decide) dL_law_187 ?_
          obtain ⟨c15, e_c15, hf17⟩ := obd hf15
          refine V_callVi X (OB_0 hE) rfl rfl (f7_breathe_ok hE e_c15) ys_X7_breathe yw_X7_breathe ml_L_58 rfl rfl ⟨Nat.le_of_ble_eq_true rfl, Nat.le_of_ble_eq_true rfl⟩ ⟨Nat.le_of_ble_eq_true rfl, Nat.le_of_ble_eq_true rfl⟩ (Nat.le_of_ble_eq_true rfl) dL_law_188 ?_
          refine V_if_lt X (tgt := 227) (by decide) dL_law_191 (fun q191 => ?_) (fun q191 => ?_)
          · have hf18 := ift hf17 q191
            exact V_sub [2, 1] rfl (fL_law_j227_ok hE hX hbl hbA hL X hf18)
          · have hf18 := ife hf17 q191
            refine V_aload_n X 2 rfl dL_law_194 ?_
            refine V_iconst X (v := 1) (by decide) dL_law_195 ?_
            refine V_bipush X (v := 7) (by decide) dL_law_196 ?_
            obtain ⟨c18, e_c18, hf20⟩ := obd hf18
            refine V_callVi X (OB_0 hE) rfl rfl (f7_fill_ok hE e_c18) ys_X7_fill yw_X7_fill ml_L_64 rfl rfl ⟨Nat.le_of_ble_eq_true rfl, Nat.le_of_ble_eq_true rfl⟩ ⟨Nat.le_of_ble_eq_true rfl, Nat.le_of_ble_eq_true rfl⟩ (Nat.le_of_ble_eq_true rfl) dL_law_198 ?_
            refine V_if_le X (tgt := 227) (by decide) dL_law_201 (fun q201 => ?_) (fun q201 => ?_)
            · have hf21 := ift hf20 q201
              exact V_sub [2, 1] rfl (fL_law_j227_ok hE hX hbl hbA hL X hf21)
            · have hf21 := ife hf20 q201
              refine V_aload_n X 2 rfl dL_law_204 ?_
              refine V_iconst X (v := 1) (by decide) dL_law_205 ?_
              obtain ⟨c21, e_c21, hf23⟩ := obd hf21
              refine V_callVi X (OB_0 hE) rfl rfl (f7_restore_ok hE e_c21) ys_X7_restore yw_X7_restore ml_L_80 rfl rfl ⟨Nat.le_of_ble_eq_true rfl, Nat.le_of_ble_eq_true rfl⟩ ⟨Nat.le_of_ble_eq_true rfl, Nat.le_of_ble_eq_true rfl⟩ (Nat.le_of_ble_eq_true rfl) dL_law_206 ?_
              refine V_iload_n X 1 rfl dL_law_209 ?_
              refine V_icmp_ne X (tgt := 227) (by decide) dL_law_210 (fun q210 => ?_) (fun q210 => ?_)
              · have hf24 := ife hf23 q210
                exact V_sub [2, 1] rfl (fL_law_j227_ok hE hX hbl hbA hL X hf24)
              · have hf24 := ift hf23 q210
                refine V_aload_n X 2 rfl dL_law_213 ?_
                refine V_iconst X (v := 4) (by decide) dL_law_214 ?_
                obtain ⟨c24, e_c24, hf26⟩ := obd hf24
                refine V_callVi X (OB_0 hE) rfl rfl (f7_count_ok hE e_c24) ys_X7_count yw_X7_count ml_L_19 rfl rfl ⟨Nat.le_of_ble_eq_true rfl, Nat.le_of_ble_eq_true rfl⟩ ⟨Nat.le_of_ble_eq_true rfl, Nat.le_of_ble_eq_true rfl⟩ (Nat.le_of_ble_eq_true rfl) dL_law_215 ?_
                refine V_iload X 0 rfl dL_law_218 ?_
                refine V_icmp_ne X (tgt := 227) (by decide) dL_law_220 (fun q220 => ?_) (fun q220 => ?_)
                · have hf27 := ife hf26 q220
                  exact V_sub [2, 1] rfl (fL_law_j227_ok hE hX hbl hbA hL X hf27)
                · have hf27 := ift hf26 q220
                  refine V_iconst X (v := 1) (by decide) dL_law_223 ?_
                  refine V_goto X (tgt := 228) (by decide) dL_law_224 ?_
                  exact V_sub [2, 1] rfl (fL_law_j228_ok hE hX hbl hbA hL X hf27)
def fL_law_j133 (L : Nat) (xs : Nat → Int32) (k97 : Int32 → Int32 → Hp → Re) (x3 : Int32) (h : Hp) : Re :=
  k97 1 (x3 + 1) h
set_option maxRecDepth 20000 in
set_option maxHeartbeats 4000000 in
theorem fL_law_j133_ok (hE : IW E) (hX : va_X b L xs s s.heap) (hbl : b < s.heap.size) (hbA : ¬ (fun q => s.heap.size ≤ q) b) (hL : L ≤ 260) (X : XC E RL cL_law 5 ret (fun q => s.heap.size ≤ q) p s m #[Value.ref b] meth c) {k97 : Int32 → Int32 → Hp → Re} (hk97 : ∀ (x2 : Int32) (x3 : Int32) (h : Hp), k97 x2 x3 h = some (1, h') → VL E p l e s m below meth c b 97 [(0, .ref b), (1, .ref (eA E 0)), (2, .int x2), (3, .int x3)] [] h) {x3 : Int32} {h : Hp} (hf0 : fL_law_j133 L xs k97 x3 h = some (1, h')) : VL E p l e s m below meth c b 133 [(0, .ref b), (1, .ref (eA E 0)), (3, .int x3)] [] h := by
  unfold fL_law_j133 at hf0
  have hf1 := hf0
  refine V_iconst X (v := 1) (by decide) dL_law_133 ?_
  refine V_goto X (tgt := 138) (by decide) dL_law_134 ?_
  refine V_istore_n X (by decide) rfl dL_law_138 ?_
  refine V_iinc X (v := _ + 1) 3 rfl (by rfl) (by decide) rfl dL_law_139 ?_
  refine V_goto X (tgt := 97) (by decide) dL_law_142 ?_
  exact V_sub [2, 3, 1, 0] rfl (hk97 _ _ _ hf1)
def fL_law_B97 (L : Nat) (xs : Nat → Int32) (k97 : Int32 → Int32 → Hp → Re) (x2 : Int32) (x3 : Int32) (h : Hp) : Re :=
  if 40 ≤ x3 then (fL_law_j145 L xs x2 h) else (if x2 = 0 then (fL_law_j145 L xs x2 h) else (if 0 ≤ x3 then (fL_acts (cellv L xs x3) h).bind fun c4 => if c4.1 = 0 then (k97 0 (x3 + 1) c4.2) else (if 0 < (x3 - x3 / 13 * 13) then (fL_law_j133 L xs k97 x3 c4.2) else ((fL_isNeeded  c4.2).bind fun c8 => if c8.1 = 0 then (k97 0 (x3 + 1) c8.2) else (fL_law_j133 L xs k97 x3 c8.2))) else none))
set_option maxRecDepth 20000 in
set_option maxHeartbeats 4000000 in
theorem fL_law_B97_ok (hE : IW E) (hX : va_X b L xs s s.heap) (hbl : b < s.heap.size) (hbA : ¬ (fun q => s.heap.size ≤ q) b) (hL : L ≤ 260) (X : XC E RL cL_law 5 ret (fun q => s.heap.size ≤ q) p s m #[Value.ref b] meth c) {k97 : Int32 → Int32 → Hp → Re} (hk97 : ∀ (x2 : Int32) (x3 : Int32) (h : Hp), k97 x2 x3 h = some (1, h') → VL E p l e s m below meth c b 97 [(0, .ref b), (1, .ref (eA E 0)), (2, .int x2), (3, .int x3)] [] h) {x2 : Int32} {x3 : Int32} {h : Hp} (hf0 : fL_law_B97 L xs k97 x2 x3 h = some (1, h')) : VL E p l e s m below meth c b 97 [(0, .ref b), (1, .ref (eA E 0)), (2, .int x2), (3, .int x3)] [] h := by
  unfold fL_law_B97 at hf0
  have hf1 := hf0
  refine V_iload_n X 3 rfl dL_law_97 ?_
  refine V_bipush X (v := 40) (by decide) dL_law_98 ?_
  refine V_icmp_ge X (tgt := 145) (by decide) dL_law_100 (fun q100 => ?_) (fun q100 => ?_)
  · have hf2 := ift hf1 q100
    exact V_sub [1, 2] rfl (fL_law_j145_ok hE hX hbl hbA hL X hf2)
  · have hf2 := ife hf1 q100
    refine V_iload_n X 2 rfl dL_law_103 ?_
    refine V_if_eq X (tgt := 145) (by decide) dL_law_104 (fun q104 => ?_) (fun q104 => ?_)
    · have hf3 := ift hf2 q104
      exact V_sub [1, 2] rfl (fL_law_j145_ok hE hX hbl hbA hL X hf3)
    · have hf3 := ife hf2 q104
      refine V_aload_n X 1 rfl dL_law_107 ?_
      refine V_aload_n X 0 rfl dL_law_108 ?_
      refine V_iload_n X 3 rfl dL_law_109 ?_
      obtain ⟨g103, hf103⟩ := ogq hf3
      refine V_cell X hX hbl hbA hL g103 ⟨Nat.le_of_ble_eq_true rfl, Nat.le_of_ble_eq_true rfl⟩ ⟨Nat.le_of_ble_eq_true rfl, Nat.le_of_ble_eq_true rfl⟩ (Nat.le_of_ble_eq_true rfl) dL_law_110 ?_
      obtain ⟨c4, e_c4, hf6⟩ := obd hf103
      refine V_callSi X (fL_acts_ok hE e_c4) ys_L_acts yw_L_acts ml_L_87 rfl rfl ⟨Nat.le_of_ble_eq_true rfl, Nat.le_of_ble_eq_true rfl⟩ ⟨Nat.le_of_ble_eq_true rfl, Nat.le_of_ble_eq_true rfl⟩ (Nat.le_of_ble_eq_true rfl) dL_law_113 ?_
      refine V_if_eq X (tgt := 137) (by decide) dL_law_116 (fun q116 => ?_) (fun q116 => ?_)
      · have hf7 := ift hf6 q116
        refine V_iconst X (v := 0) (by decide) dL_law_137 ?_
        refine V_istore_n X (by decide) rfl dL_law_138 ?_
        refine V_iinc X (v := _ + 1) 3 rfl (by rfl) (by decide) rfl dL_law_139 ?_
        refine V_goto X (tgt := 97) (by decide) dL_law_142 ?_
        exact V_sub [2, 3, 1, 0] rfl (hk97 _ _ _ hf7)
      · have hf7 := ife hf6 q116
        refine V_iload_n X 3 rfl dL_law_119 ?_
        refine V_bipush X (v := 13) (by decide) dL_law_120 ?_
        refine V_irem X (by decide) dL_law_122 ?_
        refine V_if_gt X (tgt := 133) (by decide) dL_law_123 (fun q123 => ?_) (fun q123 => ?_)
        · have hf8 := ift hf7 q123
          exact V_sub [0, 1, 3] rfl (fL_law_j133_ok hE hX hbl hbA hL X hk97 hf8)
        · have hf8 := ife hf7 q123
          refine V_aload_n X 1 rfl dL_law_126 ?_
          obtain ⟨c8, e_c8, hf10⟩ := obd hf8
          refine V_callSi X (fL_isNeeded_ok hE e_c8) ys_L_isNeeded yw_L_isNeeded ml_L_90 rfl rfl ⟨Nat.le_of_ble_eq_true rfl, Nat.le_of_ble_eq_true rfl⟩ ⟨Nat.le_of_ble_eq_true rfl, Nat.le_of_ble_eq_true rfl⟩ (Nat.le_of_ble_eq_true rfl) dL_law_127 ?_
          refine V_if_eq X (tgt := 137) (by decide) dL_law_130 (fun q130 => ?_) (fun q130 => ?_)
          · have hf11 := ift hf10 q130
            refine V_iconst X (v := 0) (by decide) dL_law_137 ?_
            refine V_istore_n X (by decide) rfl dL_law_138 ?_
            refine V_iinc X (v := _ + 1) 3 rfl (by rfl) (by decide) rfl dL_law_139 ?_
            refine V_goto X (tgt := 97) (by decide) dL_law_142 ?_
            exact V_sub [2, 3, 1, 0] rfl (hk97 _ _ _ hf11)
          · have hf11 := ife hf10 q130
            exact V_sub [0, 1, 3] rfl (fL_law_j133_ok hE hX hbl hbA hL X hk97 hf11)
def fL_law_L97 (L : Nat) (xs : Nat → Int32) : Nat → Int32 → Int32 → Hp → Re
  | 0 => fun _ _ _ => none
  | n + 1 => fL_law_B97 L xs (fL_law_L97 L xs n)
theorem fL_law_L97_s (L : Nat) (xs : Nat → Int32) (n : Nat) (x2 : Int32) (x3 : Int32) (h : Hp) : fL_law_L97 L xs (n + 1) x2 x3 h = fL_law_B97 L xs (fL_law_L97 L xs n) x2 x3 h := rfl
theorem fL_law_L97_ok (hE : IW E) (hX : va_X b L xs s s.heap) (hbl : b < s.heap.size) (hbA : ¬ (fun q => s.heap.size ≤ q) b) (hL : L ≤ 260) (X : XC E RL cL_law 5 ret (fun q => s.heap.size ≤ q) p s m #[Value.ref b] meth c) : ∀ (n : Nat) (x2 : Int32) (x3 : Int32) (h : Hp), fL_law_L97 L xs n x2 x3 h = some (1, h') → VL E p l e s m below meth c b 97 [(0, .ref b), (1, .ref (eA E 0)), (2, .int x2), (3, .int x3)] [] h := by
  intro n
  induction n with
  | zero =>
    intro x2 x3 h q
    have q : (none : Re) = some (1, h') := q
    cases q
  | succ n ih =>
    intro x2 x3 h q
    exact fL_law_B97_ok hE hX hbl hbA hL X ih q
def fL_law_e (L : Nat) (xs : Nat → Int32) (h : Hp) : Re :=
  (f7_undo  h).bind fun c1 => if c1.1 = (-5) then ((f7_restore 0 c1.2).bind fun c4 => if c4.1 = (-5) then ((f7_needed 0 c4.2).bind fun c7 => if c7.1 = (-6) then ((f7_lacking  c7.2).bind fun c10 => if c10.1 = 0 then ((f7_sweep  c10.2).bind fun c13 => if c13.1 = (-5) then ((f7_close  c13.2).bind fun c16 => if c16.1 = (-5) then ((f7_take 0 1 c16.2).bind fun c19 => if c19.1 = 0 then ((f7_take 1 2 c19.2).bind fun c22 => if c22.1 = 0 then ((f7_take 2 3 c22.2).bind fun c25 => if c25.1 = 0 then (fL_law_L97 L xs FU 1 0 c25.2) else (fL_law_L97 L xs FU 0 0 c25.2)) else (fL_law_L97 L xs FU 0 0 c22.2)) else (fL_law_L97 L xs FU 0 0 c19.2)) else (fL_law_L97 L xs FU 0 0 c16.2)) else (fL_law_L97 L xs FU 0 0 c13.2)) else (fL_law_L97 L xs FU 0 0 c10.2)) else (fL_law_L97 L xs FU 0 0 c7.2)) else (fL_law_L97 L xs FU 0 0 c4.2)) else (fL_law_L97 L xs FU 0 0 c1.2)
set_option maxRecDepth 20000 in
set_option maxHeartbeats 4000000 in
theorem fL_law_e_ok (hE : IW E) (hX : va_X b L xs s s.heap) (hbl : b < s.heap.size) (hbA : ¬ (fun q => s.heap.size ≤ q) b) (hL : L ≤ 260) (X : XC E RL cL_law 5 ret (fun q => s.heap.size ≤ q) p s m #[Value.ref b] meth c) {h : Hp} (hf0 : fL_law_e L xs  h = some (1, h')) : VL E p l e s m below meth c b 8 [(0, .ref b), (1, .ref (eA E 0))] [] h := by
  unfold fL_law_e at hf0
  have hf1 := hf0
  refine V_aload_n X 1 rfl dL_law_8 ?_
  obtain ⟨c1, e_c1, hf3⟩ := obd hf1
  refine V_callVi X (OB_0 hE) rfl rfl (f7_undo_ok hE e_c1) ys_X7_undo yw_X7_undo ml_L_77 rfl rfl ⟨Nat.le_of_ble_eq_true rfl, Nat.le_of_ble_eq_true rfl⟩ ⟨Nat.le_of_ble_eq_true rfl, Nat.le_of_ble_eq_true rfl⟩ (Nat.le_of_ble_eq_true rfl) dL_law_9 ?_
  refine V_bipush X (v := -5) (by decide) dL_law_12 ?_
  refine V_icmp_ne X (tgt := 93) (by decide) dL_law_14 (fun q14 => ?_) (fun q14 => ?_)
  · have hf4 := ife hf3 q14
    refine V_iconst X (v := 0) (by decide) dL_law_93 ?_
    refine V_istore_n X (by decide) rfl dL_law_94 ?_
    refine V_iconst X (v := 0) (by decide) dL_law_95 ?_
    refine V_istore_n X (by decide) rfl dL_law_96 ?_
    exact V_sub [2, 3, 1, 0] rfl (fL_law_L97_ok hE hX hbl hbA hL X FU _ _ _ hf4)
  · have hf4 := ift hf3 q14
    refine V_aload_n X 1 rfl dL_law_17 ?_
    refine V_iconst X (v := 0) (by decide) dL_law_18 ?_
    obtain ⟨c4, e_c4, hf6⟩ := obd hf4
    refine V_callVi X (OB_0 hE) rfl rfl (f7_restore_ok hE e_c4) ys_X7_restore yw_X7_restore ml_L_80 rfl rfl ⟨Nat.le_of_ble_eq_true rfl, Nat.le_of_ble_eq_true rfl⟩ ⟨Nat.le_of_ble_eq_true rfl, Nat.le_of_ble_eq_true rfl⟩ (Nat.le_of_ble_eq_true rfl) dL_law_19 ?_
    refine V_bipush X (v := -5) (by decide) dL_law_22 ?_
    refine V_icmp_ne X (tgt := 93) (by decide) dL_law_24 (fun q24 => ?_) (fun q24 => ?_)
    · have hf7 := ife hf6 q24
      refine V_iconst X (v := 0) (by decide) dL_law_93 ?_
      refine V_istore_n X (by decide) rfl dL_law_94 ?_
      refine V_iconst X (v := 0) (by decide) dL_law_95 ?_
      refine V_istore_n X (by decide) rfl dL_law_96 ?_
      exact V_sub [2, 3, 1, 0] rfl (fL_law_L97_ok hE hX hbl hbA hL X FU _ _ _ hf7)
    · have hf7 := ift hf6 q24
      refine V_aload_n X 1 rfl dL_law_27 ?_
      refine V_iconst X (v := 0) (by decide) dL_law_28 ?_
      obtain ⟨c7, e_c7, hf9⟩ := obd hf7
      refine V_callVi X (OB_0 hE) rfl rfl (f7_needed_ok hE e_c7) ys_X7_needed yw_X7_needed ml_L_42 rfl rfl ⟨Nat.le_of_ble_eq_true rfl, Nat.le_of_ble_eq_true rfl⟩ ⟨Nat.le_of_ble_eq_true rfl, Nat.le_of_ble_eq_true rfl⟩ (Nat.le_of_ble_eq_true rfl) dL_law_29 ?_
      refine V_bipush X (v := -6) (by decide) dL_law_32 ?_
      refine V_icmp_ne X (tgt := 93) (by decide) dL_law_34 (fun q34 => ?_) (fun q34 => ?_)
      · have hf10 := ife hf9 q34
        refine V_iconst X (v := 0) (by decide) dL_law_93 ?_
        refine V_istore_n X (by decide) rfl dL_law_94 ?_
        refine V_iconst X (v := 0) (by decide) dL_law_95 ?_
        refine V_istore_n X (by decide) rfl dL_law_96 ?_
        exact V_sub [2, 3, 1, 0] rfl (fL_law_L97_ok hE hX hbl hbA hL X FU _ _ _ hf10)
      · have hf10 := ift hf9 q34
        refine V_aload_n X 1 rfl dL_law_37 ?_
        obtain ⟨c10, e_c10, hf12⟩ := obd hf10
        refine V_callVi X (OB_0 hE) rfl rfl (f7_lacking_ok hE e_c10) ys_X7_lacking yw_X7_lacking ml_L_35 rfl rfl ⟨Nat.le_of_ble_eq_true rfl, Nat.le_of_ble_eq_true rfl⟩ ⟨Nat.le_of_ble_eq_true rfl, Nat.le_of_ble_eq_true rfl⟩ (Nat.le_of_ble_eq_true rfl) dL_law_38 ?_
        refine V_if_ne X (tgt := 93) (by decide) dL_law_41 (fun q41 => ?_) (fun q41 => ?_)
        · have hf13 := ife hf12 q41
          refine V_iconst X (v := 0) (by decide) dL_law_93 ?_
          refine V_istore_n X (by decide) rfl dL_law_94 ?_
          refine V_iconst X (v := 0) (by decide) dL_law_95 ?_
          refine V_istore_n X (by decide) rfl dL_law_96 ?_
          exact V_sub [2, 3, 1, 0] rfl (fL_law_L97_ok hE hX hbl hbA hL X FU _ _ _ hf13)
        · have hf13 := ift hf12 q41
          refine V_aload_n X 1 rfl dL_law_44 ?_
          obtain ⟨c13, e_c13, hf15⟩ := obd hf13
          refine V_callVi X (OB_0 hE) rfl rfl (f7_sweep_ok hE e_c13) ys_X7_sweep yw_X7_sweep ml_L_70 rfl rfl ⟨Nat.le_of_ble_eq_true rfl, Nat.le_of_ble_eq_true rfl⟩ ⟨Nat.le_of_ble_eq_true rfl, Nat.le_of_ble_eq_true rfl⟩ (Nat.le_of_ble_eq_true rfl) dL_law_45 ?_
          refine V_bipush X (v := -5) (by decide) dL_law_48 ?_
          refine V_icmp_ne X (tgt := 93) (by decide) dL_law_50 (fun q50 => ?_) (fun q50 => ?_)
          · have hf16 := ife hf15 q50
            refine V_iconst X (v := 0) (by decide) dL_law_93 ?_
            refine V_istore_n X (by decide) rfl dL_law_94 ?_
            refine V_iconst X (v := 0) (by decide) dL_law_95 ?_
            refine V_istore_n X (by decide) rfl dL_law_96 ?_
            exact V_sub [2, 3, 1, 0] rfl (fL_law_L97_ok hE hX hbl hbA hL X FU _ _ _ hf16)
          · have hf16 := ift hf15 q50
            refine V_aload_n X 1 rfl dL_law_53 ?_
            obtain ⟨c16, e_c16, hf18⟩ := obd hf16
            refine V_callVi X (OB_0 hE) rfl rfl (f7_close_ok hE e_c16) ys_X7_close yw_X7_close ml_L_67 rfl rfl ⟨Nat.le_of_ble_eq_true rfl, Nat.le_of_ble_eq_true rfl⟩ ⟨Nat.le_of_ble_eq_true rfl, Nat.le_of_ble_eq_true rfl⟩ (Nat.le_of_ble_eq_true rfl) dL_law_54 ?_
            refine V_bipush X (v := -5) (by decide) dL_law_57 ?_
            refine V_icmp_ne X (tgt := 93) (by decide) dL_law_59 (fun q59 => ?_) (fun q59 => ?_)
            · have hf19 := ife hf18 q59
              refine V_iconst X (v := 0) (by decide) dL_law_93 ?_
              refine V_istore_n X (by decide) rfl dL_law_94 ?_
              refine V_iconst X (v := 0) (by decide) dL_law_95 ?_
              refine V_istore_n X (by decide) rfl dL_law_96 ?_
              exact V_sub [2, 3, 1, 0] rfl (fL_law_L97_ok hE hX hbl hbA hL X FU _ _ _ hf19)
            · have hf19 := ift hf18 q59
              refine V_aload_n X 1 rfl dL_law_62 ?_
              refine V_iconst X (v := 0) (by decide) dL_law_63 ?_
              refine V_iconst X (v := 1) (by decide) dL_law_64 ?_
              obtain ⟨c19, e_c19, hf21⟩ := obd hf19
              refine V_callVi X (OB_0 hE) rfl rfl (f7_take_ok hE e_c19) ys_X7_take yw_X7_take ml_L_45 rfl rfl ⟨Nat.le_of_ble_eq_true rfl, Nat.le_of_ble_eq_true rfl⟩ ⟨Nat.le_of_ble_eq_true rfl, Nat.le_of_ble_eq_true rfl⟩ (Nat.le_of_ble_eq_true rfl) dL_law_65 ?_
              refine V_if_ne X (tgt := 93) (by decide) dL_law_68 (fun q68 => ?_) (fun q68 => ?_)
              · have hf22 := ife hf21 q68
                refine V_iconst X (v := 0) (by decide) dL_law_93 ?_
                refine V_istore_n X (by decide) rfl dL_law_94 ?_
                refine V_iconst X (v := 0) (by decide) dL_law_95 ?_
                refine V_istore_n X (by decide) rfl dL_law_96 ?_
                exact V_sub [2, 3, 1, 0] rfl (fL_law_L97_ok hE hX hbl hbA hL X FU _ _ _ hf22)
              · have hf22 := ift hf21 q68
                refine V_aload_n X 1 rfl dL_law_71 ?_
                refine V_iconst X (v := 1) (by decide) dL_law_72 ?_
                refine V_iconst X (v := 2) (by decide) dL_law_73 ?_
                obtain ⟨c22, e_c22, hf24⟩ := obd hf22
                refine V_callVi X (OB_0 hE) rfl rfl (f7_take_ok hE e_c22) ys_X7_take yw_X7_take ml_L_45 rfl rfl ⟨Nat.le_of_ble_eq_true rfl, Nat.le_of_ble_eq_true rfl⟩ ⟨Nat.le_of_ble_eq_true rfl, Nat.le_of_ble_eq_true rfl⟩ (Nat.le_of_ble_eq_true rfl) dL_law_74 ?_
                refine V_if_ne X (tgt := 93) (by decide) dL_law_77 (fun q77 => ?_) (fun q77 => ?_)
                · have hf25 := ife hf24 q77
                  refine V_iconst X (v := 0) (by decide) dL_law_93 ?_
                  refine V_istore_n X (by decide) rfl dL_law_94 ?_
                  refine V_iconst X (v := 0) (by decide) dL_law_95 ?_
                  refine V_istore_n X (by decide) rfl dL_law_96 ?_
                  exact V_sub [2, 3, 1, 0] rfl (fL_law_L97_ok hE hX hbl hbA hL X FU _ _ _ hf25)
                · have hf25 := ift hf24 q77
                  refine V_aload_n X 1 rfl dL_law_80 ?_
                  refine V_iconst X (v := 2) (by decide) dL_law_81 ?_
                  refine V_iconst X (v := 3) (by decide) dL_law_82 ?_
                  obtain ⟨c25, e_c25, hf27⟩ := obd hf25
                  refine V_callVi X (OB_0 hE) rfl rfl (f7_take_ok hE e_c25) ys_X7_take yw_X7_take ml_L_45 rfl rfl ⟨Nat.le_of_ble_eq_true rfl, Nat.le_of_ble_eq_true rfl⟩ ⟨Nat.le_of_ble_eq_true rfl, Nat.le_of_ble_eq_true rfl⟩ (Nat.le_of_ble_eq_true rfl) dL_law_83 ?_
                  refine V_if_ne X (tgt := 93) (by decide) dL_law_86 (fun q86 => ?_) (fun q86 => ?_)
                  · have hf28 := ife hf27 q86
                    refine V_iconst X (v := 0) (by decide) dL_law_93 ?_
                    refine V_istore_n X (by decide) rfl dL_law_94 ?_
                    refine V_iconst X (v := 0) (by decide) dL_law_95 ?_
                    refine V_istore_n X (by decide) rfl dL_law_96 ?_
                    exact V_sub [2, 3, 1, 0] rfl (fL_law_L97_ok hE hX hbl hbA hL X FU _ _ _ hf28)
                  · have hf28 := ift hf27 q86
                    refine V_iconst X (v := 1) (by decide) dL_law_89 ?_
                    refine V_goto X (tgt := 94) (by decide) dL_law_90 ?_
                    refine V_istore_n X (by decide) rfl dL_law_94 ?_
                    refine V_iconst X (v := 0) (by decide) dL_law_95 ?_
                    refine V_istore_n X (by decide) rfl dL_law_96 ?_
                    exact V_sub [2, 3, 1, 0] rfl (fL_law_L97_ok hE hX hbl hbA hL X FU _ _ _ hf28)
end DL
