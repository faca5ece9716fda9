theorem ocp {α β : Type} {a : α} {k : α → Option β} {x : Option β} (hf : (some a).bind k = x) : k a = x := hf
theorem obs {α β : Type} {a : α} {k : α → Option β} {x : Option β} (hf : (some a).bind k = x) : k a = x := hf
theorem oif {α : Type} {c : Prop} [Decidable c] {a b x : α} (hf : (if c then a else b) = x) : (c ∧ a = x) ∨ (¬ c ∧ b = x) := by
  by_cases q : c
  · exact Or.inl ⟨q, ift hf q⟩
  · exact Or.inr ⟨q, ife hf q⟩
theorem tsel_out {x : Int32} {d lo hi : Int} {offs : Array Int} (q : x.toInt < lo ∨ hi < x.toInt) : tsel x d lo hi offs = d := by unfold tsel; rw [if_pos q]
def FU : Nat := 4000
def cpB (sp dp n : Int32) (n0 n1 : Nat) : Bool := decide (¬ sp < 0 ∧ ¬ dp < 0 ∧ ¬ n < 0 ∧ sp.toNatClampNeg + n.toNatClampNeg ≤ n0 ∧ dp.toNatClampNeg + n.toNatClampNeg ≤ n1)
theorem cpB_of {sp dp n : Int32} {n0 n1 : Nat} (h : cpB sp dp n n0 n1 = true) : ¬ sp < 0 ∧ ¬ dp < 0 ∧ ¬ n < 0 ∧ sp.toNatClampNeg + n.toNatClampNeg ≤ n0 ∧ dp.toNatClampNeg + n.toNatClampNeg ≤ n1 := of_decide_eq_true h
abbrev VM (E : EN) (nL : Nat) (A : Nat → Prop) (p : Program) (l : Launch) (e : Env) (d : Nat) (s : State) (m : MethodId) (args : Array Value) (below : List Frame) (meth : Method) (c : Code) (Qc : Array Value → State → Outcome → State → Prop) (pc : Nat) (lv : List (Nat × Value)) (st : List Value) (h : Hp) : Prop := V E nL A p l e (rm d) s m args below meth c 0 0 (MQ below Qc args s 0 0 A) pc lv st h
theorem inW_X0 : ∀ w ∈ wsX00, w ∈ LW := fun w hw => List.mem_filter.mpr ⟨inX0 w hw, List.all_eq_true.mp (by decide +kernel : wsX00.all goodWord = true) w hw⟩
theorem inW_X2 : ∀ w ∈ wsX20, w ∈ LW := fun w hw => List.mem_filter.mpr ⟨inX2 w hw, List.all_eq_true.mp (by decide +kernel : wsX20.all goodWord = true) w hw⟩
theorem inW_X4 : ∀ w ∈ wsX40, w ∈ LW := fun w hw => List.mem_filter.mpr ⟨inX4 w hw, List.all_eq_true.mp (by decide +kernel : wsX40.all goodWord = true) w hw⟩
theorem inW_X5 : ∀ w ∈ wsX50, w ∈ LW := fun w hw => List.mem_filter.mpr ⟨inX5 w hw, List.all_eq_true.mp (by decide +kernel : wsX50.all goodWord = true) w hw⟩
theorem inW_X7 : ∀ w ∈ wsX70, w ∈ LW := fun w hw => List.mem_filter.mpr ⟨inX7 w hw, List.all_eq_true.mp (by decide +kernel : wsX70.all goodWord = true) w hw⟩
theorem inW_X8 : ∀ w ∈ wsX80, w ∈ LW := fun w hw => List.mem_filter.mpr ⟨inX8 w hw, List.all_eq_true.mp (by decide +kernel : wsX80.all goodWord = true) w hw⟩
theorem kc_X4_23 : Jvm.Cond.constantLong RX4 23 255 ∈ LW := LW_of 499 (by decide +kernel) (by decide +kernel)
theorem kc_X4_29 : Jvm.Cond.constantLong RX4 29 33 ∈ LW := LW_of 500 (by decide +kernel) (by decide +kernel)
theorem kc_X4_31 : Jvm.Cond.constantLong RX4 31 126 ∈ LW := LW_of 501 (by decide +kernel) (by decide +kernel)
theorem kc_X8_71 : Jvm.Cond.constant RX8 71 16777215 ∈ LW := LW_of 736 (by decide +kernel) (by decide +kernel)
theorem kc_X8_202 : Jvm.Cond.constantLong RX8 202 255 ∈ LW := LW_of 936 (by decide +kernel) (by decide +kernel)
theorem kc_X8_204 : Jvm.Cond.constantLong RX8 204 33 ∈ LW := LW_of 937 (by decide +kernel) (by decide +kernel)
theorem kc_X8_206 : Jvm.Cond.constantLong RX8 206 126 ∈ LW := LW_of 938 (by decide +kernel) (by decide +kernel)
theorem gs_X1_9 : Cond.fieldLink RX1 9 RX1 "SWEEP_ORDER" "[I" ∈ LW := LW_of 354 (by decide +kernel) (by decide +kernel)
theorem cp_X5_26 : Cond.methodLink RX5 26 arraycopyName ∈ LW := LW_of 167 (by decide +kernel) (by decide +kernel)
theorem cp_nat : Cond.native arraycopyName ∈ LW := LW_of 169 (by decide +kernel) (by decide +kernel)
theorem cp_stat : Cond.static arraycopyName ∈ LW := LW_of 168 (by decide +kernel) (by decide +kernel)
theorem cp_ini : Cond.initialized "java/lang/System" ∈ LW := LW_of 51 (by decide +kernel) (by decide +kernel)
theorem mm_ini : Cond.initialized "java/lang/Math" ∈ LW := LW_of 53 (by decide +kernel) (by decide +kernel)
theorem mm_max_st : Cond.static Lib.Math.max.name ∈ LW := LW_of 404 (by decide +kernel) (by decide +kernel)
theorem mm_max_co : Cond.code Lib.Math.max.name Lib.Math.max.code 2 (some .int) ∈ LW := LW_of 405 (by decide +kernel) (by decide +kernel)
theorem mm_min_st : Cond.static Lib.Math.min.name ∈ LW := LW_of 247 (by decide +kernel) (by decide +kernel)
theorem mm_min_co : Cond.code Lib.Math.min.name Lib.Math.min.code 2 (some .int) ∈ LW := LW_of 248 (by decide +kernel) (by decide +kernel)
theorem mm_X0_54 : Cond.methodLink RX0 54 Lib.Math.min.name ∈ LW := LW_of 316 (by decide +kernel) (by decide +kernel)
theorem mm_X1_61 : Cond.methodLink RX1 61 Lib.Math.min.name ∈ LW := LW_of 246 (by decide +kernel) (by decide +kernel)
theorem mm_X5_61 : Cond.methodLink RX5 61 Lib.Math.max.name ∈ LW := LW_of 403 (by decide +kernel) (by decide +kernel)
theorem ml_X0_24 : Cond.methodLink RX0 24 yX5_number ∈ LW := LW_of 298 (by decide +kernel) (by decide +kernel)
theorem ml_X0_28 : Cond.methodLink RX0 28 yX0_rememberRing ∈ LW := LW_of 299 (by decide +kernel) (by decide +kernel)
theorem ml_X0_32 : Cond.methodLink RX0 32 yX0_overPlace ∈ LW := LW_of 305 (by decide +kernel) (by decide +kernel)
theorem ml_X0_36 : Cond.methodLink RX0 36 yX5_grains ∈ LW := LW_of 303 (by decide +kernel) (by decide +kernel)
theorem ml_X0_40 : Cond.methodLink RX0 40 yX5_colour ∈ LW := LW_of 304 (by decide +kernel) (by decide +kernel)
theorem ml_X0_43 : Cond.methodLink RX0 43 yX5_setting ∈ LW := LW_of 309 (by decide +kernel) (by decide +kernel)
theorem ml_X0_46 : Cond.methodLink RX0 46 yX0_remembered ∈ LW := LW_of 310 (by decide +kernel) (by decide +kernel)
theorem ml_X0_50 : Cond.methodLink RX0 50 yX0_spilled ∈ LW := LW_of 313 (by decide +kernel) (by decide +kernel)
theorem ml_X0_59 : Cond.methodLink RX0 59 yX5_heap ∈ LW := LW_of 317 (by decide +kernel) (by decide +kernel)
theorem ml_X1_15 : Cond.methodLink RX1 15 yX1_isSettingValue ∈ LW := LW_of 173 (by decide +kernel) (by decide +kernel)
theorem ml_X1_19 : Cond.methodLink RX1 19 yX5_setting ∈ LW := LW_of 176 (by decide +kernel) (by decide +kernel)
theorem ml_X1_25 : Cond.methodLink RX1 25 yX5_lay ∈ LW := LW_of 184 (by decide +kernel) (by decide +kernel)
theorem nl_X1_29 : Cond.methodLinkNest RX1 29 yX7_isRing "SandMandalas" ∈ nestL := by decide +kernel
theorem ml_X1_33 : Cond.methodLink RX1 33 yX1_isColourRow ∈ LW := LW_of 199 (by decide +kernel) (by decide +kernel)
theorem ml_X1_36 : Cond.methodLink RX1 36 yX5_isClosed ∈ LW := LW_of 202 (by decide +kernel) (by decide +kernel)
theorem ml_X1_39 : Cond.methodLink RX1 39 yX5_hasPattern ∈ LW := LW_of 206 (by decide +kernel) (by decide +kernel)
theorem nl_X1_42 : Cond.methodLinkNest RX1 42 yX7_bit "SandMandalas" ∈ nestL := by decide +kernel
theorem nl_X1_46 : Cond.methodLinkNest RX1 46 yX7_isQuarter "SandMandalas" ∈ nestL := by decide +kernel
theorem nl_X1_49 : Cond.methodLinkNest RX1 49 yX7_isColour "SandMandalas" ∈ nestL := by decide +kernel
theorem ml_X1_52 : Cond.methodLink RX1 52 yX5_holderOf ∈ LW := LW_of 226 (by decide +kernel) (by decide +kernel)
theorem ml_X1_55 : Cond.methodLink RX1 55 yX5_heldBy ∈ LW := LW_of 234 (by decide +kernel) (by decide +kernel)
theorem ml_X1_58 : Cond.methodLink RX1 58 yX5_funnel ∈ LW := LW_of 242 (by decide +kernel) (by decide +kernel)
theorem nl_X1_67 : Cond.methodLinkNest RX1 67 yX7_isPlace "SandMandalas" ∈ nestL := by decide +kernel
theorem ml_X1_71 : Cond.methodLink RX1 71 yX5_colour ∈ LW := LW_of 261 (by decide +kernel) (by decide +kernel)
theorem ml_X1_75 : Cond.methodLink RX1 75 yX5_grains ∈ LW := LW_of 265 (by decide +kernel) (by decide +kernel)
theorem ml_X1_78 : Cond.methodLink RX1 78 yX5_heap ∈ LW := LW_of 269 (by decide +kernel) (by decide +kernel)
theorem ml_X1_82 : Cond.methodLink RX1 82 yX5_raise ∈ LW := LW_of 273 (by decide +kernel) (by decide +kernel)
theorem nl_X1_85 : Cond.methodLinkNest RX1 85 yX7_isDirection "SandMandalas" ∈ nestL := by decide +kernel
theorem ml_X1_88 : Cond.methodLink RX1 88 yX0_over ∈ LW := LW_of 294 (by decide +kernel) (by decide +kernel)
theorem ml_X1_94 : Cond.methodLink RX1 94 yX5_number ∈ LW := LW_of 325 (by decide +kernel) (by decide +kernel)
theorem ml_X1_97 : Cond.methodLink RX1 97 yX6_isWhole ∈ LW := LW_of 326 (by decide +kernel) (by decide +kernel)
theorem ml_X1_103 : Cond.methodLink RX1 103 yX1_quarterOfTurn ∈ LW := LW_of 351 (by decide +kernel) (by decide +kernel)
theorem ml_X1_106 : Cond.methodLink RX1 106 yX1_beginAnew ∈ LW := LW_of 356 (by decide +kernel) (by decide +kernel)
theorem ml_X1_110 : Cond.methodLink RX1 110 yX5_dropPatterns ∈ LW := LW_of 359 (by decide +kernel) (by decide +kernel)
theorem ml_X2_21 : Cond.methodLink RX2 21 yX2_circleRow ∈ LW := LW_of 159 (by decide +kernel) (by decide +kernel)
theorem ml_X2_25 : Cond.methodLink RX2 25 yX5_copyInto ∈ LW := LW_of 163 (by decide +kernel) (by decide +kernel)
theorem ml_X2_32 : Cond.methodLink RX2 32 yX5_copyOutOf ∈ LW := LW_of 632 (by decide +kernel) (by decide +kernel)
theorem ml_X2_38 : Cond.methodLink RX2 38 yX2_slotRow ∈ LW := LW_of 647 (by decide +kernel) (by decide +kernel)
theorem ml_X3_11 : Cond.methodLink RX3 11 yX4_sign ∈ LW := LW_of 521 (by decide +kernel) (by decide +kernel)
theorem ml_X3_39 : Cond.methodLink RX3 39 yX3_hasSecondDigit ∈ LW := LW_of 593 (by decide +kernel) (by decide +kernel)
theorem ml_X3_58 : Cond.methodLink RX3 58 yX3_isDigit ∈ LW := LW_of 590 (by decide +kernel) (by decide +kernel)
theorem ml_X3_62 : Cond.methodLink RX3 62 yX3_digit ∈ LW := LW_of 608 (by decide +kernel) (by decide +kernel)
theorem ml_X3_66 : Cond.methodLink RX3 66 yX1_takeFunnel ∈ LW := LW_of 611 (by decide +kernel) (by decide +kernel)
theorem ml_X3_72 : Cond.methodLink RX3 72 yX3_numberAt ∈ LW := LW_of 612 (by decide +kernel) (by decide +kernel)
theorem ml_X3_75 : Cond.methodLink RX3 75 yX1_pourGrains ∈ LW := LW_of 615 (by decide +kernel) (by decide +kernel)
theorem ml_X3_79 : Cond.methodLink RX3 79 yX1_scrapeBare ∈ LW := LW_of 616 (by decide +kernel) (by decide +kernel)
theorem ml_X3_83 : Cond.methodLink RX3 83 yX3_colourRow ∈ LW := LW_of 617 (by decide +kernel) (by decide +kernel)
theorem ml_X3_86 : Cond.methodLink RX3 86 yX1_layPattern ∈ LW := LW_of 620 (by decide +kernel) (by decide +kernel)
theorem nl_X3_89 : Cond.methodLinkNest RX3 89 yX7_bit "SandMandalas" ∈ nestL := by decide +kernel
theorem ml_X3_93 : Cond.methodLink RX3 93 yX1_blow ∈ LW := LW_of 622 (by decide +kernel) (by decide +kernel)
theorem ml_X3_97 : Cond.methodLink RX3 97 yX1_closeRing ∈ LW := LW_of 623 (by decide +kernel) (by decide +kernel)
theorem ml_X4_19 : Cond.methodLink RX4 19 yX4_amountOf ∈ LW := LW_of 496 (by decide +kernel) (by decide +kernel)
theorem ml_X4_25 : Cond.methodLink RX4 25 yX4_addSign ∈ LW := LW_of 502 (by decide +kernel) (by decide +kernel)
theorem ml_X5_15 : Cond.methodLink RX5 15 yX5_lay ∈ LW := LW_of 74 (by decide +kernel) (by decide +kernel)
theorem ml_X5_22 : Cond.methodLink RX5 22 yX5_number ∈ LW := LW_of 180 (by decide +kernel) (by decide +kernel)
theorem ml_X5_32 : Cond.methodLink RX5 32 yX5_heldBy ∈ LW := LW_of 230 (by decide +kernel) (by decide +kernel)
theorem ml_X5_35 : Cond.methodLink RX5 35 yX1_quarterOfTurn ∈ LW := LW_of 419 (by decide +kernel) (by decide +kernel)
theorem ml_X5_40 : Cond.methodLink RX5 40 yX5_patternPlace ∈ LW := LW_of 337 (by decide +kernel) (by decide +kernel)
theorem ml_X5_44 : Cond.methodLink RX5 44 yX5_wanted ∈ LW := LW_of 333 (by decide +kernel) (by decide +kernel)
theorem ml_X5_48 : Cond.methodLink RX5 48 yX5_grains ∈ LW := LW_of 341 (by decide +kernel) (by decide +kernel)
theorem ml_X5_51 : Cond.methodLink RX5 51 yX5_colour ∈ LW := LW_of 342 (by decide +kernel) (by decide +kernel)
theorem ml_X5_54 : Cond.methodLink RX5 54 yX5_setting ∈ LW := LW_of 343 (by decide +kernel) (by decide +kernel)
theorem nl_X5_57 : Cond.methodLinkNest RX5 57 yX7_isColour "SandMandalas" ∈ nestL := by decide +kernel
theorem ml_X6_9 : Cond.methodLink RX6 9 yX6_matches ∈ LW := LW_of 389 (by decide +kernel) (by decide +kernel)
theorem ml_X6_15 : Cond.methodLink RX6 15 yX6_measured ∈ LW := LW_of 392 (by decide +kernel) (by decide +kernel)
theorem ml_X6_19 : Cond.methodLink RX6 19 yX5_colour ∈ LW := LW_of 384 (by decide +kernel) (by decide +kernel)
theorem ml_X6_25 : Cond.methodLink RX6 25 yX5_wanted ∈ LW := LW_of 395 (by decide +kernel) (by decide +kernel)
theorem ml_X6_28 : Cond.methodLink RX6 28 yX5_isRight ∈ LW := LW_of 329 (by decide +kernel) (by decide +kernel)
theorem ml_X6_32 : Cond.methodLink RX6 32 yX5_grains ∈ LW := LW_of 396 (by decide +kernel) (by decide +kernel)
theorem nl_X6_35 : Cond.methodLinkNest RX6 35 yX7_bit "SandMandalas" ∈ nestL := by decide +kernel
theorem ml_X6_39 : Cond.methodLink RX6 39 yX5_missing ∈ LW := LW_of 398 (by decide +kernel) (by decide +kernel)
theorem ml_X6_42 : Cond.methodLink RX6 42 yX6_isWhole ∈ LW := LW_of 435 (by decide +kernel) (by decide +kernel)
theorem ml_X6_46 : Cond.methodLink RX6 46 yX6_isUnlike ∈ LW := LW_of 381 (by decide +kernel) (by decide +kernel)
theorem ml_X6_50 : Cond.methodLink RX6 50 yX5_patternPlace ∈ LW := LW_of 385 (by decide +kernel) (by decide +kernel)
theorem ml_X6_54 : Cond.methodLink RX6 54 yX5_setting ∈ LW := LW_of 452 (by decide +kernel) (by decide +kernel)
theorem ml_X6_58 : Cond.methodLink RX6 58 yX5_number ∈ LW := LW_of 453 (by decide +kernel) (by decide +kernel)
theorem ml_X6_61 : Cond.methodLink RX6 61 yX6_canBePoured ∈ LW := LW_of 454 (by decide +kernel) (by decide +kernel)
theorem nl_X6_65 : Cond.methodLinkNest RX6 65 yX7_isColour "SandMandalas" ∈ nestL := by decide +kernel
theorem ml_X7_40 : Cond.methodLink RX7 40 yX2_stage ∈ LW := LW_of 155 (by decide +kernel) (by decide +kernel)
theorem ml_X7_44 : Cond.methodLink RX7 44 yX1_changeSetting ∈ LW := LW_of 170 (by decide +kernel) (by decide +kernel)
theorem ml_X7_50 : Cond.methodLink RX7 50 yX2_recordUnlessError ∈ LW := LW_of 185 (by decide +kernel) (by decide +kernel)
theorem ml_X7_54 : Cond.methodLink RX7 54 yX1_layPattern ∈ LW := LW_of 193 (by decide +kernel) (by decide +kernel)
theorem ml_X7_57 : Cond.methodLink RX7 57 yX1_takeFunnel ∈ LW := LW_of 217 (by decide +kernel) (by decide +kernel)
theorem ml_X7_60 : Cond.methodLink RX7 60 yX1_fillFunnel ∈ LW := LW_of 239 (by decide +kernel) (by decide +kernel)
theorem ml_X7_63 : Cond.methodLink RX7 63 yX1_pourGrains ∈ LW := LW_of 253 (by decide +kernel) (by decide +kernel)
theorem ml_X7_67 : Cond.methodLink RX7 67 yX1_scrapeBare ∈ LW := LW_of 281 (by decide +kernel) (by decide +kernel)
theorem ml_X7_71 : Cond.methodLink RX7 71 yX1_blow ∈ LW := LW_of 288 (by decide +kernel) (by decide +kernel)
theorem ml_X7_75 : Cond.methodLink RX7 75 yX1_closeRing ∈ LW := LW_of 322 (by decide +kernel) (by decide +kernel)
theorem ml_X7_79 : Cond.methodLink RX7 79 yX1_sweepQuarter ∈ LW := LW_of 348 (by decide +kernel) (by decide +kernel)
theorem ml_X7_82 : Cond.methodLink RX7 82 yX7_isPlace ∈ LW := LW_of 364 (by decide +kernel) (by decide +kernel)
theorem ml_X7_86 : Cond.methodLink RX7 86 yX5_colour ∈ LW := LW_of 365 (by decide +kernel) (by decide +kernel)
theorem ml_X7_90 : Cond.methodLink RX7 90 yX5_grains ∈ LW := LW_of 366 (by decide +kernel) (by decide +kernel)
theorem ml_X7_93 : Cond.methodLink RX7 93 yX5_wanted ∈ LW := LW_of 367 (by decide +kernel) (by decide +kernel)
theorem ml_X7_96 : Cond.methodLink RX7 96 yX5_isRight ∈ LW := LW_of 368 (by decide +kernel) (by decide +kernel)
theorem ml_X7_99 : Cond.methodLink RX7 99 yX7_bit ∈ LW := LW_of 369 (by decide +kernel) (by decide +kernel)
theorem ml_X7_103 : Cond.methodLink RX7 103 yX5_patternPlace ∈ LW := LW_of 370 (by decide +kernel) (by decide +kernel)
theorem ml_X7_107 : Cond.methodLink RX7 107 yX7_isRing ∈ LW := LW_of 260 (by decide +kernel) (by decide +kernel)
theorem ml_X7_111 : Cond.methodLink RX7 111 yX5_isClosed ∈ LW := LW_of 375 (by decide +kernel) (by decide +kernel)
theorem ml_X7_114 : Cond.methodLink RX7 114 yX5_hasPattern ∈ LW := LW_of 376 (by decide +kernel) (by decide +kernel)
theorem ml_X7_117 : Cond.methodLink RX7 117 yX6_isWhole ∈ LW := LW_of 377 (by decide +kernel) (by decide +kernel)
theorem ml_X7_123 : Cond.methodLink RX7 123 yX6_unlikePlaces ∈ LW := LW_of 378 (by decide +kernel) (by decide +kernel)
theorem ml_X7_127 : Cond.methodLink RX7 127 yX6_tally ∈ LW := LW_of 386 (by decide +kernel) (by decide +kernel)
theorem ml_X7_130 : Cond.methodLink RX7 130 yX7_isQuarter ∈ LW := LW_of 259 (by decide +kernel) (by decide +kernel)
theorem ml_X7_133 : Cond.methodLink RX7 133 yX5_heldBy ∈ LW := LW_of 410 (by decide +kernel) (by decide +kernel)
theorem ml_X7_136 : Cond.methodLink RX7 136 yX5_isMirrored ∈ LW := LW_of 411 (by decide +kernel) (by decide +kernel)
theorem ml_X7_139 : Cond.methodLink RX7 139 yX5_isSwept ∈ LW := LW_of 415 (by decide +kernel) (by decide +kernel)
theorem ml_X7_142 : Cond.methodLink RX7 142 yX7_isColour ∈ LW := LW_of 420 (by decide +kernel) (by decide +kernel)
theorem ml_X7_145 : Cond.methodLink RX7 145 yX5_funnel ∈ LW := LW_of 425 (by decide +kernel) (by decide +kernel)
theorem ml_X7_148 : Cond.methodLink RX7 148 yX5_holderOf ∈ LW := LW_of 426 (by decide +kernel) (by decide +kernel)
theorem ml_X7_151 : Cond.methodLink RX7 151 yX5_number ∈ LW := LW_of 431 (by decide +kernel) (by decide +kernel)
theorem ml_X7_154 : Cond.methodLink RX7 154 yX6_wholeRings ∈ LW := LW_of 432 (by decide +kernel) (by decide +kernel)
theorem ml_X7_157 : Cond.methodLink RX7 157 yX5_setting ∈ LW := LW_of 436 (by decide +kernel) (by decide +kernel)
theorem ml_X7_160 : Cond.methodLink RX7 160 yX4_length ∈ LW := LW_of 437 (by decide +kernel) (by decide +kernel)
theorem ml_X7_164 : Cond.methodLink RX7 164 yX2_undoable ∈ LW := LW_of 441 (by decide +kernel) (by decide +kernel)
theorem ml_X7_167 : Cond.methodLink RX7 167 yX6_neediest ∈ LW := LW_of 449 (by decide +kernel) (by decide +kernel)
theorem ml_X7_170 : Cond.methodLink RX7 170 yX5_missing ∈ LW := LW_of 458 (by decide +kernel) (by decide +kernel)
theorem ml_X7_173 : Cond.methodLink RX7 173 yX7_isDirection ∈ LW := LW_of 467 (by decide +kernel) (by decide +kernel)
theorem ml_X7_176 : Cond.methodLink RX7 176 yX5_copyFrom ∈ LW := LW_of 468 (by decide +kernel) (by decide +kernel)
theorem ml_X7_179 : Cond.methodLink RX7 179 yX0_over ∈ LW := LW_of 472 (by decide +kernel) (by decide +kernel)
theorem ml_X7_182 : Cond.methodLink RX7 182 yX6_rightOnlyInFirst ∈ LW := LW_of 473 (by decide +kernel) (by decide +kernel)
theorem ml_X7_186 : Cond.methodLink RX7 186 yX0_changedSomething ∈ LW := LW_of 480 (by decide +kernel) (by decide +kernel)
theorem ml_X7_190 : Cond.methodLink RX7 190 yX4_append ∈ LW := LW_of 492 (by decide +kernel) (by decide +kernel)
theorem ml_X7_194 : Cond.methodLink RX7 194 yX4_empty ∈ LW := LW_of 510 (by decide +kernel) (by decide +kernel)
theorem ml_X7_211 : Cond.methodLink RX7 211 yX2_goBack ∈ LW := LW_of 628 (by decide +kernel) (by decide +kernel)
theorem ml_X7_214 : Cond.methodLink RX7 214 yX2_isSlot ∈ LW := LW_of 640 (by decide +kernel) (by decide +kernel)
theorem ml_X7_217 : Cond.methodLink RX7 217 yX2_keepInSlot ∈ LW := LW_of 643 (by decide +kernel) (by decide +kernel)
theorem ml_X7_221 : Cond.methodLink RX7 221 yX2_isSaved ∈ LW := LW_of 654 (by decide +kernel) (by decide +kernel)
theorem ml_X7_224 : Cond.methodLink RX7 224 yX2_bringFromSlot ∈ LW := LW_of 658 (by decide +kernel) (by decide +kernel)
theorem ml_X8_39 : Cond.methodLink RX8 39 yX8_in ∈ LW := LW_of 714 (by decide +kernel) (by decide +kernel)
theorem ml_X8_43 : Cond.methodLink RX8 43 yX8_isQuarter ∈ LW := LW_of 749 (by decide +kernel) (by decide +kernel)
theorem ml_X8_47 : Cond.methodLink RX8 47 yX8_isRing ∈ LW := LW_of 733 (by decide +kernel) (by decide +kernel)
theorem ml_X8_54 : Cond.methodLink RX8 54 yX8_isMirrored ∈ LW := LW_of 829 (by decide +kernel) (by decide +kernel)
theorem ml_X8_57 : Cond.methodLink RX8 57 yX8_mirrored ∈ LW := LW_of 825 (by decide +kernel) (by decide +kernel)
theorem ml_X8_61 : Cond.methodLink RX8 61 yX8_p ∈ LW := LW_of 774 (by decide +kernel) (by decide +kernel)
theorem ml_X8_65 : Cond.methodLink RX8 65 yX8_wanted ∈ LW := LW_of 821 (by decide +kernel) (by decide +kernel)
theorem ml_X8_68 : Cond.methodLink RX8 68 yX8_isRight ∈ LW := LW_of 817 (by decide +kernel) (by decide +kernel)
theorem ml_X8_72 : Cond.methodLink RX8 72 yX8_isOpen ∈ LW := LW_of 737 (by decide +kernel) (by decide +kernel)
theorem ml_X8_75 : Cond.methodLink RX8 75 yX8_holder ∈ LW := LW_of 752 (by decide +kernel) (by decide +kernel)
theorem ml_X8_79 : Cond.methodLink RX8 79 yX8_isPlace ∈ LW := LW_of 771 (by decide +kernel) (by decide +kernel)
theorem ml_X8_82 : Cond.methodLink RX8 82 yX8_puts ∈ LW := LW_of 777 (by decide +kernel) (by decide +kernel)
theorem ml_X8_86 : Cond.methodLink RX8 86 yX8_spills ∈ LW := LW_of 801 (by decide +kernel) (by decide +kernel)
theorem ml_X8_89 : Cond.methodLink RX8 89 yX8_ringBreath ∈ LW := LW_of 797 (by decide +kernel) (by decide +kernel)
theorem ml_X8_92 : Cond.methodLink RX8 92 yX8_isWhole ∈ LW := LW_of 813 (by decide +kernel) (by decide +kernel)
theorem ml_X8_95 : Cond.methodLink RX8 95 yX8_swept ∈ LW := LW_of 841 (by decide +kernel) (by decide +kernel)
theorem ml_X8_98 : Cond.methodLink RX8 98 yX8_hold ∈ LW := LW_of 717 (by decide +kernel) (by decide +kernel)
theorem ml_X8_101 : Cond.methodLink RX8 101 yX8_recorded ∈ LW := LW_of 721 (by decide +kernel) (by decide +kernel)
theorem ml_X8_104 : Cond.methodLink RX8 104 yX8_patterns ∈ LW := LW_of 729 (by decide +kernel) (by decide +kernel)
theorem ml_X8_107 : Cond.methodLink RX8 107 yX8_takes ∈ LW := LW_of 745 (by decide +kernel) (by decide +kernel)
theorem ml_X8_110 : Cond.methodLink RX8 110 yX8_isColour ∈ LW := LW_of 760 (by decide +kernel) (by decide +kernel)
theorem ml_X8_113 : Cond.methodLink RX8 113 yX8_pours ∈ LW := LW_of 767 (by decide +kernel) (by decide +kernel)
theorem ml_X8_117 : Cond.methodLink RX8 117 yX8_scrapes ∈ LW := LW_of 785 (by decide +kernel) (by decide +kernel)
theorem ml_X8_120 : Cond.methodLink RX8 120 yX8_breathes ∈ LW := LW_of 793 (by decide +kernel) (by decide +kernel)
theorem ml_X8_123 : Cond.methodLink RX8 123 yX8_closes ∈ LW := LW_of 809 (by decide +kernel) (by decide +kernel)
theorem ml_X8_127 : Cond.methodLink RX8 127 yX8_sweeps ∈ LW := LW_of 837 (by decide +kernel) (by decide +kernel)
theorem ml_X8_130 : Cond.methodLink RX8 130 yX8_missing ∈ LW := LW_of 860 (by decide +kernel) (by decide +kernel)
theorem ml_X8_133 : Cond.methodLink RX8 133 yX8_unlike ∈ LW := LW_of 852 (by decide +kernel) (by decide +kernel)
theorem ml_X8_136 : Cond.methodLink RX8 136 yX8_ofPlaces ∈ LW := LW_of 856 (by decide +kernel) (by decide +kernel)
theorem ml_X8_139 : Cond.methodLink RX8 139 yX8_ofPlacesIn ∈ LW := LW_of 868 (by decide +kernel) (by decide +kernel)
theorem ml_X8_142 : Cond.methodLink RX8 142 yX8_isSwept ∈ LW := LW_of 872 (by decide +kernel) (by decide +kernel)
theorem ml_X8_145 : Cond.methodLink RX8 145 yX8_ofAll ∈ LW := LW_of 880 (by decide +kernel) (by decide +kernel)
theorem ml_X8_148 : Cond.methodLink RX8 148 yX8_grains ∈ LW := LW_of 888 (by decide +kernel) (by decide +kernel)
theorem ml_X8_151 : Cond.methodLink RX8 151 yX8_whole ∈ LW := LW_of 892 (by decide +kernel) (by decide +kernel)
theorem ml_X8_157 : Cond.methodLink RX8 157 yX8_keepTrial ∈ LW := LW_of 908 (by decide +kernel) (by decide +kernel)
theorem ml_X8_160 : Cond.methodLink RX8 160 yX8_turned ∈ LW := LW_of 912 (by decide +kernel) (by decide +kernel)
theorem ml_X8_164 : Cond.methodLink RX8 164 yX8_putBack ∈ LW := LW_of 916 (by decide +kernel) (by decide +kernel)
theorem ml_X8_167 : Cond.methodLink RX8 167 yX8_changes ∈ LW := LW_of 924 (by decide +kernel) (by decide +kernel)
theorem ml_X8_174 : Cond.methodLink RX8 174 yX8_isSign ∈ LW := LW_of 959 (by decide +kernel) (by decide +kernel)
theorem ml_X8_181 : Cond.methodLink RX8 181 yX8_digit ∈ LW := LW_of 963 (by decide +kernel) (by decide +kernel)
theorem ml_X8_185 : Cond.methodLink RX8 185 yX8_accepts ∈ LW := LW_of 955 (by decide +kernel) (by decide +kernel)
theorem ml_X8_189 : Cond.methodLink RX8 189 yX8_number ∈ LW := LW_of 967 (by decide +kernel) (by decide +kernel)
theorem ml_X8_192 : Cond.methodLink RX8 192 yX8_colours ∈ LW := LW_of 971 (by decide +kernel) (by decide +kernel)
theorem ml_X8_196 : Cond.methodLink RX8 196 yX8_direction ∈ LW := LW_of 975 (by decide +kernel) (by decide +kernel)
theorem ml_X8_199 : Cond.methodLink RX8 199 yX8_readsOrder ∈ LW := LW_of 951 (by decide +kernel) (by decide +kernel)
theorem ml_X8_208 : Cond.methodLink RX8 208 yX8_faultOf ∈ LW := LW_of 947 (by decide +kernel) (by decide +kernel)
theorem ml_X8_211 : Cond.methodLink RX8 211 yX8_does ∈ LW := LW_of 983 (by decide +kernel) (by decide +kernel)
theorem ys_X0_changedSomething : YS yX0_changedSomething cX0_changedSomething 1 (some .boolean) 0 := ⟨LW_of 483 (by decide +kernel) (by decide +kernel), LW_of 47 (by decide +kernel) (by decide +kernel), by decide +kernel⟩
theorem yw_X0_changedSomething : Cond.instanceMethod yX0_changedSomething ∈ LW ∧ Cond.selects yX0_changedSomething.cls yX0_changedSomething yX0_changedSomething ∈ LW := ⟨LW_of 481 (by decide +kernel) (by decide +kernel), LW_of 482 (by decide +kernel) (by decide +kernel)⟩
theorem ys_X0_over : YS yX0_over cX0_over 7 (some .int) 3 := ⟨LW_of 297 (by decide +kernel) (by decide +kernel), LW_of 47 (by decide +kernel) (by decide +kernel), by decide +kernel⟩
theorem yw_X0_over : Cond.instanceMethod yX0_over ∈ LW ∧ Cond.selects yX0_over.cls yX0_over yX0_over ∈ LW := ⟨LW_of 295 (by decide +kernel) (by decide +kernel), LW_of 296 (by decide +kernel) (by decide +kernel)⟩
theorem ys_X0_overPlace : YS yX0_overPlace cX0_overPlace 14 (some .int) 5 := ⟨LW_of 308 (by decide +kernel) (by decide +kernel), LW_of 47 (by decide +kernel) (by decide +kernel), by decide +kernel⟩
theorem yw_X0_overPlace : Cond.instanceMethod yX0_overPlace ∈ LW ∧ Cond.selects yX0_overPlace.cls yX0_overPlace yX0_overPlace ∈ LW := ⟨LW_of 307 (by decide +kernel) (by decide +kernel), LW_of 2 (by decide +kernel) (by decide +kernel)⟩
theorem ys_X0_rememberRing : YS yX0_rememberRing cX0_rememberRing 5 none 3 := ⟨LW_of 302 (by decide +kernel) (by decide +kernel), LW_of 47 (by decide +kernel) (by decide +kernel), by decide +kernel⟩
theorem yw_X0_rememberRing : Cond.instanceMethod yX0_rememberRing ∈ LW ∧ Cond.selects yX0_rememberRing.cls yX0_rememberRing yX0_rememberRing ∈ LW := ⟨LW_of 301 (by decide +kernel) (by decide +kernel), LW_of 1 (by decide +kernel) (by decide +kernel)⟩
theorem ys_X0_remembered : YS yX0_remembered cX0_remembered 2 (some .int) 2 := ⟨LW_of 312 (by decide +kernel) (by decide +kernel), LW_of 47 (by decide +kernel) (by decide +kernel), by decide +kernel⟩
theorem yw_X0_remembered : Cond.static yX0_remembered ∈ LW := LW_of 311 (by decide +kernel) (by decide +kernel)
theorem ys_X0_spilled : YS yX0_spilled cX0_spilled 2 (some .int) 2 := ⟨LW_of 315 (by decide +kernel) (by decide +kernel), LW_of 47 (by decide +kernel) (by decide +kernel), by decide +kernel⟩
theorem yw_X0_spilled : Cond.static yX0_spilled ∈ LW := LW_of 314 (by decide +kernel) (by decide +kernel)
theorem ys_X1_beginAnew : YS yX1_beginAnew cX1_beginAnew 1 none 1 := ⟨LW_of 358 (by decide +kernel) (by decide +kernel), LW_of 52 (by decide +kernel) (by decide +kernel), by decide +kernel⟩
theorem yw_X1_beginAnew : Cond.static yX1_beginAnew ∈ LW := LW_of 357 (by decide +kernel) (by decide +kernel)
theorem ys_X1_blow : YS yX1_blow cX1_blow 5 (some .int) 4 := ⟨LW_of 290 (by decide +kernel) (by decide +kernel), LW_of 52 (by decide +kernel) (by decide +kernel), by decide +kernel⟩
theorem yw_X1_blow : Cond.static yX1_blow ∈ LW := LW_of 289 (by decide +kernel) (by decide +kernel)
theorem ys_X1_changeSetting : YS yX1_changeSetting cX1_changeSetting 4 (some .int) 3 := ⟨LW_of 172 (by decide +kernel) (by decide +kernel), LW_of 52 (by decide +kernel) (by decide +kernel), by decide +kernel⟩
theorem yw_X1_changeSetting : Cond.static yX1_changeSetting ∈ LW := LW_of 171 (by decide +kernel) (by decide +kernel)
theorem ys_X1_closeRing : YS yX1_closeRing cX1_closeRing 2 (some .int) 1 := ⟨LW_of 324 (by decide +kernel) (by decide +kernel), LW_of 52 (by decide +kernel) (by decide +kernel), by decide +kernel⟩
theorem yw_X1_closeRing : Cond.static yX1_closeRing ∈ LW := LW_of 323 (by decide +kernel) (by decide +kernel)
theorem ys_X1_fillFunnel : YS yX1_fillFunnel cX1_fillFunnel 4 (some .int) 3 := ⟨LW_of 241 (by decide +kernel) (by decide +kernel), LW_of 52 (by decide +kernel) (by decide +kernel), by decide +kernel⟩
theorem yw_X1_fillFunnel : Cond.static yX1_fillFunnel ∈ LW := LW_of 240 (by decide +kernel) (by decide +kernel)
theorem ys_X1_isColourRow : YS yX1_isColourRow cX1_isColourRow 3 (some .boolean) 1 := ⟨LW_of 201 (by decide +kernel) (by decide +kernel), LW_of 52 (by decide +kernel) (by decide +kernel), by decide +kernel⟩
theorem yw_X1_isColourRow : Cond.static yX1_isColourRow ∈ LW := LW_of 200 (by decide +kernel) (by decide +kernel)
theorem ys_X1_isSettingValue : YS yX1_isSettingValue cX1_isSettingValue 2 (some .boolean) 2 := ⟨LW_of 175 (by decide +kernel) (by decide +kernel), LW_of 52 (by decide +kernel) (by decide +kernel), by decide +kernel⟩
theorem yw_X1_isSettingValue : Cond.static yX1_isSettingValue ∈ LW := LW_of 174 (by decide +kernel) (by decide +kernel)
theorem ys_X1_layPattern : YS yX1_layPattern cX1_layPattern 4 (some .int) 3 := ⟨LW_of 195 (by decide +kernel) (by decide +kernel), LW_of 52 (by decide +kernel) (by decide +kernel), by decide +kernel⟩
theorem yw_X1_layPattern : Cond.static yX1_layPattern ∈ LW := LW_of 194 (by decide +kernel) (by decide +kernel)
theorem ys_X1_pourGrains : YS yX1_pourGrains cX1_pourGrains 8 (some .int) 5 := ⟨LW_of 255 (by decide +kernel) (by decide +kernel), LW_of 52 (by decide +kernel) (by decide +kernel), by decide +kernel⟩
theorem yw_X1_pourGrains : Cond.static yX1_pourGrains ∈ LW := LW_of 254 (by decide +kernel) (by decide +kernel)
theorem ys_X1_quarterOfTurn : YS yX1_quarterOfTurn cX1_quarterOfTurn 1 (some .int) 1 := ⟨LW_of 353 (by decide +kernel) (by decide +kernel), LW_of 52 (by decide +kernel) (by decide +kernel), by decide +kernel⟩
theorem yw_X1_quarterOfTurn : Cond.static yX1_quarterOfTurn ∈ LW := LW_of 352 (by decide +kernel) (by decide +kernel)
theorem ys_X1_scrapeBare : YS yX1_scrapeBare cX1_scrapeBare 5 (some .int) 4 := ⟨LW_of 283 (by decide +kernel) (by decide +kernel), LW_of 52 (by decide +kernel) (by decide +kernel), by decide +kernel⟩
theorem yw_X1_scrapeBare : Cond.static yX1_scrapeBare ∈ LW := LW_of 282 (by decide +kernel) (by decide +kernel)
theorem ys_X1_sweepQuarter : YS yX1_sweepQuarter cX1_sweepQuarter 5 (some .int) 1 := ⟨LW_of 350 (by decide +kernel) (by decide +kernel), LW_of 52 (by decide +kernel) (by decide +kernel), by decide +kernel⟩
theorem yw_X1_sweepQuarter : Cond.static yX1_sweepQuarter ∈ LW := LW_of 349 (by decide +kernel) (by decide +kernel)
theorem ys_X1_takeFunnel : YS yX1_takeFunnel cX1_takeFunnel 5 (some .int) 3 := ⟨LW_of 219 (by decide +kernel) (by decide +kernel), LW_of 52 (by decide +kernel) (by decide +kernel), by decide +kernel⟩
theorem yw_X1_takeFunnel : Cond.static yX1_takeFunnel ∈ LW := LW_of 218 (by decide +kernel) (by decide +kernel)
theorem ys_X2_bringFromSlot : YS yX2_bringFromSlot cX2_bringFromSlot 3 none 2 := ⟨LW_of 661 (by decide +kernel) (by decide +kernel), LW_of 48 (by decide +kernel) (by decide +kernel), by decide +kernel⟩
theorem yw_X2_bringFromSlot : Cond.instanceMethod yX2_bringFromSlot ∈ LW ∧ Cond.selects yX2_bringFromSlot.cls yX2_bringFromSlot yX2_bringFromSlot ∈ LW := ⟨LW_of 659 (by decide +kernel) (by decide +kernel), LW_of 660 (by decide +kernel) (by decide +kernel)⟩
theorem ys_X2_circleRow : YS yX2_circleRow cX2_circleRow 2 (some .int) 1 := ⟨LW_of 162 (by decide +kernel) (by decide +kernel), LW_of 48 (by decide +kernel) (by decide +kernel), by decide +kernel⟩
theorem yw_X2_circleRow : Cond.instanceMethod yX2_circleRow ∈ LW ∧ Cond.selects yX2_circleRow.cls yX2_circleRow yX2_circleRow ∈ LW := ⟨LW_of 161 (by decide +kernel) (by decide +kernel), LW_of 0 (by decide +kernel) (by decide +kernel)⟩
theorem ys_X2_goBack : YS yX2_goBack cX2_goBack 2 (some .int) 1 := ⟨LW_of 631 (by decide +kernel) (by decide +kernel), LW_of 48 (by decide +kernel) (by decide +kernel), by decide +kernel⟩
theorem yw_X2_goBack : Cond.instanceMethod yX2_goBack ∈ LW ∧ Cond.selects yX2_goBack.cls yX2_goBack yX2_goBack ∈ LW := ⟨LW_of 629 (by decide +kernel) (by decide +kernel), LW_of 630 (by decide +kernel) (by decide +kernel)⟩
theorem ys_X2_isSaved : YS yX2_isSaved cX2_isSaved 2 (some .boolean) 1 := ⟨LW_of 657 (by decide +kernel) (by decide +kernel), LW_of 48 (by decide +kernel) (by decide +kernel), by decide +kernel⟩
theorem yw_X2_isSaved : Cond.instanceMethod yX2_isSaved ∈ LW ∧ Cond.selects yX2_isSaved.cls yX2_isSaved yX2_isSaved ∈ LW := ⟨LW_of 655 (by decide +kernel) (by decide +kernel), LW_of 656 (by decide +kernel) (by decide +kernel)⟩
theorem ys_X2_isSlot : YS yX2_isSlot cX2_isSlot 1 (some .boolean) 1 := ⟨LW_of 642 (by decide +kernel) (by decide +kernel), LW_of 48 (by decide +kernel) (by decide +kernel), by decide +kernel⟩
theorem yw_X2_isSlot : Cond.static yX2_isSlot ∈ LW := LW_of 641 (by decide +kernel) (by decide +kernel)
theorem ys_X2_keepInSlot : YS yX2_keepInSlot cX2_keepInSlot 3 none 2 := ⟨LW_of 646 (by decide +kernel) (by decide +kernel), LW_of 48 (by decide +kernel) (by decide +kernel), by decide +kernel⟩
theorem yw_X2_keepInSlot : Cond.instanceMethod yX2_keepInSlot ∈ LW ∧ Cond.selects yX2_keepInSlot.cls yX2_keepInSlot yX2_keepInSlot ∈ LW := ⟨LW_of 644 (by decide +kernel) (by decide +kernel), LW_of 645 (by decide +kernel) (by decide +kernel)⟩
theorem ys_X2_recordUnlessError : YS yX2_recordUnlessError cX2_recordUnlessError 2 (some .int) 1 := ⟨LW_of 188 (by decide +kernel) (by decide +kernel), LW_of 48 (by decide +kernel) (by decide +kernel), by decide +kernel⟩
theorem yw_X2_recordUnlessError : Cond.instanceMethod yX2_recordUnlessError ∈ LW ∧ Cond.selects yX2_recordUnlessError.cls yX2_recordUnlessError yX2_recordUnlessError ∈ LW := ⟨LW_of 186 (by decide +kernel) (by decide +kernel), LW_of 187 (by decide +kernel) (by decide +kernel)⟩
theorem ys_X2_slotRow : YS yX2_slotRow cX2_slotRow 1 (some .int) 1 := ⟨LW_of 649 (by decide +kernel) (by decide +kernel), LW_of 48 (by decide +kernel) (by decide +kernel), by decide +kernel⟩
theorem yw_X2_slotRow : Cond.static yX2_slotRow ∈ LW := LW_of 648 (by decide +kernel) (by decide +kernel)
theorem ys_X2_stage : YS yX2_stage cX2_stage 2 none 1 := ⟨LW_of 158 (by decide +kernel) (by decide +kernel), LW_of 48 (by decide +kernel) (by decide +kernel), by decide +kernel⟩
theorem yw_X2_stage : Cond.instanceMethod yX2_stage ∈ LW ∧ Cond.selects yX2_stage.cls yX2_stage yX2_stage ∈ LW := ⟨LW_of 156 (by decide +kernel) (by decide +kernel), LW_of 157 (by decide +kernel) (by decide +kernel)⟩
theorem ys_X2_undoable : YS yX2_undoable cX2_undoable 1 (some .int) 0 := ⟨LW_of 444 (by decide +kernel) (by decide +kernel), LW_of 48 (by decide +kernel) (by decide +kernel), by decide +kernel⟩
theorem yw_X2_undoable : Cond.instanceMethod yX2_undoable ∈ LW ∧ Cond.selects yX2_undoable.cls yX2_undoable yX2_undoable ∈ LW := ⟨LW_of 442 (by decide +kernel) (by decide +kernel), LW_of 443 (by decide +kernel) (by decide +kernel)⟩
theorem ys_X3_colourRow : YS yX3_colourRow cX3_colourRow 4 (some .int) 2 := ⟨LW_of 619 (by decide +kernel) (by decide +kernel), LW_of 55 (by decide +kernel) (by decide +kernel), by decide +kernel⟩
theorem yw_X3_colourRow : Cond.static yX3_colourRow ∈ LW := LW_of 618 (by decide +kernel) (by decide +kernel)
theorem ys_X3_digit : YS yX3_digit cX3_digit 2 (some .int) 2 := ⟨LW_of 610 (by decide +kernel) (by decide +kernel), LW_of 55 (by decide +kernel) (by decide +kernel), by decide +kernel⟩
theorem yw_X3_digit : Cond.static yX3_digit ∈ LW := LW_of 609 (by decide +kernel) (by decide +kernel)
theorem ys_X3_hasSecondDigit : YS yX3_hasSecondDigit cX3_hasSecondDigit 2 (some .boolean) 2 := ⟨LW_of 595 (by decide +kernel) (by decide +kernel), LW_of 55 (by decide +kernel) (by decide +kernel), by decide +kernel⟩
theorem yw_X3_hasSecondDigit : Cond.static yX3_hasSecondDigit ∈ LW := LW_of 594 (by decide +kernel) (by decide +kernel)
theorem ys_X3_isDigit : YS yX3_isDigit cX3_isDigit 1 (some .boolean) 1 := ⟨LW_of 592 (by decide +kernel) (by decide +kernel), LW_of 55 (by decide +kernel) (by decide +kernel), by decide +kernel⟩
theorem yw_X3_isDigit : Cond.static yX3_isDigit ∈ LW := LW_of 591 (by decide +kernel) (by decide +kernel)
theorem ys_X3_numberAt : YS yX3_numberAt cX3_numberAt 3 (some .int) 2 := ⟨LW_of 614 (by decide +kernel) (by decide +kernel), LW_of 55 (by decide +kernel) (by decide +kernel), by decide +kernel⟩
theorem yw_X3_numberAt : Cond.static yX3_numberAt ∈ LW := LW_of 613 (by decide +kernel) (by decide +kernel)
theorem ys_X4_addSign : YS yX4_addSign cX4_addSign 2 none 1 := ⟨LW_of 505 (by decide +kernel) (by decide +kernel), LW_of 49 (by decide +kernel) (by decide +kernel), by decide +kernel⟩
theorem yw_X4_addSign : Cond.instanceMethod yX4_addSign ∈ LW ∧ Cond.selects yX4_addSign.cls yX4_addSign yX4_addSign ∈ LW := ⟨LW_of 504 (by decide +kernel) (by decide +kernel), LW_of 3 (by decide +kernel) (by decide +kernel)⟩
theorem ys_X4_amountOf : YS yX4_amountOf cX4_amountOf 7 (some .int) 1 := ⟨LW_of 498 (by decide +kernel) (by decide +kernel), LW_of 49 (by decide +kernel) (by decide +kernel), by decide +kernel⟩
theorem yw_X4_amountOf : Cond.static yX4_amountOf ∈ LW := LW_of 497 (by decide +kernel) (by decide +kernel)
theorem ys_X4_append : YS yX4_append cX4_append 5 (some .int) 1 := ⟨LW_of 495 (by decide +kernel) (by decide +kernel), LW_of 49 (by decide +kernel) (by decide +kernel), by decide +kernel⟩
theorem yw_X4_append : Cond.instanceMethod yX4_append ∈ LW ∧ Cond.selects yX4_append.cls yX4_append yX4_append ∈ LW := ⟨LW_of 493 (by decide +kernel) (by decide +kernel), LW_of 494 (by decide +kernel) (by decide +kernel)⟩
theorem ys_X4_empty : YS yX4_empty cX4_empty 1 none 0 := ⟨LW_of 513 (by decide +kernel) (by decide +kernel), LW_of 49 (by decide +kernel) (by decide +kernel), by decide +kernel⟩
theorem yw_X4_empty : Cond.instanceMethod yX4_empty ∈ LW ∧ Cond.selects yX4_empty.cls yX4_empty yX4_empty ∈ LW := ⟨LW_of 511 (by decide +kernel) (by decide +kernel), LW_of 512 (by decide +kernel) (by decide +kernel)⟩
theorem ys_X4_length : YS yX4_length cX4_length 1 (some .int) 0 := ⟨LW_of 440 (by decide +kernel) (by decide +kernel), LW_of 49 (by decide +kernel) (by decide +kernel), by decide +kernel⟩
theorem yw_X4_length : Cond.instanceMethod yX4_length ∈ LW ∧ Cond.selects yX4_length.cls yX4_length yX4_length ∈ LW := ⟨LW_of 438 (by decide +kernel) (by decide +kernel), LW_of 439 (by decide +kernel) (by decide +kernel)⟩
theorem ys_X4_sign : YS yX4_sign cX4_sign 2 (some .int) 1 := ⟨LW_of 524 (by decide +kernel) (by decide +kernel), LW_of 49 (by decide +kernel) (by decide +kernel), by decide +kernel⟩
theorem yw_X4_sign : Cond.instanceMethod yX4_sign ∈ LW ∧ Cond.selects yX4_sign.cls yX4_sign yX4_sign ∈ LW := ⟨LW_of 522 (by decide +kernel) (by decide +kernel), LW_of 523 (by decide +kernel) (by decide +kernel)⟩
theorem ys_X5_colour : YS yX5_colour cX5_colour 4 (some .int) 3 := ⟨LW_of 264 (by decide +kernel) (by decide +kernel), LW_of 46 (by decide +kernel) (by decide +kernel), by decide +kernel⟩
theorem yw_X5_colour : Cond.instanceMethod yX5_colour ∈ LW ∧ Cond.selects yX5_colour.cls yX5_colour yX5_colour ∈ LW := ⟨LW_of 262 (by decide +kernel) (by decide +kernel), LW_of 263 (by decide +kernel) (by decide +kernel)⟩
theorem ys_X5_copyFrom : YS yX5_copyFrom cX5_copyFrom 2 none 1 := ⟨LW_of 471 (by decide +kernel) (by decide +kernel), LW_of 46 (by decide +kernel) (by decide +kernel), by decide +kernel⟩
theorem yw_X5_copyFrom : Cond.instanceMethod yX5_copyFrom ∈ LW ∧ Cond.selects yX5_copyFrom.cls yX5_copyFrom yX5_copyFrom ∈ LW := ⟨LW_of 469 (by decide +kernel) (by decide +kernel), LW_of 470 (by decide +kernel) (by decide +kernel)⟩
theorem ys_X5_copyInto : YS yX5_copyInto cX5_copyInto 3 none 2 := ⟨LW_of 166 (by decide +kernel) (by decide +kernel), LW_of 46 (by decide +kernel) (by decide +kernel), by decide +kernel⟩
theorem yw_X5_copyInto : Cond.instanceMethod yX5_copyInto ∈ LW ∧ Cond.selects yX5_copyInto.cls yX5_copyInto yX5_copyInto ∈ LW := ⟨LW_of 164 (by decide +kernel) (by decide +kernel), LW_of 165 (by decide +kernel) (by decide +kernel)⟩
theorem ys_X5_copyOutOf : YS yX5_copyOutOf cX5_copyOutOf 3 none 2 := ⟨LW_of 635 (by decide +kernel) (by decide +kernel), LW_of 46 (by decide +kernel) (by decide +kernel), by decide +kernel⟩
theorem yw_X5_copyOutOf : Cond.instanceMethod yX5_copyOutOf ∈ LW ∧ Cond.selects yX5_copyOutOf.cls yX5_copyOutOf yX5_copyOutOf ∈ LW := ⟨LW_of 633 (by decide +kernel) (by decide +kernel), LW_of 634 (by decide +kernel) (by decide +kernel)⟩
theorem ys_X5_dropPatterns : YS yX5_dropPatterns cX5_dropPatterns 2 none 0 := ⟨LW_of 81 (by decide +kernel) (by decide +kernel), LW_of 46 (by decide +kernel) (by decide +kernel), by decide +kernel⟩
theorem yw_X5_dropPatterns : Cond.instanceMethod yX5_dropPatterns ∈ LW ∧ Cond.selects yX5_dropPatterns.cls yX5_dropPatterns yX5_dropPatterns ∈ LW := ⟨LW_of 79 (by decide +kernel) (by decide +kernel), LW_of 80 (by decide +kernel) (by decide +kernel)⟩
theorem ys_X5_funnel : YS yX5_funnel cX5_funnel 2 (some .int) 1 := ⟨LW_of 245 (by decide +kernel) (by decide +kernel), LW_of 46 (by decide +kernel) (by decide +kernel), by decide +kernel⟩
theorem yw_X5_funnel : Cond.instanceMethod yX5_funnel ∈ LW ∧ Cond.selects yX5_funnel.cls yX5_funnel yX5_funnel ∈ LW := ⟨LW_of 243 (by decide +kernel) (by decide +kernel), LW_of 244 (by decide +kernel) (by decide +kernel)⟩
theorem ys_X5_grains : YS yX5_grains cX5_grains 4 (some .int) 3 := ⟨LW_of 268 (by decide +kernel) (by decide +kernel), LW_of 46 (by decide +kernel) (by decide +kernel), by decide +kernel⟩
theorem yw_X5_grains : Cond.instanceMethod yX5_grains ∈ LW ∧ Cond.selects yX5_grains.cls yX5_grains yX5_grains ∈ LW := ⟨LW_of 266 (by decide +kernel) (by decide +kernel), LW_of 267 (by decide +kernel) (by decide +kernel)⟩
theorem ys_X5_hasPattern : YS yX5_hasPattern cX5_hasPattern 2 (some .boolean) 1 := ⟨LW_of 209 (by decide +kernel) (by decide +kernel), LW_of 46 (by decide +kernel) (by decide +kernel), by decide +kernel⟩
theorem yw_X5_hasPattern : Cond.instanceMethod yX5_hasPattern ∈ LW ∧ Cond.selects yX5_hasPattern.cls yX5_hasPattern yX5_hasPattern ∈ LW := ⟨LW_of 207 (by decide +kernel) (by decide +kernel), LW_of 208 (by decide +kernel) (by decide +kernel)⟩
theorem ys_X5_heap : YS yX5_heap cX5_heap 7 none 5 := ⟨LW_of 272 (by decide +kernel) (by decide +kernel), LW_of 46 (by decide +kernel) (by decide +kernel), by decide +kernel⟩
theorem yw_X5_heap : Cond.instanceMethod yX5_heap ∈ LW ∧ Cond.selects yX5_heap.cls yX5_heap yX5_heap ∈ LW := ⟨LW_of 270 (by decide +kernel) (by decide +kernel), LW_of 271 (by decide +kernel) (by decide +kernel)⟩
theorem ys_X5_heldBy : YS yX5_heldBy cX5_heldBy 2 (some .int) 1 := ⟨LW_of 233 (by decide +kernel) (by decide +kernel), LW_of 46 (by decide +kernel) (by decide +kernel), by decide +kernel⟩
theorem yw_X5_heldBy : Cond.instanceMethod yX5_heldBy ∈ LW ∧ Cond.selects yX5_heldBy.cls yX5_heldBy yX5_heldBy ∈ LW := ⟨LW_of 231 (by decide +kernel) (by decide +kernel), LW_of 232 (by decide +kernel) (by decide +kernel)⟩
theorem ys_X5_holderOf : YS yX5_holderOf cX5_holderOf 3 (some .int) 1 := ⟨LW_of 229 (by decide +kernel) (by decide +kernel), LW_of 46 (by decide +kernel) (by decide +kernel), by decide +kernel⟩
theorem yw_X5_holderOf : Cond.instanceMethod yX5_holderOf ∈ LW ∧ Cond.selects yX5_holderOf.cls yX5_holderOf yX5_holderOf ∈ LW := ⟨LW_of 227 (by decide +kernel) (by decide +kernel), LW_of 228 (by decide +kernel) (by decide +kernel)⟩
theorem ys_X5_isClosed : YS yX5_isClosed cX5_isClosed 2 (some .boolean) 1 := ⟨LW_of 205 (by decide +kernel) (by decide +kernel), LW_of 46 (by decide +kernel) (by decide +kernel), by decide +kernel⟩
theorem yw_X5_isClosed : Cond.instanceMethod yX5_isClosed ∈ LW ∧ Cond.selects yX5_isClosed.cls yX5_isClosed yX5_isClosed ∈ LW := ⟨LW_of 203 (by decide +kernel) (by decide +kernel), LW_of 204 (by decide +kernel) (by decide +kernel)⟩
theorem ys_X5_isMirrored : YS yX5_isMirrored cX5_isMirrored 2 (some .boolean) 1 := ⟨LW_of 414 (by decide +kernel) (by decide +kernel), LW_of 46 (by decide +kernel) (by decide +kernel), by decide +kernel⟩
theorem yw_X5_isMirrored : Cond.instanceMethod yX5_isMirrored ∈ LW ∧ Cond.selects yX5_isMirrored.cls yX5_isMirrored yX5_isMirrored ∈ LW := ⟨LW_of 412 (by decide +kernel) (by decide +kernel), LW_of 413 (by decide +kernel) (by decide +kernel)⟩
theorem ys_X5_isRight : YS yX5_isRight cX5_isRight 5 (some .boolean) 3 := ⟨LW_of 332 (by decide +kernel) (by decide +kernel), LW_of 46 (by decide +kernel) (by decide +kernel), by decide +kernel⟩
theorem yw_X5_isRight : Cond.instanceMethod yX5_isRight ∈ LW ∧ Cond.selects yX5_isRight.cls yX5_isRight yX5_isRight ∈ LW := ⟨LW_of 330 (by decide +kernel) (by decide +kernel), LW_of 331 (by decide +kernel) (by decide +kernel)⟩
theorem ys_X5_isSwept : YS yX5_isSwept cX5_isSwept 3 (some .boolean) 1 := ⟨LW_of 418 (by decide +kernel) (by decide +kernel), LW_of 46 (by decide +kernel) (by decide +kernel), by decide +kernel⟩
theorem yw_X5_isSwept : Cond.instanceMethod yX5_isSwept ∈ LW ∧ Cond.selects yX5_isSwept.cls yX5_isSwept yX5_isSwept ∈ LW := ⟨LW_of 416 (by decide +kernel) (by decide +kernel), LW_of 417 (by decide +kernel) (by decide +kernel)⟩
theorem ys_X5_lay : YS yX5_lay cX5_lay 3 none 2 := ⟨LW_of 77 (by decide +kernel) (by decide +kernel), LW_of 46 (by decide +kernel) (by decide +kernel), by decide +kernel⟩
theorem yw_X5_lay : Cond.instanceMethod yX5_lay ∈ LW ∧ Cond.selects yX5_lay.cls yX5_lay yX5_lay ∈ LW := ⟨LW_of 75 (by decide +kernel) (by decide +kernel), LW_of 76 (by decide +kernel) (by decide +kernel)⟩
theorem ys_X5_missing : YS yX5_missing cX5_missing 6 (some .int) 3 := ⟨LW_of 401 (by decide +kernel) (by decide +kernel), LW_of 46 (by decide +kernel) (by decide +kernel), by decide +kernel⟩
theorem yw_X5_missing : Cond.instanceMethod yX5_missing ∈ LW ∧ Cond.selects yX5_missing.cls yX5_missing yX5_missing ∈ LW := ⟨LW_of 399 (by decide +kernel) (by decide +kernel), LW_of 400 (by decide +kernel) (by decide +kernel)⟩
theorem ys_X5_number : YS yX5_number cX5_number 2 (some .int) 1 := ⟨LW_of 183 (by decide +kernel) (by decide +kernel), LW_of 46 (by decide +kernel) (by decide +kernel), by decide +kernel⟩
theorem yw_X5_number : Cond.instanceMethod yX5_number ∈ LW ∧ Cond.selects yX5_number.cls yX5_number yX5_number ∈ LW := ⟨LW_of 181 (by decide +kernel) (by decide +kernel), LW_of 182 (by decide +kernel) (by decide +kernel)⟩
theorem ys_X5_patternPlace : YS yX5_patternPlace cX5_patternPlace 4 (some .int) 2 := ⟨LW_of 340 (by decide +kernel) (by decide +kernel), LW_of 46 (by decide +kernel) (by decide +kernel), by decide +kernel⟩
theorem yw_X5_patternPlace : Cond.instanceMethod yX5_patternPlace ∈ LW ∧ Cond.selects yX5_patternPlace.cls yX5_patternPlace yX5_patternPlace ∈ LW := ⟨LW_of 338 (by decide +kernel) (by decide +kernel), LW_of 339 (by decide +kernel) (by decide +kernel)⟩
theorem ys_X5_raise : YS yX5_raise cX5_raise 3 none 2 := ⟨LW_of 276 (by decide +kernel) (by decide +kernel), LW_of 46 (by decide +kernel) (by decide +kernel), by decide +kernel⟩
theorem yw_X5_raise : Cond.instanceMethod yX5_raise ∈ LW ∧ Cond.selects yX5_raise.cls yX5_raise yX5_raise ∈ LW := ⟨LW_of 274 (by decide +kernel) (by decide +kernel), LW_of 275 (by decide +kernel) (by decide +kernel)⟩
theorem ys_X5_setting : YS yX5_setting cX5_setting 2 (some .int) 1 := ⟨LW_of 179 (by decide +kernel) (by decide +kernel), LW_of 46 (by decide +kernel) (by decide +kernel), by decide +kernel⟩
theorem yw_X5_setting : Cond.instanceMethod yX5_setting ∈ LW ∧ Cond.selects yX5_setting.cls yX5_setting yX5_setting ∈ LW := ⟨LW_of 177 (by decide +kernel) (by decide +kernel), LW_of 178 (by decide +kernel) (by decide +kernel)⟩
theorem ys_X5_wanted : YS yX5_wanted cX5_wanted 5 (some .int) 3 := ⟨LW_of 336 (by decide +kernel) (by decide +kernel), LW_of 46 (by decide +kernel) (by decide +kernel), by decide +kernel⟩
theorem yw_X5_wanted : Cond.instanceMethod yX5_wanted ∈ LW ∧ Cond.selects yX5_wanted.cls yX5_wanted yX5_wanted ∈ LW := ⟨LW_of 334 (by decide +kernel) (by decide +kernel), LW_of 335 (by decide +kernel) (by decide +kernel)⟩
theorem ys_X6_canBePoured : YS yX6_canBePoured cX6_canBePoured 6 (some .boolean) 4 := ⟨LW_of 456 (by decide +kernel) (by decide +kernel), LW_of 54 (by decide +kernel) (by decide +kernel), by decide +kernel⟩
theorem yw_X6_canBePoured : Cond.static yX6_canBePoured ∈ LW := LW_of 455 (by decide +kernel) (by decide +kernel)
theorem ys_X6_isUnlike : YS yX6_isUnlike cX6_isUnlike 5 (some .boolean) 3 := ⟨LW_of 383 (by decide +kernel) (by decide +kernel), LW_of 54 (by decide +kernel) (by decide +kernel), by decide +kernel⟩
theorem yw_X6_isUnlike : Cond.static yX6_isUnlike ∈ LW := LW_of 382 (by decide +kernel) (by decide +kernel)
theorem ys_X6_isWhole : YS yX6_isWhole cX6_isWhole 4 (some .boolean) 2 := ⟨LW_of 328 (by decide +kernel) (by decide +kernel), LW_of 54 (by decide +kernel) (by decide +kernel), by decide +kernel⟩
theorem yw_X6_isWhole : Cond.static yX6_isWhole ∈ LW := LW_of 327 (by decide +kernel) (by decide +kernel)
theorem ys_X6_matches : YS yX6_matches cX6_matches 2 (some .boolean) 2 := ⟨LW_of 391 (by decide +kernel) (by decide +kernel), LW_of 54 (by decide +kernel) (by decide +kernel), by decide +kernel⟩
theorem yw_X6_matches : Cond.static yX6_matches ∈ LW := LW_of 390 (by decide +kernel) (by decide +kernel)
theorem ys_X6_measured : YS yX6_measured cX6_measured 9 (some .int) 6 := ⟨LW_of 394 (by decide +kernel) (by decide +kernel), LW_of 54 (by decide +kernel) (by decide +kernel), by decide +kernel⟩
theorem yw_X6_measured : Cond.static yX6_measured ∈ LW := LW_of 393 (by decide +kernel) (by decide +kernel)
theorem ys_X6_neediest : YS yX6_neediest cX6_neediest 7 (some .int) 1 := ⟨LW_of 451 (by decide +kernel) (by decide +kernel), LW_of 54 (by decide +kernel) (by decide +kernel), by decide +kernel⟩
theorem yw_X6_neediest : Cond.static yX6_neediest ∈ LW := LW_of 450 (by decide +kernel) (by decide +kernel)
theorem ys_X6_rightOnlyInFirst : YS yX6_rightOnlyInFirst cX6_rightOnlyInFirst 6 (some .int) 3 := ⟨LW_of 475 (by decide +kernel) (by decide +kernel), LW_of 54 (by decide +kernel) (by decide +kernel), by decide +kernel⟩
theorem yw_X6_rightOnlyInFirst : Cond.static yX6_rightOnlyInFirst ∈ LW := LW_of 474 (by decide +kernel) (by decide +kernel)
theorem ys_X6_tally : YS yX6_tally cX6_tally 9 (some .int) 5 := ⟨LW_of 388 (by decide +kernel) (by decide +kernel), LW_of 54 (by decide +kernel) (by decide +kernel), by decide +kernel⟩
theorem yw_X6_tally : Cond.static yX6_tally ∈ LW := LW_of 387 (by decide +kernel) (by decide +kernel)
theorem ys_X6_unlikePlaces : YS yX6_unlikePlaces cX6_unlikePlaces 4 (some .int) 2 := ⟨LW_of 380 (by decide +kernel) (by decide +kernel), LW_of 54 (by decide +kernel) (by decide +kernel), by decide +kernel⟩
theorem yw_X6_unlikePlaces : Cond.static yX6_unlikePlaces ∈ LW := LW_of 379 (by decide +kernel) (by decide +kernel)
theorem ys_X6_wholeRings : YS yX6_wholeRings cX6_wholeRings 3 (some .int) 1 := ⟨LW_of 434 (by decide +kernel) (by decide +kernel), LW_of 54 (by decide +kernel) (by decide +kernel), by decide +kernel⟩
theorem yw_X6_wholeRings : Cond.static yX6_wholeRings ∈ LW := LW_of 433 (by decide +kernel) (by decide +kernel)
theorem ys_X7_bit : YS yX7_bit cX7_bit 1 (some .int) 1 := ⟨LW_of 212 (by decide +kernel) (by decide +kernel), LW_of 45 (by decide +kernel) (by decide +kernel), by decide +kernel⟩
theorem yw_X7_bit : Cond.static yX7_bit ∈ LW := LW_of 211 (by decide +kernel) (by decide +kernel)
theorem ys_X7_isColour : YS yX7_isColour cX7_isColour 1 (some .boolean) 1 := ⟨LW_of 225 (by decide +kernel) (by decide +kernel), LW_of 45 (by decide +kernel) (by decide +kernel), by decide +kernel⟩
theorem yw_X7_isColour : Cond.static yX7_isColour ∈ LW := LW_of 224 (by decide +kernel) (by decide +kernel)
theorem ys_X7_isDirection : YS yX7_isDirection cX7_isDirection 1 (some .boolean) 1 := ⟨LW_of 293 (by decide +kernel) (by decide +kernel), LW_of 45 (by decide +kernel) (by decide +kernel), by decide +kernel⟩
theorem yw_X7_isDirection : Cond.static yX7_isDirection ∈ LW := LW_of 292 (by decide +kernel) (by decide +kernel)
theorem ys_X7_isPlace : YS yX7_isPlace cX7_isPlace 3 (some .boolean) 3 := ⟨LW_of 258 (by decide +kernel) (by decide +kernel), LW_of 45 (by decide +kernel) (by decide +kernel), by decide +kernel⟩
theorem yw_X7_isPlace : Cond.static yX7_isPlace ∈ LW := LW_of 257 (by decide +kernel) (by decide +kernel)
theorem ys_X7_isQuarter : YS yX7_isQuarter cX7_isQuarter 1 (some .boolean) 1 := ⟨LW_of 222 (by decide +kernel) (by decide +kernel), LW_of 45 (by decide +kernel) (by decide +kernel), by decide +kernel⟩
theorem yw_X7_isQuarter : Cond.static yX7_isQuarter ∈ LW := LW_of 221 (by decide +kernel) (by decide +kernel)
theorem ys_X7_isRing : YS yX7_isRing cX7_isRing 1 (some .boolean) 1 := ⟨LW_of 198 (by decide +kernel) (by decide +kernel), LW_of 45 (by decide +kernel) (by decide +kernel), by decide +kernel⟩
theorem yw_X7_isRing : Cond.static yX7_isRing ∈ LW := LW_of 197 (by decide +kernel) (by decide +kernel)
theorem ys_X8_accepts : YS yX8_accepts cX8_accepts 3 (some .boolean) 1 := ⟨LW_of 958 (by decide +kernel) (by decide +kernel), LW_of 50 (by decide +kernel) (by decide +kernel), by decide +kernel⟩
theorem yw_X8_accepts : Cond.instanceMethod yX8_accepts ∈ LW ∧ Cond.selects yX8_accepts.cls yX8_accepts yX8_accepts ∈ LW := ⟨LW_of 957 (by decide +kernel) (by decide +kernel), LW_of 37 (by decide +kernel) (by decide +kernel)⟩
theorem ys_X8_breathes : YS yX8_breathes cX8_breathes 5 (some .int) 2 := ⟨LW_of 796 (by decide +kernel) (by decide +kernel), LW_of 50 (by decide +kernel) (by decide +kernel), by decide +kernel⟩
theorem yw_X8_breathes : Cond.instanceMethod yX8_breathes ∈ LW ∧ Cond.selects yX8_breathes.cls yX8_breathes yX8_breathes ∈ LW := ⟨LW_of 795 (by decide +kernel) (by decide +kernel), LW_of 13 (by decide +kernel) (by decide +kernel)⟩
theorem ys_X8_changes : YS yX8_changes cX8_changes 6 (some .boolean) 2 := ⟨LW_of 927 (by decide +kernel) (by decide +kernel), LW_of 50 (by decide +kernel) (by decide +kernel), by decide +kernel⟩
theorem yw_X8_changes : Cond.instanceMethod yX8_changes ∈ LW ∧ Cond.selects yX8_changes.cls yX8_changes yX8_changes ∈ LW := ⟨LW_of 926 (by decide +kernel) (by decide +kernel), LW_of 34 (by decide +kernel) (by decide +kernel)⟩
theorem ys_X8_closes : YS yX8_closes cX8_closes 1 (some .int) 0 := ⟨LW_of 812 (by decide +kernel) (by decide +kernel), LW_of 50 (by decide +kernel) (by decide +kernel), by decide +kernel⟩
theorem yw_X8_closes : Cond.instanceMethod yX8_closes ∈ LW ∧ Cond.selects yX8_closes.cls yX8_closes yX8_closes ∈ LW := ⟨LW_of 811 (by decide +kernel) (by decide +kernel), LW_of 16 (by decide +kernel) (by decide +kernel)⟩
theorem ys_X8_colours : YS yX8_colours cX8_colours 4 (some .boolean) 0 := ⟨LW_of 974 (by decide +kernel) (by decide +kernel), LW_of 50 (by decide +kernel) (by decide +kernel), by decide +kernel⟩
theorem yw_X8_colours : Cond.instanceMethod yX8_colours ∈ LW ∧ Cond.selects yX8_colours.cls yX8_colours yX8_colours ∈ LW := ⟨LW_of 973 (by decide +kernel) (by decide +kernel), LW_of 41 (by decide +kernel) (by decide +kernel)⟩
theorem ys_X8_digit : YS yX8_digit cX8_digit 5 (some .boolean) 3 := ⟨LW_of 966 (by decide +kernel) (by decide +kernel), LW_of 50 (by decide +kernel) (by decide +kernel), by decide +kernel⟩
theorem yw_X8_digit : Cond.instanceMethod yX8_digit ∈ LW ∧ Cond.selects yX8_digit.cls yX8_digit yX8_digit ∈ LW := ⟨LW_of 965 (by decide +kernel) (by decide +kernel), LW_of 39 (by decide +kernel) (by decide +kernel)⟩
theorem ys_X8_direction : YS yX8_direction cX8_direction 2 (some .boolean) 0 := ⟨LW_of 978 (by decide +kernel) (by decide +kernel), LW_of 50 (by decide +kernel) (by decide +kernel), by decide +kernel⟩
theorem yw_X8_direction : Cond.instanceMethod yX8_direction ∈ LW ∧ Cond.selects yX8_direction.cls yX8_direction yX8_direction ∈ LW := ⟨LW_of 977 (by decide +kernel) (by decide +kernel), LW_of 42 (by decide +kernel) (by decide +kernel)⟩
theorem ys_X8_does : YS yX8_does cX8_does 3 (some .int) 1 := ⟨LW_of 986 (by decide +kernel) (by decide +kernel), LW_of 50 (by decide +kernel) (by decide +kernel), by decide +kernel⟩
theorem yw_X8_does : Cond.instanceMethod yX8_does ∈ LW ∧ Cond.selects yX8_does.cls yX8_does yX8_does ∈ LW := ⟨LW_of 985 (by decide +kernel) (by decide +kernel), LW_of 43 (by decide +kernel) (by decide +kernel)⟩
theorem ys_X8_faultOf : YS yX8_faultOf cX8_faultOf 2 (some .int) 0 := ⟨LW_of 950 (by decide +kernel) (by decide +kernel), LW_of 50 (by decide +kernel) (by decide +kernel), by decide +kernel⟩
theorem yw_X8_faultOf : Cond.instanceMethod yX8_faultOf ∈ LW ∧ Cond.selects yX8_faultOf.cls yX8_faultOf yX8_faultOf ∈ LW := ⟨LW_of 949 (by decide +kernel) (by decide +kernel), LW_of 35 (by decide +kernel) (by decide +kernel)⟩
theorem ys_X8_grains : YS yX8_grains cX8_grains 3 (some .int) 0 := ⟨LW_of 891 (by decide +kernel) (by decide +kernel), LW_of 50 (by decide +kernel) (by decide +kernel), by decide +kernel⟩
theorem yw_X8_grains : Cond.instanceMethod yX8_grains ∈ LW ∧ Cond.selects yX8_grains.cls yX8_grains yX8_grains ∈ LW := ⟨LW_of 890 (by decide +kernel) (by decide +kernel), LW_of 29 (by decide +kernel) (by decide +kernel)⟩
theorem ys_X8_hold : YS yX8_hold cX8_hold 2 none 0 := ⟨LW_of 720 (by decide +kernel) (by decide +kernel), LW_of 50 (by decide +kernel) (by decide +kernel), by decide +kernel⟩
theorem yw_X8_hold : Cond.instanceMethod yX8_hold ∈ LW ∧ Cond.selects yX8_hold.cls yX8_hold yX8_hold ∈ LW := ⟨LW_of 719 (by decide +kernel) (by decide +kernel), LW_of 4 (by decide +kernel) (by decide +kernel)⟩
theorem ys_X8_holder : YS yX8_holder cX8_holder 4 (some .int) 1 := ⟨LW_of 755 (by decide +kernel) (by decide +kernel), LW_of 50 (by decide +kernel) (by decide +kernel), by decide +kernel⟩
theorem yw_X8_holder : Cond.instanceMethod yX8_holder ∈ LW ∧ Cond.selects yX8_holder.cls yX8_holder yX8_holder ∈ LW := ⟨LW_of 754 (by decide +kernel) (by decide +kernel), LW_of 9 (by decide +kernel) (by decide +kernel)⟩
theorem ys_X8_in : YS yX8_in cX8_in 3 (some .boolean) 3 := ⟨LW_of 716 (by decide +kernel) (by decide +kernel), LW_of 50 (by decide +kernel) (by decide +kernel), by decide +kernel⟩
theorem yw_X8_in : Cond.static yX8_in ∈ LW := LW_of 715 (by decide +kernel) (by decide +kernel)
theorem ys_X8_isColour : YS yX8_isColour cX8_isColour 1 (some .boolean) 1 := ⟨LW_of 762 (by decide +kernel) (by decide +kernel), LW_of 50 (by decide +kernel) (by decide +kernel), by decide +kernel⟩
theorem yw_X8_isColour : Cond.static yX8_isColour ∈ LW := LW_of 761 (by decide +kernel) (by decide +kernel)
theorem ys_X8_isMirrored : YS yX8_isMirrored cX8_isMirrored 2 (some .boolean) 1 := ⟨LW_of 832 (by decide +kernel) (by decide +kernel), LW_of 50 (by decide +kernel) (by decide +kernel), by decide +kernel⟩
theorem yw_X8_isMirrored : Cond.instanceMethod yX8_isMirrored ∈ LW ∧ Cond.selects yX8_isMirrored.cls yX8_isMirrored yX8_isMirrored ∈ LW := ⟨LW_of 831 (by decide +kernel) (by decide +kernel), LW_of 21 (by decide +kernel) (by decide +kernel)⟩
theorem ys_X8_isOpen : YS yX8_isOpen cX8_isOpen 2 (some .boolean) 1 := ⟨LW_of 740 (by decide +kernel) (by decide +kernel), LW_of 50 (by decide +kernel) (by decide +kernel), by decide +kernel⟩
theorem yw_X8_isOpen : Cond.instanceMethod yX8_isOpen ∈ LW ∧ Cond.selects yX8_isOpen.cls yX8_isOpen yX8_isOpen ∈ LW := ⟨LW_of 739 (by decide +kernel) (by decide +kernel), LW_of 7 (by decide +kernel) (by decide +kernel)⟩
theorem ys_X8_isPlace : YS yX8_isPlace cX8_isPlace 3 (some .boolean) 3 := ⟨LW_of 773 (by decide +kernel) (by decide +kernel), LW_of 50 (by decide +kernel) (by decide +kernel), by decide +kernel⟩
theorem yw_X8_isPlace : Cond.static yX8_isPlace ∈ LW := LW_of 772 (by decide +kernel) (by decide +kernel)
theorem ys_X8_isQuarter : YS yX8_isQuarter cX8_isQuarter 1 (some .boolean) 1 := ⟨LW_of 751 (by decide +kernel) (by decide +kernel), LW_of 50 (by decide +kernel) (by decide +kernel), by decide +kernel⟩
theorem yw_X8_isQuarter : Cond.static yX8_isQuarter ∈ LW := LW_of 750 (by decide +kernel) (by decide +kernel)
theorem ys_X8_isRight : YS yX8_isRight cX8_isRight 6 (some .boolean) 3 := ⟨LW_of 820 (by decide +kernel) (by decide +kernel), LW_of 50 (by decide +kernel) (by decide +kernel), by decide +kernel⟩
theorem yw_X8_isRight : Cond.instanceMethod yX8_isRight ∈ LW ∧ Cond.selects yX8_isRight.cls yX8_isRight yX8_isRight ∈ LW := ⟨LW_of 819 (by decide +kernel) (by decide +kernel), LW_of 18 (by decide +kernel) (by decide +kernel)⟩
theorem ys_X8_isRing : YS yX8_isRing cX8_isRing 1 (some .boolean) 1 := ⟨LW_of 735 (by decide +kernel) (by decide +kernel), LW_of 50 (by decide +kernel) (by decide +kernel), by decide +kernel⟩
theorem yw_X8_isRing : Cond.static yX8_isRing ∈ LW := LW_of 734 (by decide +kernel) (by decide +kernel)
theorem ys_X8_isSign : YS yX8_isSign cX8_isSign 3 (some .boolean) 2 := ⟨LW_of 962 (by decide +kernel) (by decide +kernel), LW_of 50 (by decide +kernel) (by decide +kernel), by decide +kernel⟩
theorem yw_X8_isSign : Cond.instanceMethod yX8_isSign ∈ LW ∧ Cond.selects yX8_isSign.cls yX8_isSign yX8_isSign ∈ LW := ⟨LW_of 961 (by decide +kernel) (by decide +kernel), LW_of 38 (by decide +kernel) (by decide +kernel)⟩
theorem ys_X8_isSwept : YS yX8_isSwept cX8_isSwept 4 (some .boolean) 1 := ⟨LW_of 875 (by decide +kernel) (by decide +kernel), LW_of 50 (by decide +kernel) (by decide +kernel), by decide +kernel⟩
theorem yw_X8_isSwept : Cond.instanceMethod yX8_isSwept ∈ LW ∧ Cond.selects yX8_isSwept.cls yX8_isSwept yX8_isSwept ∈ LW := ⟨LW_of 874 (by decide +kernel) (by decide +kernel), LW_of 27 (by decide +kernel) (by decide +kernel)⟩
theorem ys_X8_isWhole : YS yX8_isWhole cX8_isWhole 4 (some .boolean) 1 := ⟨LW_of 816 (by decide +kernel) (by decide +kernel), LW_of 50 (by decide +kernel) (by decide +kernel), by decide +kernel⟩
theorem yw_X8_isWhole : Cond.instanceMethod yX8_isWhole ∈ LW ∧ Cond.selects yX8_isWhole.cls yX8_isWhole yX8_isWhole ∈ LW := ⟨LW_of 815 (by decide +kernel) (by decide +kernel), LW_of 17 (by decide +kernel) (by decide +kernel)⟩
theorem ys_X8_keepTrial : YS yX8_keepTrial cX8_keepTrial 2 none 0 := ⟨LW_of 911 (by decide +kernel) (by decide +kernel), LW_of 50 (by decide +kernel) (by decide +kernel), by decide +kernel⟩
theorem yw_X8_keepTrial : Cond.instanceMethod yX8_keepTrial ∈ LW ∧ Cond.selects yX8_keepTrial.cls yX8_keepTrial yX8_keepTrial ∈ LW := ⟨LW_of 910 (by decide +kernel) (by decide +kernel), LW_of 31 (by decide +kernel) (by decide +kernel)⟩
theorem ys_X8_mirrored : YS yX8_mirrored cX8_mirrored 3 (some .int) 2 := ⟨LW_of 828 (by decide +kernel) (by decide +kernel), LW_of 50 (by decide +kernel) (by decide +kernel), by decide +kernel⟩
theorem yw_X8_mirrored : Cond.instanceMethod yX8_mirrored ∈ LW ∧ Cond.selects yX8_mirrored.cls yX8_mirrored yX8_mirrored ∈ LW := ⟨LW_of 827 (by decide +kernel) (by decide +kernel), LW_of 20 (by decide +kernel) (by decide +kernel)⟩
theorem ys_X8_missing : YS yX8_missing cX8_missing 7 (some .int) 3 := ⟨LW_of 863 (by decide +kernel) (by decide +kernel), LW_of 50 (by decide +kernel) (by decide +kernel), by decide +kernel⟩
theorem yw_X8_missing : Cond.instanceMethod yX8_missing ∈ LW ∧ Cond.selects yX8_missing.cls yX8_missing yX8_missing ∈ LW := ⟨LW_of 862 (by decide +kernel) (by decide +kernel), LW_of 25 (by decide +kernel) (by decide +kernel)⟩
theorem ys_X8_number : YS yX8_number cX8_number 3 (some .boolean) 1 := ⟨LW_of 970 (by decide +kernel) (by decide +kernel), LW_of 50 (by decide +kernel) (by decide +kernel), by decide +kernel⟩
theorem yw_X8_number : Cond.instanceMethod yX8_number ∈ LW ∧ Cond.selects yX8_number.cls yX8_number yX8_number ∈ LW := ⟨LW_of 969 (by decide +kernel) (by decide +kernel), LW_of 40 (by decide +kernel) (by decide +kernel)⟩
theorem ys_X8_ofAll : YS yX8_ofAll cX8_ofAll 8 (some .int) 2 := ⟨LW_of 883 (by decide +kernel) (by decide +kernel), LW_of 50 (by decide +kernel) (by decide +kernel), by decide +kernel⟩
theorem yw_X8_ofAll : Cond.instanceMethod yX8_ofAll ∈ LW ∧ Cond.selects yX8_ofAll.cls yX8_ofAll yX8_ofAll ∈ LW := ⟨LW_of 882 (by decide +kernel) (by decide +kernel), LW_of 28 (by decide +kernel) (by decide +kernel)⟩
theorem ys_X8_ofPlaces : YS yX8_ofPlaces cX8_ofPlaces 6 (some .int) 2 := ⟨LW_of 859 (by decide +kernel) (by decide +kernel), LW_of 50 (by decide +kernel) (by decide +kernel), by decide +kernel⟩
theorem yw_X8_ofPlaces : Cond.instanceMethod yX8_ofPlaces ∈ LW ∧ Cond.selects yX8_ofPlaces.cls yX8_ofPlaces yX8_ofPlaces ∈ LW := ⟨LW_of 858 (by decide +kernel) (by decide +kernel), LW_of 24 (by decide +kernel) (by decide +kernel)⟩
theorem ys_X8_ofPlacesIn : YS yX8_ofPlacesIn cX8_ofPlacesIn 9 (some .int) 2 := ⟨LW_of 871 (by decide +kernel) (by decide +kernel), LW_of 50 (by decide +kernel) (by decide +kernel), by decide +kernel⟩
theorem yw_X8_ofPlacesIn : Cond.instanceMethod yX8_ofPlacesIn ∈ LW ∧ Cond.selects yX8_ofPlacesIn.cls yX8_ofPlacesIn yX8_ofPlacesIn ∈ LW := ⟨LW_of 870 (by decide +kernel) (by decide +kernel), LW_of 26 (by decide +kernel) (by decide +kernel)⟩
theorem ys_X8_p : YS yX8_p cX8_p 3 (some .int) 3 := ⟨LW_of 776 (by decide +kernel) (by decide +kernel), LW_of 50 (by decide +kernel) (by decide +kernel), by decide +kernel⟩
theorem yw_X8_p : Cond.static yX8_p ∈ LW := LW_of 775 (by decide +kernel) (by decide +kernel)
theorem ys_X8_patterns : YS yX8_patterns cX8_patterns 6 (some .int) 2 := ⟨LW_of 732 (by decide +kernel) (by decide +kernel), LW_of 50 (by decide +kernel) (by decide +kernel), by decide +kernel⟩
theorem yw_X8_patterns : Cond.instanceMethod yX8_patterns ∈ LW ∧ Cond.selects yX8_patterns.cls yX8_patterns yX8_patterns ∈ LW := ⟨LW_of 731 (by decide +kernel) (by decide +kernel), LW_of 6 (by decide +kernel) (by decide +kernel)⟩
theorem ys_X8_pours : YS yX8_pours cX8_pours 8 (some .int) 4 := ⟨LW_of 770 (by decide +kernel) (by decide +kernel), LW_of 50 (by decide +kernel) (by decide +kernel), by decide +kernel⟩
theorem yw_X8_pours : Cond.instanceMethod yX8_pours ∈ LW ∧ Cond.selects yX8_pours.cls yX8_pours yX8_pours ∈ LW := ⟨LW_of 769 (by decide +kernel) (by decide +kernel), LW_of 10 (by decide +kernel) (by decide +kernel)⟩
theorem ys_X8_putBack : YS yX8_putBack cX8_putBack 2 none 0 := ⟨LW_of 919 (by decide +kernel) (by decide +kernel), LW_of 50 (by decide +kernel) (by decide +kernel), by decide +kernel⟩
theorem yw_X8_putBack : Cond.instanceMethod yX8_putBack ∈ LW ∧ Cond.selects yX8_putBack.cls yX8_putBack yX8_putBack ∈ LW := ⟨LW_of 918 (by decide +kernel) (by decide +kernel), LW_of 33 (by decide +kernel) (by decide +kernel)⟩
theorem ys_X8_puts : YS yX8_puts cX8_puts 4 none 3 := ⟨LW_of 780 (by decide +kernel) (by decide +kernel), LW_of 50 (by decide +kernel) (by decide +kernel), by decide +kernel⟩
theorem yw_X8_puts : Cond.instanceMethod yX8_puts ∈ LW ∧ Cond.selects yX8_puts.cls yX8_puts yX8_puts ∈ LW := ⟨LW_of 779 (by decide +kernel) (by decide +kernel), LW_of 11 (by decide +kernel) (by decide +kernel)⟩
theorem ys_X8_readsOrder : YS yX8_readsOrder cX8_readsOrder 2 (some .boolean) 0 := ⟨LW_of 954 (by decide +kernel) (by decide +kernel), LW_of 50 (by decide +kernel) (by decide +kernel), by decide +kernel⟩
theorem yw_X8_readsOrder : Cond.instanceMethod yX8_readsOrder ∈ LW ∧ Cond.selects yX8_readsOrder.cls yX8_readsOrder yX8_readsOrder ∈ LW := ⟨LW_of 953 (by decide +kernel) (by decide +kernel), LW_of 36 (by decide +kernel) (by decide +kernel)⟩
theorem ys_X8_recorded : YS yX8_recorded cX8_recorded 3 (some .int) 1 := ⟨LW_of 724 (by decide +kernel) (by decide +kernel), LW_of 50 (by decide +kernel) (by decide +kernel), by decide +kernel⟩
theorem yw_X8_recorded : Cond.instanceMethod yX8_recorded ∈ LW ∧ Cond.selects yX8_recorded.cls yX8_recorded yX8_recorded ∈ LW := ⟨LW_of 723 (by decide +kernel) (by decide +kernel), LW_of 5 (by decide +kernel) (by decide +kernel)⟩
theorem ys_X8_ringBreath : YS yX8_ringBreath cX8_ringBreath 12 (some .int) 3 := ⟨LW_of 800 (by decide +kernel) (by decide +kernel), LW_of 50 (by decide +kernel) (by decide +kernel), by decide +kernel⟩
theorem yw_X8_ringBreath : Cond.instanceMethod yX8_ringBreath ∈ LW ∧ Cond.selects yX8_ringBreath.cls yX8_ringBreath yX8_ringBreath ∈ LW := ⟨LW_of 799 (by decide +kernel) (by decide +kernel), LW_of 14 (by decide +kernel) (by decide +kernel)⟩
theorem ys_X8_scrapes : YS yX8_scrapes cX8_scrapes 6 (some .int) 3 := ⟨LW_of 788 (by decide +kernel) (by decide +kernel), LW_of 50 (by decide +kernel) (by decide +kernel), by decide +kernel⟩
theorem yw_X8_scrapes : Cond.instanceMethod yX8_scrapes ∈ LW ∧ Cond.selects yX8_scrapes.cls yX8_scrapes yX8_scrapes ∈ LW := ⟨LW_of 787 (by decide +kernel) (by decide +kernel), LW_of 12 (by decide +kernel) (by decide +kernel)⟩
theorem ys_X8_spills : YS yX8_spills cX8_spills 3 (some .int) 1 := ⟨LW_of 804 (by decide +kernel) (by decide +kernel), LW_of 50 (by decide +kernel) (by decide +kernel), by decide +kernel⟩
theorem yw_X8_spills : Cond.instanceMethod yX8_spills ∈ LW ∧ Cond.selects yX8_spills.cls yX8_spills yX8_spills ∈ LW := ⟨LW_of 803 (by decide +kernel) (by decide +kernel), LW_of 15 (by decide +kernel) (by decide +kernel)⟩
theorem ys_X8_sweeps : YS yX8_sweeps cX8_sweeps 4 (some .int) 0 := ⟨LW_of 840 (by decide +kernel) (by decide +kernel), LW_of 50 (by decide +kernel) (by decide +kernel), by decide +kernel⟩
theorem yw_X8_sweeps : Cond.instanceMethod yX8_sweeps ∈ LW ∧ Cond.selects yX8_sweeps.cls yX8_sweeps yX8_sweeps ∈ LW := ⟨LW_of 839 (by decide +kernel) (by decide +kernel), LW_of 22 (by decide +kernel) (by decide +kernel)⟩
theorem ys_X8_swept : YS yX8_swept cX8_swept 1 (some .int) 1 := ⟨LW_of 843 (by decide +kernel) (by decide +kernel), LW_of 50 (by decide +kernel) (by decide +kernel), by decide +kernel⟩
theorem yw_X8_swept : Cond.static yX8_swept ∈ LW := LW_of 842 (by decide +kernel) (by decide +kernel)
theorem ys_X8_takes : YS yX8_takes cX8_takes 4 (some .int) 2 := ⟨LW_of 748 (by decide +kernel) (by decide +kernel), LW_of 50 (by decide +kernel) (by decide +kernel), by decide +kernel⟩
theorem yw_X8_takes : Cond.instanceMethod yX8_takes ∈ LW ∧ Cond.selects yX8_takes.cls yX8_takes yX8_takes ∈ LW := ⟨LW_of 747 (by decide +kernel) (by decide +kernel), LW_of 8 (by decide +kernel) (by decide +kernel)⟩
theorem ys_X8_turned : YS yX8_turned cX8_turned 7 (some .int) 5 := ⟨LW_of 915 (by decide +kernel) (by decide +kernel), LW_of 50 (by decide +kernel) (by decide +kernel), by decide +kernel⟩
theorem yw_X8_turned : Cond.instanceMethod yX8_turned ∈ LW ∧ Cond.selects yX8_turned.cls yX8_turned yX8_turned ∈ LW := ⟨LW_of 914 (by decide +kernel) (by decide +kernel), LW_of 32 (by decide +kernel) (by decide +kernel)⟩
theorem ys_X8_unlike : YS yX8_unlike cX8_unlike 6 (some .int) 1 := ⟨LW_of 855 (by decide +kernel) (by decide +kernel), LW_of 50 (by decide +kernel) (by decide +kernel), by decide +kernel⟩
theorem yw_X8_unlike : Cond.instanceMethod yX8_unlike ∈ LW ∧ Cond.selects yX8_unlike.cls yX8_unlike yX8_unlike ∈ LW := ⟨LW_of 854 (by decide +kernel) (by decide +kernel), LW_of 23 (by decide +kernel) (by decide +kernel)⟩
theorem ys_X8_wanted : YS yX8_wanted cX8_wanted 4 (some .int) 3 := ⟨LW_of 824 (by decide +kernel) (by decide +kernel), LW_of 50 (by decide +kernel) (by decide +kernel), by decide +kernel⟩
theorem yw_X8_wanted : Cond.instanceMethod yX8_wanted ∈ LW ∧ Cond.selects yX8_wanted.cls yX8_wanted yX8_wanted ∈ LW := ⟨LW_of 823 (by decide +kernel) (by decide +kernel), LW_of 19 (by decide +kernel) (by decide +kernel)⟩
theorem ys_X8_whole : YS yX8_whole cX8_whole 3 (some .int) 0 := ⟨LW_of 895 (by decide +kernel) (by decide +kernel), LW_of 50 (by decide +kernel) (by decide +kernel), by decide +kernel⟩
theorem yw_X8_whole : Cond.instanceMethod yX8_whole ∈ LW ∧ Cond.selects yX8_whole.cls yX8_whole yX8_whole ∈ LW := ⟨LW_of 894 (by decide +kernel) (by decide +kernel), LW_of 30 (by decide +kernel) (by decide +kernel)⟩
section FR
variable {E : EN} {cc : ByteArray} {nL : Nat} {ret : Option FieldType} {A : Nat → Prop} {p : Program} {l : Launch} {e : Env} {R : Room} {s : State} {m : MethodId} {args : Array Value} {below : List Frame} {meth : Method} {c : Code} {cells slots : Nat} {Q : State → Prop} {pc : Nat} {lv : List (Nat × Value)} {st : List Value} {h : Hp}
theorem fl_X0_9 : Cond.fieldLink RX0 9 RX0 (TX0 0).2.1 (TX0 0).2.2.1 ∈ LW := LW_of 93 (by decide +kernel) (by decide +kernel)
theorem fl_X0_15 : Cond.fieldLink RX0 15 RX0 (TX0 1).2.1 (TX0 1).2.2.1 ∈ LW := LW_of 94 (by decide +kernel) (by decide +kernel)
theorem fl_X0_18 : Cond.fieldLink RX0 18 RX0 (TX0 2).2.1 (TX0 2).2.2.1 ∈ LW := LW_of 95 (by decide +kernel) (by decide +kernel)
theorem fl_X2_13 : Cond.fieldLink RX2 13 RX2 (TX2 0).2.1 (TX2 0).2.2.1 ∈ LW := LW_of 109 (by decide +kernel) (by decide +kernel)
theorem fl_X2_29 : Cond.fieldLink RX2 29 RX2 (TX2 1).2.1 (TX2 1).2.2.1 ∈ LW := LW_of 110 (by decide +kernel) (by decide +kernel)
theorem fl_X2_17 : Cond.fieldLink RX2 17 RX2 (TX2 2).2.1 (TX2 2).2.2.1 ∈ LW := LW_of 111 (by decide +kernel) (by decide +kernel)
theorem fl_X2_35 : Cond.fieldLink RX2 35 RX2 (TX2 3).2.1 (TX2 3).2.2.1 ∈ LW := LW_of 112 (by decide +kernel) (by decide +kernel)
theorem fl_X4_11 : Cond.fieldLink RX4 11 RX4 (TX4 0).2.1 (TX4 0).2.2.1 ∈ LW := LW_of 128 (by decide +kernel) (by decide +kernel)
theorem fl_X4_15 : Cond.fieldLink RX4 15 RX4 (TX4 1).2.1 (TX4 1).2.2.1 ∈ LW := LW_of 129 (by decide +kernel) (by decide +kernel)
theorem fl_X5_11 : Cond.fieldLink RX5 11 RX5 (TX5 0).2.1 (TX5 0).2.2.1 ∈ LW := LW_of 82 (by decide +kernel) (by decide +kernel)
theorem fl_X7_10 : Cond.fieldLink RX7 10 RX7 (TX7 0).2.1 (TX7 0).2.2.1 ∈ LW := LW_of 135 (by decide +kernel) (by decide +kernel)
theorem fl_X7_16 : Cond.fieldLink RX7 16 RX7 (TX7 1).2.1 (TX7 1).2.2.1 ∈ LW := LW_of 136 (by decide +kernel) (by decide +kernel)
theorem fl_X7_22 : Cond.fieldLink RX7 22 RX7 (TX7 2).2.1 (TX7 2).2.2.1 ∈ LW := LW_of 137 (by decide +kernel) (by decide +kernel)
theorem fl_X7_29 : Cond.fieldLink RX7 29 RX7 (TX7 3).2.1 (TX7 3).2.2.1 ∈ LW := LW_of 138 (by decide +kernel) (by decide +kernel)
theorem fl_X7_36 : Cond.fieldLink RX7 36 RX7 (TX7 4).2.1 (TX7 4).2.2.1 ∈ LW := LW_of 139 (by decide +kernel) (by decide +kernel)
theorem fl_X8_7 : Cond.fieldLink RX8 7 RX8 (TX8 0).2.1 (TX8 0).2.2.1 ∈ LW := LW_of 668 (by decide +kernel) (by decide +kernel)
theorem fl_X8_13 : Cond.fieldLink RX8 13 RX8 (TX8 1).2.1 (TX8 1).2.2.1 ∈ LW := LW_of 669 (by decide +kernel) (by decide +kernel)
theorem fl_X8_16 : Cond.fieldLink RX8 16 RX8 (TX8 2).2.1 (TX8 2).2.2.1 ∈ LW := LW_of 670 (by decide +kernel) (by decide +kernel)
theorem fl_X8_19 : Cond.fieldLink RX8 19 RX8 (TX8 3).2.1 (TX8 3).2.2.1 ∈ LW := LW_of 671 (by decide +kernel) (by decide +kernel)
theorem fl_X8_22 : Cond.fieldLink RX8 22 RX8 (TX8 4).2.1 (TX8 4).2.2.1 ∈ LW := LW_of 672 (by decide +kernel) (by decide +kernel)
theorem fl_X8_25 : Cond.fieldLink RX8 25 RX8 (TX8 5).2.1 (TX8 5).2.2.1 ∈ LW := LW_of 673 (by decide +kernel) (by decide +kernel)
theorem fl_X8_29 : Cond.fieldLink RX8 29 RX8 (TX8 6).2.1 (TX8 6).2.2.1 ∈ LW := LW_of 674 (by decide +kernel) (by decide +kernel)
theorem fl_X8_32 : Cond.fieldLink RX8 32 RX8 (TX8 7).2.1 (TX8 7).2.2.1 ∈ LW := LW_of 675 (by decide +kernel) (by decide +kernel)
theorem fl_X8_35 : Cond.fieldLink RX8 35 RX8 (TX8 8).2.1 (TX8 8).2.2.1 ∈ LW := LW_of 676 (by decide +kernel) (by decide +kernel)
theorem fl_X8_154 : Cond.fieldLink RX8 154 RX8 (TX8 9).2.1 (TX8 9).2.2.1 ∈ LW := LW_of 677 (by decide +kernel) (by decide +kernel)
theorem fl_X8_50 : Cond.fieldLink RX8 50 RX8 (TX8 10).2.1 (TX8 10).2.2.1 ∈ LW := LW_of 678 (by decide +kernel) (by decide +kernel)
theorem fl_X8_178 : Cond.fieldLink RX8 178 RX8 (TX8 11).2.1 (TX8 11).2.2.1 ∈ LW := LW_of 679 (by decide +kernel) (by decide +kernel)
theorem fl_X8_171 : Cond.fieldLink RX8 171 RX8 (TX8 12).2.1 (TX8 12).2.2.1 ∈ LW := LW_of 680 (by decide +kernel) (by decide +kernel)
theorem G_X0_0_9 (hE : IW E) (X : XC E RX0 cc nL ret A p s m args meth c) (hd : decode cc pc = .ok (.getfield 9, 3)) (kk : V E nL A p l e R s m args below meth c cells slots Q (pc + 3) lv (.ref (eA E 6) :: st) h) : V E nL A p l e R s m args below meth c cells slots Q pc lv (.ref (eA E 5) :: st) h := V_get (k := 5) (ci := 0) (N := 3) (j := 0) X inW_X0 (OB_5 hE) rfl (by decide) rfl fl_X0_9 rfl hd kk
theorem G_X0_1_15 (hE : IW E) (X : XC E RX0 cc nL ret A p s m args meth c) (hd : decode cc pc = .ok (.getfield 15, 3)) (kk : V E nL A p l e R s m args below meth c cells slots Q (pc + 3) lv (.ref (eA E 7) :: st) h) : V E nL A p l e R s m args below meth c cells slots Q pc lv (.ref (eA E 5) :: st) h := V_get (k := 5) (ci := 0) (N := 3) (j := 1) X inW_X0 (OB_5 hE) rfl (by decide) rfl fl_X0_15 rfl hd kk
theorem G_X0_2_18 (hE : IW E) (X : XC E RX0 cc nL ret A p s m args meth c) (hd : decode cc pc = .ok (.getfield 18, 3)) (kk : V E nL A p l e R s m args below meth c cells slots Q (pc + 3) lv (.int (h 5 2) :: st) h) : V E nL A p l e R s m args below meth c cells slots Q pc lv (.ref (eA E 5) :: st) h := V_get (k := 5) (ci := 0) (N := 3) (j := 2) X inW_X0 (OB_5 hE) rfl (by decide) rfl fl_X0_18 rfl hd kk
theorem G_X2_0_13 (hE : IW E) (X : XC E RX2 cc nL ret A p s m args meth c) (hd : decode cc pc = .ok (.getfield 13, 3)) (kk : V E nL A p l e R s m args below meth c cells slots Q (pc + 3) lv (.ref (eA E 9) :: st) h) : V E nL A p l e R s m args below meth c cells slots Q pc lv (.ref (eA E 8) :: st) h := V_get (k := 8) (ci := 1) (N := 4) (j := 0) X inW_X2 (OB_8 hE) rfl (by decide) rfl fl_X2_13 rfl hd kk
theorem G_X2_1_29 (hE : IW E) (X : XC E RX2 cc nL ret A p s m args meth c) (hd : decode cc pc = .ok (.getfield 29, 3)) (kk : V E nL A p l e R s m args below meth c cells slots Q (pc + 3) lv (.int (h 8 1) :: st) h) : V E nL A p l e R s m args below meth c cells slots Q pc lv (.ref (eA E 8) :: st) h := V_get (k := 8) (ci := 1) (N := 4) (j := 1) X inW_X2 (OB_8 hE) rfl (by decide) rfl fl_X2_29 rfl hd kk
theorem G_X2_2_17 (hE : IW E) (X : XC E RX2 cc nL ret A p s m args meth c) (hd : decode cc pc = .ok (.getfield 17, 3)) (kk : V E nL A p l e R s m args below meth c cells slots Q (pc + 3) lv (.int (h 8 2) :: st) h) : V E nL A p l e R s m args below meth c cells slots Q pc lv (.ref (eA E 8) :: st) h := V_get (k := 8) (ci := 1) (N := 4) (j := 2) X inW_X2 (OB_8 hE) rfl (by decide) rfl fl_X2_17 rfl hd kk
theorem G_X2_3_35 (hE : IW E) (X : XC E RX2 cc nL ret A p s m args meth c) (hd : decode cc pc = .ok (.getfield 35, 3)) (kk : V E nL A p l e R s m args below meth c cells slots Q (pc + 3) lv (.int (h 8 3) :: st) h) : V E nL A p l e R s m args below meth c cells slots Q pc lv (.ref (eA E 8) :: st) h := V_get (k := 8) (ci := 1) (N := 4) (j := 3) X inW_X2 (OB_8 hE) rfl (by decide) rfl fl_X2_35 rfl hd kk
theorem G_X4_0_11 (hE : IW E) (X : XC E RX4 cc nL ret A p s m args meth c) (hd : decode cc pc = .ok (.getfield 11, 3)) (kk : V E nL A p l e R s m args below meth c cells slots Q (pc + 3) lv (.ref (eA E 11) :: st) h) : V E nL A p l e R s m args below meth c cells slots Q pc lv (.ref (eA E 10) :: st) h := V_get (k := 10) (ci := 2) (N := 2) (j := 0) X inW_X4 (OB_10 hE) rfl (by decide) rfl fl_X4_11 rfl hd kk
theorem G_X4_1_15 (hE : IW E) (X : XC E RX4 cc nL ret A p s m args meth c) (hd : decode cc pc = .ok (.getfield 15, 3)) (kk : V E nL A p l e R s m args below meth c cells slots Q (pc + 3) lv (.int (h 10 1) :: st) h) : V E nL A p l e R s m args below meth c cells slots Q pc lv (.ref (eA E 10) :: st) h := V_get (k := 10) (ci := 2) (N := 2) (j := 1) X inW_X4 (OB_10 hE) rfl (by decide) rfl fl_X4_15 rfl hd kk
theorem G_X5_0_11 {k : Nat} (hk : SR E k) (X : XC E RX5 cc nL ret A p s m args meth c) (hd : decode cc pc = .ok (.getfield 11, 3)) (kk : V E nL A p l e R s m args below meth c cells slots Q (pc + 3) lv (.ref (eA E (k + 1)) :: st) h) : V E nL A p l e R s m args below meth c cells slots Q pc lv (.ref (eA E k) :: st) h := V_get (k := k) (ci := 3) (N := 1) (j := 0) X inW_X5 hk.1 rfl (by decide) rfl fl_X5_11 rfl hd kk
theorem G_X7_0_10 (hE : IW E) (X : XC E RX7 cc nL ret A p s m args meth c) (hd : decode cc pc = .ok (.getfield 10, 3)) (kk : V E nL A p l e R s m args below meth c cells slots Q (pc + 3) lv (.ref (eA E 1) :: st) h) : V E nL A p l e R s m args below meth c cells slots Q pc lv (.ref (eA E 0) :: st) h := V_get (k := 0) (ci := 4) (N := 5) (j := 0) X inW_X7 (OB_0 hE) rfl (by decide) rfl fl_X7_10 rfl hd kk
theorem G_X7_1_16 (hE : IW E) (X : XC E RX7 cc nL ret A p s m args meth c) (hd : decode cc pc = .ok (.getfield 16, 3)) (kk : V E nL A p l e R s m args below meth c cells slots Q (pc + 3) lv (.ref (eA E 3) :: st) h) : V E nL A p l e R s m args below meth c cells slots Q pc lv (.ref (eA E 0) :: st) h := V_get (k := 0) (ci := 4) (N := 5) (j := 1) X inW_X7 (OB_0 hE) rfl (by decide) rfl fl_X7_16 rfl hd kk
theorem G_X7_2_22 (hE : IW E) (X : XC E RX7 cc nL ret A p s m args meth c) (hd : decode cc pc = .ok (.getfield 22, 3)) (kk : V E nL A p l e R s m args below meth c cells slots Q (pc + 3) lv (.ref (eA E 5) :: st) h) : V E nL A p l e R s m args below meth c cells slots Q pc lv (.ref (eA E 0) :: st) h := V_get (k := 0) (ci := 4) (N := 5) (j := 2) X inW_X7 (OB_0 hE) rfl (by decide) rfl fl_X7_22 rfl hd kk
theorem G_X7_3_29 (hE : IW E) (X : XC E RX7 cc nL ret A p s m args meth c) (hd : decode cc pc = .ok (.getfield 29, 3)) (kk : V E nL A p l e R s m args below meth c cells slots Q (pc + 3) lv (.ref (eA E 8) :: st) h) : V E nL A p l e R s m args below meth c cells slots Q pc lv (.ref (eA E 0) :: st) h := V_get (k := 0) (ci := 4) (N := 5) (j := 3) X inW_X7 (OB_0 hE) rfl (by decide) rfl fl_X7_29 rfl hd kk
theorem G_X7_4_36 (hE : IW E) (X : XC E RX7 cc nL ret A p s m args meth c) (hd : decode cc pc = .ok (.getfield 36, 3)) (kk : V E nL A p l e R s m args below meth c cells slots Q (pc + 3) lv (.ref (eA E 10) :: st) h) : V E nL A p l e R s m args below meth c cells slots Q pc lv (.ref (eA E 0) :: st) h := V_get (k := 0) (ci := 4) (N := 5) (j := 4) X inW_X7 (OB_0 hE) rfl (by decide) rfl fl_X7_36 rfl hd kk
theorem G_X8_0_7 (hE : IW E) (X : XC E RX8 cc nL ret A p s m args meth c) (hd : decode cc pc = .ok (.getfield 7, 3)) (kk : V E nL A p l e R s m args below meth c cells slots Q (pc + 3) lv (.ref (eA E 13) :: st) h) : V E nL A p l e R s m args below meth c cells slots Q pc lv (.ref (eA E 12) :: st) h := V_get (k := 12) (ci := 5) (N := 13) (j := 0) X inW_X8 (OB_12 hE) rfl (by decide) rfl fl_X8_7 rfl hd kk
theorem G_X8_1_13 (hE : IW E) (X : XC E RX8 cc nL ret A p s m args meth c) (hd : decode cc pc = .ok (.getfield 13, 3)) (kk : V E nL A p l e R s m args below meth c cells slots Q (pc + 3) lv (.ref (eA E 14) :: st) h) : V E nL A p l e R s m args below meth c cells slots Q pc lv (.ref (eA E 12) :: st) h := V_get (k := 12) (ci := 5) (N := 13) (j := 1) X inW_X8 (OB_12 hE) rfl (by decide) rfl fl_X8_13 rfl hd kk
theorem G_X8_2_16 (hE : IW E) (X : XC E RX8 cc nL ret A p s m args meth c) (hd : decode cc pc = .ok (.getfield 16, 3)) (kk : V E nL A p l e R s m args below meth c cells slots Q (pc + 3) lv (.ref (eA E 15) :: st) h) : V E nL A p l e R s m args below meth c cells slots Q pc lv (.ref (eA E 12) :: st) h := V_get (k := 12) (ci := 5) (N := 13) (j := 2) X inW_X8 (OB_12 hE) rfl (by decide) rfl fl_X8_16 rfl hd kk
theorem G_X8_3_19 (hE : IW E) (X : XC E RX8 cc nL ret A p s m args meth c) (hd : decode cc pc = .ok (.getfield 19, 3)) (kk : V E nL A p l e R s m args below meth c cells slots Q (pc + 3) lv (.ref (eA E 16) :: st) h) : V E nL A p l e R s m args below meth c cells slots Q pc lv (.ref (eA E 12) :: st) h := V_get (k := 12) (ci := 5) (N := 13) (j := 3) X inW_X8 (OB_12 hE) rfl (by decide) rfl fl_X8_19 rfl hd kk
theorem G_X8_4_22 (hE : IW E) (X : XC E RX8 cc nL ret A p s m args meth c) (hd : decode cc pc = .ok (.getfield 22, 3)) (kk : V E nL A p l e R s m args below meth c cells slots Q (pc + 3) lv (.ref (eA E 17) :: st) h) : V E nL A p l e R s m args below meth c cells slots Q pc lv (.ref (eA E 12) :: st) h := V_get (k := 12) (ci := 5) (N := 13) (j := 4) X inW_X8 (OB_12 hE) rfl (by decide) rfl fl_X8_22 rfl hd kk
theorem G_X8_5_25 (hE : IW E) (X : XC E RX8 cc nL ret A p s m args meth c) (hd : decode cc pc = .ok (.getfield 25, 3)) (kk : V E nL A p l e R s m args below meth c cells slots Q (pc + 3) lv (.ref (eA E 18) :: st) h) : V E nL A p l e R s m args below meth c cells slots Q pc lv (.ref (eA E 12) :: st) h := V_get (k := 12) (ci := 5) (N := 13) (j := 5) X inW_X8 (OB_12 hE) rfl (by decide) rfl fl_X8_25 rfl hd kk
theorem G_X8_6_29 (hE : IW E) (X : XC E RX8 cc nL ret A p s m args meth c) (hd : decode cc pc = .ok (.getfield 29, 3)) (kk : V E nL A p l e R s m args below meth c cells slots Q (pc + 3) lv (.ref (eA E 19) :: st) h) : V E nL A p l e R s m args below meth c cells slots Q pc lv (.ref (eA E 12) :: st) h := V_get (k := 12) (ci := 5) (N := 13) (j := 6) X inW_X8 (OB_12 hE) rfl (by decide) rfl fl_X8_29 rfl hd kk
theorem G_X8_7_32 (hE : IW E) (X : XC E RX8 cc nL ret A p s m args meth c) (hd : decode cc pc = .ok (.getfield 32, 3)) (kk : V E nL A p l e R s m args below meth c cells slots Q (pc + 3) lv (.ref (eA E 20) :: st) h) : V E nL A p l e R s m args below meth c cells slots Q pc lv (.ref (eA E 12) :: st) h := V_get (k := 12) (ci := 5) (N := 13) (j := 7) X inW_X8 (OB_12 hE) rfl (by decide) rfl fl_X8_32 rfl hd kk
theorem G_X8_8_35 (hE : IW E) (X : XC E RX8 cc nL ret A p s m args meth c) (hd : decode cc pc = .ok (.getfield 35, 3)) (kk : V E nL A p l e R s m args below meth c cells slots Q (pc + 3) lv (.ref (eA E 21) :: st) h) : V E nL A p l e R s m args below meth c cells slots Q pc lv (.ref (eA E 12) :: st) h := V_get (k := 12) (ci := 5) (N := 13) (j := 8) X inW_X8 (OB_12 hE) rfl (by decide) rfl fl_X8_35 rfl hd kk
theorem G_X8_9_154 (hE : IW E) (X : XC E RX8 cc nL ret A p s m args meth c) (hd : decode cc pc = .ok (.getfield 154, 3)) (kk : V E nL A p l e R s m args below meth c cells slots Q (pc + 3) lv (.int (h 12 9) :: st) h) : V E nL A p l e R s m args below meth c cells slots Q pc lv (.ref (eA E 12) :: st) h := V_get (k := 12) (ci := 5) (N := 13) (j := 9) X inW_X8 (OB_12 hE) rfl (by decide) rfl fl_X8_154 rfl hd kk
theorem G_X8_10_50 (hE : IW E) (X : XC E RX8 cc nL ret A p s m args meth c) (hd : decode cc pc = .ok (.getfield 50, 3)) (kk : V E nL A p l e R s m args below meth c cells slots Q (pc + 3) lv (.int (h 12 10) :: st) h) : V E nL A p l e R s m args below meth c cells slots Q pc lv (.ref (eA E 12) :: st) h := V_get (k := 12) (ci := 5) (N := 13) (j := 10) X inW_X8 (OB_12 hE) rfl (by decide) rfl fl_X8_50 rfl hd kk
theorem G_X8_11_178 (hE : IW E) (X : XC E RX8 cc nL ret A p s m args meth c) (hd : decode cc pc = .ok (.getfield 178, 3)) (kk : V E nL A p l e R s m args below meth c cells slots Q (pc + 3) lv (.int (h 12 11) :: st) h) : V E nL A p l e R s m args below meth c cells slots Q pc lv (.ref (eA E 12) :: st) h := V_get (k := 12) (ci := 5) (N := 13) (j := 11) X inW_X8 (OB_12 hE) rfl (by decide) rfl fl_X8_178 rfl hd kk
theorem G_X8_12_171 (hE : IW E) (X : XC E RX8 cc nL ret A p s m args meth c) (hd : decode cc pc = .ok (.getfield 171, 3)) (kk : V E nL A p l e R s m args below meth c cells slots Q (pc + 3) lv (.int (h 12 12) :: st) h) : V E nL A p l e R s m args below meth c cells slots Q pc lv (.ref (eA E 12) :: st) h := V_get (k := 12) (ci := 5) (N := 13) (j := 12) X inW_X8 (OB_12 hE) rfl (by decide) rfl fl_X8_171 rfl hd kk
theorem P_X0_2_18 (hE : IW E) (X : XC E RX0 cc nL ret A p s m args meth c) {x : Int32} (hn : narrow .boolean (.int x) = .int x) (hfit : fits .boolean (.int x) = true) (hd : decode cc pc = .ok (.putfield 18, 3)) (kk : V E nL A p l e R s m args below meth c cells slots Q (pc + 3) lv st (hu h 5 2 x)) : V E nL A p l e R s m args below meth c cells slots Q pc lv (.int x :: .ref (eA E 5) :: st) h := V_puti (k := 5) (N := 3) (ty := .boolean) X tyX0 (FI_5_2 hE) inW_X0 tyX0_ok nmX0 rfl (by decide) rfl rfl fl_X0_18 (by decide +kernel) hn hfit hd kk
theorem P_X2_1_29 (hE : IW E) (X : XC E RX2 cc nL ret A p s m args meth c) {x : Int32} (hd : decode cc pc = .ok (.putfield 29, 3)) (kk : V E nL A p l e R s m args below meth c cells slots Q (pc + 3) lv st (hu h 8 1 x)) : V E nL A p l e R s m args below meth c cells slots Q pc lv (.int x :: .ref (eA E 8) :: st) h := V_puti (k := 8) (N := 4) (ty := .int) X tyX2 (FI_8_1 hE) inW_X2 tyX2_ok nmX2 rfl (by decide) rfl rfl fl_X2_29 (by decide +kernel) rfl rfl hd kk
theorem P_X2_2_17 (hE : IW E) (X : XC E RX2 cc nL ret A p s m args meth c) {x : Int32} (hd : decode cc pc = .ok (.putfield 17, 3)) (kk : V E nL A p l e R s m args below meth c cells slots Q (pc + 3) lv st (hu h 8 2 x)) : V E nL A p l e R s m args below meth c cells slots Q pc lv (.int x :: .ref (eA E 8) :: st) h := V_puti (k := 8) (N := 4) (ty := .int) X tyX2 (FI_8_2 hE) inW_X2 tyX2_ok nmX2 rfl (by decide) rfl rfl fl_X2_17 (by decide +kernel) rfl rfl hd kk
theorem P_X2_3_35 (hE : IW E) (X : XC E RX2 cc nL ret A p s m args meth c) {x : Int32} (hd : decode cc pc = .ok (.putfield 35, 3)) (kk : V E nL A p l e R s m args below meth c cells slots Q (pc + 3) lv st (hu h 8 3 x)) : V E nL A p l e R s m args below meth c cells slots Q pc lv (.int x :: .ref (eA E 8) :: st) h := V_puti (k := 8) (N := 4) (ty := .int) X tyX2 (FI_8_3 hE) inW_X2 tyX2_ok nmX2 rfl (by decide) rfl rfl fl_X2_35 (by decide +kernel) rfl rfl hd kk
theorem P_X4_1_15 (hE : IW E) (X : XC E RX4 cc nL ret A p s m args meth c) {x : Int32} (hd : decode cc pc = .ok (.putfield 15, 3)) (kk : V E nL A p l e R s m args below meth c cells slots Q (pc + 3) lv st (hu h 10 1 x)) : V E nL A p l e R s m args below meth c cells slots Q pc lv (.int x :: .ref (eA E 10) :: st) h := V_puti (k := 10) (N := 2) (ty := .int) X tyX4 (FI_10_1 hE) inW_X4 tyX4_ok nmX4 rfl (by decide) rfl rfl fl_X4_15 (by decide +kernel) rfl rfl hd kk
theorem P_X8_9_154 (hE : IW E) (X : XC E RX8 cc nL ret A p s m args meth c) {x : Int32} (hd : decode cc pc = .ok (.putfield 154, 3)) (kk : V E nL A p l e R s m args below meth c cells slots Q (pc + 3) lv st (hu h 12 9 x)) : V E nL A p l e R s m args below meth c cells slots Q pc lv (.int x :: .ref (eA E 12) :: st) h := V_puti (k := 12) (N := 13) (ty := .int) X tyX8 (FI_12_9 hE) inW_X8 tyX8_ok nmX8 rfl (by decide) rfl rfl fl_X8_154 (by decide +kernel) rfl rfl hd kk
theorem P_X8_10_50 (hE : IW E) (X : XC E RX8 cc nL ret A p s m args meth c) {x : Int32} (hd : decode cc pc = .ok (.putfield 50, 3)) (kk : V E nL A p l e R s m args below meth c cells slots Q (pc + 3) lv st (hu h 12 10 x)) : V E nL A p l e R s m args below meth c cells slots Q pc lv (.int x :: .ref (eA E 12) :: st) h := V_puti (k := 12) (N := 13) (ty := .int) X tyX8 (FI_12_10 hE) inW_X8 tyX8_ok nmX8 rfl (by decide) rfl rfl fl_X8_50 (by decide +kernel) rfl rfl hd kk
theorem P_X8_11_178 (hE : IW E) (X : XC E RX8 cc nL ret A p s m args meth c) {x : Int32} (hd : decode cc pc = .ok (.putfield 178, 3)) (kk : V E nL A p l e R s m args below meth c cells slots Q (pc + 3) lv st (hu h 12 11 x)) : V E nL A p l e R s m args below meth c cells slots Q pc lv (.int x :: .ref (eA E 12) :: st) h := V_puti (k := 12) (N := 13) (ty := .int) X tyX8 (FI_12_11 hE) inW_X8 tyX8_ok nmX8 rfl (by decide) rfl rfl fl_X8_178 (by decide +kernel) rfl rfl hd kk
theorem P_X8_12_171 (hE : IW E) (X : XC E RX8 cc nL ret A p s m args meth c) {x : Int32} (hd : decode cc pc = .ok (.putfield 171, 3)) (kk : V E nL A p l e R s m args below meth c cells slots Q (pc + 3) lv st (hu h 12 12 x)) : V E nL A p l e R s m args below meth c cells slots Q pc lv (.int x :: .ref (eA E 12) :: st) h := V_puti (k := 12) (N := 13) (ty := .int) X tyX8 (FI_12_12 hE) inW_X8 tyX8_ok nmX8 rfl (by decide) rfl rfl fl_X8_171 (by decide +kernel) rfl rfl hd kk
end FR
