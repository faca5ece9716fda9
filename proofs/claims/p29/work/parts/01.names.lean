/-- a private method of a class that the tables say can be made, by its rows of tables_1 -/
def lw_okq (q : MethodName × Nat) : Prop := (q.1.cls ≠ "java/lang/invoke/MethodHandle" ∧ q.1.cls ≠ "java/lang/invoke/VarHandle") ∧ Cond.instantiable q.1.cls q.2 ∈ tables_1 ∧ Cond.privateMethod q.1 ∈ tables_1 ∧ Cond.instanceMethod q.1 ∈ tables_1
theorem lw_p0 : lw_okq (⟨"SandMandalas$Memory", "circleRow", "(I)I"⟩, 4) := ⟨⟨by decide +kernel, by decide +kernel⟩, List.mem_of_getElem? (i := 54) (by decide +kernel), List.mem_of_getElem? (i := 110) (by decide +kernel), List.mem_of_getElem? (i := 111) (by decide +kernel)⟩
theorem lw_p1 : lw_okq (⟨"SandMandalas$Breath", "rememberRing", "(LSandMandalas$State;II)V"⟩, 3) := ⟨⟨by decide +kernel, by decide +kernel⟩, List.mem_of_getElem? (i := 38) (by decide +kernel), List.mem_of_getElem? (i := 177) (by decide +kernel), List.mem_of_getElem? (i := 178) (by decide +kernel)⟩
theorem lw_p2 : lw_okq (⟨"SandMandalas$Breath", "overPlace", "(LSandMandalas$State;IIII)I"⟩, 3) := ⟨⟨by decide +kernel, by decide +kernel⟩, List.mem_of_getElem? (i := 38) (by decide +kernel), List.mem_of_getElem? (i := 189) (by decide +kernel), List.mem_of_getElem? (i := 190) (by decide +kernel)⟩
def lw_privs_1 : List (MethodName × Nat) := [(⟨"SandMandalas$Memory", "circleRow", "(I)I"⟩, 4), (⟨"SandMandalas$Breath", "rememberRing", "(LSandMandalas$State;II)V"⟩, 3), (⟨"SandMandalas$Breath", "overPlace", "(LSandMandalas$State;IIII)I"⟩, 3)]
theorem lw_r1 : ∀ q ∈ lw_privs_1, lw_okq q := List.forall_mem_cons.mpr ⟨lw_p0, List.forall_mem_cons.mpr ⟨lw_p1, List.forall_mem_cons.mpr ⟨lw_p2, fun _ h => absurd h List.not_mem_nil⟩⟩⟩
def lw_privs : List (MethodName × Nat) := lw_privs_1
def lw_tbl : List Cond := k2_sels lw_privs ++ tables_1
theorem lw_privs_ok : ∀ q ∈ lw_privs, lw_okq q := lw_r1
def RX0 : String := "SandMandalas$Breath"
def TX0 : u_T := fun k => match k with
  | 0 => ("SandMandalas$Breath", "grainsBefore", "[I", true)
  | 1 => ("SandMandalas$Breath", "coloursBefore", "[I", true)
  | _ => ("SandMandalas$Breath", "changed", "Z", false)
def tyX0 : Nat → FieldType := fun k => match k with
  | 0 => .array .int
  | 1 => .array .int
  | _ => .boolean
abbrev wsX00 : List Cond := u_ws RX0 TX0 3
theorem nmX0 : ∀ a, a < 3 → ∀ b, b < 3 → a ≠ b → (TX0 a).2.1 ≠ (TX0 b).2.1 := by decide +kernel
theorem tyX0_ok : ∀ k, k < 3 → parseFieldDescriptor (TX0 k).2.2.1 = some (tyX0 k) := by decide +kernel
abbrev cX0_init : ByteArray := prog_2_method_1_code
def yX0_init : MethodName := ⟨RX0, "<init>", "()V"⟩
abbrev cX0_over : ByteArray := prog_2_method_2_code
def yX0_over : MethodName := ⟨RX0, "over", "(LSandMandalas$State;II)I"⟩
abbrev cX0_rememberRing : ByteArray := prog_2_method_4_code
def yX0_rememberRing : MethodName := ⟨RX0, "rememberRing", "(LSandMandalas$State;II)V"⟩
abbrev cX0_overPlace : ByteArray := prog_2_method_5_code
def yX0_overPlace : MethodName := ⟨RX0, "overPlace", "(LSandMandalas$State;IIII)I"⟩
abbrev cX0_remembered : ByteArray := prog_2_method_6_code
def yX0_remembered : MethodName := ⟨RX0, "remembered", "([II)I"⟩
abbrev cX0_spilled : ByteArray := prog_2_method_7_code
def yX0_spilled : MethodName := ⟨RX0, "spilled", "(II)I"⟩
def RX1 : String := "SandMandalas$Changes"
def TX1 : u_T := fun k => match k with
  | _ => ("", "", "", false)
def tyX1 : Nat → FieldType := fun k => match k with
  | _ => .int
abbrev wsX10 : List Cond := u_ws RX1 TX1 0
theorem nmX1 : ∀ a, a < 0 → ∀ b, b < 0 → a ≠ b → (TX1 a).2.1 ≠ (TX1 b).2.1 := by decide +kernel
theorem tyX1_ok : ∀ k, k < 0 → parseFieldDescriptor (TX1 k).2.2.1 = some (tyX1 k) := by decide +kernel
abbrev cX1_quarterOfTurn : ByteArray := prog_3_method_2_code
def yX1_quarterOfTurn : MethodName := ⟨RX1, "quarterOfTurn", "(I)I"⟩
abbrev cX1_changeSetting : ByteArray := prog_3_method_3_code
def yX1_changeSetting : MethodName := ⟨RX1, "changeSetting", "(LSandMandalas$State;II)I"⟩
abbrev cX1_isSettingValue : ByteArray := prog_3_method_4_code
def yX1_isSettingValue : MethodName := ⟨RX1, "isSettingValue", "(II)Z"⟩
abbrev cX1_layPattern : ByteArray := prog_3_method_5_code
def yX1_layPattern : MethodName := ⟨RX1, "layPattern", "(LSandMandalas$State;II)I"⟩
abbrev cX1_isColourRow : ByteArray := prog_3_method_6_code
def yX1_isColourRow : MethodName := ⟨RX1, "isColourRow", "(I)Z"⟩
abbrev cX1_takeFunnel : ByteArray := prog_3_method_7_code
def yX1_takeFunnel : MethodName := ⟨RX1, "takeFunnel", "(LSandMandalas$State;II)I"⟩
abbrev cX1_fillFunnel : ByteArray := prog_3_method_8_code
def yX1_fillFunnel : MethodName := ⟨RX1, "fillFunnel", "(LSandMandalas$State;II)I"⟩
abbrev cX1_pourGrains : ByteArray := prog_3_method_9_code
def yX1_pourGrains : MethodName := ⟨RX1, "pourGrains", "(LSandMandalas$State;IIII)I"⟩
abbrev cX1_scrapeBare : ByteArray := prog_3_method_10_code
def yX1_scrapeBare : MethodName := ⟨RX1, "scrapeBare", "(LSandMandalas$State;III)I"⟩
abbrev cX1_blow : ByteArray := prog_3_method_11_code
def yX1_blow : MethodName := ⟨RX1, "blow", "(LSandMandalas$State;LSandMandalas$Breath;II)I"⟩
abbrev cX1_closeRing : ByteArray := prog_3_method_12_code
def yX1_closeRing : MethodName := ⟨RX1, "closeRing", "(LSandMandalas$State;)I"⟩
abbrev cX1_sweepQuarter : ByteArray := prog_3_method_13_code
def yX1_sweepQuarter : MethodName := ⟨RX1, "sweepQuarter", "(LSandMandalas$State;)I"⟩
abbrev cX1_beginAnew : ByteArray := prog_3_method_14_code
def yX1_beginAnew : MethodName := ⟨RX1, "beginAnew", "(LSandMandalas$State;)V"⟩
def RX2 : String := "SandMandalas$Memory"
def TX2 : u_T := fun k => match k with
  | 0 => ("SandMandalas$Memory", "rows", "[I", true)
  | 1 => ("SandMandalas$Memory", "oldest", "I", false)
  | 2 => ("SandMandalas$Memory", "kept", "I", false)
  | _ => ("SandMandalas$Memory", "savedSlots", "I", false)
def tyX2 : Nat → FieldType := fun k => match k with
  | 0 => .array .int
  | 1 => .int
  | 2 => .int
  | _ => .int
abbrev wsX20 : List Cond := u_ws RX2 TX2 4
theorem nmX2 : ∀ a, a < 4 → ∀ b, b < 4 → a ≠ b → (TX2 a).2.1 ≠ (TX2 b).2.1 := by decide +kernel
theorem tyX2_ok : ∀ k, k < 4 → parseFieldDescriptor (TX2 k).2.2.1 = some (tyX2 k) := by decide +kernel
abbrev cX2_init : ByteArray := prog_4_method_1_code
def yX2_init : MethodName := ⟨RX2, "<init>", "()V"⟩
abbrev cX2_undoable : ByteArray := prog_4_method_2_code
def yX2_undoable : MethodName := ⟨RX2, "undoable", "()I"⟩
abbrev cX2_stage : ByteArray := prog_4_method_3_code
def yX2_stage : MethodName := ⟨RX2, "stage", "(LSandMandalas$State;)V"⟩
abbrev cX2_recordUnlessError : ByteArray := prog_4_method_4_code
def yX2_recordUnlessError : MethodName := ⟨RX2, "recordUnlessError", "(I)I"⟩
abbrev cX2_goBack : ByteArray := prog_4_method_5_code
def yX2_goBack : MethodName := ⟨RX2, "goBack", "(LSandMandalas$State;)I"⟩
abbrev cX2_circleRow : ByteArray := prog_4_method_6_code
def yX2_circleRow : MethodName := ⟨RX2, "circleRow", "(I)I"⟩
abbrev cX2_isSlot : ByteArray := prog_4_method_7_code
def yX2_isSlot : MethodName := ⟨RX2, "isSlot", "(I)Z"⟩
abbrev cX2_isSaved : ByteArray := prog_4_method_8_code
def yX2_isSaved : MethodName := ⟨RX2, "isSaved", "(I)Z"⟩
abbrev cX2_keepInSlot : ByteArray := prog_4_method_9_code
def yX2_keepInSlot : MethodName := ⟨RX2, "keepInSlot", "(ILSandMandalas$State;)V"⟩
abbrev cX2_bringFromSlot : ByteArray := prog_4_method_10_code
def yX2_bringFromSlot : MethodName := ⟨RX2, "bringFromSlot", "(ILSandMandalas$State;)V"⟩
abbrev cX2_slotRow : ByteArray := prog_4_method_11_code
def yX2_slotRow : MethodName := ⟨RX2, "slotRow", "(I)I"⟩
def RX3 : String := "SandMandalas$Orders"
def TX3 : u_T := fun k => match k with
  | _ => ("", "", "", false)
def tyX3 : Nat → FieldType := fun k => match k with
  | _ => .int
abbrev wsX30 : List Cond := u_ws RX3 TX3 0
theorem nmX3 : ∀ a, a < 0 → ∀ b, b < 0 → a ≠ b → (TX3 a).2.1 ≠ (TX3 b).2.1 := by decide +kernel
theorem tyX3_ok : ∀ k, k < 0 → parseFieldDescriptor (TX3 k).2.2.1 = some (tyX3 k) := by decide +kernel
def RX4 : String := "SandMandalas$Pad"
def TX4 : u_T := fun k => match k with
  | 0 => ("SandMandalas$Pad", "signs", "[I", true)
  | _ => ("SandMandalas$Pad", "length", "I", false)
def tyX4 : Nat → FieldType := fun k => match k with
  | 0 => .array .int
  | _ => .int
abbrev wsX40 : List Cond := u_ws RX4 TX4 2
theorem nmX4 : ∀ a, a < 2 → ∀ b, b < 2 → a ≠ b → (TX4 a).2.1 ≠ (TX4 b).2.1 := by decide +kernel
theorem tyX4_ok : ∀ k, k < 2 → parseFieldDescriptor (TX4 k).2.2.1 = some (tyX4 k) := by decide +kernel
abbrev cX4_init : ByteArray := prog_6_method_1_code
def yX4_init : MethodName := ⟨RX4, "<init>", "()V"⟩
abbrev cX4_length : ByteArray := prog_6_method_2_code
def yX4_length : MethodName := ⟨RX4, "length", "()I"⟩
def RX5 : String := "SandMandalas$State"
def TX5 : u_T := fun k => match k with
  | _ => ("SandMandalas$State", "cells", "[I", true)
def tyX5 : Nat → FieldType := fun k => match k with
  | _ => .array .int
abbrev wsX50 : List Cond := u_ws RX5 TX5 1
theorem nmX5 : ∀ a, a < 1 → ∀ b, b < 1 → a ≠ b → (TX5 a).2.1 ≠ (TX5 b).2.1 := by decide +kernel
theorem tyX5_ok : ∀ k, k < 1 → parseFieldDescriptor (TX5 k).2.2.1 = some (tyX5 k) := by decide +kernel
abbrev cX5_init : ByteArray := prog_7_method_1_code
def yX5_init : MethodName := ⟨RX5, "<init>", "()V"⟩
abbrev cX5_number : ByteArray := prog_7_method_2_code
def yX5_number : MethodName := ⟨RX5, "number", "(I)I"⟩
abbrev cX5_lay : ByteArray := prog_7_method_3_code
def yX5_lay : MethodName := ⟨RX5, "lay", "(II)V"⟩
abbrev cX5_raise : ByteArray := prog_7_method_4_code
def yX5_raise : MethodName := ⟨RX5, "raise", "(II)V"⟩
abbrev cX5_copyFrom : ByteArray := prog_7_method_5_code
def yX5_copyFrom : MethodName := ⟨RX5, "copyFrom", "(LSandMandalas$State;)V"⟩
abbrev cX5_copyInto : ByteArray := prog_7_method_6_code
def yX5_copyInto : MethodName := ⟨RX5, "copyInto", "([II)V"⟩
abbrev cX5_copyOutOf : ByteArray := prog_7_method_7_code
def yX5_copyOutOf : MethodName := ⟨RX5, "copyOutOf", "([II)V"⟩
abbrev cX5_setting : ByteArray := prog_7_method_8_code
def yX5_setting : MethodName := ⟨RX5, "setting", "(I)I"⟩
abbrev cX5_hasPattern : ByteArray := prog_7_method_9_code
def yX5_hasPattern : MethodName := ⟨RX5, "hasPattern", "(I)Z"⟩
abbrev cX5_dropPatterns : ByteArray := prog_7_method_10_code
def yX5_dropPatterns : MethodName := ⟨RX5, "dropPatterns", "()V"⟩
abbrev cX5_funnel : ByteArray := prog_7_method_11_code
def yX5_funnel : MethodName := ⟨RX5, "funnel", "(I)I"⟩
abbrev cX5_heldBy : ByteArray := prog_7_method_12_code
def yX5_heldBy : MethodName := ⟨RX5, "heldBy", "(I)I"⟩
abbrev cX5_holderOf : ByteArray := prog_7_method_13_code
def yX5_holderOf : MethodName := ⟨RX5, "holderOf", "(I)I"⟩
abbrev cX5_isClosed : ByteArray := prog_7_method_14_code
def yX5_isClosed : MethodName := ⟨RX5, "isClosed", "(I)Z"⟩
abbrev cX5_isSwept : ByteArray := prog_7_method_15_code
def yX5_isSwept : MethodName := ⟨RX5, "isSwept", "(I)Z"⟩
abbrev cX5_grains : ByteArray := prog_7_method_16_code
def yX5_grains : MethodName := ⟨RX5, "grains", "(III)I"⟩
abbrev cX5_colour : ByteArray := prog_7_method_17_code
def yX5_colour : MethodName := ⟨RX5, "colour", "(III)I"⟩
abbrev cX5_heap : ByteArray := prog_7_method_18_code
def yX5_heap : MethodName := ⟨RX5, "heap", "(IIIII)V"⟩
abbrev cX5_patternPlace : ByteArray := prog_7_method_19_code
def yX5_patternPlace : MethodName := ⟨RX5, "patternPlace", "(II)I"⟩
abbrev cX5_isMirrored : ByteArray := prog_7_method_20_code
def yX5_isMirrored : MethodName := ⟨RX5, "isMirrored", "(I)Z"⟩
abbrev cX5_wanted : ByteArray := prog_7_method_21_code
def yX5_wanted : MethodName := ⟨RX5, "wanted", "(III)I"⟩
abbrev cX5_isRight : ByteArray := prog_7_method_22_code
def yX5_isRight : MethodName := ⟨RX5, "isRight", "(III)Z"⟩
abbrev cX5_missing : ByteArray := prog_7_method_23_code
def yX5_missing : MethodName := ⟨RX5, "missing", "(III)I"⟩
def RX6 : String := "SandMandalas$Survey"
def TX6 : u_T := fun k => match k with
  | _ => ("", "", "", false)
def tyX6 : Nat → FieldType := fun k => match k with
  | _ => .int
abbrev wsX60 : List Cond := u_ws RX6 TX6 0
theorem nmX6 : ∀ a, a < 0 → ∀ b, b < 0 → a ≠ b → (TX6 a).2.1 ≠ (TX6 b).2.1 := by decide +kernel
theorem tyX6_ok : ∀ k, k < 0 → parseFieldDescriptor (TX6 k).2.2.1 = some (tyX6 k) := by decide +kernel
abbrev cX6_tally : ByteArray := prog_8_method_2_code
def yX6_tally : MethodName := ⟨RX6, "tally", "(LSandMandalas$State;IIII)I"⟩
abbrev cX6_matches : ByteArray := prog_8_method_3_code
def yX6_matches : MethodName := ⟨RX6, "matches", "(II)Z"⟩
abbrev cX6_measured : ByteArray := prog_8_method_4_code
def yX6_measured : MethodName := ⟨RX6, "measured", "(LSandMandalas$State;IIIII)I"⟩
abbrev cX6_isWhole : ByteArray := prog_8_method_5_code
def yX6_isWhole : MethodName := ⟨RX6, "isWhole", "(LSandMandalas$State;I)Z"⟩
abbrev cX6_wholeRings : ByteArray := prog_8_method_6_code
def yX6_wholeRings : MethodName := ⟨RX6, "wholeRings", "(LSandMandalas$State;)I"⟩
abbrev cX6_unlikePlaces : ByteArray := prog_8_method_7_code
def yX6_unlikePlaces : MethodName := ⟨RX6, "unlikePlaces", "(LSandMandalas$State;I)I"⟩
abbrev cX6_isUnlike : ByteArray := prog_8_method_8_code
def yX6_isUnlike : MethodName := ⟨RX6, "isUnlike", "(LSandMandalas$State;II)Z"⟩
abbrev cX6_neediest : ByteArray := prog_8_method_9_code
def yX6_neediest : MethodName := ⟨RX6, "neediest", "(LSandMandalas$State;)I"⟩
abbrev cX6_canBePoured : ByteArray := prog_8_method_10_code
def yX6_canBePoured : MethodName := ⟨RX6, "canBePoured", "(LSandMandalas$State;III)Z"⟩
abbrev cX6_rightOnlyInFirst : ByteArray := prog_8_method_11_code
def yX6_rightOnlyInFirst : MethodName := ⟨RX6, "rightOnlyInFirst", "(LSandMandalas$State;LSandMandalas$State;I)I"⟩
def RX7 : String := "SandMandalas"
def TX7 : u_T := fun k => match k with
  | 0 => ("SandMandalas", "state", "LSandMandalas$State;", true)
  | 1 => ("SandMandalas", "trial", "LSandMandalas$State;", true)
  | 2 => ("SandMandalas", "breath", "LSandMandalas$Breath;", true)
  | 3 => ("SandMandalas", "memory", "LSandMandalas$Memory;", true)
  | _ => ("SandMandalas", "pad", "LSandMandalas$Pad;", true)
def tyX7 : Nat → FieldType := fun k => match k with
  | 0 => .object "SandMandalas$State"
  | 1 => .object "SandMandalas$State"
  | 2 => .object "SandMandalas$Breath"
  | 3 => .object "SandMandalas$Memory"
  | _ => .object "SandMandalas$Pad"
abbrev wsX70 : List Cond := u_ws RX7 TX7 5
theorem nmX7 : ∀ a, a < 5 → ∀ b, b < 5 → a ≠ b → (TX7 a).2.1 ≠ (TX7 b).2.1 := by decide +kernel
theorem tyX7_ok : ∀ k, k < 5 → parseFieldDescriptor (TX7 k).2.2.1 = some (tyX7 k) := by decide +kernel
abbrev cX7_init : ByteArray := prog_1_method_1_code
def yX7_init : MethodName := ⟨RX7, "<init>", "()V"⟩
abbrev cX7_set : ByteArray := prog_1_method_2_code
def yX7_set : MethodName := ⟨RX7, "set", "(II)I"⟩
abbrev cX7_pattern : ByteArray := prog_1_method_3_code
def yX7_pattern : MethodName := ⟨RX7, "pattern", "(II)I"⟩
abbrev cX7_take : ByteArray := prog_1_method_4_code
def yX7_take : MethodName := ⟨RX7, "take", "(II)I"⟩
abbrev cX7_fill : ByteArray := prog_1_method_5_code
def yX7_fill : MethodName := ⟨RX7, "fill", "(II)I"⟩
abbrev cX7_pour : ByteArray := prog_1_method_6_code
def yX7_pour : MethodName := ⟨RX7, "pour", "(IIII)I"⟩
abbrev cX7_scrape : ByteArray := prog_1_method_7_code
def yX7_scrape : MethodName := ⟨RX7, "scrape", "(III)I"⟩
abbrev cX7_breathe : ByteArray := prog_1_method_8_code
def yX7_breathe : MethodName := ⟨RX7, "breathe", "(II)I"⟩
abbrev cX7_close : ByteArray := prog_1_method_9_code
def yX7_close : MethodName := ⟨RX7, "close", "()I"⟩
abbrev cX7_sweep : ByteArray := prog_1_method_10_code
def yX7_sweep : MethodName := ⟨RX7, "sweep", "()I"⟩
abbrev cX7_at : ByteArray := prog_1_method_11_code
def yX7_at : MethodName := ⟨RX7, "at", "(IIII)I"⟩
abbrev cX7_ofRing : ByteArray := prog_1_method_12_code
def yX7_ofRing : MethodName := ⟨RX7, "ofRing", "(II)I"⟩
abbrev cX7_ofQuarter : ByteArray := prog_1_method_13_code
def yX7_ofQuarter : MethodName := ⟨RX7, "ofQuarter", "(II)I"⟩
abbrev cX7_ofColour : ByteArray := prog_1_method_14_code
def yX7_ofColour : MethodName := ⟨RX7, "ofColour", "(II)I"⟩
abbrev cX7_count : ByteArray := prog_1_method_15_code
def yX7_count : MethodName := ⟨RX7, "count", "(I)I"⟩
abbrev cX7_needed : ByteArray := prog_1_method_16_code
def yX7_needed : MethodName := ⟨RX7, "needed", "(I)I"⟩
abbrev cX7_lacking : ByteArray := prog_1_method_17_code
def yX7_lacking : MethodName := ⟨RX7, "lacking", "()I"⟩
abbrev cX7_ifBreathed : ByteArray := prog_1_method_18_code
def yX7_ifBreathed : MethodName := ⟨RX7, "ifBreathed", "(III)I"⟩
abbrev cX7_best : ByteArray := prog_1_method_20_code
def yX7_best : MethodName := ⟨RX7, "best", "()I"⟩
abbrev cX7_undo : ByteArray := prog_1_method_25_code
def yX7_undo : MethodName := ⟨RX7, "undo", "()I"⟩
abbrev cX7_save : ByteArray := prog_1_method_26_code
def yX7_save : MethodName := ⟨RX7, "save", "(I)I"⟩
abbrev cX7_restore : ByteArray := prog_1_method_27_code
def yX7_restore : MethodName := ⟨RX7, "restore", "(I)I"⟩
abbrev cX7_isQuarter : ByteArray := prog_1_method_28_code
def yX7_isQuarter : MethodName := ⟨RX7, "isQuarter", "(I)Z"⟩
abbrev cX7_isRing : ByteArray := prog_1_method_29_code
def yX7_isRing : MethodName := ⟨RX7, "isRing", "(I)Z"⟩
abbrev cX7_isPlace : ByteArray := prog_1_method_30_code
def yX7_isPlace : MethodName := ⟨RX7, "isPlace", "(III)Z"⟩
abbrev cX7_isColour : ByteArray := prog_1_method_31_code
def yX7_isColour : MethodName := ⟨RX7, "isColour", "(I)Z"⟩
abbrev cX7_isDirection : ByteArray := prog_1_method_32_code
def yX7_isDirection : MethodName := ⟨RX7, "isDirection", "(I)Z"⟩
abbrev cX7_bit : ByteArray := prog_1_method_33_code
def yX7_bit : MethodName := ⟨RX7, "bit", "(Z)I"⟩
def RX8 : String := "SandMandalasModel"
def TX8 : u_T := fun k => match k with
  | _ => ("", "", "", false)
def tyX8 : Nat → FieldType := fun k => match k with
  | _ => .int
abbrev wsX80 : List Cond := u_ws RX8 TX8 0
theorem nmX8 : ∀ a, a < 0 → ∀ b, b < 0 → a ≠ b → (TX8 a).2.1 ≠ (TX8 b).2.1 := by decide +kernel
theorem tyX8_ok : ∀ k, k < 0 → parseFieldDescriptor (TX8 k).2.2.1 = some (tyX8 k) := by decide +kernel
def RJ9 : String := "java/lang/Math"
def TJ9 : u_T := fun k => match k with
  | _ => ("", "", "", false)
def tyJ9 : Nat → FieldType := fun k => match k with
  | _ => .int
abbrev wsJ90 : List Cond := u_ws RJ9 TJ9 0
theorem nmJ9 : ∀ a, a < 0 → ∀ b, b < 0 → a ≠ b → (TJ9 a).2.1 ≠ (TJ9 b).2.1 := by decide +kernel
theorem tyJ9_ok : ∀ k, k < 0 → parseFieldDescriptor (TJ9 k).2.2.1 = some (tyJ9 k) := by decide +kernel
abbrev cJ9_max_7cf53 : ByteArray := prog_11_method_65_code
def yJ9_max_7cf53 : MethodName := ⟨RJ9, "max", "(II)I"⟩
abbrev cJ9_min_7cf53 : ByteArray := prog_11_method_69_code
def yJ9_min_7cf53 : MethodName := ⟨RJ9, "min", "(II)I"⟩
def RJ10 : String := "java/lang/System"
def TJ10 : u_T := fun k => match k with
  | _ => ("", "", "", false)
def tyJ10 : Nat → FieldType := fun k => match k with
  | _ => .int
abbrev wsJ100 : List Cond := u_ws RJ10 TJ10 0
theorem nmJ10 : ∀ a, a < 0 → ∀ b, b < 0 → a ≠ b → (TJ10 a).2.1 ≠ (TJ10 b).2.1 := by decide +kernel
theorem tyJ10_ok : ∀ k, k < 0 → parseFieldDescriptor (TJ10 k).2.2.1 = some (tyJ10 k) := by decide +kernel
def RL : String := "SandMandalasLaw"
abbrev cL_cell : ByteArray := method_2_code
def yL_cell : MethodName := ⟨RL, "cell", "([II)I"⟩
abbrev cL_isRing : ByteArray := method_3_code
def yL_isRing : MethodName := ⟨RL, "isRing", "(LSandMandalas;I)Z"⟩
abbrev cL_areSums : ByteArray := method_4_code
def yL_areSums : MethodName := ⟨RL, "areSums", "(LSandMandalas;)Z"⟩
abbrev cL_isNeeded : ByteArray := method_5_code
def yL_isNeeded : MethodName := ⟨RL, "isNeeded", "(LSandMandalas;)Z"⟩
abbrev cL_acts : ByteArray := method_6_code
def yL_acts : MethodName := ⟨RL, "acts", "(LSandMandalas;I)Z"⟩
abbrev cL_law : ByteArray := code
def yL_law : MethodName := ⟨RL, "law", "([I)Z"⟩
abbrev vwCl : List vw_C := [(RX0, TX0, 3), (RX2, TX2, 4), (RX4, TX4, 2), (RX5, TX5, 1), (RX7, TX7, 5)]
theorem inX0 : ∀ w ∈ wsX00, w ∈ lw_tbl := by decide +kernel
theorem inX2 : ∀ w ∈ wsX20, w ∈ lw_tbl := by decide +kernel
theorem inX4 : ∀ w ∈ wsX40, w ∈ lw_tbl := by decide +kernel
theorem inX5 : ∀ w ∈ wsX50, w ∈ lw_tbl := by decide +kernel
theorem inX7 : ∀ w ∈ wsX70, w ∈ lw_tbl := by decide +kernel
