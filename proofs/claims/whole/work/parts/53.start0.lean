/-! what stands at the start -/
theorem arrT {s : State} {args : Array Value} {ty : FieldType} (h : (Cond.arrayClass ty).before args s = true) : ∃ cA : ClassId, s.vm.findClass ("[" ++ ty.toString) = some cA ∧ ArrOfT s cA ty := by
  obtain ⟨cA, kA, comp, h1, h2, h3⟩ := Cond.arrayClass_spec (first := s) (o := none) (s := s) (idx := []) (args := args) h
  exact ⟨cA, h1, fun n z => ⟨fun k h => (by cases h), kA, h2, comp, h3⟩⟩
theorem law_words : (∀ w ∈ nestL, w ∈ lw_tbl ∧ w.onTables = true) := by decide +kernel
def flt : List Cond := flatC (Jvm.Cond.and given_1 narrow_1)
theorem fl_ex : ∀ i, i < 7 → Cond.exactly (.string RX3 (44 + 2 * i)) "java/lang/String" ∈ flt := by decide +kernel
theorem fl_co : ∀ i, i < 7 → Cond.eq (.field (.string RX3 (44 + 2 * i)) "java/lang/String" "coder" "B") (.int 0) ∈ flt := by decide +kernel
theorem fl_ar : ∀ i, i < 7 → Cond.arrayOf (.field (.string RX3 (44 + 2 * i)) "java/lang/String" "value" "[B") .byte ∈ flt := by decide +kernel
theorem fl_le : ∀ i, i < 7 → Cond.eq (.length (.field (.string RX3 (44 + 2 * i)) "java/lang/String" "value" "[B")) (.int (Int32.ofNat (sk_len.getD i 0))) ∈ flt := by decide +kernel
theorem fl_el : ∀ i, i < 7 → ∀ j, j < sk_len.getD i 0 → Cond.eq (.elem (.field (.string RX3 (44 + 2 * i)) "java/lang/String" "value" "[B") (.int (Int32.ofNat j))) (.int ((sk_byt.getD i []).getD j 0)) ∈ flt := by decide +kernel
theorem fl_ne : ∀ i, i < 7 → ∀ j, j < 7 → i ≠ j → (Cond.not (Cond.eq (.string RX3 (44 + 2 * i)) (.string RX3 (44 + 2 * j))) ∈ flt ∨ Cond.not (Cond.eq (.string RX3 (44 + 2 * j)) (.string RX3 (44 + 2 * i))) ∈ flt) := by decide +kernel
theorem fl_sr : ∀ i, i < 7 → Cond.stringRef RX3 (44 + 2 * i) (sk_tx.getD i "") ∈ lw_tbl := by decide +kernel
theorem fl_sw : ∀ j, j < 4 → Cond.eq (.elem (.static RX1 "SWEEP_ORDER" "[I") (.int (Int32.ofNat j))) (.int (swo.getD j 0)) ∈ flt := by decide +kernel
theorem fl_t : Cond.laysStatic RX1 "SWEEP_ORDER" "[I" ∈ lw_tbl ∧ Cond.initialized RX1 ∈ lw_tbl ∧ Cond.laysStatic RJ0 "COMPACT_STRINGS" "Z" ∈ lw_tbl ∧ Cond.initialized RJ0 ∈ lw_tbl ∧ Cond.laysStatic RJ3 "SIOOBE_FORMATTER" "Ljava/util/function/BiFunction;" ∈ lw_tbl ∧ Cond.initialized RJ3 ∈ lw_tbl := by decide +kernel
theorem fl_a : Cond.arrayClass .int ∈ lw_tbl ∧ Cond.arrayClass .boolean ∈ lw_tbl ∧ Cond.arrayClass .char ∈ lw_tbl := by decide +kernel
theorem fl_m : Cond.arrayOf (.static RX1 "SWEEP_ORDER" "[I") .int ∈ flt ∧ Cond.eq (.length (.static RX1 "SWEEP_ORDER" "[I")) (.int 4) ∈ flt ∧ Cond.eq (.static RJ0 "COMPACT_STRINGS" "Z") (.int 1) ∈ flt ∧ Cond.isRef (.static RJ3 "SIOOBE_FORMATTER" "Ljava/util/function/BiFunction;") ∈ flt := by decide +kernel
