/-! what stands at the start -/
theorem arrT {s : State} {args : Array Value} {ty : FieldType} (h : (Cond.arrayClass ty).before args s = true) : ∃ cA : ClassId, s.vm.findClass ("[" ++ ty.toString) = some cA ∧ ArrOfT s cA ty := by
  obtain ⟨cA, kA, comp, h1, h2, h3⟩ := Cond.arrayClass_spec (first := s) (o := none) (s := s) (idx := []) (args := args) h
  exact ⟨cA, h1, fun n z => ⟨fun k h => (by cases h), kA, h2, comp, h3⟩⟩
theorem law_words : (∀ w ∈ nestL, w ∈ lw_tbl ∧ w.onTables = true) := by decide +kernel
def flt : List Cond := flatC (Jvm.Cond.and given_1 narrow_1)
theorem fl_sw : ∀ j, j < 4 → Cond.eq (.elem (.static RX1 "SWEEP_ORDER" "[I") (.int (Int32.ofNat j))) (.int (swo.getD j 0)) ∈ flt := by decide +kernel
theorem fl_t : Cond.laysStatic RX1 "SWEEP_ORDER" "[I" ∈ lw_tbl ∧ Cond.initialized RX1 ∈ lw_tbl := by decide +kernel
theorem fl_a : Cond.arrayClass .int ∈ lw_tbl := by decide +kernel
theorem fl_m : Cond.arrayOf (.static RX1 "SWEEP_ORDER" "[I") .int ∈ flt ∧ Cond.eq (.length (.static RX1 "SWEEP_ORDER" "[I")) (.int 4) ∈ flt := by decide +kernel
/-! the constant part of the environment, out of the Statement's start -/
theorem law_CP {s : State} {b : Nat} (hts : ∀ w ∈ lw_tbl, w.before #[Value.ref b] s = true) (hgv : (Jvm.Cond.and given_1 narrow_1).before #[Value.ref b] s = true) : ∃ (D : va_G) (cI cZ cC : ClassId) (t : Nat) (K W : Nat → Nat), ∀ (eAf : Nat → Nat) (wl : Hp → va_W), CP (D, (cI, cZ, cC), eAf, t, K, W, wl) (fun q => s.heap.size ≤ q) s := by
  have hA : ∀ a : Nat, a < s.heap.size → ¬ (fun q : Nat => s.heap.size ≤ q) a := fun a ha => Nat.not_le.mpr ha
  have hs : ∀ w ∈ flt, w.before #[Value.ref b] s = true := flat_of_before _ hgv
  obtain ⟨c0, i0, k0⟩ := u_known (C := RX0) (T := TX0) (N := 3) (n := 3) hts inX0 (hts (.instantiable RX0 3) (by decide +kernel))
  obtain ⟨c1, i1, k1⟩ := u_known (C := RX2) (T := TX2) (N := 4) (n := 4) hts inX2 (hts (.instantiable RX2 4) (by decide +kernel))
  obtain ⟨c2, i2, k2⟩ := u_known (C := RX4) (T := TX4) (N := 2) (n := 2) hts inX4 (hts (.instantiable RX4 2) (by decide +kernel))
  obtain ⟨c3, i3, k3⟩ := u_known (C := RX5) (T := TX5) (N := 1) (n := 1) hts inX5 (hts (.instantiable RX5 1) (by decide +kernel))
  obtain ⟨c4, i4, k4⟩ := u_known (C := RX7) (T := TX7) (N := 5) (n := 5) hts inX7 (hts (.instantiable RX7 5) (by decide +kernel))
  obtain ⟨cI, aI, bI'⟩ := arrT (hts _ fl_a)
  obtain ⟨t, et, hT⟩ := va_Tof (A := fun q : Nat => s.heap.size ≤ q) (N := 4) (f := fun j => .int (swo.getD j 0)) (by decide) (hs _ fl_m.1) (va_eqt (hs _ fl_m.2)) (fun j hj => va_eqt (hs _ (fl_sw j hj))) hA
  refine ⟨(fun k => if k = 0 then c0 else if k = 1 then c1 else if k = 2 then c2 else if k = 3 then c3 else c4, fun k => if k = 0 then i0 else if k = 1 then i1 else if k = 2 then i2 else if k = 3 then i3 else i4), cI, cI, cI, t, fun _ => 0, fun _ => 0, fun eAf wl => ⟨⟨fun k q hq => ?_, fun k q hq => ?_⟩, fun w hw => va_Nw.of (law_words w hw).2 (hts w (law_words w hw).1), va_Zof (hts _ fl_t.1) (hts _ fl_t.2) et hA, hT⟩⟩
  · match k, hq with
    | 0, hq => cases hq; exact k0
    | 1, hq => cases hq; exact k1
    | 2, hq => cases hq; exact k2
    | 3, hq => cases hq; exact k3
    | 4, hq => cases hq; exact k4
    | k + 5, hq => simp [vwCl] at hq
  · match k, hq with
    | 0, hq => cases hq; exact ⟨bI', aI⟩
    | k + 1, hq => simp [tys] at hq
/-! the first picture stands in the relation -/
theorem RC_0 {h : Hp} (hC : CR h 1 s0.g) (h8 : ∀ j, h 8 j = 0) (h10 : ∀ j, h 10 j = 0) : RC h s0 :=
  ⟨hC, ⟨0, by omega, (h8 1).trans k_0, (h8 2).trans k_0, (h8 3).trans k_0, fun i hi => absurd hi (Nat.not_lt_zero _), fun i hi w => absurd (show false = true from w) (by decide)⟩, (h10 1).trans k_0, fun i hi => absurd hi (Nat.not_lt_zero _)⟩
