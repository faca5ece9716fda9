/-! the constant part of the environment, out of the Statement's start -/
theorem law_CP {s : State} {b : Nat} (hts : ∀ w ∈ lw_tbl, w.before #[Value.ref b] s = true) (hgv : (Jvm.Cond.and given_1 narrow_1).before #[Value.ref b] s = true) : ∃ (D : va_G) (cI cZ cC : ClassId) (t : Nat) (K W : Nat → Nat), ∀ (eAf : Nat → Nat) (wl : Hp → va_W), CP (D, (cI, cZ, cC), eAf, t, K, W, wl) (fun q => s.heap.size ≤ q) s := by
  have hA : ∀ a : Nat, a < s.heap.size → ¬ (fun q : Nat => s.heap.size ≤ q) a := fun a ha => Nat.not_le.mpr ha
  have hs : ∀ w ∈ flt, w.before #[Value.ref b] s = true := flat_of_before _ hgv
  obtain ⟨c0, i0, k0⟩ := u_known (C := RX0) (T := TX0) (N := 3) (n := 3) hts inX0 (hts (.instantiable RX0 3) (by decide +kernel))
  obtain ⟨c1, i1, k1⟩ := u_known (C := RX2) (T := TX2) (N := 4) (n := 4) hts inX2 (hts (.instantiable RX2 4) (by decide +kernel))
  obtain ⟨c2, i2, k2⟩ := u_known (C := RX4) (T := TX4) (N := 2) (n := 2) hts inX4 (hts (.instantiable RX4 2) (by decide +kernel))
  obtain ⟨c3, i3, k3⟩ := u_known (C := RX5) (T := TX5) (N := 1) (n := 1) hts inX5 (hts (.instantiable RX5 1) (by decide +kernel))
  obtain ⟨c4, i4, k4⟩ := u_known (C := RX7) (T := TX7) (N := 5) (n := 5) hts inX7 (hts (.instantiable RX7 5) (by decide +kernel))
  obtain ⟨c5, i5, k5⟩ := u_known (C := RX8) (T := TX8) (N := 13) (n := 13) hts inX8 (hts (.instantiable RX8 13) (by decide +kernel))
  obtain ⟨cI, aI, bI'⟩ := arrT (hts _ fl_a.1)
  obtain ⟨cZ, aZ, bZ⟩ := arrT (hts _ fl_a.2.1)
  obtain ⟨cC, aC', bC⟩ := arrT (hts _ fl_a.2.2)
  obtain ⟨t, et, hT⟩ := va_Tof (A := fun q : Nat => s.heap.size ≤ q) (N := 4) (f := fun j => .int (swo.getD j 0)) (by decide) (hs _ fl_m.1) (va_eqt (hs _ fl_m.2.1)) (fun j hj => va_eqt (hs _ (fl_sw j hj))) hA
  obtain ⟨K, W, hK, eK'⟩ := vk_Sof (N := 7) (tm := fun i => .string RX3 (44 + 2 * i)) (len := sk_len) (byt := sk_byt) (A := fun q : Nat => s.heap.size ≤ q) (by decide) (fun i hi => hs _ (fl_ex i hi)) (fun i hi => hs _ (fl_co i hi)) (fun i hi => hs _ (fl_ar i hi)) (fun i hi => hs _ (fl_le i hi)) (fun i hi j hj => hs _ (fl_el i hi j hj)) (fun i j hi hj hij => (fl_ne i hi j hj hij).elim (fun w => Or.inl (hs _ w)) (fun w => Or.inr (hs _ w))) hA
  refine ⟨(fun k => if k = 0 then c0 else if k = 1 then c1 else if k = 2 then c2 else if k = 3 then c3 else if k = 4 then c4 else c5, fun k => if k = 0 then i0 else if k = 1 then i1 else if k = 2 then i2 else if k = 3 then i3 else if k = 4 then i4 else i5), cI, cZ, cC, t, K, W, fun eAf wl => ⟨⟨fun k q hq => ?_, fun k q hq => ?_⟩, fun w hw => va_Nw.of (law_words w hw).2 (hts w (law_words w hw).1), va_Zof (hts _ fl_t.1) (hts _ fl_t.2.1) et hA, hT, hK, fun i hi => vk_R.of (hts _ (fl_sr i hi)) (eK' i hi), va_Zof (hts _ fl_t.2.2.1) (hts _ fl_t.2.2.2.1) (va_eqi (hs _ fl_m.2.2.1)) hA, va_Zqof (hts _ fl_t.2.2.2.2.1) (hts _ fl_t.2.2.2.2.2) (hs _ fl_m.2.2.2) hA⟩⟩
  · match k, hq with
    | 0, hq => cases hq; exact k0
    | 1, hq => cases hq; exact k1
    | 2, hq => cases hq; exact k2
    | 3, hq => cases hq; exact k3
    | 4, hq => cases hq; exact k4
    | 5, hq => cases hq; exact k5
    | k + 6, hq => simp [vwCl] at hq
  · match k, hq with
    | 0, hq => cases hq; exact ⟨bI', aI⟩
    | 1, hq => cases hq; exact ⟨bZ, aZ⟩
    | 2, hq => cases hq; exact ⟨bC, aC'⟩
    | k + 3, hq => simp [tys] at hq
