/-! the law holds, from the first picture -/
section S54
variable {h : Hp} {s : St} {g : GS} {L : Nat} {xs : Nat → Int32}
theorem s0_hi {j : Nat} (hj : 15 ≤ j) : s0.g j = 0 := by
  show (if j = 0 then 5 else if j = 1 then 12 else if j = 2 then 1 else if 3 ≤ j ∧ j < 8 then 4294967295 else if 9 ≤ j ∧ j < 15 then 300 else 0) = 0
  rw [if_neg (by omega), if_neg (by omega), if_neg (by omega), if_neg (by omega), if_neg (by omega)]
theorem s0_pat {r : Nat} (hr : r < 5) : s0.g (3 + r) = 4294967295 := by
  show (if 3 + r = 0 then 5 else if 3 + r = 1 then 12 else if 3 + r = 2 then 1 else if 3 ≤ 3 + r ∧ 3 + r < 8 then 4294967295 else if 9 ≤ 3 + r ∧ 3 + r < 15 then 300 else 0) = 4294967295
  rw [if_neg (by omega), if_neg (by omega), if_neg (by omega), if_pos (by omega)]
theorem tot_0 {g : GS} (hz : ∀ q r p, q < 4 → r < 5 → p < 8 → gr g q r p = 0) : tot g = 0 := by
  unfold tot QS RS
  refine (sm_z _ 4 0).mpr (fun q _ hq => (sm_z _ 5 0).mpr (fun r _ hr => (sm_z _ 8 0).mpr (fun p _ hp => hz q r p (by omega) (by omega) (by omega))))
theorem LI_0 : LI s0.g := by
  refine ⟨SI_0.1, fun q q' _ _ _ _ => s0_hi (by omega), fun _ => s0_hi (by omega), ?_⟩
  rw [s0_hi (by omega), s0_hi (by omega), tot_0 (g := s0.g) (fun q r p _ _ _ => s0_hi (by omega))]
theorem nB_0 (hI : IV g) (hp : ∀ r, r < 5 → g (3 + r) = 4294967295) : nB g = 4294967290 := by
  rcases nB_is hI with w | ⟨b0, b1, b2, b3, b4⟩
  · exact w
  · have c := of_decide_eq_true (p := (1 ≤ wn g (nB g / 8 % 4) (nB g / 32) (nB g % 8) ∧ wn g (nB g / 8 % 4) (nB g / 32) (nB g % 8) ≤ 6) ∧ (co g (nB g / 8 % 4) (nB g / 32) (nB g % 8) = 0 ∨ co g (nB g / 8 % 4) (nB g / 32) (nB g % 8) = wn g (nB g / 8 % 4) (nB g / 32) (nB g % 8))) b3
    rw [wn_no (hp _ (by omega))] at c
    omega
theorem lk_0 (hp : ∀ r, r < 5 → g (3 + r) = 4294967295) : bts (lkF g) 1 6 0 = 0 := by
  have e : bts (lkF g) 1 6 0 = bts (fun _ => false) 1 6 0 := bts_cg 6 1 0 (fun c _ _ => by
    unfold lkF
    have : tal g 5 c 4294967295 4294967295 = 0 := by
      rw [tal_a]
      refine (sm_z _ 5 0).mpr (fun r _ hr => (sm_z _ 4 0).mpr (fun q _ hq => (sm_z _ 8 0).mpr (fun p _ hp' => ?_)))
      have em : ms g q r p = 0 := by unfold ms; rw [wn_no (hp r (by omega)), if_neg (by omega)]
      rw [mea5c, em]
      split <;> rfl
    rw [this]
    exact decide_eq_false (Nat.not_lt_zero _))
  rw [e]
  decide +kernel
theorem cellv_n (L : Nat) (xs : Nat → Int32) (k : Int32) : ∃ m, m < 2147483648 ∧ cellv L xs k = nI m := by
  unfold cellv
  exact pk_andE _ 31 (by decide +kernel)
theorem l_end {L : Nat} {xs : Nat → Int32} (hR : RC h s) (hS : SI s) (hL : LI s.g) : ∃ h', fL_law_j145 L xs 1 h = some (1, h') := by
  have hI := hS.1
  have h19 : s.g 19 ≤ 5 := hI.2.2.2.2.2.2.1
  unfold fL_law_j145
  rw [ct_0 hR.1, bsm]
  dsimp only
  rw [ct_4 hR.1 hI, bsm, tal_tot]
  dsimp only
  rw [if_neg (by decide), isNeeded_g hR.1 hI, bsm]
  dsimp only
  rw [if_neg (by decide), areSums_g hR.1 hL, bsm]
  dsimp only
  obtain ⟨h1, a1, a2, _⟩ := C_save hR hS 1
  have S1 := SI_save hS 1
  have esav : savS s 1 = (nI (s.g 19), (s.g, s.n, s.H, (fun j => if j = 1 then true else s.sv j), (fun j => if j = 1 then s.g else s.S j), s.m, s.P)) := by
    unfold savS
    rw [show inR 1 2 = true by decide +kernel, sT, show tN 1 = 1 by decide +kernel]
  rw [esav] at a1 a2 S1
  obtain ⟨s1, hs1⟩ : ∃ s1 : St, (s.g, s.n, s.H, (fun j => if j = 1 then true else s.sv j), (fun j => if j = 1 then s.g else s.S j), s.m, s.P) = s1 := ⟨_, rfl⟩
  rw [hs1] at a1 a2 S1
  have s1g : s1.g = s.g := by rw [← hs1]; rfl
  have s1sv : s1.sv 1 = true := by rw [← hs1]; rfl
  have s1S : s1.S 1 = s.g := by rw [← hs1]; rfl
  dsimp only at a1 a2 S1
  rw [if_neg (by decide), a1, bsm]
  dsimp only
  rw [if_pos rfl]
  -- the breath
  obtain ⟨h2, b1, b2, _⟩ := t7_breathe a2 S1 0 1
  have I2 := I_breathe S1.1 0 1
  have ebre : breS s1.g 0 1 = (nI (brS s.g 0 1).2.1, gu (brS s.g 0 1).1 23 (s.g 23 + (brS s.g 0 1).2.1)) := by
    rw [s1g, k_0, k_1, bre_eq s.g (by omega) (by omega)]
  rw [ebre] at b1 b2 I2
  dsimp only at b1 b2 I2
  have hle := br_le hI (q := 0) (d := 1) (by omega)
  have hlo : ∀ j, j < 23 → gu (brS s.g 0 1).1 23 (s.g 23 + (brS s.g 0 1).2.1) j = s.g j := fun j hj => by rw [gu_ne (by omega), br_lo s.g 0 1 (by omega)]
  generalize gu (brS s.g 0 1).1 23 (s.g 23 + (brS s.g 0 1).2.1) = g2 at b1 b2 I2 hlo
  generalize (brS s.g 0 1).2.1 = v2 at b1 b2 hle
  have S2 := SI_chg (v := nI v2) S1 I2
  have e2 : chg s1 (nI v2) g2 = push s1 g2 := by unfold chg; rw [if_neg (nI_pos (by omega))]
  rw [e2] at b2 S2
  have f2 : ∀ (t : St) (g' : GS), (push t g').g = g' ∧ (push t g').sv = t.sv ∧ (push t g').S = t.S := fun t g' => by
    unfold push
    split <;> exact ⟨rfl, rfl, rfl⟩
  rw [b1, bsm]
  dsimp only
  rw [if_neg (nI_pos (by omega))]
  -- the filling
  obtain ⟨h3, c1, c2, _⟩ := t7_fill b2 S2 1 7
  have I3 := I_fill S2.1 1 7
  have efil : filS (push s1 g2).g 1 7 = (nI (min 9999 (g2 9 + 7)), gu g2 9 (min 9999 (g2 9 + 7))) := by
    rw [(f2 s1 g2).1, k_1, k_7, fil_eq g2 (by omega) (by omega) (by omega) (by omega)]
  rw [efil] at c1 c2 I3
  dsimp only at c1 c2 I3
  have hm1 := Nat.min_le_left 9999 (g2 9 + 7)
  have hm2 : 7 ≤ min 9999 (g2 9 + 7) := Nat.le_min.mpr ⟨by omega, by omega⟩
  generalize min 9999 (g2 9 + 7) = v3 at c1 c2 I3 hm1 hm2
  have S3 := SI_chg (v := nI v3) S2 I3
  have e3 : chg (push s1 g2) (nI v3) (gu g2 9 v3) = push (push s1 g2) (gu g2 9 v3) := by unfold chg; rw [if_neg (nI_pos (by omega))]
  rw [e3] at c2 S3
  rw [c1, bsm]
  dsimp only
  rw [if_neg (by rw [k_0, nI_leU (by omega) (by omega)]; omega)]
  -- the slot
  generalize hs3 : push (push s1 g2) (gu g2 9 v3) = s3 at c2 S3
  have g3 : s3.g 19 = s.g 19 := by rw [← hs3, (f2 _ _).1, gu_ne (by omega), hlo _ (by omega)]
  have sv3 : s3.sv 1 = true := by rw [← hs3, (f2 _ _).2.1, (f2 _ _).2.1]; exact s1sv
  have S3S : s3.S 1 = s.g := by rw [← hs3, (f2 _ _).2.2, (f2 _ _).2.2]; exact s1S
  obtain ⟨h4, d1, d2, _⟩ := C_rest c2 S3 1
  have S4 := SI_rest S3 1
  have eres : resS s3 1 = (nI (s.g 19), push s3 s.g) := by
    unfold resS
    rw [show inR 1 2 = true by decide +kernel, sT, show tN 1 = 1 by decide +kernel, sv3, sT, S3S]
  rw [eres] at d1 d2 S4
  dsimp only at d1 d2 S4
  rw [d1, bsm]
  dsimp only
  have e4 := ct_4 d2.1 S4.1
  rw [tal_tot, (f2 s3 s.g).1] at e4
  rw [if_pos rfl, e4, bsm]
  dsimp only
  rw [if_pos rfl]
  -- undo
  obtain ⟨h5, k1, k2, _⟩ := C_undo d2 S4
  have eund : ∃ n t, undS (push s3 s.g) = (nI n, t) ∧ n < 10 ∧ t.g = s3.g := by
    have hn := S3.2.1
    unfold undS push
    by_cases z : s3.n < 6
    · rw [if_pos z]
      refine ⟨s3.n, ((fun i => if i = s3.n then s3.g else s3.H i) s3.n, s3.n, (fun i => if i = s3.n then s3.g else s3.H i), s3.sv, s3.S, s3.m, s3.P), ?_, by omega, ?_⟩
      · rw [if_neg (show ¬ (St.n (s.g, s3.n + 1, (fun i => if i = s3.n then s3.g else s3.H i), s3.sv, s3.S, s3.m, s3.P)) = 0 from Nat.succ_ne_zero _)]
        rfl
      · show (if s3.n = s3.n then s3.g else s3.H s3.n) = s3.g
        rw [if_pos rfl]
    · have e6 : s3.n = 6 := by omega
      rw [if_neg z, e6]
      exact ⟨5, _, rfl, by omega, rfl⟩
  obtain ⟨n, t, e5, hn, ht⟩ := eund
  rw [e5] at k1 k2
  dsimp only at k1 k2
  have e6 := ct_0 k2.1
  rw [ht, g3] at e6
  unfold fL_law_j228
  rw [if_neg (by decide), k1, bsm]
  dsimp only
  rw [if_neg (nI_pos (by omega)), e6, bsm]
  dsimp only
  rw [if_pos rfl]
  exact ⟨h5, rz_1 h5⟩
theorem l_loop : ∀ (d k n : Nat) (h : Hp) (s : St), k + d = 40 → d < n → RC h s → SI s → LI s.g → ∃ h', fL_law_L97 L xs n 1 (nI k) h = some (1, h') := by
  intro d
  induction d with
  | zero =>
    intro k n h s hk hn hR hS hL
    obtain ⟨n, rfl⟩ : ∃ m, n = m + 1 := ⟨n - 1, by omega⟩
    rw [fL_law_L97_s]
    unfold fL_law_B97
    rw [if_pos (by rw [k_40, nI_leU (by omega) (by omega)]; omega)]
    exact l_end hR hS hL
  | succ d ih =>
    intro k n h s hk hn hR hS hL
    obtain ⟨n, rfl⟩ : ∃ m, n = m + 1 := ⟨n - 1, by omega⟩
    have e1 : nI k + 1 = nI (k + 1) := by rw [k_1, nI_add]
    obtain ⟨m, hm, em⟩ := cellv_n L xs (nI k)
    obtain ⟨h1, s1, a1, a2, a3, a4⟩ := acts_g hR hS hL hm
    have go := ih (k + 1) n h1 s1 (by omega) (by omega) a2 a3 a4
    rw [← e1] at go
    rw [fL_law_L97_s]
    unfold fL_law_B97
    rw [if_neg (by rw [k_40, nI_leU (by omega) (by omega)]; omega), if_neg (by decide), if_pos (nI_pos' (by omega)), em, a1, bsm]
    dsimp only
    rw [if_neg (by decide), isNeeded_g a2.1 a3.1, bsm]
    dsimp only
    rw [if_neg (show ¬ (1 : Int32) = 0 by decide)]
    unfold fL_law_j133
    by_cases z : 0 < nI k - nI k / 13 * 13
    · rw [if_pos z]; exact go
    · rw [if_neg z]; exact go
theorem law_g (hR : RC h s0) : ∃ h', fL_law_e L xs h = some (1, h') := by
  have hS := SI_0
  have hp0 : ∀ r, r < 5 → s0.g (3 + r) = 4294967295 := fun r hr => s0_pat hr
  unfold fL_law_e
  -- undo
  obtain ⟨h1, a1, a2, _⟩ := C_undo hR hS
  have e1 : undS s0 = (-5, s0) := by unfold undS; rw [if_pos (show s0.n = 0 from rfl)]
  rw [e1] at a1 a2
  dsimp only at a1 a2
  rw [a1, bsm]
  dsimp only
  -- restore
  obtain ⟨h2, b1, b2, _⟩ := C_rest a2 hS 0
  have e2 : resS s0 0 = (-5, s0) := by
    unfold resS
    rw [show inR 0 2 = true by decide +kernel, sT, if_pos (show s0.sv (tN 0) = false from rfl)]
  rw [e2] at b1 b2
  dsimp only at b1 b2
  rw [if_pos rfl, b1, bsm]
  dsimp only
  have e3 : f7_needed 0 h2 = some (-6, h2) := by
    have := ndV b2.1 hS.1 (i := 0) (by omega)
    rw [if_pos (nB_0 hS.1 hp0), ← k_0] at this
    exact this
  rw [if_pos rfl, e3, bsm]
  dsimp only
  rw [if_pos rfl, lk_g b2.1 hS.1, bsm, lk_0 hp0]
  dsimp only
  rw [if_pos rfl]
  -- sweep, close
  obtain ⟨h3, s3, c1, c2, c3, c4⟩ := do_sweep b2 hS
  unfold sweS at c1 c4
  rw [if_pos (by rw [s0_hi (by omega)]; omega)] at c1 c4
  dsimp only at c1 c4
  rw [c1, bsm]
  dsimp only
  rw [if_pos rfl]
  obtain ⟨h4, s4, d1, d2, d3, d4⟩ := do_close c2 c3
  have ew : wh s0.g 0 = false := by
    cases e : wh s0.g 0
    · rfl
    · have := (wh_iff s0.g 0).mp e 0 0 (by omega) (by omega)
      unfold rt at this
      rw [if_pos (wn_no (hp0 0 (by omega)))] at this
      exact absurd this (by decide)
  unfold cloS at d1 d4
  rw [c4, s0_hi (j := 19) (by omega), if_pos (Or.inr ew)] at d1 d4
  dsimp only at d1 d4
  rw [d1, bsm]
  dsimp only
  rw [if_pos rfl]
  -- three funnels
  have L4 : LI s4.g := by rw [d4]; exact LI_0
  have hz : ∀ q, q < 4 → s4.g (15 + q) = 0 := fun q hq => by rw [d4]; exact s0_hi (by omega)
  have none_of : ∀ (g : GS) (c : Nat), (∀ q, q < 4 → g (15 + q) ≠ c) → hd g c = 4 := fun g c w => by
    refine Classical.byContradiction (fun y => ?_)
    obtain ⟨y1, y2⟩ := hd_is y
    exact w _ y1 y2
  have n1 : hd s4.g 1 = 4 := none_of _ _ (fun q hq => by rw [hz q hq]; omega)
  obtain ⟨h5, s5, f1, f2, f3, f4⟩ := do_take d2 d3 0 1
  have e5 : takS s4.g 0 1 = (nI 0, gu s4.g 15 1) := by
    have := tak_eq s4.g (q := 0) (c := 1) (by omega) (by omega) (by omega)
    rw [if_neg (fun w => w.1 n1), hz 0 (by omega), ← k_0, ← k_1] at this
    exact this
  rw [e5] at f1 f4
  dsimp only at f1 f4
  have L5 : LI s5.g := by rw [f4]; exact (LI_take L4 (q := 0) (c := 1) (by omega) (by omega) (by omega) (fun w => w.1 n1)).1
  rw [f1, bsm]
  dsimp only
  rw [if_pos k_0.symm]
  have n2 : hd s5.g 2 = 4 := none_of _ _ (fun q hq => by
    rw [f4]
    by_cases y : q = 0
    · rw [y, show 15 + 0 = 15 from rfl, gu_s]; omega
    · rw [gu_ne (by omega), hz q hq]; omega)
  obtain ⟨h6, s6, k1, k2, k3, k4⟩ := do_take f2 f3 1 2
  have e6 : takS s5.g 1 2 = (nI 0, gu s5.g 16 2) := by
    have := tak_eq s5.g (q := 1) (c := 2) (by omega) (by omega) (by omega)
    rw [if_neg (fun w => w.1 n2), show s5.g (15 + 1) = 0 by rw [f4, gu_ne (by omega)]; exact hz 1 (by omega), ← k_1, ← k_2] at this
    exact this
  rw [e6] at k1 k4
  dsimp only at k1 k4
  have L6 : LI s6.g := by rw [k4]; exact (LI_take L5 (q := 1) (c := 2) (by omega) (by omega) (by omega) (fun w => w.1 n2)).1
  rw [k1, bsm]
  dsimp only
  rw [if_pos k_0.symm]
  have n3 : hd s6.g 3 = 4 := none_of _ _ (fun q hq => by
    rw [k4, f4]
    by_cases y : q = 1
    · rw [y, show 15 + 1 = 16 from rfl, gu_s]; omega
    · rw [gu_ne (by omega)]
      by_cases y0 : q = 0
      · rw [y0, show 15 + 0 = 15 from rfl, gu_s]; omega
      · rw [gu_ne (by omega), hz q hq]; omega)
  obtain ⟨h7, s7, m1, m2, m3, m4⟩ := do_take k2 k3 2 3
  have e7 : takS s6.g 2 3 = (nI 0, gu s6.g 17 3) := by
    have := tak_eq s6.g (q := 2) (c := 3) (by omega) (by omega) (by omega)
    rw [if_neg (fun w => w.1 n3), show s6.g (15 + 2) = 0 by rw [k4, gu_ne (by omega), f4, gu_ne (by omega)]; exact hz 2 (by omega), ← k_2, ← k_3] at this
    exact this
  rw [e7] at m1 m4
  dsimp only at m1 m4
  have L7 : LI s7.g := by rw [m4]; exact (LI_take L6 (q := 2) (c := 3) (by omega) (by omega) (by omega) (fun w => w.1 n3)).1
  rw [m1, bsm]
  dsimp only
  rw [if_pos k_0.symm]
  have := l_loop (L := L) (xs := xs) 40 0 FU h7 s7 (by omega) (by unfold FU; omega) m2 m3 L7
  rw [← k_0] at this
  exact this
end S54
