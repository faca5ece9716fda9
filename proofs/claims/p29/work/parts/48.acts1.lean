/-! an act: breath, pattern, filling, closing and sweeping, settings -/
section S48
variable {h : Hp} {s : St} {g : GS}
theorem bre_eq (g : GS) {q d : Nat} (hq : q < 4) (hd : d < 2) : breS g (nI q) (nI d) = (nI (brS g q d).2.1, gu (brS g q d).1 23 (g 23 + (brS g q d).2.1)) := by
  unfold breS
  rw [inR_nI hq (by omega), sT, inR_nI hd (by omega), sT, tN_nI (by omega), tN_nI (by omega)]
theorem mea3 (g : GS) (c q r p : Nat) : mea g 3 c q r p = if wn g q r p = 4294967290 then 0 else if rt g q r p = false then 1 else 0 := by
  unfold mea
  rw [if_neg (by omega), if_neg (by omega), if_neg (by omega), if_pos rfl]
theorem wn_lo {g g' : GS} {q r p : Nat} (hr : r < 5) (e : ∀ j, j < 24 → g' j = g j) : wn g' q r p = wn g q r p := by
  unfold wn pp
  rw [e (3 + r) (by omega), e 2 (by omega)]
theorem mea3_T {g g' : GS} {q r p : Nat} (hr : r < 5) (e : ∀ j, j < 23 → g' j = g j) : mea g' 3 4294967295 q r p + T2 (rt g q r p) (rt g' q r p) = mea g 3 4294967295 q r p + T1 (rt g q r p) (rt g' q r p) := by
  have ew : wn g' q r p = wn g q r p := by
    unfold wn pp
    rw [e (3 + r) (by omega), e 2 (by omega)]
  rw [mea3, mea3, ew]
  by_cases z : wn g q r p = 4294967290
  · have e1 : rt g q r p = false := by unfold rt; rw [if_pos z]
    have e2 : rt g' q r p = false := by unfold rt; rw [ew, if_pos z]
    rw [e1, e2, if_pos z]
    rfl
  · rw [if_neg z, if_neg z]
    unfold T2 T1
    cases rt g q r p <;> cases rt g' q r p <;> rfl
theorem br_wrong (hI : IV g) {q d v : Nat} (hq : q < 4) : tal (gu (brS g q d).1 23 v) 3 4294967295 q 4294967295 + sm (fun r => sm (fun p => T2 (rt g q r p) (rt (brS g q d).1 q r p)) 0 8) 0 5 = tal g 3 4294967295 q 4294967295 + sm (fun r => sm (fun p => T1 (rt g q r p) (rt (brS g q d).1 q r p)) 0 8) 0 5 := by
  have er : ∀ r p, r < 5 → rt (gu (brS g q d).1 23 v) q r p = rt (brS g q d).1 q r p := fun r p hr => by
    have e1 : wn (gu (brS g q d).1 23 v) q r p = wn (brS g q d).1 q r p := by
      unfold wn pp
      rw [gu_ne (by omega), gu_ne (by omega)]
    unfold rt
    rw [e1, gr_gu (by omega), co_gu (by omega), gu_ne (by omega)]
  rw [tal_q _ 3 _ hq, tal_q _ 3 _ hq, ← sm_add, ← sm_add]
  refine sm_cg 5 0 (fun r _ hr => ?_)
  show sm (fun p => mea (gu (brS g q d).1 23 v) 3 4294967295 q r p) 0 8 + sm (fun p => T2 (rt g q r p) (rt (brS g q d).1 q r p)) 0 8 = sm (fun p => mea g 3 4294967295 q r p) 0 8 + sm (fun p => T1 (rt g q r p) (rt (brS g q d).1 q r p)) 0 8
  rw [← sm_add, ← sm_add]
  refine sm_cg 8 0 (fun p _ hp => ?_)
  have := mea3_T (g := g) (g' := gu (brS g q d).1 23 v) (q := q) (r := r) (p := p) (by omega) (fun j hj => by rw [gu_ne (by omega), br_lo g q d (by omega)])
  rw [er r p (by omega)] at this
  exact this
theorem ac_breathe (hR : RC h s) (hS : SI s) (hL : LI s.g) {q d : Nat} (hq : q < 4) (hd : d < 2) : OK ((f7_ofQuarter (nI q) 0 h).bind fun c32 => (f7_ifBreathed (nI q) (nI d) 0 c32.2).bind fun c34 => (f7_ofQuarter (nI q) 1 c34.2).bind fun c36 => (f7_ifBreathed (nI q) (nI d) 1 c36.2).bind fun c38 => (f7_ifBreathed (nI q) (nI d) 2 c38.2).bind fun c40 => (f7_breathe (nI q) (nI d) c40.2).bind fun c42 => if c42.1 = c34.1 then ((f7_ofQuarter (nI q) 0 c42.2).bind fun c45 => if c45.1 = (c32.1 - c34.1) then ((f7_count 3 c45.2).bind fun c48 => if c48.1 = (nI (s.g 23) + c34.1) then ((f7_ofQuarter (nI q) 1 c48.2).bind fun c51 => if c51.1 = ((c36.1 + c38.1) - c40.1) then (rz 1 c51.2) else (rz 0 c51.2)) else (rz 0 c48.2)) else (rz 0 c45.2)) else (rz 0 c42.2)) := by
  have hI := hS.1
  obtain ⟨hI0, hD, h20, hT⟩ := id hL
  have C3 := fun (h : Hp) (hR : RC h s) (x3 : Int32) => C_ifB hR hS (nI q) (nI d) x3
  have e4 : inR (nI q) 4 = true := inR_nI hq (by omega)
  have e2 : inR (nI d) 2 = true := inR_nI hd (by omega)
  obtain ⟨ha, a1, a2, _⟩ := C3 h hR 0
  rw [e4, sT, e2, sT, show inR 0 3 = true by decide +kernel, sT, tN_nI (by omega), tN_nI (by omega), show tN 0 = 0 by decide +kernel] at a1
  obtain ⟨hb, b1, b2, _⟩ := C3 ha a2 1
  rw [e4, sT, e2, sT, show inR 1 3 = true by decide +kernel, sT, tN_nI (by omega), tN_nI (by omega), show tN 1 = 1 by decide +kernel] at b1
  obtain ⟨hc, c1, c2, _⟩ := C3 hb b2 2
  rw [e4, sT, e2, sT, show inR 2 3 = true by decide +kernel, sT, tN_nI (by omega), tN_nI (by omega), show tN 2 = 2 by decide +kernel] at c1
  obtain ⟨h1, s1, d1, d2, d3, d4⟩ := do_breathe c2 hS (nI q) (nI d)
  rw [bre_eq s.g hq hd] at d1 d4
  dsimp only at d1 d4
  unfold ifB at a1 b1 c1
  rw [if_pos rfl] at a1
  rw [if_neg (by omega), if_pos rfl] at b1
  rw [if_neg (by omega), if_neg (by omega)] at c1
  have hw := br_wrong (g := s.g) (d := d) (v := s.g 23 + (brS s.g q d).2.1) hI hq
  have hs := br_sum hI hq hd
  have ht := br_tot hI hq hd
  have lo : ∀ j, j < 23 → s1.g j = s.g j := fun j hj => by rw [d4, gu_ne (by omega), br_lo s.g q d (by omega)]
  have e23 : s1.g 23 = s.g 23 + (brS s.g q d).2.1 := by rw [d4, gu_s]
  have f1 := oq_0 d2.1 d3.1 hq
  rw [tal_QS _ hq, show QS s1.g q = QS (brS s.g q d).1 q by rw [d4, QS_gu (by omega)]] at f1
  have f2 := oq_1 d2.1 d3.1 hq
  rw [show tal s1.g 3 4294967295 q 4294967295 = tal (gu (brS s.g q d).1 23 (s.g 23 + (brS s.g q d).2.1)) 3 4294967295 q 4294967295 by rw [d4]] at f2
  have f3 := ct_3 d2.1
  rw [e23] at f3
  have et : tot s1.g + (brS s.g q d).2.1 = tot s.g := by rw [d4, tot_gu (by omega)]; exact ht
  have hL1 : LI s1.g := by
    refine ⟨d3.1, fun q1 q2 x1 x2 w e => ?_, fun w => ?_, ?_⟩
    · rw [lo _ (by omega), lo _ (by omega)] at e
      rw [lo _ (by omega)]
      exact hD q1 q2 x1 x2 w e
    · rw [lo 19 (by omega)] at w
      rw [lo 20 (by omega)]
      exact h20 w
    · rw [e23, lo 22 (by omega)]
      omega
  rw [oq_0 hR.1 hI hq, bsm, tal_QS _ hq]
  dsimp only
  rw [a1, bsm]
  dsimp only
  rw [oq_1 a2.1 hI hq, bsm]
  dsimp only
  rw [b1, bsm]
  dsimp only
  rw [c1, bsm]
  dsimp only
  rw [d1, bsm]
  dsimp only
  generalize sm (fun r => sm (fun p => T2 (rt s.g q r p) (rt (brS s.g q d).1 q r p)) 0 8) 0 5 = B at hw
  generalize sm (fun r => sm (fun p => T1 (rt s.g q r p) (rt (brS s.g q d).1 q r p)) 0 8) 0 5 = W at hw
  rw [if_pos rfl, f1, bsm]
  dsimp only
  rw [if_pos (by rw [nI_subU (by omega), show QS s.g q - (brS s.g q d).2.1 = QS (brS s.g q d).1 q by omega]), f3, bsm]
  dsimp only
  rw [if_pos (by rw [nI_add]), f2, bsm]
  dsimp only
  rw [if_pos (by rw [nI_add, nI_subU (by omega), ← hw, Nat.add_sub_cancel])]
  exact OK_rz d2 d3 hL1
/-! fill -/
theorem fil_eq (g : GS) {c v : Nat} (c1 : 1 ≤ c) (c6 : c ≤ 6) (v1 : 1 ≤ v) (v9 : v ≤ 9999) : filS g (nI c) (nI v) = (nI (min 9999 (g (8 + c) + v)), gu g (8 + c) (min 9999 (g (8 + c) + v))) := by
  unfold filS
  rw [inC_nI c1 c6 (by omega), sT, inC_nI v1 v9 (by omega), sT, tN_nI (by omega), tN_nI (by omega)]
theorem ac_fill (hR : RC h s) (hS : SI s) (hL : LI s.g) {c v : Nat} (c1 : 1 ≤ c) (c6 : c ≤ 6) (v1 : 1 ≤ v) (v9 : v ≤ 9999) : OK ((f7_fill (nI c) (nI v) h).bind fun c64 => if (nI (s.g (8 + c)) + nI v) ≤ 9999 then (fL_acts_j762 (nI (s.g (8 + c)) + nI v) c64.1 c64.2) else (fL_acts_j762 9999 c64.1 c64.2)) := by
  have hI := hS.1
  have b1 := fb hI c1 c6
  obtain ⟨h1, s1, a1, a2, a3, a4⟩ := do_fill hR hS (nI c) (nI v)
  rw [fil_eq s.g c1 c6 v1 v9] at a1 a4
  dsimp only at a1 a4
  have hL1 : LI s1.g := LI_lo hL a3.1 (fun q hq => by rw [a4, gu_ne (by omega)]) (by rw [a4, gu_ne (by omega)]) (by rw [a4, gu_ne (by omega)]) (by rw [a4, gu_ne (by omega)]) (by rw [a4, gu_ne (by omega)]) (by rw [a4, tot_gu (by omega)])
  rw [a1, bsm, nI_add]
  dsimp only
  unfold fL_acts_j762
  by_cases z : s.g (8 + c) + v ≤ 9999
  · rw [if_pos (by rw [k_9999, nI_leU (by omega) (by omega)]; exact z), if_pos (by rw [Nat.min_eq_right z])]
    exact OK_rz a2 a3 hL1
  · rw [if_neg (by rw [k_9999, nI_leU (by omega) (by omega)]; exact z), if_pos (by rw [Nat.min_eq_left (by omega)]; exact k_9999.symm)]
    exact OK_rz a2 a3 hL1
/-! set -/
theorem ac_set (hR : RC h s) (hS : SI s) (hL : LI s.g) {w v : Nat} (hw : w < 3) (h0 : w = 0 → 1 ≤ v ∧ v ≤ 50) (h1 : w = 1 → 1 ≤ v ∧ v ≤ 99) (h2 : w = 2 → v ≤ 1) : OK (fL_acts_j888 (nI w) (nI v) h) := by
  have hI := hS.1
  have hv : v ≤ 99 := by
    rcases (show w = 0 ∨ w = 1 ∨ w = 2 by omega) with y | y | y
    · have := h0 y; omega
    · have := h1 y; omega
    · have := h2 y; omega
  have ho : okV (nI w) (nI v) := by
    rcases (show w = 0 ∨ w = 1 ∨ w = 2 by omega) with y | y | y
    · have := h0 y
      exact Or.inl ⟨by rw [y]; rfl, inC_nI this.1 this.2 (by omega)⟩
    · have := h1 y
      exact Or.inr (Or.inl ⟨by rw [y]; rfl, inC_nI this.1 this.2 (by omega)⟩)
    · have := h2 y
      exact Or.inr (Or.inr ⟨by rw [y]; rfl, inR_nI (by omega) (by omega)⟩)
  have es : setS s.g (nI w) (nI v) = (nI (s.g w), gu s.g w v) := by
    rw [setS_eq, if_pos ho, tN_nI (by omega), tN_nI (by omega)]
  obtain ⟨h1', s1, a1, a2, a3, a4⟩ := do_set hR hS (nI w) (nI v)
  rw [es] at a1 a4
  dsimp only at a1 a4
  have hL1 : LI s1.g := LI_lo hL a3.1 (fun q hq => by rw [a4, gu_ne (by omega)]) (by rw [a4, gu_ne (by omega)]) (by rw [a4, gu_ne (by omega)]) (by rw [a4, gu_ne (by omega)]) (by rw [a4, gu_ne (by omega)]) (by rw [a4, tot_gu (by omega)])
  have e1 := ct_s a2.1 hw
  rw [show s1.g w = v by rw [a4, gu_s]] at e1
  unfold fL_acts_j888
  rw [ct_s hR.1 hw, bsm]
  dsimp only
  rw [a1, bsm]
  dsimp only
  rw [if_pos rfl, e1, bsm]
  dsimp only
  rw [if_pos rfl]
  exact OK_rz a2 a3 hL1
/-! close, and perhaps the first quarter's sweep -/
theorem swe_keep (g : GS) : ∀ k, k ≤ 40 → clS g 0 k 23 + tot (clS g 0 k) = g 23 + tot g := by
  intro k
  induction k with
  | zero => exact fun _ => rfl
  | succ k ih =>
    intro hk
    have e2 : clS g 0 (k + 1) = gu (hpS (clS g 0 k) 0 (k / 8) (k % 8) 0 0) 23 (clS g 0 k 23 + gr (clS g 0 k) 0 (k / 8) (k % 8)) := rfl
    have h3 := tot_hp (g := clS g 0 k) (q := 0) (r := k / 8) (p := k % 8) (c := 0) (n := 0) (by omega) (by omega) (by omega)
    have h4 := ih (by omega)
    rw [e2, gu_s, tot_gu (by omega)]
    omega
theorem swe_LI (hL : LI g) (h5 : g 19 = 5) (h20 : g 20 = 0) : LI (sweS g).2 ∧ (sweS g).1 = 0 := by
  have hI' := I_sweep hL.1
  obtain ⟨hI, hD, _, hT⟩ := hL
  have hlo : ∀ j, j < 23 → clS g 0 40 j = g j := fun j hj => clS_lo g 0 hj 40
  have hk := swe_keep g 40 (by omega)
  have e0 : swq 0 = 0 := rfl
  unfold sweS at hI' ⊢
  rw [if_neg (by omega), h20, if_pos (by omega), e0] at hI'
  rw [if_neg (by omega), h20, if_pos (by omega), e0]
  dsimp only at hI' ⊢
  generalize clS g 0 40 = G at hI' hlo hk ⊢
  refine ⟨⟨hI', fun q1 q2 x1 x2 w e => ?_, fun w => ?_, ?_⟩, k_0.symm⟩
  · rw [gu_ne (by omega), gu_ne (by omega), hlo _ (by omega), hlo _ (by omega)] at e
    rw [gu_ne (by omega), hlo _ (by omega)]
    exact hD q1 q2 x1 x2 w e
  · rw [gu_ne (by omega), hlo _ (by omega)] at w
    omega
  · rw [gu_ne (by omega), gu_ne (by omega), tot_gu (by omega), hlo _ (by omega), hT]
    exact hk.symm
theorem ac_close (hR : RC h s) (hS : SI s) (hL : LI s.g) : OK (if 5 ≤ nI (s.g 19) then (fL_acts_j799 (nI (s.g 19)) h) else ((f7_ofRing (nI (s.g 19)) 2 h).bind fun c71 => if c71.1 = 1 then (fL_acts_j800 (nI (s.g 19)) 1 c71.2) else (fL_acts_j799 (nI (s.g 19)) c71.2))) := by
  have hI := hS.1
  have h19 : s.g 19 ≤ 5 := hI.2.2.2.2.2.2.1
  obtain ⟨hI0, hD, h20, hT⟩ := id hL
  obtain ⟨h1, s1, a1, a2, a3, a4⟩ := do_close hR hS
  unfold cloS at a1 a4
  -- no ring is closed
  have e799 : (s.g 19 = 5 ∨ wh s.g (s.g 19) = false) → OK (fL_acts_j799 (nI (s.g 19)) h) := by
    intro z
    rw [if_pos z] at a1 a4
    dsimp only at a1 a4
    have hL1 : LI s1.g := by rw [a4]; exact hL
    unfold fL_acts_j799 fL_acts_j800 fL_acts_j818
    rw [a1, bsm]
    dsimp only
    rw [if_pos rfl, if_pos rfl]
    by_cases y : s.g 19 = 5
    · rw [if_pos (by rw [y]; rfl)]
      exact OK_rz a2 a3 hL1
    · rw [if_neg (by rw [k_5, nI_eqU (by omega) (by omega)]; exact y)]
      obtain ⟨h2, s2, b1, b2, b3, b4⟩ := do_sweep a2 a3
      unfold sweS at b1 b4
      rw [if_pos (by rw [a4]; omega)] at b1 b4
      dsimp only at b1 b4
      unfold fL_acts_j846 fL_acts_j848
      rw [b1, bsm]
      dsimp only
      rw [if_pos rfl, if_pos rfl]
      exact OK_rz b2 b3 (by rw [b4]; exact hL1)
  by_cases z5 : s.g 19 = 5
  · rw [if_pos (by rw [z5]; decide +kernel)]
    exact e799 (Or.inl z5)
  · rw [if_neg (by rw [k_5, nI_leU (by omega) (by omega)]; omega), rg_2 hR.1 hI (by omega), bsm]
    dsimp only
    by_cases zw : wh s.g (s.g 19) = false
    · rw [zw, if_neg (by decide)]
      exact e799 (Or.inr zw)
    · have zt : wh s.g (s.g 19) = true := by
        cases a : wh s.g (s.g 19)
        · exact absurd a zw
        · rfl
      have zz : ¬ (s.g 19 = 5 ∨ wh s.g (s.g 19) = false) := fun w => w.elim z5 zw
      rw [if_neg zz] at a1 a4
      dsimp only at a1 a4
      have lo : ∀ j, j ≠ 19 → s1.g j = s.g j := fun j hj => by rw [a4, gu_ne hj]
      have e19 : s1.g 19 = s.g 19 + 1 := by rw [a4, gu_s]
      have hL1 : LI s1.g := by
        refine ⟨a3.1, fun q1 q2 x1 x2 w e => ?_, fun w => ?_, ?_⟩
        · rw [lo _ (by omega), lo _ (by omega)] at e
          rw [lo _ (by omega)]
          exact hD q1 q2 x1 x2 w e
        · rw [lo 20 (by omega)]
          exact h20 (by omega)
        · rw [lo 22 (by omega), lo 23 (by omega), hT, a4, tot_gu (by omega)]
      rw [zt, if_pos bI_t]
      unfold fL_acts_j800 fL_acts_j818
      rw [a1, bsm]
      dsimp only
      rw [if_neg (by decide), if_pos rfl, if_neg (by rw [k_5, nI_eqU (by omega) (by omega)]; exact z5)]
      obtain ⟨h2, s2, b1, b2, b3, b4⟩ := do_sweep a2 a3
      by_cases y : s.g 19 = 4
      · obtain ⟨l1, l2⟩ := swe_LI hL1 (by omega) (by rw [lo 20 (by omega)]; exact h20 (by omega))
        rw [l2] at b1
        unfold fL_acts_j848
        rw [b1, bsm]
        dsimp only
        rw [if_neg (by decide), if_pos (by rw [y]; rfl), if_pos rfl]
        exact OK_rz b2 b3 (by rw [b4]; exact l1)
      · unfold sweS at b1 b4
        rw [if_pos (by omega)] at b1 b4
        dsimp only at b1 b4
        unfold fL_acts_j846 fL_acts_j848
        rw [b1, bsm]
        dsimp only
        rw [if_neg (by decide), if_neg (by rw [k_4, nI_eqU (by omega) (by omega)]; exact y), if_pos rfl]
        exact OK_rz b2 b3 (by rw [b4]; exact hL1)
end S48
