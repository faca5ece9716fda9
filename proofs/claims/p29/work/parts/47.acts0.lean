/-! an act: what each change answers and leaves -/
section S47
variable {h : Hp} {s : St} {g : GS}
theorem chg_g {v : Int32} {g' : GS} (hn : v < 0 → g' = s.g) : (chg s v g').g = g' := by
  unfold chg
  by_cases z : v < 0
  · rw [if_pos z, hn z]
  · rw [if_neg z]
    unfold push
    split <;> rfl
def OK (o : Re) : Prop := ∃ h' s', o = some (1, h') ∧ RC h' s' ∧ SI s' ∧ LI s'.g
theorem OK_rz (hR : RC h s) (hS : SI s) (hL : LI s.g) : OK (rz 1 h) := ⟨h, s, rz_1 h, hR, hS, hL⟩
abbrev DO (h : Hp) (f : Hp → Re) (r : Int32 × GS) : Prop := ∃ h' s', f h = some (r.1, h') ∧ RC h' s' ∧ SI s' ∧ s'.g = r.2
theorem DO_of {f : Hp → Re} {r : Int32 × GS} (hS : SI s) (hc : CT h s f r) (hI : IV r.2) (hn : r.1 < 0 → r.2 = s.g) : DO h f r := by
  obtain ⟨h', a, b, _⟩ := hc
  exact ⟨h', chg s r.1 r.2, a, b, SI_chg hS hI, chg_g hn⟩
theorem do_take (hR : RC h s) (hS : SI s) (x1 x2 : Int32) : DO h (f7_take x1 x2) (takS s.g x1 x2) := DO_of hS (t7_take hR hS x1 x2) (I_take hS.1 x1 x2) (neg_take hS.1 x1 x2)
theorem do_pour (hR : RC h s) (hS : SI s) (x1 x2 x3 x4 : Int32) : DO h (f7_pour x1 x2 x3 x4) (pouS s.g x1 x2 x3 x4) := DO_of hS (t7_pour hR hS x1 x2 x3 x4) (I_pour hS.1 x1 x2 x3 x4) (neg_pour x1 x2 x3 x4)
theorem do_scrape (hR : RC h s) (hS : SI s) (x1 x2 x3 : Int32) : DO h (f7_scrape x1 x2 x3) (scrS s.g x1 x2 x3) := DO_of hS (t7_scrape hR hS x1 x2 x3) (I_scrape hS.1 x1 x2 x3) (neg_scrape hS.1 x1 x2 x3)
theorem do_breathe (hR : RC h s) (hS : SI s) (x1 x2 : Int32) : DO h (f7_breathe x1 x2) (breS s.g x1 x2) := DO_of hS (t7_breathe hR hS x1 x2) (I_breathe hS.1 x1 x2) (neg_breathe hS.1 x1 x2)
theorem do_pattern (hR : RC h s) (hS : SI s) (x1 x2 : Int32) : DO h (f7_pattern x1 x2) (patS s.g x1 x2) := DO_of hS (t7_pattern hR hS x1 x2) (I_pattern hS.1 x1 x2) (neg_pattern x1 x2)
theorem do_fill (hR : RC h s) (hS : SI s) (x1 x2 : Int32) : DO h (f7_fill x1 x2) (filS s.g x1 x2) := DO_of hS (t7_fill hR hS x1 x2) (I_fill hS.1 x1 x2) (neg_fill x1 x2)
theorem do_set (hR : RC h s) (hS : SI s) (x1 x2 : Int32) : DO h (f7_set x1 x2) (setS s.g x1 x2) := DO_of hS (t7_set hR hS x1 x2) (I_set hS.1 x1 x2) (neg_set hS.1 x1 x2)
theorem do_close (hR : RC h s) (hS : SI s) : DO h f7_close (cloS s.g) := DO_of hS (t7_close hR hS) (I_close hS.1) (neg_close hS.1)
theorem do_sweep (hR : RC h s) (hS : SI s) : DO h f7_sweep (sweS s.g) := DO_of hS (t7_sweep hR hS) (I_sweep hS.1) (neg_sweep hS.1)
/-! take -/
theorem tak_eq (g : GS) {q c : Nat} (hq : q < 4) (c1 : 1 ≤ c) (c6 : c ≤ 6) : takS g (nI q) (nI c) = if hd g c ≠ 4 ∧ hd g c ≠ q then (-5, g) else (nI (g (15 + q)), gu g (15 + q) c) := by
  unfold takS
  rw [inR_nI hq (by omega), inR_nI (show c < 7 by omega) (by omega), sT, sT, tN_nI (by omega), tN_nI (by omega)]
  by_cases z : hd g c ≠ 4 ∧ hd g c ≠ q
  · rw [if_pos z, if_pos ⟨by omega, z.1, z.2⟩]
  · rw [if_neg z, if_neg (fun w => z ⟨w.2.1, w.2.2⟩)]
theorem LI_take (hL : LI g) {q c : Nat} (hq : q < 4) (c1 : 1 ≤ c) (c6 : c ≤ 6) (hc : ¬ (hd g c ≠ 4 ∧ hd g c ≠ q)) : LI (gu g (15 + q) c) ∧ hd (gu g (15 + q) c) c = q := by
  obtain ⟨hI, hD, h20, hT⟩ := hL
  have hI' : IV (gu g (15 + q) c) := by
    have := I_take hI (nI q) (nI c)
    rw [tak_eq g hq c1 c6, if_neg hc] at this
    exact this
  have hno : ∀ q', q' < 4 → q' ≠ q → g (15 + q') ≠ c := by
    intro q' hq' w y
    by_cases z : hd g c = 4
    · exact hd_none z hq' y
    · have e := hd_of hD hq' y (by omega)
      exact hc ⟨z, by omega⟩
  have hD' : DI (gu g (15 + q) c) := by
    intro q1 q2 h1 h2 w e
    by_cases z1 : q1 = q
    · rw [z1, gu_s, gu_ne (by omega)] at e
      exact absurd e.symm (hno q2 h2 (by omega))
    · by_cases z2 : q2 = q
      · rw [z2, gu_s, gu_ne (by omega)] at e
        exact absurd e (hno q1 h1 z1)
      · rw [gu_ne (by omega), gu_ne (by omega)] at e
        rw [gu_ne (by omega)]
        exact hD q1 q2 h1 h2 w e
  refine ⟨⟨hI', hD', ?_, ?_⟩, hd_of hD' hq (gu_s _ _ _) (by omega)⟩
  · rw [gu_ne (by omega), gu_ne (by omega)]; exact h20
  · rw [gu_ne (by omega), gu_ne (by omega), tot_gu (by omega)]; exact hT
theorem ac_take (hR : RC h s) (hS : SI s) (hL : LI s.g) {q c : Nat} (hq : q < 4) (c1 : 1 ≤ c) (c6 : c ≤ 6) : OK ((f7_ofColour (nI c) 1 h).bind fun c7 => (f7_take (nI q) (nI c) c7.2).bind fun c9 => if c7.1 = (-6) then (fL_acts_j185 (nI q) (nI (s.g (15 + q))) (nI c) c9.1 c9.2) else (if c7.1 = nI q then (fL_acts_j185 (nI q) (nI (s.g (15 + q))) (nI c) c9.1 c9.2) else (if c9.1 = (-5) then (rz 1 c9.2) else (rz 0 c9.2)))) := by
  have hI := hS.1
  have hle := hd_le s.g c
  obtain ⟨h1, s1, a1, a2, a3, a4⟩ := do_take hR hS (nI q) (nI c)
  rw [tak_eq s.g hq c1 c6] at a1 a4
  rw [oc_1 hR.1 hI c1 c6, bsm]
  dsimp only
  rw [a1, bsm]
  dsimp only
  by_cases z : hd s.g c ≠ 4 ∧ hd s.g c ≠ q
  · rw [if_pos z] at a4
    rw [if_pos z, if_neg z.1, if_neg (by rw [k_m6, nI_eqU (by omega) (by omega)]; omega), if_neg (by rw [nI_eqU (by omega) (by omega)]; exact z.2), if_pos rfl]
    exact OK_rz a2 a3 (by rw [a4]; exact hL)
  · rw [if_neg z] at a4
    dsimp only at a4
    obtain ⟨l1, l2⟩ := LI_take hL hq c1 c6 z
    rw [if_neg z]
    dsimp only
    have e185 : OK (fL_acts_j185 (nI q) (nI (s.g (15 + q))) (nI c) (nI (s.g (15 + q))) h1) := by
      have e := oc_1 a2.1 a3.1 c1 c6
      rw [a4, l2, if_neg (by omega)] at e
      unfold fL_acts_j185
      rw [if_pos rfl, e, bsm]
      dsimp only
      rw [if_pos rfl]
      exact OK_rz a2 a3 (by rw [a4]; exact l1)
    by_cases y : hd s.g c = 4
    · rw [if_pos y, if_pos rfl]
      exact e185
    · have y2 : hd s.g c = q := Classical.byContradiction (fun w => z ⟨y, w⟩)
      rw [if_neg y, if_neg (by rw [k_m6, nI_eqU (by omega) (by omega)]; omega), if_pos (by rw [y2])]
      exact e185
/-! pour -/
theorem pou_eq (g : GS) {q r p n : Nat} (hq : q < 4) (hr : r < 5) (hp : p < 8) (n1 : 1 ≤ n) (n9 : n ≤ 99) : pouS g (nI q) (nI r) (nI p) (nI n) = if g (15 + q) = 0 ∨ r < g 19 ∨ ¬ (co g q r p = 0 ∨ co g q r p = g (15 + q)) ∨ g (8 + g (15 + q)) < n then (-5, g) else if 99 < gr g q r p + n then (-4, g) else (nI (gr g q r p + n), gu (gu (hpS g q r p (g (15 + q)) (gr g q r p + n)) (8 + g (15 + q)) (g (8 + g (15 + q)) - n)) 22 (g 22 + n)) := by
  unfold pouS
  rw [inR_nI hq (by omega), inR_nI hr (by omega), inR_nI hp (by omega), t3, sT, inC_nI n1 n9 (by omega), sT, tN_nI (by omega), tN_nI (by omega), tN_nI (by omega), tN_nI (by omega)]
theorem ac_pour0 (hR : RC h s) (hS : SI s) (hL : LI s.g) {q r p n : Nat} (hq : q < 4) (hr : r < 5) (hp : p < 8) (n1 : 1 ≤ n) (n9 : n ≤ 99) (x5 x7 x14 : Int32) (hc : s.g (15 + q) = 0 ∨ r < s.g 19 ∨ ¬ (co s.g q r p = 0 ∨ co s.g q r p = s.g (15 + q)) ∨ s.g (8 + s.g (15 + q)) < n) : OK (fL_acts_j271 (nI q) (nI r) (nI p) x5 x7 (nI n) x14 h) := by
  obtain ⟨h1, s1, a1, a2, a3, a4⟩ := do_pour hR hS (nI q) (nI r) (nI p) (nI n)
  rw [pou_eq s.g hq hr hp n1 n9, if_pos hc] at a1 a4
  unfold fL_acts_j271 fL_acts_j272
  rw [a1, bsm]
  dsimp only
  rw [if_pos rfl, if_pos rfl]
  exact OK_rz a2 a3 (by rw [a4]; exact hL)
theorem ac_pour1 (hR : RC h s) (hS : SI s) (hL : LI s.g) {q r p n : Nat} (hq : q < 4) (hr : r < 5) (hp : p < 8) (n1 : 1 ≤ n) (n9 : n ≤ 99) (hc : ¬ (s.g (15 + q) = 0 ∨ r < s.g 19 ∨ ¬ (co s.g q r p = 0 ∨ co s.g q r p = s.g (15 + q)) ∨ s.g (8 + s.g (15 + q)) < n)) : OK (fL_acts_j272 (nI q) (nI r) (nI p) (nI (s.g (15 + q))) (nI (gr s.g q r p)) (nI n) (nI (s.g (8 + s.g (15 + q)))) 1 h) := by
  have hI := hS.1
  have b1 := gr_lt hI hq hr hp
  have b2 := gb hI hq
  obtain ⟨hI0, hD, h20, hT⟩ := id hL
  obtain ⟨h1, s1, a1, a2, a3, a4⟩ := do_pour hR hS (nI q) (nI r) (nI p) (nI n)
  rw [pou_eq s.g hq hr hp n1 n9, if_neg hc] at a1 a4
  unfold fL_acts_j272
  rw [a1, bsm]
  dsimp only
  rw [if_neg (by decide), nI_add]
  by_cases z : 99 < gr s.g q r p + n
  · rw [if_pos z] at a4
    rw [if_neg (by rw [k_99, nI_leU (by omega) (by omega)]; omega), if_pos z, if_pos rfl]
    exact OK_rz a2 a3 (by rw [a4]; exact hL)
  · have f0 : s.g (15 + q) ≠ 0 := fun w => hc (Or.inl w)
    have fb2 : n ≤ s.g (8 + s.g (15 + q)) := Nat.le_of_not_lt (fun w => hc (Or.inr (Or.inr (Or.inr w))))
    rw [if_neg z] at a4
    dsimp only at a4
    rw [if_neg z]
    dsimp only
    rw [if_pos (by rw [k_99, nI_leU (by omega) (by omega)]; omega), if_pos rfl]
    have e1 : co s1.g q r p = s.g (15 + q) := by
      rw [a4, co_gu (by omega), co_gu (by omega), hpS_co _ hq hr hp hq hr hp, if_pos ⟨rfl, rfl, rfl⟩, if_neg (by omega)]
    have e2 : s1.g (8 + s.g (15 + q)) = s.g (8 + s.g (15 + q)) - n := by
      rw [a4, gu_ne (by omega), gu_s]
    have e3 := at_0 a2.1 hq hr hp
    rw [e1] at e3
    have e4 := oc_0 a2.1 (show 1 ≤ s.g (15 + q) by omega) b2
    rw [e2] at e4
    rw [e3, bsm]
    dsimp only
    rw [if_pos rfl, e4, bsm]
    dsimp only
    rw [if_pos (by rw [nI_subU fb2])]
    refine OK_rz a2 a3 ?_
    have hI1 := a3.1
    have lo : ∀ j, j < 24 → j ≠ 22 → j ≠ 8 + s.g (15 + q) → s1.g j = s.g j := fun j x1 x2 x3 => by rw [a4, gu_ne x2, gu_ne x3, hpS_lo _ x1]
    have e22 : s1.g 22 = s.g 22 + n := by rw [a4, gu_s]
    have et : tot s1.g = tot s.g + n := by
      rw [a4, tot_gu (by omega), tot_gu (by omega)]
      have := tot_hp (g := s.g) (c := s.g (15 + q)) (n := gr s.g q r p + n) hq hr hp
      omega
    refine ⟨hI1, fun q1 q2 x1 x2 w e => ?_, fun w => ?_, ?_⟩
    · rw [lo _ (by omega) (by omega) (by omega), lo _ (by omega) (by omega) (by omega)] at e
      rw [lo _ (by omega) (by omega) (by omega)]
      exact hD q1 q2 x1 x2 w e
    · rw [lo 19 (by omega) (by omega) (by omega)] at w
      rw [lo 20 (by omega) (by omega) (by omega)]
      exact h20 w
    · rw [e22, lo 23 (by omega) (by omega) (by omega), et]
      omega
theorem ac_pour (hR : RC h s) (hS : SI s) (hL : LI s.g) {q r p n : Nat} (hq : q < 4) (hr : r < 5) (hp : p < 8) (n1 : 1 ≤ n) (n9 : n ≤ 99) : OK (if nI (s.g (15 + q)) = 0 then (fL_acts_j236 (nI q) (nI r) (nI p) (nI (s.g (15 + q))) (nI (co s.g q r p)) (nI (gr s.g q r p)) (bI (decide (s.g 19 ≤ r))) (nI n) 0 h) else ((f7_ofColour (nI (s.g (15 + q))) 0 h).bind fun c4 => fL_acts_j236 (nI q) (nI r) (nI p) (nI (s.g (15 + q))) (nI (co s.g q r p)) (nI (gr s.g q r p)) (bI (decide (s.g 19 ≤ r))) (nI n) c4.1 c4.2)) := by
  have hI := hS.1
  have b1 := gr_lt hI hq hr hp
  have b2 := gb hI hq
  have b3 := co_lt hI hq hr hp
  have b4 := co_0 hI hq hr hp
  by_cases z0 : s.g (15 + q) = 0
  · rw [if_pos ((nz_0 (by omega)).mpr z0)]
    unfold fL_acts_j236
    rw [if_pos (by rw [z0]; decide +kernel)]
    exact ac_pour0 hR hS hL hq hr hp n1 n9 _ _ _ (Or.inl z0)
  · have b5 := fb hI (show 1 ≤ s.g (15 + q) by omega) b2
    rw [if_neg (fun w => z0 ((nz_0 (by omega)).mp w)), oc_0 hR.1 (by omega) b2, bsm]
    dsimp only
    unfold fL_acts_j236
    rw [if_neg (by rw [k_0, nI_leU (by omega) (by omega)]; omega)]
    by_cases z1 : s.g 19 ≤ r
    · rw [if_neg (by rw [decide_eq_true z1]; decide)]
      have e260 : (co s.g q r p = 0 ∨ co s.g q r p = s.g (15 + q)) → OK (fL_acts_j260 (nI q) (nI r) (nI p) (nI (s.g (15 + q))) (nI (gr s.g q r p)) (nI n) (nI (s.g (8 + s.g (15 + q)))) h) := by
        intro y
        unfold fL_acts_j260
        by_cases z2 : s.g (8 + s.g (15 + q)) < n
        · rw [if_pos (by rw [nI_ltU (by omega) (by omega)]; exact z2)]
          exact ac_pour0 hR hS hL hq hr hp n1 n9 _ _ _ (Or.inr (Or.inr (Or.inr z2)))
        · rw [if_neg (by rw [nI_ltU (by omega) (by omega)]; exact z2)]
          exact ac_pour1 hR hS hL hq hr hp n1 n9 (by
            rintro (w | w | w | w)
            · exact z0 w
            · omega
            · exact w y
            · exact z2 w)
      by_cases z2 : gr s.g q r p = 0
      · rw [if_pos ((nz_0 (by omega)).mpr z2)]
        exact e260 (Or.inl (b4.mpr z2))
      · rw [if_neg (fun w => z2 ((nz_0 (by omega)).mp w))]
        by_cases z3 : co s.g q r p = s.g (15 + q)
        · rw [if_pos (by rw [z3])]
          exact e260 (Or.inr z3)
        · rw [if_neg (by rw [nI_eqU (by omega) (by omega)]; exact z3)]
          exact ac_pour0 hR hS hL hq hr hp n1 n9 _ _ _ (Or.inr (Or.inr (Or.inl (fun w => w.elim (fun w => z2 (b4.mp w)) z3))))
    · rw [if_pos (by rw [decide_eq_false z1]; decide)]
      exact ac_pour0 hR hS hL hq hr hp n1 n9 _ _ _ (Or.inr (Or.inl (by omega)))
/-! scrape -/
theorem scr_eq (g : GS) {q r p : Nat} (hq : q < 4) (hr : r < 5) (hp : p < 8) : scrS g (nI q) (nI r) (nI p) = if r < g 19 ∨ gr g q r p = 0 then (-5, g) else (nI (gr g q r p), gu (hpS g q r p 0 0) 23 (g 23 + gr g q r p)) := by
  unfold scrS
  rw [inR_nI hq (by omega), inR_nI hr (by omega), inR_nI hp (by omega), t3, sT, tN_nI (by omega), tN_nI (by omega), tN_nI (by omega)]
theorem ac_scrape (hR : RC h s) (hS : SI s) (hL : LI s.g) {q r p : Nat} (hq : q < 4) (hr : r < 5) (hp : p < 8) : OK ((f7_scrape (nI q) (nI r) (nI p) h).bind fun c18 => if bI (decide (s.g 19 ≤ r)) = 0 then (fL_acts_j396 c18.1 c18.2) else (if nI (gr s.g q r p) = 0 then (fL_acts_j396 c18.1 c18.2) else (if c18.1 = nI (gr s.g q r p) then ((f7_count 3 c18.2).bind fun c23 => if c23.1 = (nI (s.g 23) + nI (gr s.g q r p)) then ((f7_at (nI q) (nI r) (nI p) 0 c23.2).bind fun c26 => if c26.1 = 0 then (rz 1 c26.2) else (rz 0 c26.2)) else (rz 0 c23.2)) else (rz 0 c18.2)))) := by
  have hI := hS.1
  have b1 := gr_lt hI hq hr hp
  obtain ⟨hI0, hD, h20, hT⟩ := id hL
  obtain ⟨h1, s1, a1, a2, a3, a4⟩ := do_scrape hR hS (nI q) (nI r) (nI p)
  rw [scr_eq s.g hq hr hp] at a1 a4
  rw [a1, bsm]
  dsimp only
  have e396 : (r < s.g 19 ∨ gr s.g q r p = 0) → OK (fL_acts_j396 (if r < s.g 19 ∨ gr s.g q r p = 0 then ((-5 : Int32), s.g) else (nI (gr s.g q r p), gu (hpS s.g q r p 0 0) 23 (s.g 23 + gr s.g q r p))).1 h1) := by
    intro z
    rw [if_pos z] at a4
    rw [if_pos z]
    unfold fL_acts_j396
    rw [if_pos rfl]
    exact OK_rz a2 a3 (by rw [a4]; exact hL)
  by_cases z1 : s.g 19 ≤ r
  · rw [if_neg (by rw [decide_eq_true z1]; decide)]
    by_cases z2 : gr s.g q r p = 0
    · rw [if_pos ((nz_0 (by omega)).mpr z2)]
      exact e396 (Or.inr z2)
    · have z : ¬ (r < s.g 19 ∨ gr s.g q r p = 0) := by omega
      rw [if_neg z] at a4
      dsimp only at a4
      rw [if_neg (fun w => z2 ((nz_0 (by omega)).mp w)), if_neg z]
      dsimp only
      have lo : ∀ j, j < 24 → j ≠ 23 → s1.g j = s.g j := fun j x1 x2 => by rw [a4, gu_ne x2, hpS_lo _ x1]
      have e23 : s1.g 23 = s.g 23 + gr s.g q r p := by rw [a4, gu_s]
      have e1 : co s1.g q r p = 0 := by rw [a4, co_gu (by omega), hpS_co _ hq hr hp hq hr hp, if_pos ⟨rfl, rfl, rfl⟩, if_pos rfl]
      have e3 := at_0 a2.1 hq hr hp
      rw [e1] at e3
      have e4 := ct_3 a2.1
      rw [e23] at e4
      rw [if_pos rfl, e4, bsm]
      dsimp only
      rw [if_pos (by rw [nI_add]), e3, bsm]
      dsimp only
      rw [if_pos (by rw [k_0])]
      refine OK_rz a2 a3 ⟨a3.1, fun q1 q2 x1 x2 w e => ?_, fun w => ?_, ?_⟩
      · rw [lo _ (by omega) (by omega), lo _ (by omega) (by omega)] at e
        rw [lo _ (by omega) (by omega)]
        exact hD q1 q2 x1 x2 w e
      · rw [lo 19 (by omega) (by omega)] at w
        rw [lo 20 (by omega) (by omega)]
        exact h20 w
      · have et : tot s1.g + gr s.g q r p = tot s.g := by
          rw [a4, tot_gu (by omega)]
          exact tot_hp (g := s.g) (c := 0) (n := 0) hq hr hp
        rw [e23, lo 22 (by omega) (by omega)]
        omega
  · rw [if_pos (by rw [decide_eq_false z1]; decide)]
    exact e396 (Or.inl (by omega))
end S47
