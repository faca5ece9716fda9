/-! history: the model's side -/
section S14
variable {h : Hp} {s : St}
theorem f8_hold_g (h : Hp) : ∃ h', f8_hold h = some (0, h') ∧ (∀ j, j < 383 → h' 14 j = h 13 j) ∧ (∀ c, c ≠ 14 → h' c = h c) := by
  obtain ⟨h', a1, a2, a3, a4⟩ := cp_hold 383 0 FU h (by omega) (by unfold FU; omega)
  unfold f8_hold f8_hold_e
  exact ⟨h', by rw [k_0, a1, k_0], fun j hj => a2 j (by omega) hj, a4⟩
theorem mrec_neg {v : Int32} (hv : v < 0) : f8_recorded v h = some (v, h) := by
  unfold f8_recorded f8_recorded_e
  rw [if_pos hv]
theorem mrec_pos {v : Int32} (hv : ¬ v < 0) {g' : GS} (hM : MR (h 13) g') (hW : MR (h 14) s.g) (hH : HM h s) (hP : PM h s) (hn : s.n ≤ 6) : ∃ h', f8_recorded v h = some (v, h') ∧ RM h' (push s g') ∧ MF h h' := by
  obtain ⟨b1, b2, b3⟩ := hH
  unfold f8_recorded f8_recorded_e push
  rw [if_neg hv]
  by_cases z : s.n < 6
  · rw [if_neg (by rw [b1, k_6, nI_eqU (by omega) (by omega)]; omega), if_pos z]
    obtain ⟨h1, a1, a2, a3, a4⟩ := cp_rec v z 383 0 FU h (by omega) (by unfold FU; omega) b1
    rw [k_0, a1, a4 12 (by omega), b1, k_1, nI_add]
    refine ⟨_, rfl, ⟨?_, ⟨?_, fun i hi => ?_, fun i hi => ?_⟩, ?_, fun i hi => ?_⟩, fun b hb => by rw [hu_n _ _ _ _ (by omega), a4 b (by omega)]⟩
    · rw [hu_n _ _ _ _ (by omega), a4 13 (by omega)]; exact hM
    · rw [hu_s]; unfold upd; rw [if_pos rfl]; rfl
    · replace hi : i < s.n + 1 := hi
      show rwM _ i (if i = s.n then s.g else s.H i)
      rw [hu_n _ _ _ _ (by omega)]
      by_cases y : i = s.n
      · rw [if_pos y, y]
        exact MR_eq hW (fun j hj => a2 j (by omega) hj)
      · rw [if_neg y]
        exact MR_eq (b2 i (by omega)) (fun j hj => a3 _ (by omega))
    · rw [hu_n _ _ _ _ (by omega), hu_n _ _ _ _ (by omega), a4 18 (by omega), a4 17 (by omega)]
      exact b3 i hi
    · rw [hu_s]; unfold upd; rw [if_neg (by omega), a4 12 (by omega)]; exact hP.1
    · rw [hu_n _ _ _ _ (by omega), a4 21 (by omega)]; exact hP.2 i hi
  · have hn6 : s.n = 6 := by omega
    rw [if_pos (by rw [b1, hn6, k_6]), if_neg z]
    obtain ⟨h1, a1, a2, a3, a4⟩ := cp_shift v 1915 0 FU h (by omega) (by unfold FU; omega)
    have e5 : h1 12 10 - 1 = nI 5 := by rw [a4 12 (by omega), b1, hn6, k_1, nI_subU (by omega)]
    rw [k_0, a1, e5]
    obtain ⟨h2, d1, d2, d3, d4⟩ := cp_rec v (a := 5) (by omega) 383 0 FU (hu h1 12 10 (nI 5)) (by omega) (by unfold FU; omega) (by rw [hu_s]; unfold upd; rw [if_pos rfl])
    have e6 : h2 12 10 = nI 5 := by rw [d4 12 (by omega), hu_s]; unfold upd; rw [if_pos rfl]
    have ec : ∀ c, c ≠ 12 → c ≠ 16 → h2 c = h c := fun c x1 x2 => by rw [d4 c x2, hu_n _ _ _ _ x1, a4 c x2]
    have e16 : ∀ j, j < 1915 → h2 16 j = h 16 (383 + j) := fun j hj => by rw [d3 _ (by omega), hu_n _ _ _ _ (by omega), a2 j (by omega) hj]
    rw [k_0, d1, e6, k_1, nI_add]
    refine ⟨_, rfl, ⟨?_, ⟨?_, fun i hi => ?_, fun i hi => ?_⟩, ?_, fun i hi => ?_⟩, fun b hb => by rw [hu_n _ _ _ _ (by omega), ec b (by omega) (by omega)]⟩
    · rw [hu_n _ _ _ _ (by omega), ec 13 (by omega) (by omega)]; exact hM
    · rw [hu_s]; unfold upd; rw [if_pos rfl]; show nI 6 = nI s.n; rw [hn6]
    · replace hi : i < s.n := hi
      show rwM _ i (if i = 5 then s.g else s.H (i + 1))
      rw [hu_n _ _ _ _ (by omega)]
      by_cases y : i = 5
      · rw [if_pos y, y]
        exact MR_eq hW (fun j hj => by rw [d2 j (by omega) hj, hu_n _ _ _ _ (by omega), a4 14 (by omega)])
      · rw [if_neg y]
        refine MR_eq (b2 (i + 1) (by omega)) (fun j hj => ?_)
        rw [e16 _ (by omega)]
        exact congrArg (h 16) (by omega)
    · rw [hu_n _ _ _ _ (by omega), hu_n _ _ _ _ (by omega), ec 18 (by omega) (by omega), ec 17 (by omega) (by omega)]
      exact b3 i hi
    · rw [hu_s]; unfold upd; rw [if_neg (by omega), d4 12 (by omega), hu_s]; unfold upd; rw [if_neg (by omega), a4 12 (by omega)]; exact hP.1
    · rw [hu_n _ _ _ _ (by omega), ec 21 (by omega) (by omega)]; exact hP.2 i hi
theorem HM_eq {h h' : Hp} (hH : HM h s) (e12 : h' 12 = h 12) (e16 : h' 16 = h 16) (e17 : h' 17 = h 17) (e18 : h' 18 = h 18) : HM h' s := by
  unfold HM rwM; rw [e12, e16, e17, e18]; exact hH
theorem PM_eq {h h' : Hp} (hH : PM h s) (e12 : h' 12 = h 12) (e21 : h' 21 = h 21) : PM h' s := by
  unfold PM; rw [e12, e21]; exact hH
/-- what holding leaves -/
theorem hold_R (hR : RM h s) : ∃ h', f8_hold h = some (0, h') ∧ RM h' s ∧ MR (h' 14) s.g ∧ (∀ c, c ≠ 14 → h' c = h c) := by
  obtain ⟨h1, a1, a2, a3⟩ := f8_hold_g h
  exact ⟨h1, a1, ⟨by rw [a3 13 (by omega)]; exact hR.1, HM_eq hR.2.1 (a3 12 (by omega)) (a3 16 (by omega)) (a3 17 (by omega)) (a3 18 (by omega)), PM_eq hR.2.2 (a3 12 (by omega)) (a3 21 (by omega))⟩, MR_eq hR.1 a2, a3⟩
/-- the end of a change of the model -/
theorem M_rec {h1 h2 : Hp} {v : Int32} {g' : GS} (hR : RM h1 s) (hS : SI s) (hW : MR (h1 14) s.g) (hM : MR (h2 13) g') (hF : FM h1 h2) (hv : v < 0 → g' = s.g) : ∃ h', f8_recorded v h2 = some (v, h') ∧ RM h' (chg s v g') ∧ MF h2 h' := by
  have H2 : HM h2 s := HM_eq hR.2.1 (hF 12 (by omega) (by omega)) (hF 16 (by omega) (by omega)) (hF 17 (by omega) (by omega)) (hF 18 (by omega) (by omega))
  have P2 : PM h2 s := PM_eq hR.2.2 (hF 12 (by omega) (by omega)) (hF 21 (by omega) (by omega))
  have W2 : MR (h2 14) s.g := by rw [hF 14 (by omega) (by omega)]; exact hW
  unfold chg
  by_cases z : v < 0
  · rw [if_pos z]
    rw [hv z] at hM
    exact ⟨h2, mrec_neg z, ⟨hM, H2, P2⟩, MF.rf _⟩
  · rw [if_neg z]
    exact mrec_pos z hM W2 H2 P2 hS.2.1
theorem M_change {op : Hp → Re} {v : Int32} {g' : GS} (hR : RM h s) (hS : SI s) (hop : ∀ h, MR (h 13) s.g → ∃ h', op h = some (v, h') ∧ MR (h' 13) g' ∧ FM h h') (hv : v < 0 → g' = s.g) : ∃ h', ((f8_hold h).bind fun c1 => (op c1.2).bind fun c3 => (f8_recorded c3.1 c3.2).bind fun c5 => some (c5.1, c5.2)) = some (v, h') ∧ RM h' (chg s v g') ∧ MF h h' := by
  obtain ⟨h1, a1, a2, a3, a4⟩ := hold_R hR
  obtain ⟨h2, b1, b2, b3⟩ := hop h1 a2.1
  obtain ⟨h3, c1, c2, c3⟩ := M_rec a2 hS a3 b2 b3 hv
  rw [a1, bsm]
  dsimp only
  rw [b1, bsm]
  dsimp only
  rw [c1, bsm]
  exact ⟨h3, rfl, c2, fun b hb => by rw [c3 b hb, b3 b (by omega) (by omega), a4 b (by omega)]⟩
/-! undo -/
def undS (s : St) : Int32 × St := if s.n = 0 then (-5, s) else (nI (s.n - 1), (s.H (s.n - 1), s.n - 1, s.H, s.sv, s.S, s.m, s.P))
theorem SI_undo (hS : SI s) : SI (undS s).2 := by
  obtain ⟨a1, a2, a3, a4, a5, a6⟩ := hS
  unfold undS
  by_cases z : s.n = 0
  · rw [if_pos z]; exact ⟨a1, a2, a3, a4, a5, a6⟩
  · rw [if_neg z]
    exact ⟨a3 _ (by omega), show s.n - 1 ≤ 6 by omega, fun i hi => a3 i (show i < s.n by have : i < s.n - 1 := hi; omega), a4, a5, a6⟩
theorem C_undo (hR : RC h s) (hS : SI s) : ∃ h', f7_undo h = some ((undS s).1, h') ∧ RC h' (undS s).2 ∧ CF h h' := by
  obtain ⟨hC, ⟨o, b1, b2, b3, b4, b5, b6⟩, hP⟩ := hR
  have hn := hS.2.1
  unfold f7_undo f7_undo_e f2_goBack f2_goBack_e undS
  by_cases z : s.n = 0
  · rw [if_pos (by rw [b3, z, k_0]), if_pos z, bsm]
    exact ⟨h, rfl, ⟨hC, ⟨o, b1, b2, b3, b4, b5, b6⟩, hP⟩, CF.rf h⟩
  · rw [if_neg (by rw [b3, k_0, nI_eqU (by omega) (by omega)]; exact z), if_neg z, bsm, b3, k_1, nI_subU (by omega)]
    have e2 : hu h 8 2 (nI (s.n - 1)) 8 2 = nI (s.n - 1) := by rw [hu_s]; unfold upd; rw [if_pos rfl]
    have e1 : hu h 8 2 (nI (s.n - 1)) 8 1 = nI o := by rw [hu_s]; unfold upd; rw [if_neg (by omega)]; exact b2
    have e3 : hu h 8 2 (nI (s.n - 1)) 8 3 = nI (svn s) := by rw [hu_s]; unfold upd; rw [if_neg (by omega)]; exact b4
    have e9 : hu h 8 2 (nI (s.n - 1)) 9 = h 9 := hu_n _ _ _ _ (by omega)
    have e10 : hu h 8 2 (nI (s.n - 1)) 10 = h 10 := hu_n _ _ _ _ (by omega)
    have e11 : hu h 8 2 (nI (s.n - 1)) 11 = h 11 := hu_n _ _ _ _ (by omega)
    have ecf : CF h (hu h 8 2 (nI (s.n - 1))) := fun b hb => hu_n _ _ _ _ (by omega)
    generalize hu h 8 2 (nI (s.n - 1)) = h1 at e2 e1 e3 e9 e10 e11 ecf ⊢
    rw [e2, f2_circleRow_g b1 e1 (by omega), bsm]
    dsimp only
    rw [f5_copyOutOf_g (by omega), bsm, bsm]
    dsimp only
    rw [hf_n h1 (1 + 1) _ (a := 8) (by omega), e2]
    refine ⟨_, rfl, ⟨fun c hc => ?_, ⟨o, b1, ?_, ?_, ?_, fun i hi => ?_, fun i hi y c hc => ?_⟩, ?_, fun i hi => ?_⟩, fun b hb => by rw [hf_n _ _ _ (by omega)]; exact ecf b hb⟩
    · rw [hf_s, va_out0 hc, e9]
      exact b5 (s.n - 1) (by omega) c hc
    · rw [hf_n _ _ _ (by omega)]; exact e1
    · rw [hf_n _ _ _ (by omega)]; exact e2
    · rw [hf_n _ _ _ (by omega)]; exact e3
    · intro c hc
      replace hi : i < s.n - 1 := hi
      rw [hf_n _ _ _ (by omega), e9]
      exact b5 i (by omega) c hc
    · rw [hf_n _ _ _ (by omega), e9]; exact b6 i hi y c hc
    · rw [hf_n _ _ _ (by omega), e10]; exact hP.1
    · rw [hf_n _ _ _ (by omega), e11]; exact hP.2 i hi
theorem M_undo (hR : RM h s) (hS : SI s) : ∃ h', f8_undo h = some ((undS s).1, h') ∧ RM h' (undS s).2 ∧ MF h h' := by
  obtain ⟨hM, ⟨b1, b2, b3⟩, hP⟩ := hR
  have hn := hS.2.1
  unfold f8_undo f8_undo_e undS
  by_cases z : s.n = 0
  · rw [if_pos (by rw [b1, z, k_0]), if_pos z]
    exact ⟨h, rfl, ⟨hM, ⟨b1, b2, b3⟩, hP⟩, MF.rf h⟩
  · rw [if_neg (by rw [b1, k_0, nI_eqU (by omega) (by omega)]; exact z), if_neg z, bsm, b1, k_1, nI_subU (by omega)]
    obtain ⟨h1, a1, a2, a3, a4⟩ := cp_undo (a := s.n - 1) (by omega) 383 0 FU (hu h 12 10 (nI (s.n - 1))) (by omega) (by unfold FU; omega) (by rw [hu_s]; unfold upd; rw [if_pos rfl])
    have ec : ∀ c, c ≠ 12 → c ≠ 13 → h1 c = h c := fun c x1 x2 => by rw [a4 c x2, hu_n _ _ _ _ x1]
    have e10 : h1 12 10 = nI (s.n - 1) := by rw [a4 12 (by omega), hu_s]; unfold upd; rw [if_pos rfl]
    rw [k_0, a1, e10]
    refine ⟨h1, rfl, ⟨?_, ⟨e10, fun i hi => ?_, fun i hi => ?_⟩, ?_, fun i hi => ?_⟩, fun b hb => ec b (by omega) (by omega)⟩
    · refine MR_eq (b2 (s.n - 1) (by omega)) (fun j hj => ?_)
      rw [a2 j (by omega) hj, hu_n _ _ _ _ (by omega)]
    · replace hi : i < s.n - 1 := hi
      rw [ec 16 (by omega) (by omega)]; exact b2 i (by omega)
    · rw [ec 18 (by omega) (by omega), ec 17 (by omega) (by omega)]; exact b3 i hi
    · rw [a4 12 (by omega), hu_s]; unfold upd; rw [if_neg (by omega)]; exact hP.1
    · rw [ec 21 (by omega) (by omega)]; exact hP.2 i hi
end S14
