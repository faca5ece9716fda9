/-! history: the model's side -/
section S14
variable {h : Hp} {s : St}
theorem HM_eq {h h' : Hp} (hH : HM h s) (e12 : h' 12 = h 12) (e16 : h' 16 = h 16) (e17 : h' 17 = h 17) (e18 : h' 18 = h 18) : HM h' s := by
  unfold HM rwM; rw [e12, e16, e17, e18]; exact hH
theorem PM_eq {h h' : Hp} (hH : PM h s) (e12 : h' 12 = h 12) (e21 : h' 21 = h 21) : PM h' s := by
  unfold PM; rw [e12, e21]; exact hH
/-! undo -/
def undS (s : St) : Int32 × St := if s.n = 0 then (-5, s) else (nI (s.n - 1), (s.H (s.n - 1), s.n - 1, s.H, s.sv, s.S, s.m, s.P))
theorem SI_undo (hS : SI s) : SI (undS s).2 := by
  obtain ⟨a1, a2, a3, a4, a5, a6⟩ := hS
  unfold undS
  by_cases z : s.n = 0
  · rw [if_pos z]; exact ⟨a1, a2, a3, a4, a5, a6⟩
  · rw [if_neg z]
    exact ⟨a3 _ (by omega), show s.n - 1 ≤ 6 by omega, fun i hi => a3 i (show i < s.n by have : i < s.n - 1 := hi; omega), a4, a5, a6⟩
theorem C_undo (hR : RC h s) (hS : SI s) : ∃ h', f7_undo h = some ((undS s).1, h') ∧ RC h' (undS s).2 ∧ CF h h' := by
  obtain ⟨hC, ⟨o, b1, b2, b3, b4, b5, b6⟩, hP⟩ := hR
  have hn := hS.2.1
  unfold f7_undo f7_undo_e f2_goBack f2_goBack_e undS
  by_cases z : s.n = 0
  · rw [if_pos (by rw [b3, z, k_0]), if_pos z, bsm]
    exact ⟨h, rfl, ⟨hC, ⟨o, b1, b2, b3, b4, b5, b6⟩, hP⟩, CF.rf h⟩
  · rw [if_neg (by rw [b3, k_0, nI_eqU (by omega) (by omega)]; exact z), if_neg z, bsm, b3, k_1, nI_subU (by omega)]
    have e2 : hu h 8 2 (nI (s.n - 1)) 8 2 = nI (s.n - 1) := by rw [hu_s]; unfold upd; rw [if_pos rfl]
    have e1 : hu h 8 2 (nI (s.n - 1)) 8 1 = nI o := by rw [hu_s]; unfold upd; rw [if_neg (by omega)]; exact b2
    have e3 : hu h 8 2 (nI (s.n - 1)) 8 3 = nI (svn s) := by rw [hu_s]; unfold upd; rw [if_neg (by omega)]; exact b4
    have e9 : hu h 8 2 (nI (s.n - 1)) 9 = h 9 := hu_n _ _ _ _ (by omega)
    have e10 : hu h 8 2 (nI (s.n - 1)) 10 = h 10 := hu_n _ _ _ _ (by omega)
    have e11 : hu h 8 2 (nI (s.n - 1)) 11 = h 11 := hu_n _ _ _ _ (by omega)
    have ecf : CF h (hu h 8 2 (nI (s.n - 1))) := fun b hb => hu_n _ _ _ _ (by omega)
    generalize hu h 8 2 (nI (s.n - 1)) = h1 at e2 e1 e3 e9 e10 e11 ecf ⊢
    rw [e2, f2_circleRow_g b1 e1 (by omega), bsm]
    dsimp only
    rw [f5_copyOutOf_g (by omega), bsm, bsm]
    dsimp only
    rw [hf_n h1 (1 + 1) _ (a := 8) (by omega), e2]
    refine ⟨_, rfl, ⟨fun c hc => ?_, ⟨o, b1, ?_, ?_, ?_, fun i hi => ?_, fun i hi y c hc => ?_⟩, ?_, fun i hi => ?_⟩, fun b hb => by rw [hf_n _ _ _ (by omega)]; exact ecf b hb⟩
    · rw [hf_s, va_out0 hc, e9]
      exact b5 (s.n - 1) (by omega) c hc
    · rw [hf_n _ _ _ (by omega)]; exact e1
    · rw [hf_n _ _ _ (by omega)]; exact e2
    · rw [hf_n _ _ _ (by omega)]; exact e3
    · intro c hc
      replace hi : i < s.n - 1 := hi
      rw [hf_n _ _ _ (by omega), e9]
      exact b5 i (by omega) c hc
    · rw [hf_n _ _ _ (by omega), e9]; exact b6 i hi y c hc
    · rw [hf_n _ _ _ (by omega), e10]; exact hP.1
    · rw [hf_n _ _ _ (by omega), e11]; exact hP.2 i hi
end S14
