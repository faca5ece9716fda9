/-! save, restore -/
def savS (s : St) (x1 : Int32) : Int32 × St := if inR x1 2 = false then (-2, s) else (nI (s.g 19), (s.g, s.n, s.H, (fun j => if j = tN x1 then true else s.sv j), (fun j => if j = tN x1 then s.g else s.S j), s.m, s.P))
def resS (s : St) (x1 : Int32) : Int32 × St := if inR x1 2 = false then (-2, s) else if s.sv (tN x1) = false then (-5, s) else (nI (s.S (tN x1) 19), push s (s.S (tN x1)))
theorem or_bit : ∀ i, i < 2 → ∀ a : Bool, ∀ b : Bool, nI ((if a then 1 else 0) + (if b then 2 else 0)) ||| (1 <<< (nI i &&& 31)) = nI ((if (if 0 = i then true else a) then 1 else 0) + (if (if 1 = i then true else b) then 2 else 0)) := by decide +kernel
theorem get_bit : ∀ i, i < 2 → ∀ a : Bool, ∀ b : Bool, ((nI ((if a then 1 else 0) + (if b then 2 else 0)) >>> (nI i &&& 31)) &&& 1) = bI (if i = 0 then a else b) := by decide +kernel
theorem chg_e (s : St) {v : Int32} (g' : GS) (hv : v < 0) : chg s v g' = s := by unfold chg; rw [if_pos hv]
section S15
variable {h : Hp} {s : St}
theorem SI_save (hS : SI s) (x1 : Int32) : SI (savS s x1).2 := by
  obtain ⟨a1, a2, a3, a4, a5, a6⟩ := hS
  unfold savS
  cases e : inR x1 2
  · rw [sF]; exact ⟨a1, a2, a3, a4, a5, a6⟩
  · rw [sT]
    refine ⟨a1, a2, a3, fun i hi y => ?_, a5, a6⟩
    show IV (if i = tN x1 then s.g else s.S i)
    replace y : (if i = tN x1 then true else s.sv i) = true := y
    by_cases z : i = tN x1
    · rw [if_pos z]; exact a1
    · rw [if_neg z]; rw [if_neg z] at y; exact a4 i hi y
theorem SI_rest (hS : SI s) (x1 : Int32) : SI (resS s x1).2 := by
  unfold resS
  cases e : inR x1 2
  · rw [sF]; exact hS
  · rw [sT]
    obtain ⟨i, hi, rfl⟩ := inR_of e (by omega)
    rw [tN_nI (by omega)]
    cases e2 : s.sv i
    · rw [sF]; exact hS
    · rw [sT]; exact SI_push hS (hS.2.2.2.1 i hi e2)
theorem f2_isSlot_b (x : Int32) : f2_isSlot x h = some (bI (inR x 2), h) := by
  unfold f2_isSlot f2_isSlot_e
  by_cases z : x < 0
  · rw [if_pos z, show inR x 2 = false by
      refine decide_eq_false ?_
      have := Int32.lt_iff_toInt_lt.mp z
      rw [show (0 : Int32).toInt = 0 by decide] at this
      omega]; rfl
  · rw [if_neg z]
    have z0 : 0 ≤ x.toInt := by
      rw [Int32.lt_iff_toInt_lt, show (0 : Int32).toInt = 0 by decide] at z
      omega
    by_cases y : 2 ≤ x
    · rw [if_pos y, show inR x 2 = false by
        refine decide_eq_false ?_
        rw [k_2, n_le _ (by omega)] at y
        omega]; rfl
    · rw [if_neg y, show inR x 2 = true by
        refine decide_eq_true ?_
        rw [k_2, n_le _ (by omega)] at y
        omega]; rfl
theorem f2_slotRow_g {i : Nat} : f2_slotRow (nI i) h = some (nI ((7 + i) * 344), h) := by
  unfold f2_slotRow f2_slotRow_e
  rw [k_7, nI_add, k_344, pk_mul]
theorem C_save (hR : RC h s) (hS : SI s) (x1 : Int32) : ∃ h', f7_save x1 h = some ((savS s x1).1, h') ∧ RC h' (savS s x1).2 ∧ CF h h' := by
  unfold f7_save f7_save_e savS
  rw [f2_isSlot_b, bsm]
  dsimp only
  cases e : inR x1 2
  · rw [bF, sF]; exact ⟨h, rfl, hR, CF.rf h⟩
  · obtain ⟨hC, ⟨o, b1, b2, b3, b4, b5, b6⟩, hP⟩ := hR
    rw [bT, sT]
    obtain ⟨i, hi, rfl⟩ := inR_of e (by omega)
    rw [tN_nI (by omega)]
    unfold f2_keepInSlot f2_keepInSlot_e
    rw [f2_slotRow_g, bsm]
    dsimp only
    rw [f5_copyInto_g (by omega), bsm]
    dsimp only
    generalize hh1 : hf h 9 (va_cpy (h (1 + 1)) (h 9) 0 ((7 + i) * 344) 344) = h1
    have e9 : h1 9 = va_cpy (h (1 + 1)) (h 9) 0 ((7 + i) * 344) 344 := by rw [← hh1, hf_s]
    have ec : ∀ c, c ≠ 9 → h1 c = h c := fun c hc => by rw [← hh1, hf_n _ _ _ hc]
    have ob := or_bit i hi (s.sv 0) (s.sv 1)
    rw [ec 8 (by omega), b4]
    unfold svn
    rw [ob, bsm, bsm]
    dsimp only
    have c2 : CR (hu h1 8 3 (nI ((if (if 0 = i then true else s.sv 0) then 1 else 0) + (if (if 1 = i then true else s.sv 1) then 2 else 0)))) 1 s.g := by
      intro c hc
      rw [hu_n _ _ _ _ (by omega), ec _ (by omega)]
      exact hC c hc
    rw [k_19, f5_number_g c2 (by omega), bsm]
    dsimp only
    refine ⟨_, rfl, ⟨c2, ⟨o, b1, ?_, ?_, ?_, fun j hj => ?_, fun j hj y c hc => ?_⟩, ?_, fun j hj => ?_⟩, fun b hb => by rw [hu_n _ _ _ _ (by omega), ec b (by omega)]⟩
    · rw [hu_s]; unfold upd; rw [if_neg (by omega), ec 8 (by omega)]; exact b2
    · rw [hu_s]; unfold upd; rw [if_neg (by omega), ec 8 (by omega)]; exact b3
    · rw [hu_s]; unfold upd; rw [if_pos rfl]; rfl
    · intro c hc
      rw [hu_n _ _ _ _ (by omega), e9, va_out (by have := hS.2.1; omega)]
      exact b5 j hj c hc
    · rw [hu_n _ _ _ _ (by omega), e9]
      replace y : (if j = i then true else s.sv j) = true := y
      show _ = nI ((if j = i then s.g else s.S j) c)
      by_cases w : j = i
      · rw [if_pos w, w, va_in hc]; exact hC c hc
      · rw [if_neg w]
        rw [if_neg w] at y
        rw [va_out (by omega)]
        exact b6 j hj y c hc
    · rw [hu_n _ _ _ _ (by omega), ec 10 (by omega)]; exact hP.1
    · rw [hu_n _ _ _ _ (by omega), ec 11 (by omega)]; exact hP.2 j hj
theorem sv_ix (s : St) {i : Nat} (hi : i < 2) : (if i = 0 then s.sv 0 else s.sv 1) = s.sv i := by
  by_cases z : i = 0
  · rw [if_pos z, z]
  · rw [if_neg z, show i = 1 by omega]
theorem C_rest (hR : RC h s) (hS : SI s) (x1 : Int32) : ∃ h', f7_restore x1 h = some ((resS s x1).1, h') ∧ RC h' (resS s x1).2 ∧ CF h h' := by
  unfold f7_restore f7_restore_e resS
  rw [f2_isSlot_b, bsm]
  dsimp only
  cases e : inR x1 2
  · rw [bF, sF]; exact ⟨h, rfl, hR, CF.rf h⟩
  · obtain ⟨hC, ⟨o, b1, b2, b3, b4, b5, b6⟩, hP⟩ := id hR
    rw [bT, sT]
    obtain ⟨i, hi, rfl⟩ := inR_of e (by omega)
    rw [tN_nI (by omega)]
    have eS : f2_isSaved (nI i) h = some (bI (s.sv i), h) := by
      unfold f2_isSaved f2_isSaved_e
      rw [b4]
      unfold svn
      rw [get_bit i hi, sv_ix s hi]
      cases s.sv i
      · rfl
      · rfl
    rw [eS, bsm]
    dsimp only
    cases e2 : s.sv i
    · rw [bF, sF]; exact ⟨h, rfl, hR, CF.rf h⟩
    · rw [bT, sT]
      obtain ⟨o, h1, a1, a2, a3, a4⟩ := f2_stage_g hR hS.2.1
      have p1 : PC h1 s := ⟨by rw [a4 _ (by omega)]; exact hR.2.2.1, fun i hi => by rw [a4 _ (by omega)]; exact hR.2.2.2 i hi⟩
      rw [a1, bsm]
      dsimp only
      unfold f2_bringFromSlot f2_bringFromSlot_e
      rw [f2_slotRow_g, bsm]
      dsimp only
      rw [f5_copyOutOf_g (by omega), bsm, bsm]
      dsimp only
      generalize hh2 : hf h1 (1 + 1) (va_cpy (h1 9) (h1 (1 + 1)) ((7 + i) * 344) 0 344) = h2
      have ec : ∀ c, c ≠ 2 → h2 c = h1 c := fun c hc => by rw [← hh2, hf_n _ _ _ hc]
      have c2 : CR h2 1 (s.S i) := by
        intro c hc
        rw [← hh2, hf_s, va_out0 hc]
        exact a2.2.2.2.2.2 i hi e2 c hc
      have H2 : HC h2 s o := by unfold HC rwC; rw [ec 8 (by omega), ec 9 (by omega)]; exact a2
      have W2 : rwC h2 o s.n s.g := by unfold rwC; rw [ec 9 (by omega)]; exact a3
      have P2 : PC h2 s := by unfold PC; rw [ec 10 (by omega), ec 11 (by omega)]; exact p1
      have i19 : s.S i 19 ≤ 5 := (hS.2.2.2.1 i hi e2).2.2.2.2.2.2.1
      rw [k_19, f5_number_g c2 (by omega), bsm]
      dsimp only
      obtain ⟨h3, d1, d2, d3⟩ := rec_pos (v := nI (s.S i 19)) (nI_pos (by omega)) H2 W2 c2 P2 hS.2.1
      rw [d1, bsm]
      exact ⟨h3, rfl, d2, fun b hb => by rw [d3 b hb, ec b (by omega), a4 b (by omega)]⟩
/-! set and fill of the model -/
end S15
