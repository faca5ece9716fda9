/-! save, restore -/
def savS (s : St) (x1 : Int32) : Int32 × St := if inR x1 2 = false then (-2, s) else (nI (s.g 19), (s.g, s.n, s.H, (fun j => if j = tN x1 then true else s.sv j), (fun j => if j = tN x1 then s.g else s.S j), s.m, s.P))
def resS (s : St) (x1 : Int32) : Int32 × St := if inR x1 2 = false then (-2, s) else if s.sv (tN x1) = false then (-5, s) else (nI (s.S (tN x1) 19), push s (s.S (tN x1)))
theorem or_bit : ∀ i, i < 2 → ∀ a : Bool, ∀ b : Bool, nI ((if a then 1 else 0) + (if b then 2 else 0)) ||| (1 <<< (nI i &&& 31)) = nI ((if (if 0 = i then true else a) then 1 else 0) + (if (if 1 = i then true else b) then 2 else 0)) := by decide +kernel
theorem get_bit : ∀ i, i < 2 → ∀ a : Bool, ∀ b : Bool, ((nI ((if a then 1 else 0) + (if b then 2 else 0)) >>> (nI i &&& 31)) &&& 1) = bI (if i = 0 then a else b) := by decide +kernel
theorem chg_e (s : St) {v : Int32} (g' : GS) (hv : v < 0) : chg s v g' = s := by unfold chg; rw [if_pos hv]
section S15
variable {h : Hp} {s : St}
theorem SI_save (hS : SI s) (x1 : Int32) : SI (savS s x1).2 := by
  obtain ⟨a1, a2, a3, a4, a5, a6⟩ := hS
  unfold savS
  cases e : inR x1 2
  · rw [sF]; exact ⟨a1, a2, a3, a4, a5, a6⟩
  · rw [sT]
    refine ⟨a1, a2, a3, fun i hi y => ?_, a5, a6⟩
    show IV (if i = tN x1 then s.g else s.S i)
    replace y : (if i = tN x1 then true else s.sv i) = true := y
    by_cases z : i = tN x1
    · rw [if_pos z]; exact a1
    · rw [if_neg z]; rw [if_neg z] at y; exact a4 i hi y
theorem SI_rest (hS : SI s) (x1 : Int32) : SI (resS s x1).2 := by
  unfold resS
  cases e : inR x1 2
  · rw [sF]; exact hS
  · rw [sT]
    obtain ⟨i, hi, rfl⟩ := inR_of e (by omega)
    rw [tN_nI (by omega)]
    cases e2 : s.sv i
    · rw [sF]; exact hS
    · rw [sT]; exact SI_push hS (hS.2.2.2.1 i hi e2)
theorem f2_isSlot_b (x : Int32) : f2_isSlot x h = some (bI (inR x 2), h) := by
  unfold f2_isSlot f2_isSlot_e
  by_cases z : x < 0
  · rw [if_pos z, show inR x 2 = false by
      refine decide_eq_false ?_
      have := Int32.lt_iff_toInt_lt.mp z
      rw [show (0 : Int32).toInt = 0 by decide] at this
      omega]; rfl
  · rw [if_neg z]
    have z0 : 0 ≤ x.toInt := by
      rw [Int32.lt_iff_toInt_lt, show (0 : Int32).toInt = 0 by decide] at z
      omega
    by_cases y : 2 ≤ x
    · rw [if_pos y, show inR x 2 = false by
        refine decide_eq_false ?_
        rw [k_2, n_le _ (by omega)] at y
        omega]; rfl
    · rw [if_neg y, show inR x 2 = true by
        refine decide_eq_true ?_
        rw [k_2, n_le _ (by omega)] at y
        omega]; rfl
theorem f2_slotRow_g {i : Nat} : f2_slotRow (nI i) h = some (nI ((7 + i) * 344), h) := by
  unfold f2_slotRow f2_slotRow_e
  rw [k_7, nI_add, k_344, pk_mul]
theorem C_save (hR : RC h s) (hS : SI s) (x1 : Int32) : ∃ h', f7_save x1 h = some ((savS s x1).1, h') ∧ RC h' (savS s x1).2 ∧ CF h h' := by
  unfold f7_save f7_save_e savS
  rw [f2_isSlot_b, bsm]
  dsimp only
  cases e : inR x1 2
  · rw [bF, sF]; exact ⟨h, rfl, hR, CF.rf h⟩
  · obtain ⟨hC, ⟨o, b1, b2, b3, b4, b5, b6⟩, hP⟩ := hR
    rw [bT, sT]
    obtain ⟨i, hi, rfl⟩ := inR_of e (by omega)
    rw [tN_nI (by omega)]
    unfold f2_keepInSlot f2_keepInSlot_e
    rw [f2_slotRow_g, bsm]
    dsimp only
    rw [f5_copyInto_g (by omega), bsm]
    dsimp only
    generalize hh1 : hf h 9 (va_cpy (h (1 + 1)) (h 9) 0 ((7 + i) * 344) 344) = h1
    have e9 : h1 9 = va_cpy (h (1 + 1)) (h 9) 0 ((7 + i) * 344) 344 := by rw [← hh1, hf_s]
    have ec : ∀ c, c ≠ 9 → h1 c = h c := fun c hc => by rw [← hh1, hf_n _ _ _ hc]
    have ob := or_bit i hi (s.sv 0) (s.sv 1)
    rw [ec 8 (by omega), b4]
    unfold svn
    rw [ob, bsm, bsm]
    dsimp only
    have c2 : CR (hu h1 8 3 (nI ((if (if 0 = i then true else s.sv 0) then 1 else 0) + (if (if 1 = i then true else s.sv 1) then 2 else 0)))) 1 s.g := by
      intro c hc
      rw [hu_n _ _ _ _ (by omega), ec _ (by omega)]
      exact hC c hc
    rw [k_19, f5_number_g c2 (by omega), bsm]
    dsimp only
    refine ⟨_, rfl, ⟨c2, ⟨o, b1, ?_, ?_, ?_, fun j hj => ?_, fun j hj y c hc => ?_⟩, ?_, fun j hj => ?_⟩, fun b hb => by rw [hu_n _ _ _ _ (by omega), ec b (by omega)]⟩
    · rw [hu_s]; unfold upd; rw [if_neg (by omega), ec 8 (by omega)]; exact b2
    · rw [hu_s]; unfold upd; rw [if_neg (by omega), ec 8 (by omega)]; exact b3
    · rw [hu_s]; unfold upd; rw [if_pos rfl]; rfl
    · intro c hc
      rw [hu_n _ _ _ _ (by omega), e9, va_out (by have := hS.2.1; omega)]
      exact b5 j hj c hc
    · rw [hu_n _ _ _ _ (by omega), e9]
      replace y : (if j = i then true else s.sv j) = true := y
      show _ = nI ((if j = i then s.g else s.S j) c)
      by_cases w : j = i
      · rw [if_pos w, w, va_in hc]; exact hC c hc
      · rw [if_neg w]
        rw [if_neg w] at y
        rw [va_out (by omega)]
        exact b6 j hj y c hc
    · rw [hu_n _ _ _ _ (by omega), ec 10 (by omega)]; exact hP.1
    · rw [hu_n _ _ _ _ (by omega), ec 11 (by omega)]; exact hP.2 j hj
theorem M_save (hR : RM h s) (x1 : Int32) : ∃ h', f8_save x1 h = some ((savS s x1).1, h') ∧ RM h' (savS s x1).2 ∧ MF h h' := by
  unfold f8_save f8_save_e savS
  rw [f8_in_01, bsm]
  dsimp only
  cases e : inR x1 2
  · rw [bF, sF]; exact ⟨h, rfl, hR, MF.rf h⟩
  · obtain ⟨hM, ⟨b1, b2, b3⟩, hP⟩ := hR
    rw [bT, sT]
    obtain ⟨i, hi, rfl⟩ := inR_of e (by omega)
    rw [tN_nI (by omega)]
    obtain ⟨h1, a1, a2, a3, a4⟩ := cp_save hi 383 0 FU h (by omega) (by unfold FU; omega)
    rw [k_0, a1, hu_n _ _ _ _ (by omega), a4 13 (by omega), hM.clo]
    refine ⟨_, rfl, ⟨?_, ⟨?_, fun j hj => ?_, fun j hj => ⟨?_, fun y => ?_⟩⟩, ?_, fun j hj => ?_⟩, fun b hb => by rw [hu_n _ _ _ _ (by omega), a4 b (by omega)]⟩
    · rw [hu_n _ _ _ _ (by omega), a4 13 (by omega)]; exact hM
    · rw [hu_n _ _ _ _ (by omega), a4 12 (by omega)]; exact b1
    · rw [hu_n _ _ _ _ (by omega), a4 16 (by omega)]; exact b2 j hj
    · rw [hu_s, a4 18 (by omega)]
      show _ = bI (if j = i then true else s.sv j)
      unfold upd
      by_cases w : j = i
      · rw [if_pos w, if_pos w]; rfl
      · rw [if_neg w, if_neg w]; exact (b3 j hj).1
    · rw [hu_n _ _ _ _ (by omega)]
      replace y : (if j = i then true else s.sv j) = true := y
      show rwM (h1 17) j (if j = i then s.g else s.S j)
      by_cases w : j = i
      · rw [if_pos w, w]
        exact MR_eq hM (fun c hc => a2 c (by omega) hc)
      · rw [if_neg w]
        rw [if_neg w] at y
        exact MR_eq ((b3 j hj).2 y) (fun c hc => a3 _ (by omega))
    · rw [hu_n _ _ _ _ (by omega), a4 12 (by omega)]; exact hP.1
    · rw [hu_n _ _ _ _ (by omega), a4 21 (by omega)]; exact hP.2 j hj
theorem sv_ix (s : St) {i : Nat} (hi : i < 2) : (if i = 0 then s.sv 0 else s.sv 1) = s.sv i := by
  by_cases z : i = 0
  · rw [if_pos z, z]
  · rw [if_neg z, show i = 1 by omega]
theorem C_rest (hR : RC h s) (hS : SI s) (x1 : Int32) : ∃ h', f7_restore x1 h = some ((resS s x1).1, h') ∧ RC h' (resS s x1).2 ∧ CF h h' := by
  unfold f7_restore f7_restore_e resS
  rw [f2_isSlot_b, bsm]
  dsimp only
  cases e : inR x1 2
  · rw [bF, sF]; exact ⟨h, rfl, hR, CF.rf h⟩
  · obtain ⟨hC, ⟨o, b1, b2, b3, b4, b5, b6⟩, hP⟩ := id hR
    rw [bT, sT]
    obtain ⟨i, hi, rfl⟩ := inR_of e (by omega)
    rw [tN_nI (by omega)]
    have eS : f2_isSaved (nI i) h = some (bI (s.sv i), h) := by
      unfold f2_isSaved f2_isSaved_e
      rw [b4]
      unfold svn
      rw [get_bit i hi, sv_ix s hi]
      cases s.sv i
      · rfl
      · rfl
    rw [eS, bsm]
    dsimp only
    cases e2 : s.sv i
    · rw [bF, sF]; exact ⟨h, rfl, hR, CF.rf h⟩
    · rw [bT, sT]
      obtain ⟨o, h1, a1, a2, a3, a4⟩ := f2_stage_g hR hS.2.1
      have p1 : PC h1 s := ⟨by rw [a4 _ (by omega)]; exact hR.2.2.1, fun i hi => by rw [a4 _ (by omega)]; exact hR.2.2.2 i hi⟩
      rw [a1, bsm]
      dsimp only
      unfold f2_bringFromSlot f2_bringFromSlot_e
      rw [f2_slotRow_g, bsm]
      dsimp only
      rw [f5_copyOutOf_g (by omega), bsm, bsm]
      dsimp only
      generalize hh2 : hf h1 (1 + 1) (va_cpy (h1 9) (h1 (1 + 1)) ((7 + i) * 344) 0 344) = h2
      have ec : ∀ c, c ≠ 2 → h2 c = h1 c := fun c hc => by rw [← hh2, hf_n _ _ _ hc]
      have c2 : CR h2 1 (s.S i) := by
        intro c hc
        rw [← hh2, hf_s, va_out0 hc]
        exact a2.2.2.2.2.2 i hi e2 c hc
      have H2 : HC h2 s o := by unfold HC rwC; rw [ec 8 (by omega), ec 9 (by omega)]; exact a2
      have W2 : rwC h2 o s.n s.g := by unfold rwC; rw [ec 9 (by omega)]; exact a3
      have P2 : PC h2 s := by unfold PC; rw [ec 10 (by omega), ec 11 (by omega)]; exact p1
      have i19 : s.S i 19 ≤ 5 := (hS.2.2.2.1 i hi e2).2.2.2.2.2.2.1
      rw [k_19, f5_number_g c2 (by omega), bsm]
      dsimp only
      obtain ⟨h3, d1, d2, d3⟩ := rec_pos (v := nI (s.S i 19)) (nI_pos (by omega)) H2 W2 c2 P2 hS.2.1
      rw [d1, bsm]
      exact ⟨h3, rfl, d2, fun b hb => by rw [d3 b hb, ec b (by omega), a4 b (by omega)]⟩
theorem M_rest (hR : RM h s) (hS : SI s) (x1 : Int32) : ∃ h', f8_restore x1 h = some ((resS s x1).1, h') ∧ RM h' (resS s x1).2 ∧ MF h h' := by
  unfold f8_restore f8_restore_e resS
  rw [f8_in_01, bsm]
  dsimp only
  cases e : inR x1 2
  · rw [bF, sF]; exact ⟨h, rfl, hR, MF.rf h⟩
  · rw [bT, sT]
    obtain ⟨i, hi, rfl⟩ := inR_of e (by omega)
    have b3 := hR.2.1.2.2 i hi
    rw [tN_nI (by omega), gd _ hi (by omega), tn_nI (by omega)]
    cases e2 : s.sv i
    · rw [if_pos (by rw [b3.1, e2]; rfl), sF]; exact ⟨h, rfl, hR, MF.rf h⟩
    · rw [if_neg (by rw [b3.1, e2]; decide), sT]
      obtain ⟨h1, a1, a2, a3, a4⟩ := hold_R hR
      rw [a1, bsm]
      dsimp only
      obtain ⟨h2, d1, d2, d3, d4⟩ := cp_rest hi 383 0 FU h1 (by omega) (by unfold FU; omega)
      have m2 : MR (h2 13) (s.S i) := by
        refine MR_eq (b3.2 e2) (fun j hj => ?_)
        rw [d2 j (by omega) hj, a4 17 (by omega)]
      have i19 : s.S i 19 ≤ 5 := (hS.2.2.2.1 i hi e2).2.2.2.2.2.2.1
      obtain ⟨h3, f1, f2, f3⟩ := M_rec (v := nI (s.S i 19)) (h2 := h2) a2 hS a3 m2 (fun b x1 _ => d4 b x1) (fun y => absurd y (nI_pos (by omega)))
      rw [k_0, d1, m2.clo, f1, bsm]
      unfold chg at f2
      rw [if_neg (nI_pos (by omega))] at f2
      exact ⟨h3, rfl, f2, fun b hb => by rw [f3 b hb, d4 b (by omega), a4 b (by omega)]⟩
/-! set and fill of the model -/
theorem f8_set_eq (x1 x2 : Int32) : f8_set x1 x2 h = f8_set_j48 x1 x2 (bI (decide (okV x1 x2))) h := by
  unfold f8_set f8_set_e f8_set_j47
  have n01 : ¬ (0 : Int32) = 1 := by decide
  have n02 : ¬ (0 : Int32) = 2 := by decide
  have n12 : ¬ (1 : Int32) = 2 := by decide
  by_cases z0 : x1 = 0
  · subst z0
    have e : decide (okV 0 x2) = inC x2 1 50 := by
      unfold okV
      cases e : inC x2 1 50 <;> simp [n01, n02]
    rw [if_pos rfl, e, k_1, k_50, f8_in_b x2 (by omega) (by omega), bsm]
  · rw [if_neg z0]
    by_cases z1 : x1 = 1
    · subst z1
      have e : decide (okV 1 x2) = inC x2 1 99 := by
        unfold okV
        cases e : inC x2 1 99 <;> simp [n12]
      rw [if_pos rfl, e, show f8_in x2 1 99 h = f8_in x2 (nI 1) (nI 99) h by rw [← k_1, ← k_99], f8_in_b x2 (by omega) (by omega), bsm]
    · rw [if_neg z1]
      by_cases z2 : x1 = 2
      · subst z2
        have e : decide (okV 2 x2) = inR x2 2 := by
          unfold okV
          cases e : inR x2 2 <;> simp
        rw [if_pos rfl, e, f8_in_01, bsm]
        dsimp only
        cases inR x2 2
        · rfl
        · rfl
      · rw [if_neg z2, decide_eq_false (fun w => w.elim (fun w => z0 w.1) (fun w => w.elim (fun w => z1 w.1) (fun w => z2 w.1)))]
        rfl
theorem M_set (hR : RM h s) (hS : SI s) (x1 x2 : Int32) : ∃ h', f8_set x1 x2 h = some ((setS s.g x1 x2).1, h') ∧ RM h' (chg s (setS s.g x1 x2).1 (setS s.g x1 x2).2) ∧ MF h h' := by
  rw [f8_set_eq, setS_eq]
  unfold f8_set_j48
  by_cases z : okV x1 x2
  · rw [decide_eq_true z, bT, if_pos z]
    obtain ⟨i, v, hi, hv, rfl, rfl, _⟩ := okV_of z
    obtain ⟨h1, a1, a2, a3, a4⟩ := hold_R hR
    rw [a1, bsm, tN_nI (by omega), tN_nI (by omega)]
    dsimp only
    have gi : s.g i ≤ 99 := by
      have h0 := hS.1.1
      have h1 := hS.1.2.1
      have h2 := hS.1.2.2.1
      rcases (show i = 0 ∨ i = 1 ∨ i = 2 by omega) with w | w | w
      · rw [w]; omega
      · rw [w]; omega
      · rw [w]; omega
    rw [gd _ (by omega) (by omega), bsm, gd _ (by omega) (by omega), bsm, tn_nI (by omega), a2.1.set hi]
    obtain ⟨h3, f1, f2, f3⟩ := M_rec (v := nI (s.g i)) a2 hS a3 (MRu a2.1 (c := i) (i := i) v (Or.inl hi) (mx_s hi)) (fun b x1 _ => hu_n _ _ _ _ x1) (fun y => absurd y (nI_pos (by omega)))
    rw [f1, bsm]
    exact ⟨h3, rfl, f2, fun b hb => by rw [f3 b hb, hu_n _ _ _ _ (by omega), a4 b (by omega)]⟩
  · rw [decide_eq_false z, bF, if_neg z]
    exact ⟨h, rfl, (show RM h (chg s (-2) s.g) by rw [chg_e _ _ (by decide)]; exact hR), MF.rf h⟩
theorem M_fill (hR : RM h s) (hS : SI s) (x1 x2 : Int32) : ∃ h', f8_fill x1 x2 h = some ((filS s.g x1 x2).1, h') ∧ RM h' (chg s (filS s.g x1 x2).1 (filS s.g x1 x2).2) ∧ MF h h' := by
  unfold f8_fill f8_fill_e filS
  rw [f8_isColour_b, bsm]
  dsimp only
  cases e1 : inC x1 1 6
  · rw [bF, sF]
    exact ⟨h, rfl, (show RM h (chg s (-1) s.g) by rw [chg_e _ _ (by decide)]; exact hR), MF.rf h⟩
  · rw [bT, sT, show f8_in x2 1 9999 h = f8_in x2 (nI 1) (nI 9999) h by rw [← k_1, ← k_9999], f8_in_b x2 (by omega) (by omega), bsm]
    dsimp only
    cases e2 : inC x2 1 9999
    · rw [bF, sF]
      exact ⟨h, rfl, (show RM h (chg s (-2) s.g) by rw [chg_e _ _ (by decide)]; exact hR), MF.rf h⟩
    · rw [bT, sT]
      obtain ⟨c, c1, c2, rfl⟩ := inC_of e1 (by omega)
      obtain ⟨n, n1, n2, rfl⟩ := inC_of e2 (by omega)
      obtain ⟨h1, a1, a2, a3, a4⟩ := hold_R hR
      have hb := fb hS.1 c1 c2
      rw [a1, bsm, tN_nI (by omega), tN_nI (by omega)]
      dsimp only
      rw [k_11, nI_add, gd _ (by omega) (by omega), tn_nI (by omega), a2.1.fun c1 c2, nI_add, bsm]
      have key : ∀ w, w ≤ 9999 → ∃ h', f8_fill_j61 (nI c) (nI w) (nI (11 + c)) h1 = some (nI w, h') ∧ RM h' (chg s (nI w) (gu s.g (8 + c) w)) ∧ MF h h' := by
        intro w hw
        unfold f8_fill_j61
        have m1 := MRu a2.1 (c := 8 + c) (i := 11 + c) w (Or.inr (by omega)) (mx_f c1 c2)
        rw [k_11, nI_add, gd _ (by omega) (by omega), bsm, gd _ (by omega) (by omega), tn_nI (by omega), m1.fun c1 c2, gu_s]
        obtain ⟨h3, f1, f2, f3⟩ := M_rec (v := nI w) a2 hS a3 m1 (fun b x1 _ => hu_n _ _ _ _ x1) (fun y => absurd y (nI_pos (by omega)))
        rw [f1, bsm]
        exact ⟨h3, rfl, f2, fun b hb => by rw [f3 b hb, hu_n _ _ _ _ (by omega), a4 b (by omega)]⟩
      by_cases z : s.g (8 + c) + n ≤ 9999
      · rw [if_pos (by rw [k_9999, nI_leU (by omega) (by omega)]; exact z), Nat.min_eq_right z]
        exact key _ z
      · rw [if_neg (by rw [k_9999, nI_leU (by omega) (by omega)]; exact z), Nat.min_eq_left (by omega), k_9999]
        exact key _ (by omega)
end S15
