/-! history: the whole of what is kept -/
abbrev St : Type := GS × Nat × (Nat → GS) × (Nat → Bool) × (Nat → GS) × Nat × (Nat → Nat)
def St.g (s : St) : GS := s.1
def St.n (s : St) : Nat := s.2.1
def St.H (s : St) : Nat → GS := s.2.2.1
def St.sv (s : St) : Nat → Bool := s.2.2.2.1
def St.S (s : St) : Nat → GS := s.2.2.2.2.1
def St.m (s : St) : Nat := s.2.2.2.2.2.1
def St.P (s : St) : Nat → Nat := s.2.2.2.2.2.2
def push (s : St) (g' : GS) : St := if s.n < 6 then (g', s.n + 1, (fun i => if i = s.n then s.g else s.H i), s.sv, s.S, s.m, s.P) else (g', s.n, (fun i => if i = 5 then s.g else s.H (i + 1)), s.sv, s.S, s.m, s.P)
def chg (s : St) (v : Int32) (g' : GS) : St := if v < 0 then s else push s g'
def SI (s : St) : Prop := IV s.g ∧ s.n ≤ 6 ∧ (∀ i, i < s.n → IV (s.H i)) ∧ (∀ i, i < 2 → s.sv i = true → IV (s.S i)) ∧ s.m ≤ 80 ∧ (∀ i, i < s.m → s.P i < 256)
def rwC (h : Hp) (o i : Nat) (g : GS) : Prop := ∀ c, c < 344 → h 9 ((o + i) % 7 * 344 + c) = nI (g c)
def svn (s : St) : Nat := (if s.sv 0 then 1 else 0) + (if s.sv 1 then 2 else 0)
def HC (h : Hp) (s : St) (o : Nat) : Prop := o < 7 ∧ h 8 1 = nI o ∧ h 8 2 = nI s.n ∧ h 8 3 = nI (svn s) ∧ (∀ i, i < s.n → rwC h o i (s.H i)) ∧ (∀ i, i < 2 → s.sv i = true → ∀ c, c < 344 → h 9 ((7 + i) * 344 + c) = nI (s.S i c))
def PC (h : Hp) (s : St) : Prop := h 10 1 = nI s.m ∧ ∀ i, i < s.m → h 11 i = nI (s.P i)
def RC (h : Hp) (s : St) : Prop := CR h 1 s.g ∧ (∃ o, HC h s o) ∧ PC h s
def rwM (f : Nat → Int32) (a : Nat) (g : GS) : Prop := MR (fun j => f (383 * a + j)) g
def HM (h : Hp) (s : St) : Prop := h 12 10 = nI s.n ∧ (∀ i, i < s.n → rwM (h 16) i (s.H i)) ∧ (∀ i, i < 2 → h 18 i = bI (s.sv i) ∧ (s.sv i = true → rwM (h 17) i (s.S i)))
def PM (h : Hp) (s : St) : Prop := h 12 9 = nI s.m ∧ ∀ i, i < s.m → h 21 i = nI (s.P i)
def RM (h : Hp) (s : St) : Prop := MR (h 13) s.g ∧ HM h s ∧ PM h s
theorem MR_eq {s s' : Nat → Int32} {g : GS} (hM : MR s g) (e : ∀ j, j < 383 → s' j = s j) : MR s' g := by
  refine ⟨fun c hc => ?_, fun r hr => ⟨?_, fun y p hp => ?_⟩, fun q r p hq hr hp => ?_⟩
  · have := mx_lt hc
    rw [e _ (by omega)]; exact hM.1 c hc
  · rw [e _ (by omega)]; exact (hM.2.1 r hr).1
  · rw [e _ (by omega)]; exact (hM.2.1 r hr).2 y p hp
  · have := ix_lt hq hr hp
    rw [e _ (by omega), e _ (by omega)]; exact hM.2.2 q r p hq hr hp
def CF (h h' : Hp) : Prop := ∀ b, 12 ≤ b → h' b = h b
def MF (h h' : Hp) : Prop := ∀ b, b < 12 → h' b = h b
theorem CF.rf (h : Hp) : CF h h := fun _ _ => rfl
theorem MF.rf (h : Hp) : MF h h := fun _ _ => rfl
theorem CF.tr {h h1 h2 : Hp} (x : CF h h1) (y : CF h1 h2) : CF h h2 := fun b q => (y b q).trans (x b q)
theorem MF.tr {h h1 h2 : Hp} (x : MF h h1) (y : MF h1 h2) : MF h h2 := fun b q => (y b q).trans (x b q)
theorem SI_push {s : St} (hS : SI s) {g' : GS} (hI : IV g') : SI (push s g') := by
  obtain ⟨a1, a2, a3, a4, a5, a6⟩ := hS
  unfold push
  by_cases z : s.n < 6
  · rw [if_pos z]
    refine ⟨hI, show s.n + 1 ≤ 6 by omega, fun i hi => ?_, a4, a5, a6⟩
    replace hi : i < s.n + 1 := hi
    show IV (if i = s.n then s.g else s.H i)
    by_cases y : i = s.n
    · rw [if_pos y]; exact a1
    · rw [if_neg y]; exact a3 i (by omega)
  · rw [if_neg z]
    refine ⟨hI, a2, fun i hi => ?_, a4, a5, a6⟩
    replace hi : i < s.n := hi
    show IV (if i = 5 then s.g else s.H (i + 1))
    by_cases y : i = 5
    · rw [if_pos y]; exact a1
    · rw [if_neg y]; exact a3 _ (by omega)
theorem SI_chg {s : St} (hS : SI s) {v : Int32} {g' : GS} (hI : IV g') : SI (chg s v g') := by
  unfold chg
  by_cases z : v < 0
  · rw [if_pos z]; exact hS
  · rw [if_neg z]; exact SI_push hS hI
section S12
variable {h : Hp} {s : St}
theorem md7 {a : Nat} (ha : a < 2147483648) : nI a - nI a / 7 * 7 = nI (a % 7) := by
  rw [k_7, nI_divU ha (by omega) (by omega), pk_mul, nI_subU (by omega)]
  congr 1
  omega
theorem f2_circleRow_g {o i : Nat} (ho : o < 7) (h1 : h 8 1 = nI o) (hi : i < 8) : f2_circleRow (nI i) h = some (nI ((o + i) % 7 * 344), h) := by
  unfold f2_circleRow f2_circleRow_e
  rw [h1, nI_add, md7 (by omega), k_344, pk_mul]
theorem cpB_t {sp dp n n0 n1 : Nat} (h0 : sp + n ≤ n0) (h1 : dp + n ≤ n1) (b0 : n0 < 2147483648) (b1 : n1 < 2147483648) : cpB (nI sp) (nI dp) (nI n) n0 n1 = true := by
  unfold cpB
  refine decide_eq_true ⟨nI_pos (by omega), nI_pos (by omega), nI_pos (by omega), ?_, ?_⟩
  · rw [tn_nI (by omega), tn_nI (by omega)]; exact h0
  · rw [tn_nI (by omega), tn_nI (by omega)]; exact h1
theorem f5_copyInto_g {k : Nat} {a : Nat} (ha : a + 344 ≤ 3096) : f5_copyInto k (nI a) h = some (0, hf h 9 (va_cpy (h (k + 1)) (h 9) 0 a 344)) := by
  unfold f5_copyInto f5_copyInto_e
  rw [if_neg (nI_pos (by omega)), k_3096, k_344, nI_subU (by omega), if_neg (by rw [nI_ltU (by omega) (by omega)]; omega), k_0, if_pos (cpB_t (by omega) (by omega) (by omega) (by omega)), tn_nI (by omega), tn_nI (by omega), tn_nI (by omega)]
  rfl
theorem f5_copyOutOf_g {k : Nat} {a : Nat} (ha : a + 344 ≤ 3096) : f5_copyOutOf k (nI a) h = some (0, hf h (k + 1) (va_cpy (h 9) (h (k + 1)) a 0 344)) := by
  unfold f5_copyOutOf f5_copyOutOf_e
  rw [if_neg (nI_pos (by omega)), k_3096, k_344, nI_subU (by omega), if_neg (by rw [nI_ltU (by omega) (by omega)]; omega), k_0, if_pos (cpB_t (by omega) (by omega) (by omega) (by omega)), tn_nI (by omega), tn_nI (by omega), tn_nI (by omega)]
  rfl
theorem va_in {f g : Nat → Int32} {a n j : Nat} (hj : j < n) : va_cpy f g 0 a n (a + j) = f j := by
  unfold va_cpy
  rw [if_pos (by omega)]
  congr 1
  omega
theorem va_out {f g : Nat → Int32} {b a n j : Nat} (hj : ¬ (a ≤ j ∧ j < a + n)) : va_cpy f g b a n j = g j := by
  unfold va_cpy
  rw [if_neg hj]
theorem va_out0 {f g : Nat → Int32} {a n j : Nat} (hj : j < n) : va_cpy f g a 0 n j = f (a + j) := by
  unfold va_cpy
  rw [if_pos (by omega)]
  congr 1
theorem row_ne {o i j : Nat} (ho : o < 7) (hi : i < 7) (hj : j < 7) (hij : i ≠ j) : (o + i) % 7 ≠ (o + j) % 7 := by omega
theorem rwC_keep {o i : Nat} {g : GS} {a : Nat} {f : Nat → Int32} (hR : rwC h o i g) (hr : (o + i) % 7 ≠ a) : rwC (hf h 9 (va_cpy f (h 9) 0 (a * 344) 344)) o i g := by
  intro c hc
  rw [hf_s, va_out (by omega)]
  exact hR c hc
/-- staging: the row of the current state is laid behind the kept ones -/
theorem f2_stage_g (hR : RC h s) (hn : s.n ≤ 6) : ∃ o h', f2_stage h = some (0, h') ∧ HC h' s o ∧ rwC h' o s.n s.g ∧ (∀ b, b ≠ 9 → h' b = h b) := by
  obtain ⟨hC, ⟨o, b1, b2, b3, b4, b5, b6⟩, hP⟩ := hR
  refine ⟨o, hf h 9 (va_cpy (h 2) (h 9) 0 ((o + s.n) % 7 * 344) 344), ?_, ?_, ?_, fun b hb => hf_n _ _ _ hb⟩
  · unfold f2_stage f2_stage_e
    rw [b3, f2_circleRow_g b1 b2 (by omega), bsm]
    dsimp only
    rw [f5_copyInto_g (by omega), bsm]
  · refine ⟨b1, by rw [hf_n _ _ _ (by omega)]; exact b2, by rw [hf_n _ _ _ (by omega)]; exact b3, by rw [hf_n _ _ _ (by omega)]; exact b4, fun i hi => rwC_keep (b5 i hi) (row_ne b1 (by omega) (by omega) (by omega)), fun i hi y c hc => ?_⟩
    rw [hf_s, va_out (by omega)]
    exact b6 i hi y c hc
  · intro c hc
    rw [hf_s, va_in hc]
    exact hC c hc
theorem rec_neg {v : Int32} (hv : v < 0) : f2_recordUnlessError v h = some (v, h) := by
  unfold f2_recordUnlessError f2_recordUnlessError_e
  rw [if_neg (fun w => by
    have a := Int32.lt_iff_toInt_lt.mp hv
    have b := Int32.le_iff_toInt_le.mp w
    omega)]
theorem rec_pos {v : Int32} (hv : ¬ v < 0) {o : Nat} {g' : GS} (hH : HC h s o) (hW : rwC h o s.n s.g) (hC : CR h 1 g') (hP : PC h s) (hn : s.n ≤ 6) : ∃ h', f2_recordUnlessError v h = some (v, h') ∧ RC h' (push s g') ∧ CF h h' := by
  obtain ⟨b1, b2, b3, b4, b5, b6⟩ := hH
  have hv' : 0 ≤ v := by
    rw [Int32.le_iff_toInt_le]
    rw [Int32.lt_iff_toInt_lt] at hv
    omega
  unfold f2_recordUnlessError f2_recordUnlessError_e push
  rw [if_pos hv']
  by_cases z : s.n < 6
  · rw [if_neg (by rw [b3, k_6, nI_leU (by omega) (by omega)]; omega), bsm, if_pos z, b3, k_1, nI_add]
    refine ⟨_, rfl, ⟨fun c hc => ?_, ⟨o, b1, ?_, ?_, ?_, fun i hi => ?_, fun i hi y c hc => ?_⟩, ?_, fun i hi => ?_⟩, fun b hb => hu_n _ _ _ _ (by omega)⟩
    · rw [hu_n _ _ _ _ (by omega)]; exact hC c hc
    · rw [hu_s]; unfold upd; rw [if_neg (by omega)]; exact b2
    · rw [hu_s]; unfold upd; rw [if_pos rfl]; rfl
    · rw [hu_s]; unfold upd; rw [if_neg (by omega)]; exact b4
    · intro c hc
      rw [hu_n _ _ _ _ (by omega)]
      replace hi : i < s.n + 1 := hi
      show h 9 ((o + i) % 7 * 344 + c) = nI ((if i = s.n then s.g else s.H i) c)
      by_cases y : i = s.n
      · rw [if_pos y, y]; exact hW c hc
      · rw [if_neg y]; exact b5 i (by omega) c hc
    · rw [hu_n _ _ _ _ (by omega)]; exact b6 i hi y c hc
    · rw [hu_n _ _ _ _ (by omega)]; exact hP.1
    · rw [hu_n _ _ _ _ (by omega)]; exact hP.2 i hi
  · have hn6 : s.n = 6 := by omega
    rw [if_pos (by rw [b3, k_6, nI_leU (by omega) (by omega)]; omega), bsm, if_neg z, b2, k_1, nI_add, md7 (by omega)]
    refine ⟨_, rfl, ⟨fun c hc => ?_, ⟨(o + 1) % 7, by omega, ?_, ?_, ?_, fun i hi => ?_, fun i hi y c hc => ?_⟩, ?_, fun i hi => ?_⟩, fun b hb => hu_n _ _ _ _ (by omega)⟩
    · rw [hu_n _ _ _ _ (by omega)]; exact hC c hc
    · rw [hu_s]; unfold upd; rw [if_pos rfl]
    · rw [hu_s]; unfold upd; rw [if_neg (by omega)]; exact b3
    · rw [hu_s]; unfold upd; rw [if_neg (by omega)]; exact b4
    · intro c hc
      rw [hu_n _ _ _ _ (by omega)]
      replace hi : i < s.n := hi
      show h 9 (((o + 1) % 7 + i) % 7 * 344 + c) = nI ((if i = 5 then s.g else s.H (i + 1)) c)
      by_cases y : i = 5
      · rw [if_pos y, y, show ((o + 1) % 7 + 5) % 7 = (o + s.n) % 7 by omega]; exact hW c hc
      · rw [if_neg y, show ((o + 1) % 7 + i) % 7 = (o + (i + 1)) % 7 by omega]; exact b5 (i + 1) (by omega) c hc
    · rw [hu_n _ _ _ _ (by omega)]; exact b6 i hi y c hc
    · rw [hu_n _ _ _ _ (by omega)]; exact hP.1
    · rw [hu_n _ _ _ _ (by omega)]; exact hP.2 i hi
/-- a change of the class, in its frame -/
theorem C_change {op : Hp → Re} {v : Int32} {g' : GS} (hR : RC h s) (hS : SI s) (hop : ∀ h, CR h 1 s.g → ∃ h', op h = some (v, h') ∧ CR h' 1 g' ∧ (∀ b, b ≠ 2 → b ≠ 5 → b ≠ 6 → b ≠ 7 → h' b = h b)) (hv : v < 0 → g' = s.g) : ∃ h', ((f2_stage h).bind fun c1 => (op c1.2).bind fun c3 => (f2_recordUnlessError c3.1 c3.2).bind fun c5 => some (c5.1, c5.2)) = some (v, h') ∧ RC h' (chg s v g') ∧ CF h h' := by
  obtain ⟨o, h1, a1, a2, a3, a4⟩ := f2_stage_g hR hS.2.1
  have c1 : CR h1 1 s.g := fun c hc => by rw [a4 _ (by omega)]; exact hR.1 c hc
  have p1 : PC h1 s := ⟨by rw [a4 _ (by omega)]; exact hR.2.2.1, fun i hi => by rw [a4 _ (by omega)]; exact hR.2.2.2 i hi⟩
  obtain ⟨h2, d1, d2, d3⟩ := hop h1 c1
  have e8 : h2 8 = h1 8 := d3 8 (by omega) (by omega) (by omega) (by omega)
  have e9 : h2 9 = h1 9 := d3 9 (by omega) (by omega) (by omega) (by omega)
  have e10 : h2 10 = h1 10 := d3 10 (by omega) (by omega) (by omega) (by omega)
  have e11 : h2 11 = h1 11 := d3 11 (by omega) (by omega) (by omega) (by omega)
  have H2 : HC h2 s o := by unfold HC rwC; rw [e8, e9]; exact a2
  have W2 : rwC h2 o s.n s.g := by unfold rwC; rw [e9]; exact a3
  have P2 : PC h2 s := by unfold PC; rw [e10, e11]; exact p1
  have F2 : CF h h2 := fun b hb => by rw [d3 b (by omega) (by omega) (by omega) (by omega), a4 b (by omega)]
  rw [a1, bsm]
  dsimp only
  rw [d1, bsm]
  dsimp only
  unfold chg
  by_cases z : v < 0
  · rw [rec_neg z, bsm, if_pos z]
    rw [hv z] at d2
    exact ⟨h2, rfl, ⟨d2, ⟨o, H2⟩, P2⟩, F2⟩
  · obtain ⟨h3, f1, f2, f3⟩ := rec_pos z H2 W2 d2 P2 hS.2.1
    rw [f1, bsm, if_neg z]
    exact ⟨h3, rfl, f2, F2.tr f3⟩
end S12
