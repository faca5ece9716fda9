/-! texts: carryOut -/
theorem no59k : ∀ k, k < 6 → ∀ j, j < 11 → j < sLen k → ftn (kc k j) 59 = false ∧ ftn (kc k j) 0 = false := by decide +kernel
section S36
variable {m : Nat} {P : Nat → Nat} {a k : Nat} {g : GS} {h : Hp}
theorem ord_in (ho : (ordE m P a).2 = true) : ∀ i, a ≤ i → i < (ordE m P a).1 → tx m P i ≠ 59 ∧ i < m := by
  have hk := shp_le (tx m P a)
  intro i h1 h2
  have fin : ∀ j, i = a + j → j < sLen (shp (tx m P a)) → shp (tx m P a) < 6 → ofit m P a (shp (tx m P a)) j = true → tx m P i ≠ 59 ∧ i < m := by
    intro j hj hl h6 hf
    have n1 := no59k _ h6 j (by have := ln_le (shp (tx m P a)) (by omega); omega) hl
    unfold ofit at hf
    rw [← hj] at hf
    refine ⟨fun w => ?_, tx_in (m := m) (P := P) (fun w => ?_)⟩
    · rw [w, n1.1] at hf; exact absurd hf (by decide)
    · rw [w, n1.2] at hf; exact absurd hf (by decide)
  unfold ordE at ho h2
  by_cases z : shp (tx m P a) = 6
  · rw [if_pos z] at ho; exact absurd (show false = true from ho) (by decide)
  · rw [if_neg z] at ho h2
    by_cases y : (sc (ofit m P a (shp (tx m P a))) 0 (sLen (shp (tx m P a)))).2 = false
    · rw [if_pos y] at ho; exact absurd (show false = true from ho) (by decide)
    · rw [if_neg y] at h2
      have hs := sc_all _ _ 0 (show (sc (ofit m P a (shp (tx m P a))) 0 (sLen (shp (tx m P a)))).2 = true by
        cases w : (sc (ofit m P a (shp (tx m P a))) 0 (sLen (shp (tx m P a)))).2
        · exact absurd w y
        · rfl)
      by_cases x : shp (tx m P a) = 1 ∧ tx m P (a + 5) ≠ 48 ∧ rg 48 57 (tx m P (a + 6)) = true
      · rw [if_pos x] at h2
        have h3 : i < a + 7 := h2
        have e6 : sLen (shp (tx m P a)) = 6 := by rw [x.1]; rfl
        by_cases w : i = a + 6
        · have := of_decide_eq_true x.2.2
          rw [w]
          exact ⟨by omega, tx_in (m := m) (P := P) (by omega)⟩
        · exact fin (i - a) (by omega) (by omega) (by omega) (hs (i - a) (by omega) (by omega))
      · rw [if_neg x] at h2
        have h3 : i < a + sLen (shp (tx m P a)) := h2
        exact fin (i - a) (by omega) (by omega) (by omega) (hs (i - a) (by omega) (by omega))
theorem fE_none {d : Nat} (hf : fE m P (d + 1) a = none) : (ordE m P a).2 = true ∧ ((ordE m P a).1 = m ∨ ((ordE m P a).1 ≠ m ∧ tx m P (ordE m P a).1 = 59 ∧ fE m P d ((ordE m P a).1 + 1) = none)) := by
  have es : fE m P (d + 1) a = if (ordE m P a).2 = false then some (ordE m P a).1 else if (ordE m P a).1 = m then none else if tx m P (ordE m P a).1 ≠ 59 then some (ordE m P a).1 else fE m P d ((ordE m P a).1 + 1) := rfl
  rw [es] at hf
  cases eo : (ordE m P a).2
  · rw [eo, if_pos rfl] at hf; exact absurd hf (by simp)
  · rw [eo, if_neg (by decide)] at hf
    refine ⟨rfl, ?_⟩
    by_cases z : (ordE m P a).1 = m
    · exact Or.inl z
    · rw [if_neg z] at hf
      by_cases y : tx m P (ordE m P a).1 = 59
      · rw [if_neg (fun w => w y)] at hf
        exact Or.inr ⟨z, y, hf⟩
      · rw [if_pos y] at hf; exact absurd hf (by simp)
/-! the class -/
theorem cl_len (hP : PT h m P) : f4_length h = some (nI m, h) := by
  unfold f4_length f4_length_e
  rw [hP.2.2.1]
theorem cl_end0 (x1 x3 : Int32) (n : Nat) (h : Hp) : f7_carryOut_L32 (n + 1) x1 0 x3 h = f7_carryOut_j99 x1 h := by
  rw [f7_carryOut_L32_s]
  unfold f7_carryOut_B32 f4_length f4_length_e
  rw [bsm]
  dsimp only
  by_cases z : h 10 1 ≤ x3
  · rw [if_pos z]
  · rw [if_neg z, if_pos rfl]
theorem cl_endm (hP : PT h m P) (x1 x2 : Int32) {p : Nat} (hp : m ≤ p) (hp2 : p < 1000) (n : Nat) : f7_carryOut_L32 (n + 1) x1 x2 (nI p) h = f7_carryOut_j99 x1 h := by
  have := hP.1
  rw [f7_carryOut_L32_s]
  unfold f7_carryOut_B32
  rw [cl_len hP, bsm]
  dsimp only
  rw [if_pos (by rw [nI_leU (by omega) (by omega)]; exact hp)]
theorem begins_g (hP : PT h m P) {p : Nat} (hp : p < 500) : f3_beginsAt (nI p) h = some (bI (decide (p = 0 ∨ tx m P (p - 1) = 59)), h) := by
  have bt := tx_lt hP.2.1 (p - 1)
  unfold f3_beginsAt f3_beginsAt_e
  by_cases z : p = 0
  · rw [if_pos (by rw [z, k_0]), decide_eq_true (Or.inl z)]; rfl
  · rw [if_neg (by rw [k_0, nI_eqU (by omega) (by omega)]; exact z), k_1, nI_subU (by omega), f4_sign_g hP (by omega), bsm]
    dsimp only
    by_cases y : tx m P (p - 1) = 59
    · rw [if_pos (by rw [y, k_59]), decide_eq_true (Or.inr y)]; rfl
    · rw [if_neg (by rw [k_59, nI_eqU (by omega) (by omega)]; exact y), decide_eq_false (fun w => w.elim z y)]; rfl
theorem cl_skip (hP : PT h m P) (x1 : Int32) : ∀ (q p n : Nat), (∀ i, p ≤ i → i < p + q → i < m ∧ 1 ≤ i ∧ tx m P (i - 1) ≠ 59) → f7_carryOut_L32 (n + q) x1 1 (nI p) h = f7_carryOut_L32 n x1 1 (nI (p + q)) h := by
  have hm := hP.1
  intro q
  induction q with
  | zero => intro p n _; rfl
  | succ q ih =>
    intro p n hi
    have h0 := hi p (Nat.le_refl _) (by omega)
    rw [show n + (q + 1) = (n + q) + 1 by omega, f7_carryOut_L32_s]
    unfold f7_carryOut_B32
    rw [cl_len hP, bsm]
    dsimp only
    rw [if_neg (by rw [nI_leU (by omega) (by omega)]; omega), if_neg ne10, begins_g hP (by omega), bsm, decide_eq_false (fun w => w.elim (by omega) h0.2.2)]
    dsimp only
    rw [bF, k_1, nI_add, ← k_1, ih (p + 1) n (fun i h1 h2 => hi i (by omega) (by omega)), show p + 1 + q = p + (q + 1) by omega]
theorem PT_fr {h' : Hp} (hP : PT h m P) (f : ∀ b, b ≠ 2 → b ≠ 5 → b ≠ 6 → b ≠ 7 → h' b = h b) : PT h' m P := by
  unfold PT
  rw [f 10 (by omega) (by omega) (by omega) (by omega), f 11 (by omega) (by omega) (by omega) (by omega)]
  exact hP
theorem cl_main : ∀ (d a n c : Nat) (h : Hp) (g : GS), fE m P d a = none → a ≤ m → (a = 0 ∨ tx m P (a - 1) = 59) → m - a + 2 < n → PT h m P → CR h 1 g → IV g → ∃ h', f7_carryOut_L32 n (nI c) 1 (nI a) h = f7_carryOut_j99 (nI (rn m P d a g c).1) h' ∧ CR h' 1 (rn m P d a g c).2 ∧ (∀ b, b ≠ 2 → b ≠ 5 → b ≠ 6 → b ≠ 7 → h' b = h b) := by
  intro d
  induction d with
  | zero => intro a n c h g hf; exact absurd hf (by unfold fE; simp)
  | succ d ih =>
    intro a n c h g hf ham hbeg hn hP hC hI
    have hm := hP.1
    obtain ⟨ho, hcase⟩ := fE_none hf
    have hb := ordE_bd ho
    have hin := ord_in ho
    have ha := (hin a (Nat.le_refl _) (by omega)).2
    have he := (hin ((ordE m P a).1 - 1) (by omega) (by omega)).2
    obtain ⟨n, rfl⟩ : ∃ m, n = m + 1 := ⟨n - 1, by omega⟩
    obtain ⟨h1, a1, a2, a3⟩ := f3_obey_g hP hC hI (a := a) (by omega) ho
    have hP1 := PT_fr hP a3
    have i1 := I_ob (m := m) (P := P) (a := a) hI
    have es : rn m P (d + 1) a g c = if (obS m P a g).1 < 0 then (c, g) else if (ordE m P a).1 = m then (c + 1, (obS m P a g).2) else rn m P d ((ordE m P a).1 + 1) (obS m P a g).2 (c + 1) := rfl
    rw [f7_carryOut_L32_s]
    unfold f7_carryOut_B32 f7_carryOut_j85
    rw [cl_len hP, bsm]
    dsimp only
    rw [if_neg (by rw [nI_leU (by omega) (by omega)]; omega), if_neg ne10, begins_g hP (by omega), bsm, decide_eq_true hbeg]
    dsimp only
    rw [bT, a1, bsm, es]
    dsimp only
    by_cases z : (obS m P a g).1 < 0
    · rw [if_pos z, if_pos rfl, if_pos z]
      obtain ⟨n, rfl⟩ : ∃ m, n = m + 1 := ⟨n - 1, by omega⟩
      rw [cl_end0]
      rw [neg_ob hI z] at a2
      exact ⟨h1, rfl, a2, a3⟩
    · rw [if_neg z, if_neg ne10, if_neg z]
      have e1 : nI c + 1 = nI (c + 1) := by rw [k_1, nI_add]
      have e2 : nI a + 1 = nI (a + 1) := by rw [k_1, nI_add]
      rw [e1, e2]
      rcases hcase with w | ⟨w, y, f2⟩
      · rw [if_pos w]
        obtain ⟨n', hn'⟩ : ∃ n', n = n' + 1 + (m - a - 1) := ⟨n - 1 - (m - a - 1), by omega⟩
        rw [hn', cl_skip hP1 _ (m - a - 1) (a + 1) (n' + 1) (fun i h1 h2 => ⟨by omega, by omega, (hin (i - 1) (by omega) (by omega)).1⟩), cl_endm hP1 _ _ (by omega) (by omega)]
        exact ⟨h1, rfl, a2, a3⟩
      · rw [if_neg w]
        have hem := tx_in (m := m) (P := P) (i := (ordE m P a).1) (by omega)
        obtain ⟨n', hn'⟩ : ∃ n', n = n' + ((ordE m P a).1 - a) := ⟨n - ((ordE m P a).1 - a), by omega⟩
        rw [hn', cl_skip hP1 _ ((ordE m P a).1 - a) (a + 1) n' (fun i h1 h2 => ⟨by omega, by omega, (hin (i - 1) (by omega) (by omega)).1⟩), show a + 1 + ((ordE m P a).1 - a) = (ordE m P a).1 + 1 by omega]
        obtain ⟨h2, b1, b2, b3⟩ := ih ((ordE m P a).1 + 1) n' (c + 1) h1 _ f2 (by omega) (Or.inr (by rw [Nat.add_sub_cancel]; exact y)) (by omega) hP1 a2 i1
        exact ⟨h2, b1, b2, fun b y1 y2 y3 y4 => (b3 b y1 y2 y3 y4).trans (a3 b y1 y2 y3 y4)⟩
theorem C_carry {s : St} (hR : RC h s) (hS : SI s) : ∃ h', f7_carryOut h = some ((caoS s).1, h') ∧ RC h' (caoS s).2 ∧ CF h h' := by
  have hP := PT_of hR hS
  have hle := fE_le (m := s.m) (P := s.P) 80 0 (Nat.zero_le _)
  unfold f7_carryOut f7_carryOut_e caoS
  rw [f3_firstFault_g hP, bsm]
  dsimp only
  by_cases z : fE s.m s.P 80 0 = none
  · rw [z, if_pos (show fI none = -6 from rfl), if_pos rfl]
    obtain ⟨o, h1, a1, a2, a3, a4⟩ := f2_stage_g hR hS.2.1
    have c1 : CR h1 1 s.g := fun c hc => by rw [a4 _ (by omega)]; exact hR.1 c hc
    have p1 : PT h1 s.m s.P := by unfold PT; rw [a4 10 (by omega), a4 11 (by omega)]; exact hP
    rw [a1, bsm]
    dsimp only
    obtain ⟨h2, b1, b2, b3⟩ := cl_main 80 0 FU 0 h1 s.g z (Nat.zero_le _) (Or.inl rfl) (by have := hP.1; unfold FU; omega) p1 c1 hS.1
    rw [← k_0] at b1
    rw [b1]
    unfold f7_carryOut_j99 f4_empty f4_empty_e
    rw [bsm, bsm]
    dsimp only
    have e8 : h2 8 = h1 8 := b3 8 (by omega) (by omega) (by omega) (by omega)
    have e9 : h2 9 = h1 9 := b3 9 (by omega) (by omega) (by omega) (by omega)
    have H3 : HC (hu h2 10 1 0) (s.g, s.n, s.H, s.sv, s.S, 0, s.P) o := by
      unfold HC rwC
      rw [hu_n _ _ _ _ (show (8 : Nat) ≠ 10 by omega), hu_n _ _ _ _ (show (9 : Nat) ≠ 10 by omega), e8, e9]
      exact a2
    have W3 : rwC (hu h2 10 1 0) o s.n s.g := by
      unfold rwC
      rw [hu_n _ _ _ _ (show (9 : Nat) ≠ 10 by omega), e9]
      exact a3
    have C3 : CR (hu h2 10 1 0) 1 (rn s.m s.P 80 0 s.g 0).2 := fun c hc => by rw [hu_n _ _ _ _ (by omega)]; exact b2 c hc
    have P3 : PC (hu h2 10 1 0) (s.g, s.n, s.H, s.sv, s.S, 0, s.P) := ⟨by rw [hu_s]; unfold upd; rw [if_pos rfl]; exact k_0, fun i hi => absurd hi (Nat.not_lt_zero _)⟩
    have hle2 := rn_le (m := s.m) (P := s.P) 80 0 s.g 0
    obtain ⟨h4, d1, d2, d3⟩ := rec_pos (s := (s.g, s.n, s.H, s.sv, s.S, 0, s.P)) (v := nI (rn s.m s.P 80 0 s.g 0).1) (nI_pos (by omega)) H3 W3 C3 P3 hS.2.1
    rw [d1, bsm]
    exact ⟨h4, rfl, d2, fun b hb => by rw [d3 b hb, hu_n _ _ _ _ (by omega), b3 b (by omega) (by omega) (by omega) (by omega), a4 b (by omega)]⟩
  · rw [if_neg z, if_neg]
    · exact ⟨h, rfl, hR, CF.rf h⟩
    · cases e : fE s.m s.P 80 0 with
      | none => exact absurd e z
      | some w =>
        have := hle w e
        show ¬ nI w = -6
        rw [k_m6, nI_eqU (by omega) (by omega)]
        omega
/-! the model -/
theorem RS_lt {f : Nat → Int32} {N : Nat} : ∀ (d a k : Nat), fE m P d a = none → RS f m P N d a k → k < N := by
  intro d
  induction d with
  | zero => intro a k hf; exact absurd hf (by unfold fE; simp)
  | succ d ih =>
    intro a k hf hr
    obtain ⟨ho, hcase⟩ := fE_none hf
    have h2 : (if (ordE m P a).1 = m then N = k + 1 else RS f m P N d ((ordE m P a).1 + 1) (k + 1)) := hr.2
    rcases hcase with w | ⟨w, y, f2⟩
    · rw [if_pos w] at h2; omega
    · rw [if_neg w] at h2
      have := ih _ _ f2 h2
      omega
theorem ml_end0 (x1 : Int32) (n : Nat) (h : Hp) : f8_carryOut_L18 (n + 1) x1 0 h = f8_carryOut_j59 x1 h := by
  rw [f8_carryOut_L18_s]
  unfold f8_carryOut_B18
  rw [if_pos rfl]
theorem ml_endN {N k' : Nat} (hN : h 12 11 = nI N) (hk : N ≤ k') (hk2 : k' < 1000) (n : Nat) : f8_carryOut_L18 (n + 1) (nI k') 1 h = f8_carryOut_j59 (nI k') h := by
  rw [f8_carryOut_L18_s]
  unfold f8_carryOut_B18
  rw [if_neg ne10, if_pos (by rw [hN, nI_leU (by omega) (by omega)]; exact hk)]
theorem ml_main (hb : ∀ i, i < m → P i < 256) {N : Nat} (hN41 : N ≤ 41) : ∀ (d a n k : Nat) (h : Hp) (g : GS), fE m P d a = none → RS (h 20) m P N d a k → h 12 11 = nI N → d + 1 < n → MR (h 13) g → IV g → ∃ h', f8_carryOut_L18 n (nI k) 1 h = f8_carryOut_j59 (nI (rn m P d a g k).1) h' ∧ MR (h' 13) (rn m P d a g k).2 ∧ FM h h' := by
  intro d
  induction d with
  | zero => intro a n k h g hf; exact absurd hf (by unfold fE; simp)
  | succ d ih =>
    intro a n k h g hf hr hN hn hM hI
    have hkN := RS_lt _ _ _ hf hr
    obtain ⟨ho, hcase⟩ := fE_none hf
    have r2 : (if (ordE m P a).1 = m then N = k + 1 else RS (h 20) m P N d ((ordE m P a).1 + 1) (k + 1)) := hr.2
    obtain ⟨n, rfl⟩ : ∃ m, n = m + 1 := ⟨n - 1, by omega⟩
    obtain ⟨n, rfl⟩ : ∃ m, n = m + 1 := ⟨n - 1, by omega⟩
    obtain ⟨h1, a1, a2, a3⟩ := f8_does_g hM hI hr.1 hb (by omega)
    have i1 := I_ob (m := m) (P := P) (a := a) hI
    have hN1 : h1 12 11 = nI N := by rw [a3 12 (by omega) (by omega)]; exact hN
    have e20 : h1 20 = h 20 := a3 20 (by omega) (by omega)
    have es : rn m P (d + 1) a g k = if (obS m P a g).1 < 0 then (k, g) else if (ordE m P a).1 = m then (k + 1, (obS m P a g).2) else rn m P d ((ordE m P a).1 + 1) (obS m P a g).2 (k + 1) := rfl
    rw [f8_carryOut_L18_s]
    unfold f8_carryOut_B18 f8_carryOut_j43
    rw [if_neg ne10, if_neg (by rw [hN, nI_leU (by omega) (by omega)]; omega), a1, bsm, es]
    dsimp only
    by_cases z : (obS m P a g).1 < 0
    · rw [if_pos z, if_pos rfl, if_pos z, Int32.add_zero, ml_end0]
      rw [neg_ob hI z] at a2
      exact ⟨h1, rfl, a2, a3⟩
    · have e1 : nI k + 1 = nI (k + 1) := by rw [k_1, nI_add]
      rw [if_neg z, if_neg ne10, if_neg z, e1]
      rcases hcase with w | ⟨w, y, f2⟩
      · rw [if_pos w] at r2
        rw [if_pos w, ml_endN hN1 (by omega) (by omega)]
        exact ⟨h1, rfl, a2, a3⟩
      · rw [if_neg w] at r2
        rw [if_neg w]
        obtain ⟨h2, b1, b2, b3⟩ := ih ((ordE m P a).1 + 1) (n + 1) (k + 1) h1 _ f2 (by rw [e20]; exact r2) hN1 (by omega) a2 i1
        exact ⟨h2, b1, b2, a3.tr b3⟩
theorem M_carry {s : St} (hR : RM h s) (hS : SI s) : ∃ h', f8_carryOut h = some ((caoS s).1, h') ∧ RM h' (caoS s).2 ∧ MF h h' := by
  obtain ⟨h1, N, a1, a2, a3, a4, a5⟩ := f8_faultOf_g (h := h) hS.2.2.2.2.1 hS.2.2.2.2.2 hR.2.2.1 hR.2.2.2
  have hle := fE_le (m := s.m) (P := s.P) 80 0 (Nat.zero_le _)
  have R1 := RM_XF hR a4
  unfold f8_carryOut f8_carryOut_e caoS
  rw [a1, bsm]
  dsimp only
  by_cases z : fE s.m s.P 80 0 = none
  · obtain ⟨h2, b1, b2, b3, b4⟩ := hold_R R1
    rw [if_pos z, if_pos (by rw [z]; decide), b1, bsm]
    dsimp only
    obtain ⟨h3, c1, c2, c3⟩ := ml_main hS.2.2.2.2.2 a3 80 0 FU 0 h2 s.g z (by rw [b4 20 (by omega)]; exact a5 z) (by rw [b4 12 (by omega)]; exact a2) (by unfold FU; omega) b2.1 hS.1
    rw [← k_0] at c1
    rw [c1]
    unfold f8_carryOut_j59
    rw [bsm]
    have ec : ∀ c, c ≠ 12 → c ≠ 13 → c ≠ 19 → hu h3 12 9 0 c = h2 c := fun c x1 x2 x3 => by rw [hu_n _ _ _ _ x1, c3 c x2 x3]
    have e12 : hu h3 12 9 0 12 10 = h2 12 10 := by rw [hu_s]; unfold upd; rw [if_neg (by omega), c3 12 (by omega) (by omega)]
    have e9 : hu h3 12 9 0 12 9 = nI 0 := by rw [hu_s]; unfold upd; rw [if_pos rfl]; exact k_0
    have e13 : hu h3 12 9 0 13 = h3 13 := hu_n _ _ _ _ (by omega)
    have eM : MF h (hu h3 12 9 0) := fun b hb => by rw [ec b (by omega) (by omega) (by omega), b4 b (by omega), a4.1 b (by omega) (by omega)]
    generalize hu h3 12 9 0 = h4 at ec e12 e9 e13 eM ⊢
    have M4 : MR (h4 13) (rn s.m s.P 80 0 s.g 0).2 := by rw [e13]; exact c2
    have W4 : MR (h4 14) s.g := by rw [ec 14 (by omega) (by omega) (by omega)]; exact b3
    have H4 : HM h4 (s.g, s.n, s.H, s.sv, s.S, 0, s.P) := by
      have := b2.2.1
      unfold HM rwM at this ⊢
      rw [ec 16 (by omega) (by omega) (by omega), ec 17 (by omega) (by omega) (by omega), ec 18 (by omega) (by omega) (by omega), e12]
      exact this
    have P4 : PM h4 (s.g, s.n, s.H, s.sv, s.S, 0, s.P) := ⟨e9, fun i hi => absurd hi (Nat.not_lt_zero _)⟩
    have hle2 := rn_le (m := s.m) (P := s.P) 80 0 s.g 0
    obtain ⟨h5, d1, d2, d3⟩ := mrec_pos (s := (s.g, s.n, s.H, s.sv, s.S, 0, s.P)) (v := nI (rn s.m s.P 80 0 s.g 0).1) (nI_pos (by omega)) M4 W4 H4 P4 hS.2.1
    rw [d1, bsm]
    exact ⟨h5, rfl, d2, eM.tr d3⟩
  · rw [if_neg z, if_neg]
    · exact ⟨h1, rfl, R1, fun b hb => a4.1 b (by omega) (by omega)⟩
    · cases e : fE s.m s.P 80 0 with
      | none => exact absurd e z
      | some w =>
        have := hle w e
        show ¬ nI w < 0
        exact nI_pos (by omega)
theorem SI_carry {s : St} (hS : SI s) : SI (caoS s).2 := by
  unfold caoS
  by_cases z : fE s.m s.P 80 0 = none
  · rw [if_pos z]
    exact SI_push (SI_wipe hS) (I_rn 80 0 s.g 0 hS.1)
  · rw [if_neg z]; exact hS
end S36
