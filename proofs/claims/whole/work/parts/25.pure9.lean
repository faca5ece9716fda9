/-! a breath: the model -/
section B3
variable {h : Hp} {g : GS}
def AH (h : Hp) (G C : Nat → Nat) : Prop := ∀ j, j < 8 → h 19 (2 * j) = nI (C j) ∧ h 19 (2 * j + 1) = nI (G j)
/-- what the model's breath doesn't touch -/
def FM (h h' : Hp) : Prop := ∀ b, b ≠ 13 → b ≠ 19 → h' b = h b
theorem FM.rf (h : Hp) : FM h h := fun _ _ _ => rfl
theorem FM.tr {h h1 h2 : Hp} (x : FM h h1) (y : FM h1 h2) : FM h h2 := fun b a1 a2 => (y b a1 a2).trans (x b a1 a2)
theorem ahead_in {q r : Nat} (hq : q < 4) (hr : r < 5) (d : Int32) : ∀ (m k n : Nat) (h0 h : Hp), k + m = 16 → m < n → h 13 = h0 13 → (∀ j, j < k → h 19 j = h0 13 (ix q r 0 + j)) → (∀ b, b ≠ 19 → h b = h0 b) → ∃ h', f8_ringBreath_L6 n (nI q) (nI r) d 0 (nI k) h = f8_ringBreath_L43 FU (nI q) (nI r) d 0 0 h' ∧ (∀ j, j < 16 → h' 19 j = h0 13 (ix q r 0 + j)) ∧ (∀ b, b ≠ 19 → h' b = h0 b) := by
  intro m
  induction m with
  | zero =>
    intro k n h0 h hk hn e1 e2 e3
    obtain ⟨n, rfl⟩ : ∃ m, n = m + 1 := ⟨n - 1, by omega⟩
    rw [f8_ringBreath_L6_s]
    unfold f8_ringBreath_B6
    rw [if_pos (by rw [k_16, nI_leU (by omega) (by omega)]; omega)]
    exact ⟨h, rfl, fun j hj => e2 j (by omega), e3⟩
  | succ m ih =>
    intro k n h0 h hk hn e1 e2 e3
    obtain ⟨n, rfl⟩ : ∃ m, n = m + 1 := ⟨n - 1, by omega⟩
    have hx : ix q r 0 + k < 383 := by unfold ix; omega
    rw [f8_ringBreath_L6_s]
    unfold f8_ringBreath_B6
    have ep : f8_p (nI q) (nI r) 0 h = some (nI (ix q r 0), h) := by rw [k_0]; exact f8_p_g
    rw [if_neg (by rw [k_16, nI_leU (by omega) (by omega)]; omega), ep, bsm]
    dsimp only
    rw [nI_add, gd _ hx (by omega), gd _ (by omega) (by omega), bsm, tn_nI (by omega), tn_nI (by omega), k_1, nI_add]
    exact ih (k + 1) n h0 _ (by omega) (by omega) (by rw [hu_n _ _ _ _ (by omega)]; exact e1) (fun j hj => by
      rw [hu_s]
      unfold upd
      by_cases z : j = k
      · rw [if_pos z, e1, z]
      · rw [if_neg z]; exact e2 j (by omega)) (fun b hb => by rw [hu_n _ _ _ _ hb]; exact e3 b hb)
theorem f8_spills_g (hM : MR (h 13) g) {H : Nat} (hH1 : g 1 = H) (hH : H ≤ 99) {G C : Nat → Nat} (hA : AH h G C) (hG : ∀ j, j < 8 → G j ≤ 99) {p : Nat} (hp : p < 8) : f8_spills (nI p) h = some (nI (spl H (G p)), h) := by
  have h1 := hG p hp
  unfold f8_spills f8_spills_e spl
  rw [k_2, k_1, pk_mul, nI_add, gd _ (by omega) (by omega), tn_nI (by omega), tn_nI (by omega), (hA p hp).2, hM.set (by omega), hH1, bsm]
  by_cases z : H < G p
  · rw [nI_subU (by omega), if_neg (by rw [k_0, nI_leU (by omega) (by omega)]; omega), if_pos z, nI_divU (by omega) (by omega) (by omega)]
  · rw [if_neg z, if_pos, k_0]
    rw [Int32.le_iff_toInt_le, pk_sub_toInt (by omega) (by omega)]
    show (_ : Int) ≤ Int32.toInt 0
    rw [show Int32.toInt 0 = 0 by decide]
    omega
theorem ring_step (hM : MR (h 13) g) {H : Nat} (hH1 : g 1 = H) (hH : H ≤ 99) {G C : Nat → Nat} (hA : AH h G C) (hG : ∀ j, j < 8 → G j ≤ 99) (hCc : ∀ j, j < 8 → C j ≤ 6) {q r p d L : Nat} (hq : q < 4) (hr : r < 5) (hp : p < 8) (hd : d < 2) (k43 : Int32 → Int32 → Int32 → Int32 → Int32 → Hp → Re) : ∃ h', f8_ringBreath_B43 k43 (nI q) (nI r) (nI d) (nI L) (nI p) h = k43 (nI q) (nI r) (nI d) (nI (L + ls H G C d p)) (nI (p + 1)) h' ∧ MR (h' 13) (hpS g q r p (nc C d p) (tg H G C d p)) ∧ FR h h' 13 := by
  have hs := src_lt d p
  have hGp := hG p hp
  have hGs := hG _ hs
  have hs1 := spl_le H (G p)
  have hs2 := spl_le H (G (src d p))
  have hcp := hCc p hp
  have hcs := hCc _ hs
  have hwb : wb H G C d p ≤ 198 := by unfold wb; split <;> omega
  have htg9 : tg H G C d p ≤ 99 := Nat.min_le_left _ _
  have hnc : nc C d p ≤ 6 := by unfold nc; split <;> omega
  have hx := ix_lt hq hr hp
  -- the place is laid
  have e216 : ∀ L' over : Nat, wb H G C d p - over = tg H G C d p → over ≤ wb H G C d p → ∃ h', f8_ringBreath_j216 k43 (nI q) (nI r) (nI d) (nI L') (nI p) (nI (wb H G C d p)) (nI over) (nI (nc C d p)) (nI (ix q r p)) h = k43 (nI q) (nI r) (nI d) (nI L') (nI (p + 1)) h' ∧ MR (h' 13) (hpS g q r p (nc C d p) (tg H G C d p)) ∧ FR h h' 13 := by
    intro L' over ho ho2
    unfold f8_ringBreath_j216
    rw [nI_subU ho2, ho]
    obtain ⟨h1, a, b, c⟩ := f8_puts_g (c := nc C d p) (n := tg H G C d p) hM hq hr hp (by omega)
    rw [a, bsm, k_1, nI_add]
    exact ⟨h1, rfl, b, c⟩
  have e181 : ∀ L1 L2 over : Nat, wb H G C d p - over = tg H G C d p → over ≤ wb H G C d p → ∃ h', f8_ringBreath_j181 k43 (nI q) (nI r) (nI d) (nI p) (nI (src d p)) (nI (C p)) (nI (wb H G C d p)) (nI over) (nI L2) (nI L1) h = k43 (nI q) (nI r) (nI d) (nI (L1 + (L2 + over))) (nI (p + 1)) h' ∧ MR (h' 13) (hpS g q r p (nc C d p) (tg H G C d p)) ∧ FR h h' 13 := by
    intro L1 L2 over ho ho2
    unfold f8_ringBreath_j181
    rw [f8_p_g, bsm]
    dsimp only
    rw [nI_add, nI_add]
    by_cases z : C p = 0
    · rw [if_pos (by rw [z, k_0]), k_2, pk_mul, k_0, nI_add, gd _ (by omega) (by omega), Nat.add_zero, tn_nI (by omega), (hA _ hs).1]
      have e : nc C d p = C (src d p) := by unfold nc; rw [if_pos z]
      have := e216 (L1 + (L2 + over)) over ho ho2
      rw [e] at this
      rw [e]
      exact this
    · rw [if_neg (by rw [k_0, nI_eqU (by omega) (by omega)]; exact z)]
      have e : nc C d p = C p := by unfold nc; rw [if_neg z]
      have := e216 (L1 + (L2 + over)) over ho ho2
      rw [e] at this
      rw [e]
      exact this
  have e147 : ∀ (jn : Bool) (y1 y0 : Nat), y1 + y0 = wb H G C d p → ∃ h', f8_ringBreath_j147 k43 (nI q) (nI r) (nI d) (nI L) (nI p) (nI (src d p)) (nI (spl H (G (src d p)))) (nI (C p)) (bI jn) (nI y0) (nI y1) h = k43 (nI q) (nI r) (nI d) (nI (L + (wb H G C d p - tg H G C d p + (if jn then 0 else spl H (G (src d p)))))) (nI (p + 1)) h' ∧ MR (h' 13) (hpS g q r p (nc C d p) (tg H G C d p)) ∧ FR h h' 13 := by
    intro jn y1 y0 hy
    have fin : ∀ over : Nat, over = wb H G C d p - tg H G C d p → ∃ h', f8_ringBreath_j166 k43 (nI q) (nI r) (nI d) (nI L) (nI p) (nI (src d p)) (nI (spl H (G (src d p)))) (nI (C p)) (bI jn) (nI (wb H G C d p)) (nI over) h = k43 (nI q) (nI r) (nI d) (nI (L + (wb H G C d p - tg H G C d p + (if jn then 0 else spl H (G (src d p)))))) (nI (p + 1)) h' ∧ MR (h' 13) (hpS g q r p (nc C d p) (tg H G C d p)) ∧ FR h h' 13 := by
      intro over ho
      have ht : tg H G C d p ≤ wb H G C d p := Nat.min_le_right _ _
      unfold f8_ringBreath_j166
      cases jn
      · rw [bF]
        obtain ⟨h', a, b⟩ := e181 L (spl H (G (src d p))) over (by omega) (by omega)
        refine ⟨h', ?_, b⟩
        rw [a, ho, Nat.add_comm (spl H (G (src d p)))]
        rfl
      · rw [bT]
        obtain ⟨h', a, b⟩ := e181 L 0 over (by omega) (by omega)
        refine ⟨h', ?_, b⟩
        rw [k_0, a, ho, Nat.zero_add]
        rfl
    unfold f8_ringBreath_j147
    rw [nI_add, hy]
    by_cases z : wb H G C d p ≤ 99
    · rw [if_pos (by rw [k_99, nI_leU (by omega) (by omega)]; exact z)]
      have := fin 0 (by unfold tg; rw [Nat.min_eq_right z]; omega)
      rwa [← k_0] at this
    · rw [if_neg (by rw [k_99, nI_leU (by omega) (by omega)]; exact z), k_99, nI_subU (by omega)]
      exact fin _ (by unfold tg; rw [Nat.min_eq_left (by omega)])
  have e116 : ∀ jn : Bool, (jn = true ↔ nc C d p = C (src d p)) → ∃ h', f8_ringBreath_j116 k43 (nI q) (nI r) (nI d) (nI L) (nI p) (nI (src d p)) (nI (spl H (G (src d p)))) (nI (C p)) (bI jn) h = k43 (nI q) (nI r) (nI d) (nI (L + ls H G C d p)) (nI (p + 1)) h' ∧ MR (h' 13) (hpS g q r p (nc C d p) (tg H G C d p)) ∧ FR h h' 13 := by
    intro jn hj
    unfold f8_ringBreath_j116
    rw [k_2, k_1, pk_mul, nI_add, gd _ (by omega) (by omega), f8_spills_g hM hH1 hH hA hG hp, bsm, tn_nI (by omega), (hA p hp).2]
    dsimp only
    rw [nI_subU hs1]
    cases jn
    · have hj' : ¬ nc C d p = C (src d p) := fun z => by have := hj.mpr z; cases this
      rw [bF]
      have := e147 false (G p - spl H (G p)) 0 (by unfold wb; rw [if_neg hj'])
      unfold ls
      rw [if_neg hj']
      rwa [← k_0] at this
    · have hj' := hj.mp rfl
      rw [bT]
      have := e147 true (G p - spl H (G p)) (spl H (G (src d p))) (by unfold wb; rw [if_pos hj'])
      unfold ls
      rw [if_pos hj']
      exact this
  have e63 : ∀ y0 : Nat, (p + y0) % 8 = src d p → y0 < 8 → ∃ h', f8_ringBreath_j63 k43 (nI q) (nI r) (nI d) (nI L) (nI p) (nI y0) (nI p) h = k43 (nI q) (nI r) (nI d) (nI (L + ls H G C d p)) (nI (p + 1)) h' ∧ MR (h' 13) (hpS g q r p (nc C d p) (tg H G C d p)) ∧ FR h h' 13 := by
    intro y0 hy hy8
    unfold f8_ringBreath_j63 f8_ringBreath_j111
    rw [nI_add, md8 (by omega), hy, f8_spills_g hM hH1 hH hA hG hs, bsm]
    dsimp only
    rw [k_2, pk_mul, k_0, nI_add, gd _ (by omega) (by omega), Nat.add_zero, tn_nI (by omega), (hA p hp).1, bsm]
    by_cases z : C p = 0
    · rw [if_pos (by rw [z])]
      exact e116 true ⟨fun _ => by unfold nc; rw [if_pos z], fun _ => rfl⟩
    · rw [if_neg (by rw [nI_eqU (by omega) (by omega)]; exact z), pk_mul, nI_add, gd _ (by omega) (by omega), Nat.add_zero, tn_nI (by omega)]
      have en : nc C d p = C p := by unfold nc; rw [if_neg z]
      by_cases z2 : C p = C (src d p)
      · rw [if_pos (by rw [(hA _ hs).1, z2])]
        exact e116 true ⟨fun _ => by rw [en]; exact z2, fun _ => rfl⟩
      · rw [if_neg (by rw [(hA _ hs).1, nI_eqU (by omega) (by omega)]; exact z2)]
        have := e116 false ⟨fun y => (by cases y), fun y => absurd (en ▸ y) z2⟩
        exact this
  unfold f8_ringBreath_B43
  rw [if_neg (by rw [k_8, nI_leU (by omega) (by omega)]; omega)]
  by_cases z : d = 1
  · rw [if_pos (by rw [z, k_1]), k_1]
    exact e63 1 (by unfold src; rw [if_pos z]) (by omega)
  · rw [if_neg (by rw [k_1, nI_eqU (by omega) (by omega)]; exact z), k_7]
    exact e63 7 (by unfold src; rw [if_neg z]) (by omega)
theorem f8_ring_in (hI : IV g) {q r d : Nat} (hq : q < 4) (hr : r < 5) (hd : d < 2) : ∀ (m p n : Nat) (h : Hp), p + m = 8 → m < n → MR (h 13) (rbS g q r d p) → AH h (aG g q r) (aC g q r) → ∃ h', f8_ringBreath_L43 n (nI q) (nI r) (nI d) (nI (rlS g q r d p)) (nI p) h = some (nI (rlS g q r d 8), h') ∧ MR (h' 13) (rbS g q r d 8) ∧ FR h h' 13 := by
  intro m
  induction m with
  | zero =>
    intro p n h hp hn hM hA
    obtain ⟨n, rfl⟩ : ∃ m, n = m + 1 := ⟨n - 1, by omega⟩
    obtain rfl : p = 8 := by omega
    rw [f8_ringBreath_L43_s]
    unfold f8_ringBreath_B43
    rw [if_pos (by rw [k_8]; exact Int32.le_refl _)]
    exact ⟨h, rfl, hM, FR.rf _ _⟩
  | succ m ih =>
    intro p n h hp hn hM hA
    obtain ⟨n, rfl⟩ : ∃ m, n = m + 1 := ⟨n - 1, by omega⟩
    rw [f8_ringBreath_L43_s]
    have hb : ∀ j, j < 8 → gr g q r j ≤ 99 ∧ co g q r j ≤ 6 := fun j hj => ⟨(hI.2.2.2.2.2.2.2.2 q r j hq hr hj).1, (hI.2.2.2.2.2.2.2.2 q r j hq hr hj).2.1⟩
    obtain ⟨h1, a1, a2, a3⟩ := ring_step (L := rlS g q r d p) hM (rbS_lo g q r d (by omega) p) hI.2.1.2 hA (fun j hj => (hb j hj).1) (fun j hj => (hb j hj).2) hq hr (p := p) (by omega) hd (f8_ringBreath_L43 n)
    rw [a1]
    obtain ⟨h2, b1, b2, b3⟩ := ih (p + 1) n h1 (by omega) (by omega) a2 (fun j hj => by rw [a3 19 (by omega)]; exact hA j hj)
    exact ⟨h2, b1, b2, a3.tr b3⟩
theorem f8_ringBreath_g (hM : MR (h 13) g) (hI : IV g) {q r d : Nat} (hq : q < 4) (hr : r < 5) (hd : d < 2) : ∃ h', f8_ringBreath (nI q) (nI r) (nI d) h = some (nI (rlS g q r d 8), h') ∧ MR (h' 13) (rbS g q r d 8) ∧ FM h h' := by
  unfold f8_ringBreath f8_ringBreath_e
  obtain ⟨h1, a1, a2, a3⟩ := ahead_in hq hr (nI d) 16 0 FU h h (by omega) (by unfold FU; omega) rfl (fun j hj => by omega) (fun _ _ => rfl)
  have e0 : ∀ h, f8_ringBreath_L6 FU (nI q) (nI r) (nI d) 0 0 h = f8_ringBreath_L6 FU (nI q) (nI r) (nI d) 0 (nI 0) h := by intro h; rw [← k_0]
  rw [e0, a1]
  have hA : AH h1 (aG g q r) (aC g q r) := by
    intro j hj
    rw [a2 _ (by omega), a2 _ (by omega)]
    have e1 : ix q r 0 + 2 * j = ix q r j := by unfold ix; omega
    rw [← Nat.add_assoc, e1]
    exact ⟨hM.co hq hr hj, hM.gr hq hr hj⟩
  obtain ⟨h2, b1, b2, b3⟩ := f8_ring_in hI hq hr hd 8 0 FU h1 (by omega) (by unfold FU; omega) (by rw [a3 13 (by omega)]; exact hM) hA
  refine ⟨h2, ?_, b2, fun b x1 x2 => by rw [b3 b x1, a3 b x2]⟩
  rw [show rlS g q r d 0 = 0 from rfl] at b1
  rw [← b1, ← k_0]
theorem f8_breathes_out {q d : Nat} (hq : q < 4) (hd : d < 2) : ∀ (m r n : Nat) (h : Hp) (g : GS) (L0 : Nat), r + m = 5 → m < n → IV g → MR (h 13) g → ∃ h', f8_breathes_L31 n (nI q) (nI d) (nI L0) (nI r) h = some (nI (L0 + (ovS q d m r g).2.1), h') ∧ MR (h' 13) (gu (ovS q d m r g).1 23 (g 23 + (L0 + (ovS q d m r g).2.1))) ∧ FM h h' := by
  intro m
  induction m with
  | zero =>
    intro r n h g L0 hr hn hI hM
    obtain ⟨n, rfl⟩ : ∃ m, n = m + 1 := ⟨n - 1, by omega⟩
    rw [f8_breathes_L31_s]
    unfold f8_breathes_B31
    rw [if_pos (by rw [k_5, nI_leU (by omega) (by omega)]; omega), bsm, tn_6, hM.los, nI_add]
    exact ⟨_, rfl, MRu hM (c := 23) (i := 6) (g 23 + L0) (Or.inr (by omega)) rfl, fun b x1 _ => hu_n _ _ _ _ x1⟩
  | succ m ih =>
    intro r n h g L0 hr hn hI hM
    obtain ⟨n, rfl⟩ : ∃ m, n = m + 1 := ⟨n - 1, by omega⟩
    rw [f8_breathes_L31_s]
    unfold f8_breathes_B31
    rw [if_neg (by rw [k_5, nI_leU (by omega) (by omega)]; omega)]
    obtain ⟨h1, a1, a2, a3⟩ := f8_ringBreath_g (q := q) (r := r) (d := d) hM hI hq (by omega) hd
    rw [a1, bsm]
    dsimp only
    rw [nI_add, k_1, nI_add]
    obtain ⟨h2, b1, b2, b3⟩ := ih (r + 1) n h1 _ (L0 + rlS g q r d 8) (by omega) (by omega) (IV_rb hI d hq (by omega) 8 (by omega)) a2
    refine ⟨h2, ?_, ?_, a3.tr b3⟩
    · rw [b1, Nat.add_assoc]; rfl
    · rw [rbS_lo g q r d (by omega) 8, Nat.add_assoc] at b2
      exact b2
theorem M_breathe (hM : MR (h 13) g) (hI : IV g) (x1 x2 : Int32) : ∃ h', f8_breathes x1 x2 h = some ((breS g x1 x2).1, h') ∧ MR (h' 13) (breS g x1 x2).2 ∧ FM h h' := by
  have h19 : g 19 ≤ 5 := hI.2.2.2.2.2.2.1
  unfold f8_breathes f8_breathes_e breS
  rw [f8_isQuarter_b, bsm]
  dsimp only
  cases e1 : inR x1 4
  · rw [bF, sF]
    exact ⟨h, rfl, hM, FM.rf _⟩
  · rw [bT, sT, f8_in_01, bsm]
    dsimp only
    cases e2 : inR x2 2
    · rw [bF, sF]
      exact ⟨h, rfl, hM, FM.rf _⟩
    · rw [bT, sT]
      obtain ⟨q, hq, rfl⟩ := inR_of e1 (by omega)
      obtain ⟨d, hd, rfl⟩ := inR_of e2 (by omega)
      rw [tN_nI (by omega), tN_nI (by omega), bsm, tn_3, hM.clo]
      obtain ⟨h2, b1, b2, b3⟩ := f8_breathes_out hq hd (5 - g 19) (g 19) FU h g 0 (by omega) (by unfold FU; omega) hI hM
      rw [Nat.zero_add] at b1 b2
      refine ⟨h2, ?_, b2, b3⟩
      rw [k_0]
      exact b1
end B3
