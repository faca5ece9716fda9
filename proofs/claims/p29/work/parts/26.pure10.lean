/-! sweep and pattern -/
def swq (t : Nat) : Nat := if t = 1 then 2 else if t = 2 then 1 else t
def clS (g : GS) (q : Nat) : Nat → GS
  | 0 => g
  | k + 1 => gu (hpS (clS g q k) q (k / 8) (k % 8) 0 0) 23 (clS g q k 23 + gr (clS g q k) q (k / 8) (k % 8))
def dpS (g : GS) : GS := fun j => if 3 ≤ j ∧ j < 8 then 4294967295 else g j
def endS (g : GS) : GS := gu (dpS (gu (gu g 20 0) 19 0)) 21 (g 21 + 1)
def sweS (g : GS) : Int32 × GS := if g 19 < 5 then (-5, g) else (nI (swq (g 20)), if g 20 + 1 < 4 then gu (clS g (swq (g 20)) 40) 20 (g 20 + 1) else endS (clS g (swq (g 20)) 40))
theorem clS_lo (g : GS) (q : Nat) {j : Nat} (hj : j < 23) : ∀ k, clS g q k j = g j := by
  intro k
  induction k with
  | zero => rfl
  | succ k ih => unfold clS; rw [gu_ne (by omega), hpS_lo _ (by omega), ih]
theorem IV_cl {g : GS} (hI : IV g) {q : Nat} (hq : q < 4) : ∀ k, k ≤ 40 → IV (clS g q k) := by
  intro k
  induction k with
  | zero => exact fun _ => hI
  | succ k ih =>
    intro hk
    unfold clS
    exact IV_gu (IV_hpS (ih (by omega)) hq (by omega) (by omega) (by omega) (Or.inl rfl)) (by omega) (by omega) (by omega) (by omega) (by omega) (by omega) (by omega) (by omega) (by omega)
theorem swq_lt {t : Nat} (ht : t < 4) : swq t < 4 := by unfold swq; repeat' split
                                                        all_goals omega
section S10
variable {h : Hp} {g : GS}
theorem swo_is : ∀ t, t < 4 → swo.getD t 0 = nI (swq t) := by decide +kernel
theorem f1_quarterOfTurn_g {t : Nat} (ht : t < 4) : f1_quarterOfTurn (nI t) h = some (nI (swq t), h) := by
  unfold f1_quarterOfTurn f1_quarterOfTurn_e
  rw [if_neg (nI_pos (by omega)), if_neg (by rw [k_4, nI_leU (by omega) (by omega)]; omega), gd _ ht (by omega), tn_nI (by omega), swo_is t ht]
theorem sweep_in {q r : Nat} (t : Nat) (hq : q < 4) (hr : r < 5) (k27 : Int32 → Int32 → Int32 → Hp → Re) : ∀ (m p n : Nat) (h : Hp), p + m = 8 → m < n → CR h 1 (clS g q (8 * r + p)) → ∃ h', f1_sweepQuarter_L35 k27 n (nI t) (nI q) (nI r) (nI p) h = k27 (nI t) (nI q) (nI (r + 1)) h' ∧ CR h' 1 (clS g q (8 * (r + 1))) ∧ FR h h' 2 := by
  intro m
  induction m with
  | zero =>
    intro p n h hp hn hC
    obtain ⟨n, rfl⟩ : ∃ m, n = m + 1 := ⟨n - 1, by omega⟩
    rw [f1_sweepQuarter_L35_s]
    unfold f1_sweepQuarter_B35
    rw [if_pos (by rw [k_8, nI_leU (by omega) (by omega)]; omega), k_1, nI_add]
    exact ⟨h, rfl, by rw [show 8 * (r + 1) = 8 * r + p by omega]; exact hC, FR.rf _ _⟩
  | succ m ih =>
    intro p n h hp hn hC
    obtain ⟨n, rfl⟩ : ∃ m, n = m + 1 := ⟨n - 1, by omega⟩
    rw [f1_sweepQuarter_L35_s]
    unfold f1_sweepQuarter_B35
    rw [if_neg (by rw [k_8, nI_leU (by omega) (by omega)]; omega), f5_grains_g hC hq hr (by omega), bsm]
    dsimp only
    obtain ⟨h1, a1, a2, a3⟩ := f5_raise_g (c := 23) (v := gr (clS g q (8 * r + p)) q r p) hC (by omega)
    rw [k_23, a1, bsm]
    dsimp only
    obtain ⟨h2, b1, b2, b3⟩ := f5_heap_g (c := 0) (n := 0) a2 hq hr (p := p) (by omega) (by omega)
    have e0 : f5_heap 1 (nI q) (nI r) (nI p) 0 0 h1 = some (0, h2) := by rw [← b1, k_0]
    rw [e0, bsm, k_1, nI_add]
    dsimp only
    have e1 : hpS (gu (clS g q (8 * r + p)) 23 (clS g q (8 * r + p) 23 + gr (clS g q (8 * r + p)) q r p)) q r p 0 0 = clS g q (8 * r + (p + 1)) := by
      rw [gu_hpS _ (by omega), show 8 * r + (p + 1) = (8 * r + p) + 1 by omega]
      show _ = gu (hpS (clS g q (8 * r + p)) q ((8 * r + p) / 8) ((8 * r + p) % 8) 0 0) 23 (clS g q (8 * r + p) 23 + gr (clS g q (8 * r + p)) q ((8 * r + p) / 8) ((8 * r + p) % 8))
      rw [show (8 * r + p) / 8 = r by omega, show (8 * r + p) % 8 = p by omega]
    rw [e1] at b2
    obtain ⟨h3, c1, c2, c3⟩ := ih (p + 1) n h2 (by omega) (by omega) b2
    exact ⟨h3, c1, c2, (a3.tr b3).tr c3⟩
theorem dropPatterns_g (hC : CR h 1 g) : ∃ h', f5_dropPatterns 1 h = some (0, h') ∧ CR h' 1 (dpS g) ∧ FR h h' 2 := by
  have loop : ∀ (m r n : Nat) (h : Hp), r + m = 5 → m < n → CR h 1 (fun j => if 3 ≤ j ∧ j < 3 + r then 4294967295 else g j) → ∃ h', f5_dropPatterns_L2 1 n (nI r) h = some (0, h') ∧ CR h' 1 (dpS g) ∧ FR h h' 2 := by
    intro m
    induction m with
    | zero =>
      intro r n h hr hn hC
      obtain ⟨n, rfl⟩ : ∃ m, n = m + 1 := ⟨n - 1, by omega⟩
      obtain rfl : r = 5 := by omega
      rw [f5_dropPatterns_L2_s]
      unfold f5_dropPatterns_B2
      rw [if_pos (by rw [k_5]; exact Int32.le_refl _)]
      exact ⟨h, rfl, hC, FR.rf _ _⟩
    | succ m ih =>
      intro r n h hr hn hC
      obtain ⟨n, rfl⟩ : ∃ m, n = m + 1 := ⟨n - 1, by omega⟩
      rw [f5_dropPatterns_L2_s]
      unfold f5_dropPatterns_B2
      obtain ⟨h1, a1, a2, a3⟩ := f5_lay_g (c := 3 + r) (v := 4294967295) hC (by omega)
      rw [if_neg (by rw [k_5, nI_leU (by omega) (by omega)]; omega), k_3, nI_add, k_m1, a1, bsm, k_1, nI_add]
      dsimp only
      obtain ⟨h2, b1, b2, b3⟩ := ih (r + 1) n h1 (by omega) (by omega) (fun c hc => by
        rw [a2 c hc]
        unfold gu
        congr 1
        dsimp only
        by_cases z : c = 3 + r
        · rw [if_pos z, if_pos (by omega)]
        · rw [if_neg z]
          by_cases z2 : 3 ≤ c ∧ c < 3 + r
          · rw [if_pos z2, if_pos (by omega)]
          · rw [if_neg z2, if_neg (by omega)])
      exact ⟨h2, b1, b2, a3.tr b3⟩
  unfold f5_dropPatterns f5_dropPatterns_e
  rw [k_0]
  obtain ⟨h', a, b, c⟩ := loop 5 0 FU h (by omega) (by unfold FU; omega) (fun c hc => by dsimp only; rw [if_neg (by omega)]; exact hC c hc)
  exact ⟨h', by rw [a, k_0], b, c⟩
theorem end_eq (G : GS) (v : Nat) : gu (dpS (gu (gu (gu G 20 v) 20 0) 19 0)) 21 (dpS (gu (gu (gu G 20 v) 20 0) 19 0) 21 + 1) = endS G := by
  unfold endS
  have e7 : gu (gu G 20 v) 20 0 = gu G 20 0 := by
    funext j; unfold gu; by_cases y : j = 20 <;> simp [y]
  rw [e7]
  have e8 : dpS (gu (gu G 20 0) 19 0) 21 = G 21 := rfl
  rw [e8]
theorem end_eq2 (G : GS) (v : Nat) : dpS (gu (gu (gu (gu G 20 v) 20 0) 19 0) 21 (gu (gu (gu G 20 v) 20 0) 19 0 21 + 1)) = endS G := by
  have e8 : gu (gu (gu G 20 v) 20 0) 19 0 21 = G 21 := rfl
  rw [e8]
  unfold endS
  funext j
  unfold dpS gu
  dsimp only
  by_cases y : 3 ≤ j ∧ j < 8
  · rw [if_pos y, if_neg (by omega), if_pos y]
  · rw [if_neg y, if_neg y]
    by_cases y1 : j = 21
    · rw [if_pos y1, if_pos y1]
    · rw [if_neg y1, if_neg y1]
      by_cases y2 : j = 19
      · rw [if_pos y2, if_pos y2]
      · rw [if_neg y2, if_neg y2]
        by_cases y3 : j = 20
        · rw [if_pos y3, if_pos y3]
        · rw [if_neg y3, if_neg y3, if_neg y3]
theorem C_sweep (hC : CR h 1 g) (hI : IV g) : ∃ h', f1_sweepQuarter h = some ((sweS g).1, h') ∧ CR h' 1 (sweS g).2 ∧ FR h h' 2 := by
  have h19 : g 19 ≤ 5 := hI.2.2.2.2.2.2.1
  have h20 : g 20 ≤ 3 := hI.2.2.2.2.2.2.2.1
  have hq := swq_lt (t := g 20) (by omega)
  have out : ∀ (m r n : Nat) (h : Hp), r + m = 5 → m < n → CR h 1 (clS g (swq (g 20)) (8 * r)) → ∃ h', f1_sweepQuarter_L27 n (nI (g 20)) (nI (swq (g 20))) (nI r) h = some (nI (swq (g 20)), h') ∧ CR h' 1 (if g 20 + 1 < 4 then gu (clS g (swq (g 20)) 40) 20 (g 20 + 1) else endS (clS g (swq (g 20)) 40)) ∧ FR h h' 2 := by
    intro m
    induction m with
    | zero =>
      intro r n h hr hn hC
      obtain ⟨n, rfl⟩ : ∃ m, n = m + 1 := ⟨n - 1, by omega⟩
      obtain rfl : r = 5 := by omega
      rw [show 8 * 5 = 40 from rfl] at hC
      generalize clS g (swq (g 20)) 40 = G at hC ⊢
      rw [f1_sweepQuarter_L27_s]
      unfold f1_sweepQuarter_B27
      obtain ⟨h1, a1, a2, a3⟩ := f5_lay_g (c := 20) (v := g 20 + 1) hC (by omega)
      rw [if_pos (by rw [k_5]; exact Int32.le_refl _), k_20, k_1, nI_add, a1, bsm]
      dsimp only
      by_cases z : g 20 + 1 < 4
      · rw [if_pos (by rw [k_4, nI_ltU (by omega) (by omega)]; exact z), if_pos z]
        exact ⟨h1, rfl, a2, a3⟩
      · rw [if_neg (by rw [k_4, nI_ltU (by omega) (by omega)]; exact z), if_neg z]
        unfold f1_beginAnew f1_beginAnew_e
        obtain ⟨h2, b1, b2, b3⟩ := f5_lay_g (c := 20) (v := 0) a2 (by omega)
        rw [k_20, k_0, b1, bsm]
        dsimp only
        obtain ⟨h3, c1, c2, c3⟩ := f5_lay_g (c := 19) (v := 0) b2 (by omega)
        rw [k_19, c1, bsm]
        dsimp only
        obtain ⟨h4, d1, d2, d3⟩ := dropPatterns_g c2
        rw [d1, bsm]
        dsimp only
        obtain ⟨h5, e1, e2, e3⟩ := f5_raise_g (c := 21) (v := 1) d2 (by omega)
        rw [k_21, k_1, e1, bsm, bsm]
        refine ⟨h5, rfl, ?_, (((a3.tr b3).tr c3).tr d3).tr e3⟩
        rw [end_eq] at e2
        exact e2
    | succ m ih =>
      intro r n h hr hn hC
      obtain ⟨n, rfl⟩ : ∃ m, n = m + 1 := ⟨n - 1, by omega⟩
      rw [f1_sweepQuarter_L27_s]
      unfold f1_sweepQuarter_B27
      rw [if_neg (by rw [k_5, nI_leU (by omega) (by omega)]; omega), k_0]
      obtain ⟨h1, a1, a2, a3⟩ := sweep_in (g := g) (g 20) hq (r := r) (by omega) (f1_sweepQuarter_L27 n) 8 0 FU h (by omega) (by unfold FU; omega) hC
      rw [a1]
      obtain ⟨h2, b1, b2, b3⟩ := ih (r + 1) n h1 (by omega) (by omega) a2
      exact ⟨h2, b1, b2, a3.tr b3⟩
  unfold f1_sweepQuarter f1_sweepQuarter_e sweS
  rw [k_19, f5_number_g hC (by omega), bsm]
  dsimp only
  by_cases z : g 19 < 5
  · rw [if_neg (by rw [k_5, nI_leU (by omega) (by omega)]; omega), if_pos z]
    exact ⟨h, rfl, hC, FR.rf _ _⟩
  · rw [if_pos (by rw [k_5, nI_leU (by omega) (by omega)]; omega), if_neg z, k_20, f5_number_g hC (by omega), bsm]
    dsimp only
    rw [f1_quarterOfTurn_g (by omega), bsm, k_0]
    exact out 5 0 FU h (by omega) (by unfold FU; omega) hC
theorem MR_dp {s s' : Nat → Int32} (hM : MR s g) (h1 : ∀ j, 18 ≤ j → j < 63 → s' j = 0) (h2 : ∀ j, ¬ (18 ≤ j ∧ j < 63) → s' j = s j) : MR s' (dpS g) := by
  refine ⟨fun c hc => ?_, fun r hr => ?_, fun q r p hq hr hp => ?_⟩
  · have hl := mx_lt hc
    rw [h2 _ (by omega)]
    unfold dpS
    rw [if_neg (by unfold vc at hc; omega)]
    exact hM.1 c hc
  · have e : dpS g (3 + r) = 4294967295 := by unfold dpS; rw [if_pos (by omega)]
    rw [e]
    exact ⟨by rw [h1 _ (by omega) (by omega), if_pos rfl, k_0], fun y => absurd rfl y⟩
  · have e1 : gr (dpS g) q r p = gr g q r p := by unfold gr dpS; rw [if_neg (by omega)]
    have e2 : co (dpS g) q r p = co g q r p := by unfold co dpS; rw [if_neg (by omega)]
    rw [e1, e2, h2 _ (by unfold ix; omega), h2 _ (by unfold ix; omega)]
    exact hM.2.2 q r p hq hr hp
theorem I_sweep (hI : IV g) : IV (sweS g).2 := by
  have h20 : g 20 ≤ 3 := hI.2.2.2.2.2.2.2.1
  have hq := swq_lt (t := g 20) (by omega)
  unfold sweS
  split
  · exact hI
  · have i1 := IV_cl hI hq 40 (by omega)
    dsimp only
    split
    · exact IV_gu i1 (by omega) (by omega) (by omega) (by omega) (by omega) (by omega) (by omega) (by omega) (by omega)
    · unfold endS
      have i2 : IV (gu (gu (clS g (swq (g 20)) 40) 20 0) 19 0) := IV_gu (IV_gu i1 (by omega) (by omega) (by omega) (by omega) (by omega) (by omega) (by omega) (by omega) (by omega)) (by omega) (by omega) (by omega) (by omega) (by omega) (by omega) (by omega) (by omega) (by omega)
      generalize gu (gu (clS g (swq (g 20)) 40) 20 0) 19 0 = G at i2
      have i3 : IV (dpS G) := by
        obtain ⟨a1, a2, a3, a4, a5, a6, a7, a8, a9⟩ := i2
        have key : ∀ j, ¬ (3 ≤ j ∧ j < 8) → dpS G j = G j := fun j hj => by unfold dpS; rw [if_neg hj]
        refine ⟨by rw [key _ (by omega)]; exact a1, by rw [key _ (by omega)]; exact a2, by rw [key _ (by omega)]; exact a3, fun r hr => Or.inl (by unfold dpS; rw [if_pos (by omega)]), fun c h1 h2 => by rw [key _ (by omega)]; exact a5 c h1 h2, fun q h1 => by rw [key _ (by omega)]; exact a6 q h1, by rw [key _ (by omega)]; exact a7, by rw [key _ (by omega)]; exact a8, fun q r p h1 h2 h3 => ?_⟩
        have e1 : gr (dpS G) q r p = gr G q r p := by unfold gr; rw [key _ (by omega)]
        have e2 : co (dpS G) q r p = co G q r p := by unfold co; rw [key _ (by omega)]
        rw [e1, e2]
        exact a9 q r p h1 h2 h3
      exact IV_gu i3 (by omega) (by omega) (by omega) (by omega) (by omega) (by omega) (by omega) (by omega) (by omega)
end S10
