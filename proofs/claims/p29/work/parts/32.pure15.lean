/-! the changes, whole -/
theorem ls_le (H : Nat) {G C : Nat → Nat} {d p : Nat} (h1 : G p ≤ 99) (h2 : G (src d p) ≤ 99) : ls H G C d p ≤ 297 := by
  have a := spl_le H (G p)
  have b := spl_le H (G (src d p))
  unfold ls wb
  split <;> omega
theorem rl_le {g : GS} (hI : IV g) {q r : Nat} (d : Nat) (hq : q < 4) (hr : r < 5) : ∀ p, p ≤ 8 → rlS g q r d p ≤ p * 297 := by
  intro p
  induction p with
  | zero => intro _; unfold rlS; omega
  | succ p ih =>
    intro hp
    have := ls_le (g 1) (G := aG g q r) (C := aC g q r) (d := d) (p := p) (hI.2.2.2.2.2.2.2.2 q r p hq hr (by omega)).1 (hI.2.2.2.2.2.2.2.2 q r (src d p) hq hr (src_lt d p)).1
    have := ih (by omega)
    unfold rlS
    omega
theorem ov_le {q d : Nat} (hq : q < 4) : ∀ (m r : Nat) (g : GS), r + m = 5 → IV g → (ovS q d m r g).2.1 ≤ m * 2376 := by
  intro m
  induction m with
  | zero => exact fun r g _ h => Nat.le_refl _
  | succ m ih =>
    intro r g hr h
    have a := ih (r + 1) _ (by omega) (IV_rb h d hq (show r < 5 by omega) 8 (by omega))
    have b := rl_le h d hq (show r < 5 by omega) 8 (by omega)
    show rlS g q r d 8 + (ovS q d m (r + 1) (rbS g q r d 8)).2.1 ≤ (m + 1) * 2376
    omega
theorem br_le {g : GS} (hI : IV g) {q d : Nat} (hq : q < 4) : (brS g q d).2.1 ≤ 11880 := by
  have h19 : g 19 ≤ 5 := hI.2.2.2.2.2.2.1
  have := ov_le (d := d) hq (5 - g 19) (g 19) g (by omega) hI
  unfold brS
  omega
section S16
variable {h : Hp} {g : GS} {s : St}
theorem neg_set (hI : IV g) (x1 x2 : Int32) : (setS g x1 x2).1 < 0 → (setS g x1 x2).2 = g := by
  rw [setS_eq]
  by_cases z : okV x1 x2
  · rw [if_pos z]
    obtain ⟨i, v, hi, hv, rfl, rfl, _⟩ := okV_of z
    have gi : g i ≤ 99 := by
      have h0 := hI.1
      have h1 := hI.2.1
      have h2 := hI.2.2.1
      rcases (show i = 0 ∨ i = 1 ∨ i = 2 by omega) with w | w | w
      · rw [w]; omega
      · rw [w]; omega
      · rw [w]; omega
    rw [tN_nI (by omega)]
    exact fun y => absurd y (nI_pos (by omega))
  · rw [if_neg z]; exact fun _ => rfl
theorem neg_pattern (x1 x2 : Int32) : (patS g x1 x2).1 < 0 → (patS g x1 x2).2 = g := by
  unfold patS
  cases e1 : inR x1 5
  · rw [sF]; exact fun _ => rfl
  · rw [sT]
    cases e2 : okP x2
    · rw [sF]; exact fun _ => rfl
    · rw [sT]
      split
      · exact fun _ => rfl
      · generalize decide (g (3 + tN x1) ≠ 4294967295) = b
        intro y
        cases b
        · exact absurd (show bI false < 0 from y) (by decide)
        · exact absurd (show bI true < 0 from y) (by decide)
theorem neg_take (hI : IV g) (x1 x2 : Int32) : (takS g x1 x2).1 < 0 → (takS g x1 x2).2 = g := by
  unfold takS
  cases e1 : inR x1 4
  · rw [sF]; exact fun _ => rfl
  · obtain ⟨q, hq, rfl⟩ := inR_of e1 (by omega)
    rw [sT, tN_nI (by omega)]
    cases e2 : inR x2 7
    · rw [sF]; exact fun _ => rfl
    · rw [sT]
      split
      · exact fun _ => rfl
      · exact fun y => absurd y (nI_pos (by have := gb hI hq; omega))
theorem neg_fill (x1 x2 : Int32) : (filS g x1 x2).1 < 0 → (filS g x1 x2).2 = g := by
  unfold filS
  cases e1 : inC x1 1 6
  · rw [sF]; exact fun _ => rfl
  · rw [sT]
    cases e2 : inC x2 1 9999
    · rw [sF]; exact fun _ => rfl
    · rw [sT]
      exact fun y => absurd y (nI_pos (by omega))
theorem neg_pour (x1 x2 x3 x4 : Int32) : (pouS g x1 x2 x3 x4).1 < 0 → (pouS g x1 x2 x3 x4).2 = g := by
  unfold pouS
  cases e1 : (inR x1 4 && inR x2 5 && inR x3 8)
  · rw [sF]; exact fun _ => rfl
  · rw [sT]
    cases e2 : inC x4 1 99
    · rw [sF]; exact fun _ => rfl
    · rw [sT]
      split
      · exact fun _ => rfl
      · split
        · exact fun _ => rfl
        · exact fun y => absurd y (nI_pos (by omega))
theorem neg_scrape (hI : IV g) (x1 x2 x3 : Int32) : (scrS g x1 x2 x3).1 < 0 → (scrS g x1 x2 x3).2 = g := by
  unfold scrS
  cases e1 : (inR x1 4 && inR x2 5 && inR x3 8)
  · rw [sF]; exact fun _ => rfl
  · rw [sT]
    obtain ⟨a1, a2, a3⟩ := i3 e1
    obtain ⟨q, hq, rfl⟩ := inR_of a1 (by omega)
    obtain ⟨r, hr, rfl⟩ := inR_of a2 (by omega)
    obtain ⟨p, hp, rfl⟩ := inR_of a3 (by omega)
    rw [tN_nI (by omega), tN_nI (by omega), tN_nI (by omega)]
    have := hI.2.2.2.2.2.2.2.2 q r p hq hr hp
    split
    · exact fun _ => rfl
    · exact fun y => absurd y (nI_pos (by omega))
theorem neg_breathe (hI : IV g) (x1 x2 : Int32) : (breS g x1 x2).1 < 0 → (breS g x1 x2).2 = g := by
  unfold breS
  cases e1 : inR x1 4
  · rw [sF]; exact fun _ => rfl
  · obtain ⟨q, hq, rfl⟩ := inR_of e1 (by omega)
    rw [sT, tN_nI (by omega)]
    cases e2 : inR x2 2
    · rw [sF]; exact fun _ => rfl
    · rw [sT]
      exact fun y => absurd y (nI_pos (by have := br_le hI (d := tN x2) hq; omega))
theorem neg_close (hI : IV g) : (cloS g).1 < 0 → (cloS g).2 = g := by
  have h19 : g 19 ≤ 5 := hI.2.2.2.2.2.2.1
  unfold cloS
  split
  · exact fun _ => rfl
  · exact fun y => absurd y (nI_pos (by omega))
theorem neg_sweep (hI : IV g) : (sweS g).1 < 0 → (sweS g).2 = g := by
  have h20 : g 20 ≤ 3 := hI.2.2.2.2.2.2.2.1
  have := swq_lt (t := g 20) (by omega)
  unfold sweS
  split
  · exact fun _ => rfl
  · exact fun y => absurd y (nI_pos (by omega))
theorem fr5 {h h' : Hp} (c : FR h h' 2) : ∀ b, b ≠ 2 → b ≠ 5 → b ≠ 6 → b ≠ 7 → h' b = h b := fun b y _ _ _ => c b y
abbrev CT (h : Hp) (s : St) (f : Hp → Re) (r : Int32 × GS) : Prop := ∃ h', f h = some (r.1, h') ∧ RC h' (chg s r.1 r.2) ∧ CF h h'
abbrev MT (h : Hp) (s : St) (f : Hp → Re) (r : Int32 × GS) : Prop := ∃ h', f h = some (r.1, h') ∧ RM h' (chg s r.1 r.2) ∧ MF h h'
theorem t7_pattern (hR : RC h s) (hS : SI s) (x1 x2 : Int32) : CT h s (f7_pattern x1 x2) (patS s.g x1 x2) := by
  unfold CT f7_pattern f7_pattern_e
  exact C_change (op := f1_layPattern x1 x2) hR hS (fun h hC => by obtain ⟨h', a, b, c⟩ := C_pattern hC hS.1 x1 x2; exact ⟨h', a, b, fr5 c⟩) (neg_pattern x1 x2)
theorem t7_take (hR : RC h s) (hS : SI s) (x1 x2 : Int32) : CT h s (f7_take x1 x2) (takS s.g x1 x2) := by
  unfold CT f7_take f7_take_e
  exact C_change (op := f1_takeFunnel x1 x2) hR hS (fun h hC => by obtain ⟨h', a, b, c⟩ := C_take hC hS.1 x1 x2; exact ⟨h', a, b, fr5 c⟩) (neg_take hS.1 x1 x2)
theorem t7_fill (hR : RC h s) (hS : SI s) (x1 x2 : Int32) : CT h s (f7_fill x1 x2) (filS s.g x1 x2) := by
  unfold CT f7_fill f7_fill_e
  exact C_change (op := f1_fillFunnel x1 x2) hR hS (fun h hC => by obtain ⟨h', a, b, c⟩ := C_fill hC hS.1 x1 x2; exact ⟨h', a, b, fr5 c⟩) (neg_fill x1 x2)
theorem t7_pour (hR : RC h s) (hS : SI s) (x1 x2 x3 x4 : Int32) : CT h s (f7_pour x1 x2 x3 x4) (pouS s.g x1 x2 x3 x4) := by
  unfold CT f7_pour f7_pour_e
  exact C_change (op := f1_pourGrains x1 x2 x3 x4) hR hS (fun h hC => by obtain ⟨h', a, b, c⟩ := C_pour hC hS.1 x1 x2 x3 x4; exact ⟨h', a, b, fr5 c⟩) (neg_pour x1 x2 x3 x4)
theorem t7_scrape (hR : RC h s) (hS : SI s) (x1 x2 x3 : Int32) : CT h s (f7_scrape x1 x2 x3) (scrS s.g x1 x2 x3) := by
  unfold CT f7_scrape f7_scrape_e
  exact C_change (op := f1_scrapeBare x1 x2 x3) hR hS (fun h hC => by obtain ⟨h', a, b, c⟩ := C_scrape hC hS.1 x1 x2 x3; exact ⟨h', a, b, fr5 c⟩) (neg_scrape hS.1 x1 x2 x3)
theorem t7_breathe (hR : RC h s) (hS : SI s) (x1 x2 : Int32) : CT h s (f7_breathe x1 x2) (breS s.g x1 x2) := by
  unfold CT f7_breathe f7_breathe_e
  exact C_change (op := f1_blow x1 x2) hR hS (fun h hC => by obtain ⟨h', a, b, c⟩ := C_breathe hC hS.1 x1 x2; exact ⟨h', a, b, fun b y1 y2 y3 y4 => c b y1 y2 y3 y4⟩) (neg_breathe hS.1 x1 x2)
theorem t7_close (hR : RC h s) (hS : SI s) : CT h s f7_close (cloS s.g) := by
  unfold CT f7_close f7_close_e
  exact C_change (op := f1_closeRing) hR hS (fun h hC => by obtain ⟨h', a, b, c⟩ := C_close hC hS.1; exact ⟨h', a, b, fr5 c⟩) (neg_close hS.1)
theorem t7_sweep (hR : RC h s) (hS : SI s) : CT h s f7_sweep (sweS s.g) := by
  unfold CT f7_sweep f7_sweep_e
  exact C_change (op := f1_sweepQuarter) hR hS (fun h hC => by obtain ⟨h', a, b, c⟩ := C_sweep hC hS.1; exact ⟨h', a, b, fr5 c⟩) (neg_sweep hS.1)
end S16
