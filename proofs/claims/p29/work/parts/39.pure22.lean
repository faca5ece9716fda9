/-! what a breath leaves as it is -/
section S23
variable {g : GS}
theorem gr_hp (g : GS) {q r p c n q' r' p' : Nat} (hq : q < 4) (hr : r < 5) (hp : p < 8) (hq' : q' < 4) (hr' : r' < 5) (hp' : p' < 8) (hne : ¬ (q' = q ∧ r' = r ∧ p' = p)) : gr (hpS g q r p c n) q' r' p' = gr g q' r' p' ∧ co (hpS g q r p c n) q' r' p' = co g q' r' p' := by
  rw [hpS_gr g hq hr hp hq' hr' hp', hpS_co g hq hr hp hq' hr' hp', if_neg hne, if_neg hne]
  exact ⟨rfl, rfl⟩
theorem rbS_other {q r d r' p' : Nat} (hq : q < 4) (hr : r < 5) (hr' : r' < 5) (hp' : p' < 8) (hne : r' ≠ r) : ∀ n, n ≤ 8 → gr (rbS g q r d n) q r' p' = gr g q r' p' ∧ co (rbS g q r d n) q r' p' = co g q r' p' := by
  intro n
  induction n with
  | zero => exact fun _ => ⟨rfl, rfl⟩
  | succ n ih =>
    intro hn
    have a := gr_hp (rbS g q r d n) (c := nc (aC g q r) d n) (n := tg (g 1) (aG g q r) (aC g q r) d n) hq hr (show n < 8 by omega) hq hr' hp' (fun w => hne w.2.1)
    have b := ih (by omega)
    exact ⟨a.1.trans b.1, a.2.trans b.2⟩
theorem rbS_at {q r d p' : Nat} (hq : q < 4) (hr : r < 5) (hp' : p' < 8) : ∀ n, n ≤ 8 → (p' < n → gr (rbS g q r d n) q r p' = tg (g 1) (aG g q r) (aC g q r) d p' ∧ co (rbS g q r d n) q r p' = (if tg (g 1) (aG g q r) (aC g q r) d p' = 0 then 0 else nc (aC g q r) d p')) ∧ (¬ p' < n → gr (rbS g q r d n) q r p' = gr g q r p' ∧ co (rbS g q r d n) q r p' = co g q r p') := by
  intro n
  induction n with
  | zero => exact fun _ => ⟨by omega, fun _ => ⟨rfl, rfl⟩⟩
  | succ n ih =>
    intro hn
    obtain ⟨b1, b2⟩ := ih (by omega)
    have e1 : gr (rbS g q r d (n + 1)) q r p' = if q = q ∧ r = r ∧ p' = n then tg (g 1) (aG g q r) (aC g q r) d n else gr (rbS g q r d n) q r p' := hpS_gr (rbS g q r d n) hq hr (show n < 8 by omega) hq hr hp'
    have e2 : co (rbS g q r d (n + 1)) q r p' = if q = q ∧ r = r ∧ p' = n then (if tg (g 1) (aG g q r) (aC g q r) d n = 0 then 0 else nc (aC g q r) d n) else co (rbS g q r d n) q r p' := hpS_co (rbS g q r d n) hq hr (show n < 8 by omega) hq hr hp'
    rw [e1, e2]
    by_cases z : p' = n
    · rw [if_pos ⟨rfl, rfl, z⟩, if_pos ⟨rfl, rfl, z⟩, z]
      exact ⟨fun _ => ⟨rfl, rfl⟩, by omega⟩
    · rw [if_neg (fun w => z w.2.2), if_neg (fun w => z w.2.2)]
      exact ⟨fun w => b1 (by omega), fun w => b2 (by omega)⟩
theorem ovS_other {q d p' : Nat} (hq : q < 4) (hp' : p' < 8) {r' : Nat} (hr' : r' < 5) : ∀ (m r : Nat) (g : GS), r + m = 5 → r' < r → gr (ovS q d m r g).1 q r' p' = gr g q r' p' ∧ co (ovS q d m r g).1 q r' p' = co g q r' p' := by
  intro m
  induction m with
  | zero => exact fun _ _ _ _ => ⟨rfl, rfl⟩
  | succ m ih =>
    intro r g hr h
    have a := ih (r + 1) (rbS g q r d 8) (by omega) (by omega)
    have b := rbS_other (g := g) (q := q) (r := r) (d := d) (r' := r') (p' := p') hq (by omega) hr' hp' (by omega) 8 (by omega)
    exact ⟨a.1.trans b.1, a.2.trans b.2⟩
theorem rt_eq {g g' : GS} {q r p : Nat} (hr : r < 5) (h0 : ∀ j, j < 24 → g' j = g j) (h1 : gr g' q r p = gr g q r p) (h2 : co g' q r p = co g q r p) : rt g' q r p = rt g q r p := by
  have e : wn g' q r p = wn g q r p := by unfold wn pp; rw [h0 2 (by omega), h0 (3 + r) (by omega)]
  unfold rt
  rw [e, h1, h2, h0 0 (by omega)]
def T1 (a b : Bool) : Nat := if (a && !b) = true then 1 else 0
theorem T1_s (a : Bool) : T1 a a = 0 := by cases a <;> rfl
/-- counted ring by ring, as the model does -/
def cS (T : Bool → Bool → Nat) (q d : Nat) : Nat → Nat → GS → Nat
  | 0, _, _ => 0
  | m + 1, r, g => sm (fun p => T (rt g q r p) (rt (rbS g q r d 8) q r p)) 0 8 + cS T q d m (r + 1) (rbS g q r d 8)
theorem cS_is (T : Bool → Bool → Nat) {q d : Nat} (hq : q < 4) : ∀ (m r : Nat) (g : GS), r + m = 5 → cS T q d m r g = sm (fun r' => sm (fun p => T (rt g q r' p) (rt (ovS q d m r g).1 q r' p)) 0 8) r m := by
  intro m
  induction m with
  | zero => exact fun _ _ _ => rfl
  | succ m ih =>
    intro r g hr
    show sm (fun p => T (rt g q r p) (rt (rbS g q r d 8) q r p)) 0 8 + cS T q d m (r + 1) (rbS g q r d 8) = sm (fun p => T (rt g q r p) (rt (ovS q d m (r + 1) (rbS g q r d 8)).1 q r p)) 0 8 + sm (fun r' => sm (fun p => T (rt g q r' p) (rt (ovS q d m (r + 1) (rbS g q r d 8)).1 q r' p)) 0 8) (r + 1) m
    rw [ih (r + 1) _ (by omega)]
    congr 1
    · refine sm_cg 8 0 (fun p _ hp => ?_)
      have a := ovS_other (q := q) (d := d) (p' := p) hq (by omega) (r' := r) (by omega) m (r + 1) (rbS g q r d 8) (by omega) (by omega)
      rw [rt_eq (g := rbS g q r d 8) (g' := (ovS q d m (r + 1) (rbS g q r d 8)).1) (by omega) (fun j hj => ovS_lo hj _ _ _) a.1 a.2]
    · refine sm_cg m (r + 1) (fun r' h1 h2 => sm_cg 8 0 (fun p _ hp => ?_))
      have b := rbS_other (g := g) (q := q) (r := r) (d := d) (r' := r') (p' := p) hq (by omega) (by omega) (by omega) (by omega) 8 (by omega)
      rw [rt_eq (g := g) (g' := rbS g q r d 8) (q := q) (r := r') (p := p) (by omega) (fun j hj => rbS_lo g q r d hj 8) b.1 b.2]
theorem cS_br (T : Bool → Bool → Nat) (hT : ∀ a, T a a = 0) (hI : IV g) {q d : Nat} (hq : q < 4) : cS T q d (5 - g 19) (g 19) g = sm (fun r => sm (fun p => T (rt g q r p) (rt (brS g q d).1 q r p)) 0 8) 0 5 := by
  have h19 : g 19 ≤ 5 := hI.2.2.2.2.2.2.1
  have e5 : sm (fun r => sm (fun p => T (rt g q r p) (rt (brS g q d).1 q r p)) 0 8) 0 5 = sm (fun r => sm (fun p => T (rt g q r p) (rt (brS g q d).1 q r p)) 0 8) 0 (g 19) + sm (fun r => sm (fun p => T (rt g q r p) (rt (brS g q d).1 q r p)) 0 8) (g 19) (5 - g 19) := by
    have := sm_app (fun r => sm (fun p => T (rt g q r p) (rt (brS g q d).1 q r p)) 0 8) (g 19) 0 (5 - g 19)
    rw [Nat.zero_add] at this
    rw [← this]
    congr 1
    omega
  have e0 : sm (fun r => sm (fun p => T (rt g q r p) (rt (brS g q d).1 q r p)) 0 8) 0 (g 19) = 0 := by
    refine (sm_cg (f' := fun _ => 0) (g 19) 0 (fun r _ hr => ?_)).trans (sm_0 (g 19) 0)
    refine (sm_cg (f' := fun _ => 0) 8 0 (fun p _ hp => ?_)).trans (sm_0 8 0)
    show T (rt g q r p) (rt (brS g q d).1 q r p) = 0
    have a := ovS_other (q := q) (d := d) (p' := p) hq (by omega) (r' := r) (by omega) (5 - g 19) (g 19) g (by omega) (by omega)
    unfold brS
    rw [rt_eq (g := g) (g' := (ovS q d (5 - g 19) (g 19) g).1) (q := q) (r := r) (p := p) (by omega) (fun j hj => ovS_lo hj _ _ _) a.1 a.2, hT]
  rw [e5, e0, Nat.zero_add, cS_is T hq (5 - g 19) (g 19) g (by omega)]
  rfl
theorem rc_iff {q r d : Nat} : ∀ n, rcS g q r d n = true ↔ ∃ p, p < n ∧ tg (g 1) (aG g q r) (aC g q r) d p ≠ gr g q r p := by
  intro n
  induction n with
  | zero => exact ⟨fun w => absurd (show false = true from w) (by decide), fun ⟨p, a, _⟩ => by omega⟩
  | succ n ih =>
    have e : rcS g q r d (n + 1) = (rcS g q r d n || decide (tg (g 1) (aG g q r) (aC g q r) d n ≠ gr g q r n)) := rfl
    rw [e, Bool.or_eq_true, ih]
    constructor
    · rintro (⟨p, a, b⟩ | w)
      · exact ⟨p, by omega, b⟩
      · exact ⟨n, by omega, of_decide_eq_true w⟩
    · rintro ⟨p, a, b⟩
      by_cases z : p = n
      · exact Or.inr (decide_eq_true (by rw [← z]; exact b))
      · exact Or.inl ⟨p, by omega, b⟩
/-- a ring in which no grains change stays as it is -/
theorem ring_same (hI : IV g) {q r d : Nat} (hq : q < 4) (hr : r < 5) (hc : rcS g q r d 8 = false) {p : Nat} (hp : p < 8) : gr (rbS g q r d 8) q r p = gr g q r p ∧ co (rbS g q r d 8) q r p = co g q r p := by
  have a := (rbS_at (g := g) (q := q) (r := r) (d := d) hq hr hp 8 (by omega)).1 hp
  have hx := hI.2.2.2.2.2.2.2.2 q r p hq hr hp
  have e : tg (g 1) (aG g q r) (aC g q r) d p = gr g q r p := by
    by_cases z : tg (g 1) (aG g q r) (aC g q r) d p = gr g q r p
    · exact z
    · have := (rc_iff (g := g) (q := q) (r := r) (d := d) 8).mpr ⟨p, hp, z⟩
      rw [hc] at this
      exact absurd this (by decide)
  rw [e] at a
  refine ⟨a.1, ?_⟩
  rw [a.2]
  by_cases z : gr g q r p = 0
  · rw [if_pos z, hx.2.2.mpr z]
  · rw [if_neg z]
    unfold nc aC
    rw [if_neg (fun w => z (hx.2.2.mp w))]
theorem ov_same {q d : Nat} (hq : q < 4) : ∀ (m r : Nat) (g : GS), r + m = 5 → IV g → (ovS q d m r g).2.2 = false → ∀ r' p, r' < 5 → p < 8 → gr (ovS q d m r g).1 q r' p = gr g q r' p ∧ co (ovS q d m r g).1 q r' p = co g q r' p := by
  intro m
  induction m with
  | zero => exact fun _ _ _ _ _ _ _ _ _ => ⟨rfl, rfl⟩
  | succ m ih =>
    intro r g hr hI hc r' p hr' hp
    have hc2 : (rcS g q r d 8 || (ovS q d m (r + 1) (rbS g q r d 8)).2.2) = false := hc
    rw [Bool.or_eq_false_iff] at hc2
    have a := ih (r + 1) (rbS g q r d 8) (by omega) (IV_rb hI d hq (by omega) 8 (by omega)) hc2.2 r' p hr' hp
    have b : gr (rbS g q r d 8) q r' p = gr g q r' p ∧ co (rbS g q r d 8) q r' p = co g q r' p := by
      by_cases z : r' = r
      · rw [z]; exact ring_same hI hq (by omega) hc2.1 hp
      · exact rbS_other hq (by omega) hr' hp z 8 (by omega)
    exact ⟨a.1.trans b.1, a.2.trans b.2⟩
theorem ov_diff {q d : Nat} (hq : q < 4) : ∀ (m r : Nat) (g : GS), r + m = 5 → (ovS q d m r g).2.2 = true → ∃ r' p, r ≤ r' ∧ r' < 5 ∧ p < 8 ∧ gr (ovS q d m r g).1 q r' p ≠ gr g q r' p := by
  intro m
  induction m with
  | zero => exact fun _ _ _ w => absurd w (by show ¬ (false = true); decide)
  | succ m ih =>
    intro r g hr hc
    have hc2 : (rcS g q r d 8 || (ovS q d m (r + 1) (rbS g q r d 8)).2.2) = true := hc
    rw [Bool.or_eq_true] at hc2
    rcases hc2 with w | w
    · obtain ⟨p, hp, hne⟩ := (rc_iff (g := g) (q := q) (r := r) (d := d) 8).mp w
      refine ⟨r, p, Nat.le_refl _, by omega, hp, ?_⟩
      have a := ovS_other (q := q) (d := d) (p' := p) hq hp (r' := r) (by omega) m (r + 1) (rbS g q r d 8) (by omega) (by omega)
      have b := (rbS_at (g := g) (q := q) (r := r) (d := d) hq (by omega) hp 8 (by omega)).1 hp
      show gr (ovS q d m (r + 1) (rbS g q r d 8)).1 q r p ≠ gr g q r p
      rw [a.1, b.1]
      exact hne
    · obtain ⟨r', p, h1, h2, h3, h4⟩ := ih (r + 1) _ (by omega) w
      refine ⟨r', p, by omega, h2, h3, ?_⟩
      have b := rbS_other (g := g) (q := q) (r := r) (d := d) (r' := r') (p' := p) hq (by omega) h2 h3 (by omega) 8 (by omega)
      rw [b.1] at h4
      exact h4
theorem rbS_gu {q r d v : Nat} (hr : r < 5) : ∀ n, rbS (gu g 23 v) q r d n = gu (rbS g q r d n) 23 v := by
  intro n
  induction n with
  | zero => rfl
  | succ n ih =>
    have e1 : aG (gu g 23 v) q r = aG g q r := by funext j; exact gr_gu (by omega)
    have e2 : aC (gu g 23 v) q r = aC g q r := by funext j; exact co_gu (by omega)
    unfold rbS
    rw [ih, e1, e2, gu_ne (show (1 : Nat) ≠ 23 by omega), gu_hpS _ (by omega)]
theorem rlS_gu {q r d v : Nat} : ∀ n, rlS (gu g 23 v) q r d n = rlS g q r d n ∧ rcS (gu g 23 v) q r d n = rcS g q r d n := by
  intro n
  have e1 : aG (gu g 23 v) q r = aG g q r := by funext j; exact gr_gu (by omega)
  have e2 : aC (gu g 23 v) q r = aC g q r := by funext j; exact co_gu (by omega)
  induction n with
  | zero => exact ⟨rfl, rfl⟩
  | succ n ih =>
    unfold rlS rcS
    rw [ih.1, ih.2, e1, e2, gu_ne (show (1 : Nat) ≠ 23 by omega), gr_gu (by omega)]
    exact ⟨rfl, rfl⟩
theorem ovS_gu {q d v : Nat} : ∀ (m r : Nat) (g : GS), r + m = 5 → ovS q d m r (gu g 23 v) = (gu (ovS q d m r g).1 23 v, (ovS q d m r g).2) := by
  intro m
  induction m with
  | zero => exact fun _ _ _ => rfl
  | succ m ih =>
    intro r g hr
    have a := rlS_gu (g := g) (q := q) (r := r) (d := d) (v := v) 8
    have b := rbS_gu (g := g) (q := q) (d := d) (v := v) (show r < 5 by omega) 8
    show ((ovS q d m (r + 1) (rbS (gu g 23 v) q r d 8)).1, rlS (gu g 23 v) q r d 8 + (ovS q d m (r + 1) (rbS (gu g 23 v) q r d 8)).2.1, rcS (gu g 23 v) q r d 8 || (ovS q d m (r + 1) (rbS (gu g 23 v) q r d 8)).2.2) = _
    rw [b, a.1, a.2, ih (r + 1) _ (by omega)]
    rfl
theorem brS_gu (hI : IV g) {q d v : Nat} : brS (gu g 23 v) q d = (gu (brS g q d).1 23 v, (brS g q d).2) := by
  have h19 : g 19 ≤ 5 := hI.2.2.2.2.2.2.1
  unfold brS
  rw [gu_ne (show (19 : Nat) ≠ 23 by omega), ovS_gu (5 - g 19) (g 19) g (by omega)]
end S23
