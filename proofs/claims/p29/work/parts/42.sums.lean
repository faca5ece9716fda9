/-! grains by rings, by quarters, in all; what changes keep of them -/
section S42
variable {g : GS}
theorem sm_upd {f f' : Nat → Nat} {a : Nat} : ∀ (d i : Nat), i ≤ a → a < i + d → (∀ j, i ≤ j → j < i + d → j ≠ a → f' j = f j) → sm f' i d + f a = sm f i d + f' a := by
  intro d
  induction d with
  | zero => intro i h1 h2; omega
  | succ d ih =>
    intro i h1 h2 hh
    unfold sm
    by_cases z : i = a
    · subst z
      rw [sm_cg (f := f') (f' := f) d (i + 1) (fun j x y => hh j (by omega) (by omega) (by omega))]
      omega
    · have := ih (i + 1) (by omega) (by omega) (fun j x y w => hh j (by omega) (by omega) w)
      rw [hh i (by omega) (by omega) z]
      omega
theorem sm_z (f : Nat → Nat) : ∀ (d i : Nat), sm f i d = 0 ↔ ∀ j, i ≤ j → j < i + d → f j = 0 := by
  intro d
  induction d with
  | zero => exact fun i => ⟨fun _ j h1 h2 => by omega, fun _ => rfl⟩
  | succ d ih =>
    intro i
    unfold sm
    constructor
    · intro y j h1 h2
      by_cases z : j = i
      · rw [z]; omega
      · exact (ih (i + 1)).mp (by omega) j (by omega) (by omega)
    · intro y
      rw [y i (by omega) (by omega), (ih (i + 1)).mpr (fun j h1 h2 => y j (by omega) (by omega))]
def RS (g : GS) (q r : Nat) : Nat := sm (fun p => gr g q r p) 0 8
def QS (g : GS) (q : Nat) : Nat := sm (fun r => RS g q r) 0 5
def tot (g : GS) : Nat := sm (fun q => QS g q) 0 4
theorem tal_QS (g : GS) {q : Nat} (hq : q < 4) : tal g 0 4294967295 q 4294967295 = QS g q := by
  rw [tal_q g 0 _ hq]
  refine sm_cg 5 0 (fun r _ _ => sm_cg 8 0 (fun p _ _ => ?_))
  exact mea0 g q r p
theorem tal_tot (g : GS) : tal g 0 4294967295 4294967295 4294967295 = tot g := by
  rw [tal_a]
  rw [sm_swap (fun r q => sm (fun p => mea g 0 4294967295 q r p) 0 8) 4 5 0]
  refine sm_cg 4 0 (fun q _ _ => sm_cg 5 0 (fun r _ _ => sm_cg 8 0 (fun p _ _ => ?_)))
  exact mea0 g q r p
theorem RS_eq {g g' : GS} {q r : Nat} (e : ∀ p, p < 8 → gr g' q r p = gr g q r p) : RS g' q r = RS g q r := sm_cg 8 0 (fun p _ h => e p (by omega))
theorem QS_eq {g g' : GS} {q : Nat} (e : ∀ r p, r < 5 → p < 8 → gr g' q r p = gr g q r p) : QS g' q = QS g q := sm_cg 5 0 (fun r _ h => RS_eq (fun p hp => e r p (by omega) hp))
theorem tot_eq {g g' : GS} (e : ∀ q r p, q < 4 → r < 5 → p < 8 → gr g' q r p = gr g q r p) : tot g' = tot g := sm_cg 4 0 (fun q _ h => QS_eq (fun r p hr hp => e q r p (by omega) hr hp))
theorem tot_gu {c v : Nat} (hc : c < 24) : tot (gu g c v) = tot g := tot_eq (fun _ _ _ _ _ _ => gr_gu hc)
theorem QS_gu {c v q : Nat} (hc : c < 24) : QS (gu g c v) q = QS g q := QS_eq (fun _ _ _ _ => gr_gu hc)
theorem RS_hp {q r p c n : Nat} (hq : q < 4) (hr : r < 5) (hp : p < 8) : RS (hpS g q r p c n) q r + gr g q r p = RS g q r + n := by
  have h1 := sm_upd (f := fun p => gr g q r p) (f' := fun p' => gr (hpS g q r p c n) q r p') (a := p) 8 0 (by omega) (by omega) (fun j _ h2 w => by
    show gr (hpS g q r p c n) q r j = gr g q r j
    rw [hpS_gr g hq hr hp hq hr (by omega), if_neg (fun x => w x.2.2)])
  have h2 : gr (hpS g q r p c n) q r p = n := by rw [hpS_gr g hq hr hp hq hr hp, if_pos ⟨rfl, rfl, rfl⟩]
  rw [h2] at h1
  exact h1
theorem QS_hp {q r p c n : Nat} (hq : q < 4) (hr : r < 5) (hp : p < 8) : QS (hpS g q r p c n) q + gr g q r p = QS g q + n := by
  have h1 := sm_upd (f := fun r => RS g q r) (f' := fun r' => RS (hpS g q r p c n) q r') (a := r) 5 0 (by omega) (by omega) (fun j _ h2 w => RS_eq (fun p' hp' => by
    rw [hpS_gr g hq hr hp hq (by omega) hp', if_neg (fun x => w x.2.1)]))
  have h2 := RS_hp (g := g) (c := c) (n := n) hq hr hp
  have h3 : QS (hpS g q r p c n) q + RS g q r = QS g q + RS (hpS g q r p c n) q r := h1
  omega
theorem tot_hp {q r p c n : Nat} (hq : q < 4) (hr : r < 5) (hp : p < 8) : tot (hpS g q r p c n) + gr g q r p = tot g + n := by
  have h1 := sm_upd (f := fun q => QS g q) (f' := fun q' => QS (hpS g q r p c n) q') (a := q) 4 0 (by omega) (by omega) (fun j _ h2 w => QS_eq (fun r' p' hr' hp' => by
    rw [hpS_gr g hq hr hp (by omega) hr' hp', if_neg (fun x => w x.1)]))
  have h2 := QS_hp (g := g) (c := c) (n := n) hq hr hp
  have h3 : tot (hpS g q r p c n) + QS g q = tot g + QS (hpS g q r p c n) q := h1
  omega
/-! the breath keeps the grains but those that are lost -/
theorem tg_ls (H : Nat) (G C : Nat → Nat) (d p : Nat) : tg H G C d p + ls H G C d p + spl H (G p) = G p + spl H (G (src d p)) := by
  have h1 := spl_le H (G p)
  unfold ls tg
  have h2 := Nat.min_le_right 99 (wb H G C d p)
  generalize hm : min 99 (wb H G C d p) = m at h2
  unfold wb at h2 ⊢
  by_cases z : nc C d p = C (src d p)
  · rw [if_pos z] at h2
    rw [if_pos z, if_pos z]
    omega
  · rw [if_neg z] at h2
    rw [if_neg z, if_neg z]
    omega
theorem sm8 (f : Nat → Nat) : sm f 0 8 = f 0 + (f 1 + (f 2 + (f 3 + (f 4 + (f 5 + (f 6 + (f 7 + 0))))))) := rfl
theorem sm5 (f : Nat → Nat) : sm f 0 5 = f 0 + (f 1 + (f 2 + (f 3 + (f 4 + 0)))) := rfl
theorem sm4 (f : Nat → Nat) : sm f 0 4 = f 0 + (f 1 + (f 2 + (f 3 + 0))) := rfl
theorem sm6 (f : Nat → Nat) : sm f 1 6 = f 1 + (f 2 + (f 3 + (f 4 + (f 5 + (f 6 + 0))))) := rfl
theorem rl8 (g : GS) (q r d : Nat) : rlS g q r d 8 = sm (fun p => ls (g 1) (aG g q r) (aC g q r) d p) 0 8 := by
  have e : rlS g q r d 8 = 0 + ls (g 1) (aG g q r) (aC g q r) d 0 + ls (g 1) (aG g q r) (aC g q r) d 1 + ls (g 1) (aG g q r) (aC g q r) d 2 + ls (g 1) (aG g q r) (aC g q r) d 3 + ls (g 1) (aG g q r) (aC g q r) d 4 + ls (g 1) (aG g q r) (aC g q r) d 5 + ls (g 1) (aG g q r) (aC g q r) d 6 + ls (g 1) (aG g q r) (aC g q r) d 7 := rfl
  rw [e, sm8]
  omega
theorem src_sum (f : Nat → Nat) {d : Nat} (hd : d < 2) : sm (fun p => f (src d p)) 0 8 = sm f 0 8 := by
  rw [sm8, sm8]
  rcases (show d = 0 ∨ d = 1 by omega) with rfl | rfl
  · show f 7 + (f 0 + (f 1 + (f 2 + (f 3 + (f 4 + (f 5 + (f 6 + 0))))))) = _
    omega
  · show f 1 + (f 2 + (f 3 + (f 4 + (f 5 + (f 6 + (f 7 + (f 0 + 0))))))) = _
    omega
theorem ring_keeps {q r d : Nat} (hq : q < 4) (hr : r < 5) (hd : d < 2) : RS (rbS g q r d 8) q r + rlS g q r d 8 = RS g q r := by
  have e1 : RS (rbS g q r d 8) q r = sm (fun p => tg (g 1) (aG g q r) (aC g q r) d p) 0 8 := sm_cg 8 0 (fun p _ hp => ((rbS_at hq hr (show p < 8 by omega) 8 (by omega)).1 (by omega)).1)
  have e2 : sm (fun p => spl (g 1) (aG g q r (src d p))) 0 8 = sm (fun p => spl (g 1) (aG g q r p)) 0 8 := src_sum (fun p => spl (g 1) (aG g q r p)) hd
  have e3 : sm (fun p => tg (g 1) (aG g q r) (aC g q r) d p + ls (g 1) (aG g q r) (aC g q r) d p + spl (g 1) (aG g q r p)) 0 8 = sm (fun p => aG g q r p + spl (g 1) (aG g q r (src d p))) 0 8 := sm_cg 8 0 (fun p _ _ => tg_ls (g 1) (aG g q r) (aC g q r) d p)
  rw [sm_add, sm_add, sm_add] at e3
  have e6 : sm (fun p => tg (g 1) (aG g q r) (aC g q r) d p) 0 8 + sm (fun p => ls (g 1) (aG g q r) (aC g q r) d p) 0 8 + sm (fun p => spl (g 1) (aG g q r p)) 0 8 = RS g q r + sm (fun p => spl (g 1) (aG g q r (src d p))) 0 8 := e3
  rw [e1, rl8]
  omega
theorem ring_sum {q r d : Nat} (hq : q < 4) (hr : r < 5) (hd : d < 2) : QS (rbS g q r d 8) q + rlS g q r d 8 = QS g q := by
  have h1 := sm_upd (f := fun r => RS g q r) (f' := fun r' => RS (rbS g q r d 8) q r') (a := r) 5 0 (by omega) (by omega) (fun j _ h2 w => RS_eq (fun p hp => (rbS_other hq hr (show j < 5 by omega) hp w 8 (by omega)).1))
  have h2 := ring_keeps (g := g) hq hr hd
  have h3 : QS (rbS g q r d 8) q + RS g q r = QS g q + RS (rbS g q r d 8) q r := h1
  omega
theorem ov_sum {q d : Nat} (hq : q < 4) (hd : d < 2) : ∀ (m r : Nat) (g : GS), r + m = 5 → QS (ovS q d m r g).1 q + (ovS q d m r g).2.1 = QS g q := by
  intro m
  induction m with
  | zero => intro r g _; rfl
  | succ m ih =>
    intro r g hr
    have h1 := ring_sum (g := g) (r := r) hq (by omega) hd
    have h2 := ih (r + 1) (rbS g q r d 8) (by omega)
    have e1 : (ovS q d (m + 1) r g).1 = (ovS q d m (r + 1) (rbS g q r d 8)).1 := rfl
    have e2 : (ovS q d (m + 1) r g).2.1 = rlS g q r d 8 + (ovS q d m (r + 1) (rbS g q r d 8)).2.1 := rfl
    rw [e1, e2]
    omega
theorem rb_oq {q r d q' r' p' : Nat} (hq : q < 4) (hr : r < 5) (hq' : q' < 4) (hr' : r' < 5) (hp' : p' < 8) (hne : q' ≠ q) : ∀ n, n ≤ 8 → gr (rbS g q r d n) q' r' p' = gr g q' r' p' := by
  intro n
  induction n with
  | zero => exact fun _ => rfl
  | succ n ih =>
    intro hn
    have a := gr_hp (rbS g q r d n) (c := nc (aC g q r) d n) (n := tg (g 1) (aG g q r) (aC g q r) d n) hq hr (show n < 8 by omega) hq' hr' hp' (fun w => hne w.1)
    exact a.1.trans (ih (by omega))
theorem ov_oq {q d q' r' p' : Nat} (hq : q < 4) (hq' : q' < 4) (hr' : r' < 5) (hp' : p' < 8) (hne : q' ≠ q) : ∀ (m r : Nat) (g : GS), r + m = 5 → gr (ovS q d m r g).1 q' r' p' = gr g q' r' p' := by
  intro m
  induction m with
  | zero => intro r g _; rfl
  | succ m ih =>
    intro r g hr
    have e1 : (ovS q d (m + 1) r g).1 = (ovS q d m (r + 1) (rbS g q r d 8)).1 := rfl
    rw [e1, ih (r + 1) _ (by omega), rb_oq hq (by omega) hq' hr' hp' hne 8 (by omega)]
theorem br_sum (hI : IV g) {q d : Nat} (hq : q < 4) (hd : d < 2) : QS (brS g q d).1 q + (brS g q d).2.1 = QS g q := ov_sum hq hd _ _ _ (by have := hI.2.2.2.2.2.2.1; omega)
theorem br_tot (hI : IV g) {q d : Nat} (hq : q < 4) (hd : d < 2) : tot (brS g q d).1 + (brS g q d).2.1 = tot g := by
  have h19 := hI.2.2.2.2.2.2.1
  have h1 := sm_upd (f := fun q => QS g q) (f' := fun q' => QS (brS g q d).1 q') (a := q) 4 0 (by omega) (by omega) (fun j _ h2 w => QS_eq (fun r p hr hp => ov_oq hq (by omega) hr hp w _ _ _ (by omega)))
  have h2 := br_sum hI hq hd
  have h3 : tot (brS g q d).1 + QS g q = tot g + QS (brS g q d).1 q := h1
  omega
theorem br_lo (g : GS) (q d : Nat) {j : Nat} (hj : j < 24) : (brS g q d).1 j = g j := ovS_lo hj _ _ _
/-! the invariants of the law -/
def DI (g : GS) : Prop := ∀ q q', q < 4 → q' < 4 → q ≠ q' → g (15 + q) = g (15 + q') → g (15 + q) = 0
def LI (g : GS) : Prop := IV g ∧ DI g ∧ (g 19 < 5 → g 20 = 0) ∧ g 22 = g 23 + tot g
theorem hd_of (hD : DI g) {q c : Nat} (hq : q < 4) (hc : g (15 + q) = c) (h0 : c ≠ 0) : hd g c = q := by
  have e : ∀ q', q' < 4 → q' ≠ q → g (15 + q') ≠ c := fun q' hq' w y => h0 (by rw [← hc]; exact hD q q' hq hq' (fun z => w z.symm) (hc.trans y.symm))
  have e0 := e 0 (by omega)
  have e1 := e 1 (by omega)
  have e2 := e 2 (by omega)
  have e3 := e 3 (by omega)
  unfold hd
  rcases (show q = 0 ∨ q = 1 ∨ q = 2 ∨ q = 3 by omega) with rfl | rfl | rfl | rfl
  · rw [if_pos hc]
  · rw [if_neg (e0 (by omega)), if_pos hc]
  · rw [if_neg (e0 (by omega)), if_neg (e1 (by omega)), if_pos hc]
  · rw [if_neg (e0 (by omega)), if_neg (e1 (by omega)), if_neg (e2 (by omega)), if_pos hc]
theorem hd_is {c : Nat} (h4 : hd g c ≠ 4) : hd g c < 4 ∧ g (15 + hd g c) = c := by
  unfold hd at h4 ⊢
  by_cases z0 : g 15 = c
  · rw [if_pos z0]; exact ⟨by omega, z0⟩
  · rw [if_neg z0] at h4 ⊢
    by_cases z1 : g 16 = c
    · rw [if_pos z1]; exact ⟨by omega, z1⟩
    · rw [if_neg z1] at h4 ⊢
      by_cases z2 : g 17 = c
      · rw [if_pos z2]; exact ⟨by omega, z2⟩
      · rw [if_neg z2] at h4 ⊢
        by_cases z3 : g 18 = c
        · rw [if_pos z3]; exact ⟨by omega, z3⟩
        · rw [if_neg z3] at h4
          exact absurd rfl h4
theorem hd_none {c : Nat} (h4 : hd g c = 4) {q : Nat} (hq : q < 4) : g (15 + q) ≠ c := by
  unfold hd at h4
  by_cases z0 : g 15 = c
  · rw [if_pos z0] at h4; omega
  · rw [if_neg z0] at h4
    by_cases z1 : g 16 = c
    · rw [if_pos z1] at h4; omega
    · rw [if_neg z1] at h4
      by_cases z2 : g 17 = c
      · rw [if_pos z2] at h4; omega
      · rw [if_neg z2] at h4
        by_cases z3 : g 18 = c
        · rw [if_pos z3] at h4; omega
        · rcases (show q = 0 ∨ q = 1 ∨ q = 2 ∨ q = 3 by omega) with rfl | rfl | rfl | rfl
          · exact z0
          · exact z1
          · exact z2
          · exact z3
/-- a change of a low number that is no hand, no ring's or quarter's turn and no grains' count keeps the law's invariants -/
theorem LI_lo {g g' : GS} (hL : LI g) (hI : IV g') (h1 : ∀ q, q < 4 → g' (15 + q) = g (15 + q)) (h19 : g' 19 = g 19) (h20 : g' 20 = g 20) (h22 : g' 22 = g 22) (h23 : g' 23 = g 23) (ht : tot g' = tot g) : LI g' := by
  refine ⟨hI, fun q q' hq hq' w e => ?_, fun w => ?_, ?_⟩
  · rw [h1 q hq, h1 q' hq'] at e
    rw [h1 q hq]
    exact hL.2.1 q q' hq hq' w e
  · rw [h20]; exact hL.2.2.1 (by omega)
  · rw [h22, h23, ht]; exact hL.2.2.2
end S42
