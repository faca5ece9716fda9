/-! the place that needs the most -/
section S45
variable {h : Hp} {g : GS}
def gk (g : GS) (k : Nat) : Nat := gr g (k / 8 % 4) (k / 32) (k % 8)
def ck (g : GS) (k : Nat) : Bool := cbp g (k / 8 % 4) (k / 32) (k % 8)
def ndI (g : GS) (k0 k b w : Nat) : Prop := (b = 4294967290 ∧ w = g 0 ∧ ∀ j, k0 ≤ j → j < k → ck g j = true → g 0 ≤ gk g j) ∨ (k0 ≤ b ∧ b < k ∧ w = gk g b ∧ w < g 0 ∧ ck g b = true ∧ ∀ j, k0 ≤ j → j < k → ck g j = true → w < gk g j ∨ (gk g j = w ∧ b ≤ j))
theorem ndI_all {k0 : Nat} : ∀ (d k b w : Nat), k0 ≤ k → ndI g k0 k b w → ndI g k0 (k + d) (ndF g k d b w).1 (ndF g k d b w).2 := by
  intro d
  induction d with
  | zero => intro k b w _ hh; exact hh
  | succ d ih =>
    intro k b w hk hh
    rw [show k + (d + 1) = (k + 1) + d by omega, ndF_s]
    by_cases z : gr g (k / 8 % 4) (k / 32) (k % 8) < w ∧ cbp g (k / 8 % 4) (k / 32) (k % 8) = true
    · rw [if_pos z]
      have z1 : gk g k < w := z.1
      have z2 : ck g k = true := z.2
      refine ih (k + 1) k _ (by omega) (Or.inr ⟨hk, by omega, rfl, ?_, z2, fun j h1 h2 h3 => ?_⟩)
      · show gk g k < g 0
        rcases hh with ⟨_, y, _⟩ | ⟨_, _, _, y, _⟩
        · omega
        · omega
      · show gk g k < gk g j ∨ (gk g j = gk g k ∧ k ≤ j)
        by_cases y : j = k
        · right; rw [y]; exact ⟨rfl, by omega⟩
        · left
          rcases hh with ⟨_, y1, y2⟩ | ⟨_, _, _, _, _, y2⟩
          · have := y2 j h1 (by omega) h3; omega
          · have := y2 j h1 (by omega) h3; omega
    · rw [if_neg z]
      have z1 : ck g k = true → w ≤ gk g k := fun y => Nat.le_of_not_lt (fun x => z ⟨x, y⟩)
      refine ih (k + 1) b w (by omega) ?_
      rcases hh with ⟨y0, y1, y2⟩ | ⟨y0, y1, y2, y3, y4, y5⟩
      · refine Or.inl ⟨y0, y1, fun j h1 h2 h3 => ?_⟩
        by_cases y : j = k
        · rw [y] at h3 ⊢; have := z1 h3; omega
        · exact y2 j h1 (by omega) h3
      · refine Or.inr ⟨y0, by omega, y2, y3, y4, fun j h1 h2 h3 => ?_⟩
        by_cases y : j = k
        · rw [y] at h3 ⊢; have := z1 h3; omega
        · exact y5 j h1 (by omega) h3
theorem nB_is (hI : IV g) : nB g = 4294967290 ∨ (32 * g 19 ≤ nB g ∧ nB g < 160 ∧ gk g (nB g) < g 0 ∧ ck g (nB g) = true ∧ ∀ j, 32 * g 19 ≤ j → j < 160 → ck g j = true → gk g (nB g) < gk g j ∨ (gk g j = gk g (nB g) ∧ nB g ≤ j)) := by
  have h19 := hI.2.2.2.2.2.2.1
  have := ndI_all (g := g) (k0 := 32 * g 19) (160 - 32 * g 19) (32 * g 19) 4294967290 (g 0) (Nat.le_refl _) (Or.inl ⟨rfl, rfl, fun j h1 h2 _ => by omega⟩)
  rw [show 32 * g 19 + (160 - 32 * g 19) = 160 by omega] at this
  unfold nB
  rcases this with ⟨y, _, _⟩ | ⟨y0, y1, y2, y3, y4, y5⟩
  · exact Or.inl y
  · rw [y2] at y3 y5
    exact Or.inr ⟨y0, y1, y3, y4, y5⟩
theorem in_307 (k143 : Int32 → Int32 → Int32 → Int32 → Int32 → Int32 → Hp → Re) (x1 x2 x3 x4 x6 : Int32) : fL_isNeeded_j307 k143 x1 x2 x3 x4 x6 h = k143 x1 x2 x3 x4 1 (x6 + 1) h := rfl
theorem in_B143 (hC : CR h 1 g) (hI : IV g) {b k : Nat} (hb : b < 160) (hk : k < 160) (hm : 32 * g 19 ≤ k → ck g k = true → gk g b < gk g k ∨ (gk g k = gk g b ∧ b ≤ k)) (k143 : Int32 → Int32 → Int32 → Int32 → Int32 → Int32 → Hp → Re) : fL_isNeeded_B143 k143 (nI (b / 32)) (nI (b / 8 % 4)) (nI (b % 8)) (nI (gk g b)) 1 (nI k) h = k143 (nI (b / 32)) (nI (b / 8 % 4)) (nI (b % 8)) (nI (gk g b)) 1 (nI k + 1) h := by
  have h19 := hI.2.2.2.2.2.2.1
  have hq : k / 8 % 4 < 4 := by omega
  have hr : k / 32 < 5 := by omega
  have hp : k % 8 < 8 := by omega
  have a1 := gr_lt hI hq hr hp
  have a2 := co_lt hI hq hr hp
  have a3 := wn_le (q := k / 8 % 4) hI hr hp
  have a4 := co_0 hI hq hr hp
  have a5 : gk g b ≤ 99 := gr_lt hI (by omega) (by omega) (by omega)
  unfold fL_isNeeded_B143
  rw [if_neg (by rw [k_160, nI_leU (by omega) (by omega)]; omega), if_neg (by decide), k_32, mdN (by omega) (by omega) (by omega), nI_divU (by omega) (by omega) (by omega), md8 (by omega), dv8 (by omega), show k % 32 / 8 = k / 8 % 4 by omega, at_0 hC hq hr hp, bsm]
  dsimp only
  rw [at_2 hC hI hq hr hp, bsm]
  dsimp only
  rw [at_1 hC hq hr hp, bsm]
  dsimp only
  rw [ct_0 hC, bsm]
  dsimp only
  have e252 : ∀ x7 x8 x11 : Int32, fL_isNeeded_j252 k143 (nI (b / 32)) (nI (b / 8 % 4)) (nI (b % 8)) (nI (gk g b)) (nI k) x7 x8 x11 h = k143 (nI (b / 32)) (nI (b / 8 % 4)) (nI (b % 8)) (nI (gk g b)) 1 (nI k + 1) h := by
    intro x7 x8 x11
    unfold fL_isNeeded_j252 fL_isNeeded_j253
    rw [if_pos rfl, in_307]
  have e248 : 32 * g 19 ≤ k → ck g k = true → fL_isNeeded_j248 k143 (nI (b / 32)) (nI (b / 8 % 4)) (nI (b % 8)) (nI (gk g b)) (nI k) (nI (k / 32)) (nI (k / 8 % 4)) (nI (gr g (k / 8 % 4) (k / 32) (k % 8))) h = k143 (nI (b / 32)) (nI (b / 8 % 4)) (nI (b % 8)) (nI (gk g b)) 1 (nI k + 1) h := by
    intro z1 z2
    have hh := hm z1 z2
    unfold fL_isNeeded_j248 fL_isNeeded_j253
    rw [if_neg (by decide)]
    show (if nI (gk g b) < nI (gk g k) then _ else _) = _
    have a6 : gk g k ≤ 99 := a1
    by_cases y : gk g b < gk g k
    · rw [if_pos (by rw [nI_ltU (by omega) (by omega)]; exact y), in_307]
    · have y2 : gk g k = gk g b ∧ b ≤ k := hh.resolve_left y
      have y3 : nI (gr g (k / 8 % 4) (k / 32) (k % 8)) = nI (gk g b) := by rw [← y2.1]; rfl
      rw [if_neg (by rw [nI_ltU (by omega) (by omega)]; exact y), if_pos y3]
      by_cases x1 : b / 32 < k / 32
      · rw [if_pos (by rw [nI_ltU (by omega) (by omega)]; exact x1), in_307]
      · rw [if_neg (by rw [nI_ltU (by omega) (by omega)]; exact x1), if_pos (by rw [show k / 32 = b / 32 by omega])]
        by_cases x2 : b / 8 % 4 < k / 8 % 4
        · rw [if_pos (by rw [nI_ltU (by omega) (by omega)]; exact x2), in_307]
        · rw [if_neg (by rw [nI_ltU (by omega) (by omega)]; exact x2), if_pos (by rw [show k / 8 % 4 = b / 8 % 4 by omega]), md8 (by omega), if_neg (by rw [nI_ltU (by omega) (by omega)]; omega), in_307]
  by_cases z1 : k / 32 < g 19
  · rw [if_pos (by rw [nI_ltU (by omega) (by omega)]; exact z1), e252]
  · rw [if_neg (by rw [nI_ltU (by omega) (by omega)]; exact z1)]
    by_cases z2 : 1 ≤ wn g (k / 8 % 4) (k / 32) (k % 8) ∧ wn g (k / 8 % 4) (k / 32) (k % 8) ≤ 6
    · rw [if_neg (by rw [k_0, nI_leU (by omega) (by omega)]; omega)]
      by_cases z3 : gr g (k / 8 % 4) (k / 32) (k % 8) = 0
      · rw [if_pos ((nz_0 (by omega)).mpr z3), e248 (by omega) (decide_eq_true ⟨z2, Or.inl (a4.mpr z3)⟩)]
      · rw [if_neg (fun w => z3 ((nz_0 (by omega)).mp w))]
        by_cases z4 : co g (k / 8 % 4) (k / 32) (k % 8) = wn g (k / 8 % 4) (k / 32) (k % 8)
        · rw [if_pos (by rw [z4]), e248 (by omega) (decide_eq_true ⟨z2, Or.inr z4⟩)]
        · rw [if_neg (by rw [nI_eqU (by omega) (by omega)]; exact z4), e252]
    · rw [if_pos (by
        rcases (show wn g (k / 8 % 4) (k / 32) (k % 8) = 4294967290 ∨ wn g (k / 8 % 4) (k / 32) (k % 8) = 0 by omega) with y | y
        · rw [y]; decide +kernel
        · rw [y]; decide +kernel), e252]
theorem in_loop (hC : CR h 1 g) (hI : IV g) {b : Nat} (hb : b < 160) (hm : ∀ k, 32 * g 19 ≤ k → k < 160 → ck g k = true → gk g b < gk g k ∨ (gk g k = gk g b ∧ b ≤ k)) : ∀ (d k n : Nat), k + d = 160 → d < n → fL_isNeeded_L143 n (nI (b / 32)) (nI (b / 8 % 4)) (nI (b % 8)) (nI (gk g b)) 1 (nI k) h = some (1, h) := by
  intro d
  induction d with
  | zero =>
    intro k n hk hn
    obtain ⟨n, rfl⟩ : ∃ m, n = m + 1 := ⟨n - 1, by omega⟩
    rw [fL_isNeeded_L143_s]
    unfold fL_isNeeded_B143
    rw [if_pos (by rw [k_160, nI_leU (by omega) (by omega)]; omega), rz_1]
  | succ d ih =>
    intro k n hk hn
    obtain ⟨n, rfl⟩ : ∃ m, n = m + 1 := ⟨n - 1, by omega⟩
    rw [fL_isNeeded_L143_s, in_B143 hC hI hb (by omega) (fun x y => hm k x (by omega) y)]
    have e1 : nI k + 1 = nI (k + 1) := by rw [k_1, nI_add]
    rw [e1, ih (k + 1) n (by omega) (by omega)]
theorem isNeeded_g (hC : CR h 1 g) (hI : IV g) : fL_isNeeded h = some (1, h) := by
  have h19 := hI.2.2.2.2.2.2.1
  have h0 := hI.1
  unfold fL_isNeeded fL_isNeeded_e
  rcases nB_is hI with hB | ⟨b0, b1, b2, b3, b4⟩
  · have n1 : f7_needed 1 h = some (-6, h) := by
      have := ndV hC hI (i := 1) (by omega)
      rw [if_pos hB] at this
      exact this
    have n4 : f7_needed 4 h = some (-6, h) := by
      have := ndV hC hI (i := 4) (by omega)
      rw [if_pos hB] at this
      exact this
    rw [n1, bsm]
    dsimp only
    rw [if_neg (by decide), if_pos rfl, n4, bsm]
    dsimp only
    rw [if_pos rfl, rz_1]
  · have hB : ¬ nB g = 4294967290 := by omega
    have hl := in_loop hC hI b1 b4
    have n0 : f7_needed 0 h = some (nI (nB g / 8 % 4), h) := by
      have := ndV hC hI (i := 0) (by omega)
      rw [if_neg hB, if_pos rfl] at this
      exact this
    have n1 : f7_needed 1 h = some (nI (nB g / 32), h) := by
      have := ndV hC hI (i := 1) (by omega)
      rw [if_neg hB, if_neg (by omega), if_pos rfl] at this
      exact this
    have n2 : f7_needed 2 h = some (nI (nB g % 8), h) := by
      have := ndV hC hI (i := 2) (by omega)
      rw [if_neg hB, if_neg (by omega), if_neg (by omega), if_pos rfl] at this
      exact this
    have n3 : f7_needed 3 h = some (nI (wn g (nB g / 8 % 4) (nB g / 32) (nB g % 8)), h) := by
      have := ndV hC hI (i := 3) (by omega)
      rw [if_neg hB, if_neg (by omega), if_neg (by omega), if_neg (by omega), if_pos rfl] at this
      exact this
    have n4 : f7_needed 4 h = some (nI (ms g (nB g / 8 % 4) (nB g / 32) (nB g % 8)), h) := by
      have := ndV hC hI (i := 4) (by omega)
      rw [if_neg hB, if_neg (by omega), if_neg (by omega), if_neg (by omega), if_neg (by omega)] at this
      exact this
    generalize nB g = b at b0 b1 b2 b3 b4 hB hl n0 n1 n2 n3 n4
    have c : (1 ≤ wn g (b / 8 % 4) (b / 32) (b % 8) ∧ wn g (b / 8 % 4) (b / 32) (b % 8) ≤ 6) ∧ (co g (b / 8 % 4) (b / 32) (b % 8) = 0 ∨ co g (b / 8 % 4) (b / 32) (b % 8) = wn g (b / 8 % 4) (b / 32) (b % 8)) := of_decide_eq_true b3
    have hq : b / 8 % 4 < 4 := by omega
    have hr : b / 32 < 5 := by omega
    have hp : b % 8 < 8 := by omega
    have a1 := gr_lt hI hq hr hp
    have a2 := co_lt hI hq hr hp
    have a4 := co_0 hI hq hr hp
    have b2' : gr g (b / 8 % 4) (b / 32) (b % 8) < g 0 := b2
    have em : ms g (b / 8 % 4) (b / 32) (b % 8) = g 0 - gr g (b / 8 % 4) (b / 32) (b % 8) := by
      unfold ms
      rw [if_pos c.1]
      by_cases y : co g (b / 8 % 4) (b / 32) (b % 8) = wn g (b / 8 % 4) (b / 32) (b % 8)
      · rw [if_pos y]
      · rw [if_neg y]
        rcases c.2 with x | x
        · rw [a4.mp x]
        · exact absurd x y
    rw [em] at n4
    have hfin := hl 160 0 FU (by omega) (by unfold FU; omega)
    rw [← k_0] at hfin
    have hfin : fL_isNeeded_j133 (nI (b / 32)) (nI (b / 8 % 4)) (nI (b % 8)) (nI (gr g (b / 8 % 4) (b / 32) (b % 8))) h = some (1, h) := hfin
    rw [n1, bsm]
    dsimp only
    rw [if_pos (nI_pos' (by omega)), n0, bsm]
    dsimp only
    rw [n2, bsm]
    dsimp only
    rw [at_1 hC hq hr hp, bsm]
    dsimp only
    rw [ct_0 hC, bsm]
    dsimp only
    rw [if_neg (by rw [nI_ltU (by omega) (by omega)]; omega), n3, bsm]
    dsimp only
    rw [at_2 hC hI hq hr hp, bsm]
    dsimp only
    rw [if_pos rfl, n3, bsm]
    dsimp only
    rw [if_neg (by rw [k_0, nI_leU (by omega) (by omega)]; omega), n4, bsm]
    dsimp only
    rw [ct_7 hC, bsm]
    dsimp only
    rw [if_pos (by rw [nI_subU (by omega)]), n4, bsm]
    dsimp only
    rw [if_neg (by rw [k_0, nI_leU (by omega) (by omega)]; omega)]
    by_cases z : gr g (b / 8 % 4) (b / 32) (b % 8) = 0
    · rw [if_pos ((nz_0 (by omega)).mpr z), hfin]
    · rw [if_neg (fun w => z ((nz_0 (by omega)).mp w)), at_0 hC hq hr hp, bsm]
      dsimp only
      rw [n3, bsm]
      dsimp only
      rw [if_pos (by rw [c.2.resolve_left (fun w => z (a4.mp w))]), hfin]
end S45
