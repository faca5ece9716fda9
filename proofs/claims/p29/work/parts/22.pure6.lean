/-! pour; whole rings; close -/
theorem dv8 {a : Nat} (ha : a < 2147483648) : nI a / 8 = nI (a / 8) := by rw [k_8, nI_divU ha (by omega) (by omega)]
theorem md8 {a : Nat} (ha : a < 2147483648) : nI a - nI a / 8 * 8 = nI (a % 8) := by
  rw [k_8, nI_divU ha (by omega) (by omega), pk_mul, nI_subU (by omega)]
  congr 1; omega
theorem gu_hpS (g : GS) {q r p c n d v : Nat} (hd : d < 24) : hpS (gu g d v) q r p c n = gu (hpS g q r p c n) d v := by
  funext j
  unfold hpS gu
  by_cases y1 : j = d
  · rw [if_neg (by omega), if_neg (by omega), if_pos y1]
    simp [y1]
  · simp [y1]
theorem gu_comm (g : GS) {c d v w : Nat} (hcd : c ≠ d) : gu (gu g c v) d w = gu (gu g d w) c v := by
  funext j
  unfold gu
  by_cases y1 : j = d
  · subst y1
    rw [if_pos rfl, if_neg (fun z => hcd z.symm), if_pos rfl]
  · rw [if_neg y1, if_neg y1]
section S6
variable {h : Hp} {g : GS}
theorem C_pour_j (hC : CR h 1 g) (hI : IV g) {q r p n f : Nat} (hq : q < 4) (hr : r < 5) (hp : p < 8) (hn1 : 1 ≤ n) (hn : n ≤ 99) (hf1 : 1 ≤ f) (hf : f ≤ 6) : ∃ h', f1_pourGrains_j74 (nI q) (nI r) (nI p) (nI n) (nI f) h = some ((if g (8 + f) < n then (-5 : Int32) else if 99 < gr g q r p + n then -4 else nI (gr g q r p + n)), h') ∧ CR h' 1 (if g (8 + f) < n then g else if 99 < gr g q r p + n then g else gu (gu (hpS g q r p f (gr g q r p + n)) (8 + f) (g (8 + f) - n)) 22 (g 22 + n)) ∧ FR h h' 2 := by
  have hc := hI.2.2.2.2.2.2.2.2 q r p hq hr hp
  have hb := fb hI hf1 hf
  unfold f1_pourGrains_j74
  rw [f5_funnel_g hC (by omega), bsm]
  dsimp only
  by_cases z1 : g (8 + f) < n
  · rw [if_neg (by rw [nI_leU (by omega) (by omega)]; omega), if_pos z1, if_pos z1]
    exact ⟨h, rfl, hC, FR.rf _ _⟩
  · rw [if_pos (by rw [nI_leU (by omega) (by omega)]; omega), if_neg z1, if_neg z1, f5_grains_g hC hq hr hp, bsm]
    dsimp only
    rw [nI_add]
    by_cases z2 : 99 < gr g q r p + n
    · rw [if_neg (by rw [k_99, nI_leU (by omega) (by omega)]; omega), if_pos z2, if_pos z2]
      exact ⟨h, rfl, hC, FR.rf _ _⟩
    · rw [if_pos (by rw [k_99, nI_leU (by omega) (by omega)]; omega), if_neg z2, if_neg z2]
      obtain ⟨h1, b1, b2, b3⟩ := f5_heap_g (c := f) (n := gr g q r p + n) hC hq hr hp (by omega)
      rw [b1, bsm]
      dsimp only
      have e8 : hpS g q r p f (gr g q r p + n) (8 + f) = g (8 + f) := hpS_lo _ (by omega)
      obtain ⟨h2, c1, c2, c3⟩ := f5_lower_g (c := 8 + f) (v := n) b2 (by omega) (by rw [e8]; omega)
      rw [k_8, nI_add, c1, bsm]
      dsimp only
      rw [e8] at c2
      have e22 : gu (hpS g q r p f (gr g q r p + n)) (8 + f) (g (8 + f) - n) 22 = g 22 := by rw [gu_ne (by omega), hpS_lo _ (by omega)]
      obtain ⟨h3, d1, d2, d3⟩ := f5_raise_g (c := 22) (v := n) c2 (by omega)
      rw [k_22, d1, bsm]
      rw [e22] at d2
      exact ⟨h3, rfl, d2, (b3.tr c3).tr d3⟩
theorem C_pour (hC : CR h 1 g) (hI : IV g) (x1 x2 x3 x4 : Int32) : ∃ h', f1_pourGrains x1 x2 x3 x4 h = some ((pouS g x1 x2 x3 x4).1, h') ∧ CR h' 1 (pouS g x1 x2 x3 x4).2 ∧ FR h h' 2 := by
  unfold f1_pourGrains f1_pourGrains_e pouS
  rw [f7_isPlace_b, bsm]
  dsimp only
  cases e1 : (inR x1 4 && inR x2 5 && inR x3 8)
  · rw [bF, sF]
    exact ⟨h, rfl, hC, FR.rf _ _⟩
  · rw [bT, sT]
    obtain ⟨a1, a2, a3⟩ := i3 e1
    obtain ⟨q, hq, rfl⟩ := inR_of a1 (by omega)
    obtain ⟨r, hr, rfl⟩ := inR_of a2 (by omega)
    obtain ⟨p, hp, rfl⟩ := inR_of a3 (by omega)
    cases e2 : inC x4 1 99
    · rw [sF]
      refine ⟨h, ?_, hC, FR.rf _ _⟩
      have e3 := of_decide_eq_false e2
      by_cases z : x4 < 1
      · rw [if_pos z]
      · rw [if_neg z, if_neg]
        intro z2
        rw [k_1, lt_n _ (by omega)] at z
        have z3 := (le_n x4 (n := 99) (by omega)).mp (by rw [← k_99]; exact z2)
        omega
    · rw [sT]
      obtain ⟨n, hn1, hn2, rfl⟩ := inC_of e2 (by omega)
      have hc := hI.2.2.2.2.2.2.2.2 q r p hq hr hp
      have hg := gb hI hq
      rw [if_neg (by rw [k_1, nI_ltU (by omega) (by omega)]; omega), if_pos (by rw [k_99, nI_leU (by omega) (by omega)]; omega), f5_heldBy_g hC hq, bsm]
      dsimp only
      rw [f5_colour_g hC hq hr hp, bsm, tN_nI (by omega), tN_nI (by omega), tN_nI (by omega), tN_nI (by omega)]
      dsimp only
      by_cases z1 : g (15 + q) = 0
      · rw [if_pos (by rw [z1, k_0]), if_pos (Or.inl z1)]
        exact ⟨h, rfl, hC, FR.rf _ _⟩
      · rw [if_neg (by rw [k_0, nI_eqU (by omega) (by omega)]; exact z1), f5_isClosed_g hC hI hr, bsm]
        dsimp only
        by_cases z2 : r < g 19
        · rw [decide_eq_true z2, bT, if_pos (Or.inr (Or.inl z2))]
          exact ⟨h, rfl, hC, FR.rf _ _⟩
        · rw [decide_eq_false z2, bF]
          obtain ⟨h', b1, b2, b3⟩ := C_pour_j hC hI hq hr hp hn1 hn2 (f := g (15 + q)) (by omega) (by omega)
          have fin : (co g q r p = 0 ∨ co g q r p = g (15 + q)) → ∃ h', f1_pourGrains_j74 (nI q) (nI r) (nI p) (nI n) (nI (g (15 + q))) h = some ((if g (15 + q) = 0 ∨ r < g 19 ∨ ¬ (co g q r p = 0 ∨ co g q r p = g (15 + q)) ∨ g (8 + g (15 + q)) < n then ((-5 : Int32), g) else if 99 < gr g q r p + n then (-4, g) else (nI (gr g q r p + n), gu (gu (hpS g q r p (g (15 + q)) (gr g q r p + n)) (8 + g (15 + q)) (g (8 + g (15 + q)) - n)) 22 (g 22 + n))).1, h') ∧ CR h' 1 (if g (15 + q) = 0 ∨ r < g 19 ∨ ¬ (co g q r p = 0 ∨ co g q r p = g (15 + q)) ∨ g (8 + g (15 + q)) < n then ((-5 : Int32), g) else if 99 < gr g q r p + n then (-4, g) else (nI (gr g q r p + n), gu (gu (hpS g q r p (g (15 + q)) (gr g q r p + n)) (8 + g (15 + q)) (g (8 + g (15 + q)) - n)) 22 (g 22 + n))).2 ∧ FR h h' 2 := by
            intro hz
            by_cases y1 : g (8 + g (15 + q)) < n
            · rw [if_pos (Or.inr (Or.inr (Or.inr y1)))]
              rw [if_pos y1] at b1 b2
              exact ⟨h', b1, b2, b3⟩
            · rw [if_neg (by omega)]
              rw [if_neg y1] at b1 b2
              by_cases y2 : 99 < gr g q r p + n
              · rw [if_pos y2]
                rw [if_pos y2] at b1 b2
                exact ⟨h', b1, b2, b3⟩
              · rw [if_neg y2]
                rw [if_neg y2] at b1 b2
                exact ⟨h', b1, b2, b3⟩
          by_cases z3 : co g q r p = 0
          · rw [if_pos (by rw [z3, k_0])]
            exact fin (Or.inl z3)
          · rw [if_neg (by rw [k_0, nI_eqU (by omega) (by omega)]; exact z3)]
            by_cases z4 : co g q r p = g (15 + q)
            · rw [if_pos (by rw [z4])]
              exact fin (Or.inr z4)
            · rw [if_neg (by rw [nI_eqU (by omega) (by omega)]; exact z4), if_pos (Or.inr (Or.inr (Or.inl (by omega))))]
              exact ⟨h, rfl, hC, FR.rf _ _⟩
theorem I_pour (hI : IV g) (x1 x2 x3 x4 : Int32) : IV (pouS g x1 x2 x3 x4).2 := by
  unfold pouS
  cases e1 : (inR x1 4 && inR x2 5 && inR x3 8)
  · rw [sF]; exact hI
  · rw [sT]
    obtain ⟨a1, a2, a3⟩ := i3 e1
    obtain ⟨q, hq, rfl⟩ := inR_of a1 (by omega)
    obtain ⟨r, hr, rfl⟩ := inR_of a2 (by omega)
    obtain ⟨p, hp, rfl⟩ := inR_of a3 (by omega)
    cases e2 : inC x4 1 99
    · rw [sF]; exact hI
    · rw [sT]
      obtain ⟨n, hn1, hn2, rfl⟩ := inC_of e2 (by omega)
      have hg := gb hI hq
      rw [tN_nI (by omega), tN_nI (by omega), tN_nI (by omega), tN_nI (by omega)]
      split
      · exact hI
      · rename_i z
        split
        · exact hI
        · have hb := fb hI (c := g (15 + q)) (by omega) (by omega)
          exact IV_gu (IV_gu (IV_hpS hI hq hr hp (by omega) (Or.inr (by omega))) (by omega) (by omega) (by omega) (by omega) (by omega) (by omega) (by omega) (by omega) (by omega)) (by omega) (by omega) (by omega) (by omega) (by omega) (by omega) (by omega) (by omega) (by omega)
def al (f : Nat → Bool) : Nat → Nat → Bool
  | _, 0 => true
  | i, d + 1 => f i && al f (i + 1) d
theorem al_iff (f : Nat → Bool) : ∀ (d i : Nat), al f i d = true ↔ ∀ j, i ≤ j → j < i + d → f j = true := by
  intro d
  induction d with
  | zero => exact fun i => ⟨fun _ j h1 h2 => by omega, fun _ => rfl⟩
  | succ d ih =>
    intro i
    unfold al
    rw [Bool.and_eq_true, ih (i + 1)]
    refine ⟨fun ⟨y, z⟩ j h1 h2 => ?_, fun y => ⟨y i (by omega) (by omega), fun j h1 h2 => y j (by omega) (by omega)⟩⟩
    rcases Nat.lt_or_ge i j with h3 | h3
    · exact z j h3 (by omega)
    · rw [show j = i by omega]; exact y
def wh (g : GS) (r : Nat) : Bool := al (fun q => al (fun p => rt g q r p) 0 8) 0 4
theorem wh_k (g : GS) (r : Nat) : al (fun k => rt g (k / 8) r (k % 8)) 0 32 = wh g r := by
  rw [Bool.eq_iff_iff]
  unfold wh
  rw [al_iff, al_iff]
  refine ⟨fun y q _ hq => ?_, fun y k _ hk => ?_⟩
  · rw [al_iff]
    intro p _ hp
    have := y (8 * q + p) (by omega) (by omega)
    rwa [show (8 * q + p) / 8 = q by omega, show (8 * q + p) % 8 = p by omega] at this
  · have := y (k / 8) (by omega) (by omega)
    rw [al_iff] at this
    exact this (k % 8) (by omega) (by omega)
theorem wh_iff (g : GS) (r : Nat) : wh g r = true ↔ ∀ q p, q < 4 → p < 8 → rt g q r p = true := by
  unfold wh
  rw [al_iff]
  refine ⟨fun y q p hq hp => ?_, fun y q _ hq => ?_⟩
  · have := y q (by omega) (by omega)
    rw [al_iff] at this
    exact this p (by omega) (by omega)
  · rw [al_iff]
    exact fun p _ hp => y q p (by omega) (by omega)
theorem f6_isWhole_g (hC : CR h 1 g) (hI : IV g) {r : Nat} (hr : r < 5) : f6_isWhole (nI r) h = some (bI (wh g r), h) := by
  have inner : ∀ (k2 : Int32 → Int32 → Hp → Re) (q : Nat), q < 4 → ∀ (d p n : Nat), p + d = 8 → d < n → f6_isWhole_L9 k2 n (nI r) (nI q) (nI p) h = if al (fun p => rt g q r p) p d = true then k2 (nI r) (nI (q + 1)) h else some (bI false, h) := by
    intro k2 q hq d
    induction d with
    | zero =>
      intro p n hp hn
      obtain ⟨n, rfl⟩ : ∃ m, n = m + 1 := ⟨n - 1, by omega⟩
      rw [f6_isWhole_L9_s]
      unfold f6_isWhole_B9
      rw [if_pos (by rw [k_8, nI_leU (by omega) (by omega)]; omega), k_1, nI_add]
      rfl
    | succ d ih =>
      intro p n hp hn
      obtain ⟨n, rfl⟩ : ∃ m, n = m + 1 := ⟨n - 1, by omega⟩
      rw [f6_isWhole_L9_s]
      unfold f6_isWhole_B9 al
      rw [if_neg (by rw [k_8, nI_leU (by omega) (by omega)]; omega), f5_isRight_g hC hI hq hr (by omega), bsm]
      dsimp only
      cases e : rt g q r p
      · rw [bF]; rfl
      · rw [bT, k_1, nI_add, ih (p + 1) n (by omega) (by omega), Bool.true_and]
  have outer : ∀ (d q n : Nat), q + d = 4 → d < n → f6_isWhole_L2 n (nI r) (nI q) h = some (bI (al (fun q => al (fun p => rt g q r p) 0 8) q d), h) := by
    intro d
    induction d with
    | zero =>
      intro q n hq hn
      obtain ⟨n, rfl⟩ : ∃ m, n = m + 1 := ⟨n - 1, by omega⟩
      rw [f6_isWhole_L2_s]
      unfold f6_isWhole_B2
      rw [if_pos (by rw [k_4, nI_leU (by omega) (by omega)]; omega)]; rfl
    | succ d ih =>
      intro q n hq hn
      obtain ⟨n, rfl⟩ : ∃ m, n = m + 1 := ⟨n - 1, by omega⟩
      rw [f6_isWhole_L2_s]
      unfold f6_isWhole_B2
      rw [if_neg (by rw [k_4, nI_leU (by omega) (by omega)]; omega), k_0, inner _ q (by omega) 8 0 FU (by omega) (by unfold FU; omega), ih (q + 1) n (by omega) (by omega)]
      rw [show al (fun q => al (fun p => rt g q r p) 0 8) q (d + 1) = (al (fun p => rt g q r p) 0 8 && al (fun q => al (fun p => rt g q r p) 0 8) (q + 1) d) from rfl]
      cases e : al (fun p => rt g q r p) 0 8
      · rw [if_neg (by decide), Bool.false_and]
      · rw [if_pos rfl, Bool.true_and]
  unfold f6_isWhole f6_isWhole_e wh
  rw [k_0, outer 4 0 FU (by omega) (by unfold FU; omega)]
def cloS (g : GS) : Int32 × GS := if g 19 = 5 ∨ wh g (g 19) = false then (-5, g) else (nI (g 19), gu g 19 (g 19 + 1))
theorem C_close (hC : CR h 1 g) (hI : IV g) : ∃ h', f1_closeRing h = some ((cloS g).1, h') ∧ CR h' 1 (cloS g).2 ∧ FR h h' 2 := by
  have h19 : g 19 ≤ 5 := hI.2.2.2.2.2.2.1
  unfold f1_closeRing f1_closeRing_e cloS
  rw [k_19, f5_number_g hC (by omega), bsm]
  dsimp only
  by_cases z : g 19 = 5
  · rw [if_pos (by rw [z, k_5]; exact Int32.le_refl _), if_pos (Or.inl z)]
    exact ⟨h, rfl, hC, FR.rf _ _⟩
  · rw [if_neg (by rw [k_5, nI_leU (by omega) (by omega)]; omega), f6_isWhole_g hC hI (by omega), bsm]
    dsimp only
    cases e : wh g (g 19)
    · rw [bF, if_pos (Or.inr rfl)]
      exact ⟨h, rfl, hC, FR.rf _ _⟩
    · rw [bT, if_neg (by simp [z]), k_1, nI_add]
      obtain ⟨h1, a, b, d⟩ := f5_lay_g (c := 19) (v := g 19 + 1) hC (by omega)
      rw [a, bsm]
      exact ⟨h1, rfl, b, d⟩
theorem I_close (hI : IV g) : IV (cloS g).2 := by
  have h19 : g 19 ≤ 5 := hI.2.2.2.2.2.2.1
  unfold cloS
  split
  · exact hI
  · rename_i z
    exact IV_gu hI (by omega) (by omega) (by omega) (by omega) (by omega) (by omega) (by omega) (fun _ => by have : ¬ g 19 = 5 := fun y => z (Or.inl y); omega) (by omega)
end S6
