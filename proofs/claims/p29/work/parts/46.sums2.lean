/-! the sums' check -/
section S46
variable {h : Hp} {g : GS}
theorem pick6 {b v : Nat} (hb : (1 ≤ b ∧ b ≤ 6) ∨ v = 0) : sm (fun c => if mt c b = true then v else 0) 1 6 = v := by
  rcases hb with ⟨h1, h2⟩ | rfl
  · rw [sm6]
    unfold mt
    rcases (show b = 1 ∨ b = 2 ∨ b = 3 ∨ b = 4 ∨ b = 5 ∨ b = 6 by omega) with rfl | rfl | rfl | rfl | rfl | rfl <;> simp
  · rw [sm_z]
    intro j _ _
    show (if mt j b = true then 0 else 0) = 0
    split <;> rfl
theorem mea0c (g : GS) (c q r p : Nat) : mea g 0 c q r p = if mt c (co g q r p) = true then gr g q r p else 0 := by
  unfold mea
  rw [if_pos rfl]
theorem mea5c (g : GS) (c q r p : Nat) : mea g 5 c q r p = if mt c (wn g q r p) = true then ms g q r p else 0 := by
  unfold mea
  rw [if_neg (by omega), if_neg (by omega), if_neg (by omega), if_neg (by omega), if_neg (by omega)]
theorem pick0 (hI : IV g) {q r p : Nat} (hq : q < 4) (hr : r < 5) (hp : p < 8) : sm (fun c => mea g 0 c q r p) 1 6 = gr g q r p := by
  have a2 := co_lt hI hq hr hp
  have a4 := co_0 hI hq hr hp
  rw [sm_cg (f' := fun c => if mt c (co g q r p) = true then gr g q r p else 0) 6 1 (fun c _ _ => mea0c g c q r p)]
  refine pick6 ?_
  by_cases z : co g q r p = 0
  · exact Or.inr (a4.mp z)
  · exact Or.inl ⟨by omega, a2⟩
theorem pick5 (g : GS) (q r p : Nat) : sm (fun c => mea g 5 c q r p) 1 6 = ms g q r p := by
  rw [sm_cg (f' := fun c => if mt c (wn g q r p) = true then ms g q r p else 0) 6 1 (fun c _ _ => mea5c g c q r p)]
  refine pick6 ?_
  by_cases z : 1 ≤ wn g q r p ∧ wn g q r p ≤ 6
  · exact Or.inl z
  · right; unfold ms; rw [if_neg z]
theorem S_rings (g : GS) : sm (fun r => tal g 0 4294967295 4294967295 r) 0 5 = tot g := by
  rw [← tal_tot, tal_a]
  exact sm_cg 5 0 (fun r _ hr => tal_r g 0 4294967295 (by omega))
theorem S_own (hI : IV g) {q : Nat} (hq : q < 4) : sm (fun c => tal g 0 c q 4294967295) 1 6 = QS g q := by
  rw [sm_cg (f' := fun c => sm (fun r => sm (fun p => mea g 0 c q r p) 0 8) 0 5) 6 1 (fun c _ _ => tal_q g 0 c hq)]
  rw [sm_swap (fun c r => sm (fun p => mea g 0 c q r p) 0 8) 5 6 1]
  refine sm_cg 5 0 (fun r _ hr => ?_)
  show sm (fun c => sm (fun p => mea g 0 c q r p) 0 8) 1 6 = RS g q r
  rw [sm_swap (fun c p => mea g 0 c q r p) 8 6 1]
  exact sm_cg 8 0 (fun p _ hp => pick0 hI hq (by omega) (by omega))
theorem S_cols (hI : IV g) : sm (fun c => tal g 0 c 4294967295 4294967295) 1 6 = tot g := by
  rw [sm_cg (f' := fun c => sm (fun q => sm (fun r => sm (fun p => mea g 0 c q r p) 0 8) 0 5) 0 4) 6 1 (fun c _ _ => by
    show tal g 0 c 4294967295 4294967295 = _
    rw [tal_a, sm_swap (fun r q => sm (fun p => mea g 0 c q r p) 0 8) 4 5 0])]
  rw [sm_swap (fun c q => sm (fun r => sm (fun p => mea g 0 c q r p) 0 8) 0 5) 4 6 1]
  refine sm_cg 4 0 (fun q _ hq => ?_)
  show sm (fun c => sm (fun r => sm (fun p => mea g 0 c q r p) 0 8) 0 5) 1 6 = QS g q
  rw [← S_own hI (show q < 4 by omega)]
  exact sm_cg 6 1 (fun c _ _ => (tal_q g 0 c (by omega)).symm)
theorem S_miss (g : GS) : sm (fun r => tal g 5 4294967295 4294967295 r) 0 5 = sm (fun c => tal g 5 c 4294967295 4294967295) 1 6 := by
  rw [sm_cg (f' := fun c => sm (fun r => sm (fun q => sm (fun p => mea g 5 c q r p) 0 8) 0 4) 0 5) 6 1 (fun c _ _ => tal_a g 5 c)]
  rw [sm_swap (fun c r => sm (fun q => sm (fun p => mea g 5 c q r p) 0 8) 0 4) 5 6 1]
  refine sm_cg 5 0 (fun r _ hr => ?_)
  show tal g 5 4294967295 4294967295 r = sm (fun c => sm (fun q => sm (fun p => mea g 5 c q r p) 0 8) 0 4) 1 6
  rw [ms_tal g (show r < 5 by omega), sm_swap (fun c q => sm (fun p => mea g 5 c q r p) 0 8) 4 6 1]
  refine sm_cg 4 0 (fun q _ _ => ?_)
  show sm (fun p => ms g q r p) 0 8 = sm (fun c => sm (fun p => mea g 5 c q r p) 0 8) 1 6
  rw [sm_swap (fun c p => mea g 5 c q r p) 8 6 1]
  exact sm_cg 8 0 (fun p _ _ => (pick5 g q r p).symm)
theorem shl_0 : ∀ k, k < 32 → (0 : Int32) <<< (nI k &&& 31) = 0 := by decide +kernel
theorem or_bI (w : Int32) (b : Bool) {k : Nat} (hk : k < 32) : w ||| (bI b <<< (nI k &&& 31)) = if b = true then w ||| (1 <<< (nI k &&& 31)) else w := by
  cases b
  · rw [if_neg (by decide), bI_f, shl_0 k hk, or0]
  · rw [if_pos rfl, bI_t]
theorem as_rings (hC : CR h 1 g) (hI : IV g) (x2 x3 x5 x7 : Int32) : ∀ (d k n a b : Nat) (w : Int32), k + d = 5 → d < n → fL_areSums_L24 n (nI a) x2 x3 (nI b) x5 w x7 1 (nI k) h = fL_areSums_L90 FU (nI (a + sm (fun r => tal g 0 4294967295 4294967295 r) k d)) x2 x3 (nI (b + sm (fun r => tal g 5 4294967295 4294967295 r) k d)) x5 (bts (wh g) k d w) x7 1 0 h := by
  intro d
  induction d with
  | zero =>
    intro k n a b w hk hn
    obtain ⟨n, rfl⟩ : ∃ m, n = m + 1 := ⟨n - 1, by omega⟩
    rw [fL_areSums_L24_s]
    unfold fL_areSums_B24
    rw [if_pos (by rw [k_5, nI_leU (by omega) (by omega)]; omega)]
    rfl
  | succ d ih =>
    intro k n a b w hk hn
    obtain ⟨n, rfl⟩ : ∃ m, n = m + 1 := ⟨n - 1, by omega⟩
    have es : ∀ f : Nat → Nat, sm f k (d + 1) = f k + sm f (k + 1) d := fun _ => rfl
    have eb : bts (wh g) k (d + 1) w = bts (wh g) (k + 1) d (if wh g k = true then w ||| (1 <<< (nI k &&& 31)) else w) := rfl
    have e1 : nI k + 1 = nI (k + 1) := by rw [k_1, nI_add]
    have hk5 : k < 5 := by omega
    rw [fL_areSums_L24_s]
    unfold fL_areSums_B24
    rw [if_neg (by rw [k_5, nI_leU (by omega) (by omega)]; omega), if_neg (by decide), rg_5 hC hI hk5, bsm]
    dsimp only
    rw [rg_6 hC hI hk5, bsm]
    dsimp only
    rw [rg_2 hC hI hk5, bsm]
    dsimp only
    rw [isRing_g hC hI hk5, bsm]
    dsimp only
    rw [nI_add, nI_add, e1, or_bI _ _ (by omega), ih (k + 1) n _ _ _ (by omega) (by omega), es, es, eb, Nat.add_assoc, Nat.add_assoc]
theorem as_own (hC : CR h 1 g) (hI : IV g) (hD : DI g) {q : Nat} (hq : q < 4) (k90 : Int32 → Int32 → Int32 → Int32 → Int32 → Int32 → Int32 → Int32 → Int32 → Hp → Re) (x1 x2 x3 x4 x5 x6 x7 : Int32) : ∀ (d c n o : Nat), c + d = 7 → 1 ≤ c → d < n → o + sm (fun c => tal g 0 c q 4294967295) c d = QS g q → fL_areSums_L107 k90 n x1 x2 x3 x4 x5 x6 x7 (nI q) (nI o) (nI c) h = k90 x1 (x2 + nI (QS g q)) x3 x4 x5 x6 x7 1 (nI q + 1) h := by
  intro d
  induction d with
  | zero =>
    intro c n o hk h1 hn he
    obtain ⟨n, rfl⟩ : ∃ m, n = m + 1 := ⟨n - 1, by omega⟩
    have he : o = QS g q := he
    have hg := gb hI hq
    rw [fL_areSums_L107_s]
    unfold fL_areSums_B107
    rw [if_pos (by rw [k_7, nI_leU (by omega) (by omega)]; omega), oq_2 hC hq, bsm]
    dsimp only
    rw [oq_0 hC hI hq, bsm, tal_QS g hq, he]
    dsimp only
    rw [if_pos rfl]
    by_cases z : g (15 + q) = 0
    · rw [if_pos ((nz_0 (by omega)).mpr z)]
      rfl
    · have e := hd_of hD hq rfl z
      have e5 : f7_ofColour (nI (g (15 + q))) 1 h = some (nI q, h) := by rw [oc_1 hC hI (by omega) hg, e, if_neg (by omega)]
      rw [if_neg (fun w => z ((nz_0 (by omega)).mp w)), e5, bsm]
      dsimp only
      rw [if_pos rfl]
      rfl
  | succ d ih =>
    intro c n o hk h1 hn he
    obtain ⟨n, rfl⟩ : ∃ m, n = m + 1 := ⟨n - 1, by omega⟩
    have es : ∀ f : Nat → Nat, sm f c (d + 1) = f c + sm f (c + 1) d := fun _ => rfl
    have e1 : nI c + 1 = nI (c + 1) := by rw [k_1, nI_add]
    rw [es] at he
    rw [fL_areSums_L107_s]
    unfold fL_areSums_B107
    rw [if_neg (by rw [k_7, nI_leU (by omega) (by omega)]; omega), oq_c hC hI hq h1 (by omega), bsm]
    dsimp only
    rw [nI_add, e1, ih (c + 1) n _ (by omega) (by omega) (by omega) (by omega)]
theorem as_quarters (hC : CR h 1 g) (hI : IV g) (hD : DI g) (x1 x3 x4 x5 x6 x7 : Int32) : ∀ (d k n a : Nat), k + d = 4 → d < n → fL_areSums_L90 n x1 (nI a) x3 x4 x5 x6 x7 1 (nI k) h = fL_areSums_L194 FU x1 (nI (a + sm (fun q => QS g q) k d)) x3 x4 x5 x6 x7 1 1 h := by
  intro d
  induction d with
  | zero =>
    intro k n a hk hn
    obtain ⟨n, rfl⟩ : ∃ m, n = m + 1 := ⟨n - 1, by omega⟩
    rw [fL_areSums_L90_s]
    unfold fL_areSums_B90
    rw [if_pos (by rw [k_4, nI_leU (by omega) (by omega)]; omega)]
    rfl
  | succ d ih =>
    intro k n a hk hn
    obtain ⟨n, rfl⟩ : ∃ m, n = m + 1 := ⟨n - 1, by omega⟩
    have es : ∀ f : Nat → Nat, sm f k (d + 1) = f k + sm f (k + 1) d := fun _ => rfl
    have e1 : nI k + 1 = nI (k + 1) := by rw [k_1, nI_add]
    have hk4 : k < 4 := by omega
    have e := as_own hC hI hD hk4 (fL_areSums_L90 n) x1 (nI a) x3 x4 x5 x6 x7 6 1 FU 0 (by omega) (by omega) (by unfold FU; omega) (by rw [S_own hI hk4, Nat.zero_add])
    rw [← k_0, ← k_1] at e
    rw [fL_areSums_L90_s]
    unfold fL_areSums_B90
    rw [if_neg (by rw [k_4, nI_leU (by omega) (by omega)]; omega), if_neg (by decide), e, nI_add, e1, ih (k + 1) n _ (by omega) (by omega), es, Nat.add_assoc]
theorem as_cols (hC : CR h 1 g) (hI : IV g) (x1 x2 x4 x6 : Int32) : ∀ (d c n a b : Nat) (w : Int32), c + d = 7 → 1 ≤ c → d < n → fL_areSums_L194 n x1 x2 (nI a) x4 (nI b) x6 w 1 (nI c) h = fL_areSums_j299 x1 x2 (nI (a + sm (fun c => tal g 0 c 4294967295 4294967295) c d)) x4 (nI (b + sm (fun c => tal g 5 c 4294967295 4294967295) c d)) x6 (bts (lkF g) c d w) 1 h := by
  intro d
  induction d with
  | zero =>
    intro c n a b w hk h1 hn
    obtain ⟨n, rfl⟩ : ∃ m, n = m + 1 := ⟨n - 1, by omega⟩
    rw [fL_areSums_L194_s]
    unfold fL_areSums_B194
    rw [if_pos (by rw [k_7, nI_leU (by omega) (by omega)]; omega)]
    rfl
  | succ d ih =>
    intro c n a b w hk h1 hn
    obtain ⟨n, rfl⟩ : ∃ m, n = m + 1 := ⟨n - 1, by omega⟩
    have es : ∀ f : Nat → Nat, sm f c (d + 1) = f c + sm f (c + 1) d := fun _ => rfl
    have eb : bts (lkF g) c (d + 1) w = bts (lkF g) (c + 1) d (if lkF g c = true then w ||| (1 <<< (nI c &&& 31)) else w) := rfl
    have e1 : nI c + 1 = nI (c + 1) := by rw [k_1, nI_add]
    have h6 : c ≤ 6 := by omega
    have a1 := miss_le hI c
    have a2 := fb hI h1 h6
    have e264 : ∀ (k194 : Int32 → Int32 → Int32 → Int32 → Int32 → Int32 → Int32 → Int32 → Int32 → Hp → Re) (x3 x5 y0 y1 : Int32), fL_areSums_j264 k194 x1 x2 x3 x4 x5 x6 (nI c) (if hd g c = 4 then -6 else nI (hd g c)) y0 y1 h = k194 x1 x2 x3 x4 x5 x6 (y1 ||| y0) 1 (nI c + 1) h := by
      intro k194 x3 x5 y0 y1
      unfold fL_areSums_j264
      by_cases z : hd g c = 4
      · rw [if_pos z, if_pos rfl]
        rfl
      · obtain ⟨z1, z2⟩ := hd_is z
        rw [if_neg z, if_neg (by rw [k_m6, nI_eqU (by omega) (by omega)]; omega), oq_2 hC z1, bsm, z2]
        dsimp only
        rw [if_pos rfl]
        rfl
    rw [fL_areSums_L194_s]
    unfold fL_areSums_B194
    rw [if_neg (by rw [k_7, nI_leU (by omega) (by omega)]; omega), if_neg (by decide), oc_1 hC hI h1 h6, bsm]
    dsimp only
    rw [oc_2 hC hI h1 h6, bsm]
    dsimp only
    rw [oc_4 hC hI h1 h6, bsm]
    dsimp only
    rw [oc_0 hC h1 h6, bsm]
    dsimp only
    rw [oc_4 hC hI h1 h6, bsm]
    dsimp only
    rw [e264, e264, nI_add, nI_add, e1, or0, es, es, eb]
    unfold lkF
    by_cases z : tal g 5 c 4294967295 4294967295 ≤ g (8 + c)
    · rw [if_pos (by rw [nI_leU (by omega) (by omega)]; exact z), decide_eq_false (by omega), if_neg (by decide)]
      have := ih (c + 1) n (a + tal g 0 c 4294967295 4294967295) (b + tal g 5 c 4294967295 4294967295) w (by omega) (by omega) (by omega)
      unfold lkF at this
      rw [this, Nat.add_assoc, Nat.add_assoc]
    · rw [if_neg (by rw [nI_leU (by omega) (by omega)]; exact z), decide_eq_true (by omega), if_pos rfl]
      have := ih (c + 1) n (a + tal g 0 c 4294967295 4294967295) (b + tal g 5 c 4294967295 4294967295) (w ||| (1 <<< (nI c &&& 31))) (by omega) (by omega) (by omega)
      unfold lkF at this
      rw [this, Nat.add_assoc, Nat.add_assoc]
theorem areSums_g (hC : CR h 1 g) (hL : LI g) : fL_areSums h = some (1, h) := by
  obtain ⟨hI, hD, _, hT⟩ := hL
  unfold fL_areSums fL_areSums_e
  have e1 := as_rings hC hI 0 0 0 0 5 0 FU 0 0 0 (by omega) (by unfold FU; omega)
  rw [Nat.zero_add, Nat.zero_add, S_rings, S_miss] at e1
  have e2 := as_quarters hC hI hD (nI (tot g)) 0 (nI (sm (fun c => tal g 5 c 4294967295 4294967295) 1 6)) 0 (bts (wh g) 0 5 0) 0 4 0 FU 0 (by omega) (by unfold FU; omega)
  rw [Nat.zero_add, show sm (fun q => QS g q) 0 4 = tot g from rfl] at e2
  have e3 := as_cols hC hI (nI (tot g)) (nI (tot g)) (nI (sm (fun c => tal g 5 c 4294967295 4294967295) 1 6)) (bts (wh g) 0 5 0) 6 1 FU 0 0 0 (by omega) (by omega) (by unfold FU; omega)
  rw [Nat.zero_add, Nat.zero_add, S_cols hI] at e3
  rw [← k_0] at e1 e2 e3
  rw [← k_1] at e3
  rw [e1, e2, e3]
  unfold fL_areSums_j299
  obtain ⟨b, hb, eb⟩ := bs_g hC hI
  rw [if_neg (by decide), ct_4 hC hI, bsm, tal_tot]
  dsimp only
  rw [if_pos rfl, if_pos rfl, if_pos rfl, if_pos rfl, ct_5 hC hI, bsm]
  dsimp only
  rw [if_pos rfl, lk_g hC hI, bsm]
  dsimp only
  rw [if_pos rfl, ct_2 hC, bsm]
  dsimp only
  rw [ct_3 hC, bsm]
  dsimp only
  rw [ct_4 hC hI, bsm, tal_tot]
  dsimp only
  rw [if_pos (by rw [nI_add, hT]), eb, bsm]
  dsimp only
  rw [if_neg (nI_pos (by omega)), eb, bsm]
  dsimp only
  rw [if_neg (by rw [k_4, nI_leU (by omega) (by omega)]; omega), rz_1]
end S46
