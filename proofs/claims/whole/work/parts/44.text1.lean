/-! texts: the model reads -/
def PS (h : Hp) (m : Nat) (P : Nat → Nat) (a k : Nat) : Prop := m ≤ 80 ∧ (∀ i, i < m → P i < 256) ∧ h 12 9 = nI m ∧ (∀ i, i < m → h 21 i = nI (P i)) ∧ h 12 12 = nI a ∧ h 12 11 = nI k ∧ a ≤ m ∧ k ≤ 41
def XF (h h' : Hp) : Prop := (∀ c, c ≠ 12 → c ≠ 20 → h' c = h c) ∧ (∀ j, j ≠ 11 → j ≠ 12 → h' 12 j = h 12 j)
theorem XF.rf (h : Hp) : XF h h := ⟨fun _ _ _ => rfl, fun _ _ _ => rfl⟩
theorem XF.tr {h h1 h2 : Hp} (x : XF h h1) (y : XF h1 h2) : XF h h2 := ⟨fun c a b => (y.1 c a b).trans (x.1 c a b), fun j a b => (y.2 j a b).trans (x.2 j a b)⟩
theorem hu_id {h : Hp} {k i : Nat} {v : Int32} (e : h k i = v) : hu h k i v = h := by
  funext c j
  unfold hu hf upd
  by_cases z : c = k
  · rw [if_pos z, z]
    by_cases y : j = i
    · rw [if_pos y, y, e]
    · rw [if_neg y]
  · rw [if_neg z]
section S31
variable {h : Hp} {m : Nat} {P : Nat → Nat} {a k : Nat}
theorem tx_in {i : Nat} (hne : tx m P i ≠ 0) : i < m := by
  by_cases z : i < m
  · exact z
  · unfold tx at hne; rw [if_neg z] at hne; exact absurd rfl hne
theorem tx_is {i : Nat} (hi : i < m) : tx m P i = P i := by unfold tx; rw [if_pos hi]
theorem isS_g (hP : PS h m P a k) {lo hi : Nat} (h1 : 1 ≤ lo) (h2 : lo < 256) (h3 : hi < 256) : f8_isSign (nI lo) (nI hi) h = some (bI (rg lo hi (tx m P a)), h) := by
  obtain ⟨p1, p2, p3, p4, p5, p6, p7, p8⟩ := hP
  unfold f8_isSign f8_isSign_e rg
  by_cases z : a < m
  · have b := p2 a z
    have e21 : h 21 (Int32.toNatClampNeg (h 12 12)) = nI (P a) := by rw [p5, tn_nI (by omega), p4 a z]
    have eB : inB (h 12 12) 80 = true := by rw [p5, inB_nI (by omega) (by omega)]; trivial
    rw [if_neg (by rw [p3, p5, nI_leU (by omega) (by omega)]; omega), tx_is z, if_pos eB]
    by_cases y : P a < lo
    · rw [if_pos (by rw [e21, nI_ltU (by omega) (by omega)]; exact y), decide_eq_false (by omega)]; rfl
    · rw [if_neg (by rw [e21, nI_ltU (by omega) (by omega)]; exact y), if_pos eB]
      by_cases x : hi < P a
      · rw [if_pos (by rw [e21, nI_ltU (by omega) (by omega)]; exact x), decide_eq_false (by omega)]; rfl
      · rw [if_neg (by rw [e21, nI_ltU (by omega) (by omega)]; exact x), decide_eq_true (by omega)]; rfl
  · have e0 : tx m P a = 0 := by unfold tx; rw [if_neg z]
    rw [if_pos (by rw [p3, p5, nI_leU (by omega) (by omega)]; omega), e0, decide_eq_false (by omega)]; rfl
theorem PS_go (hP : PS h m P a k) {a' : Nat} (ha : a' ≤ m) : PS (hu h 12 12 (nI a')) m P a' k := by
  obtain ⟨p1, p2, p3, p4, p5, p6, p7, p8⟩ := hP
  refine ⟨p1, p2, ?_, fun i hi => ?_, ?_, ?_, ha, p8⟩
  · rw [hu_s]; unfold upd; rw [if_neg (by omega)]; exact p3
  · rw [hu_n _ _ _ _ (by omega)]; exact p4 i hi
  · rw [hu_s]; unfold upd; rw [if_pos rfl]
  · rw [hu_s]; unfold upd; rw [if_neg (by omega)]; exact p6
theorem XF_go (h : Hp) (v : Int32) : XF h (hu h 12 12 v) := ⟨fun c x _ => hu_n _ _ _ _ x, fun j _ x => by rw [hu_s]; unfold upd; rw [if_neg x]⟩
theorem PS_20 (hP : PS h m P a k) (i : Nat) (v : Int32) : PS (hu h 20 i v) m P a k := by
  unfold PS
  rw [hu_n _ _ _ _ (show (12 : Nat) ≠ 20 by omega), hu_n _ _ _ _ (show (21 : Nat) ≠ 20 by omega)]
  exact hP
theorem XF_20 (h : Hp) (i : Nat) (v : Int32) : XF h (hu h 20 i v) := ⟨fun c _ x => hu_n _ _ _ _ x, fun j _ _ => by rw [hu_n _ _ _ _ (show (12 : Nat) ≠ 20 by omega)]⟩
theorem rg_one {c x : Nat} : rg c c x = decide (x = c) := by
  unfold rg
  by_cases z : x = c
  · rw [decide_eq_true z, decide_eq_true (by omega)]
  · rw [decide_eq_false z, decide_eq_false (by omega)]
theorem acc_f (hP : PS h m P a k) {c : Nat} {ci : Int32} (ec : ci = nI c) (h1 : 1 ≤ c) (h2 : c < 256) (hne : tx m P a ≠ c) : f8_accepts ci h = some (0, h) := by
  subst ec
  unfold f8_accepts f8_accepts_e
  rw [isS_g hP h1 h2 h2, bsm, rg_one, decide_eq_false hne]
  dsimp only
  rw [bF, bsm, k_0]
  have e : h 12 12 + nI 0 = h 12 12 := by rw [← k_0, Int32.add_zero]
  rw [e, hu_id rfl]
  rfl
theorem acc_t (hP : PS h m P a k) {c : Nat} {ci : Int32} (ec : ci = nI c) (h1 : 1 ≤ c) (h2 : c < 256) (he : tx m P a = c) : ∃ h', f8_accepts ci h = some (1, h') ∧ PS h' m P (a + 1) k ∧ h' 20 = h 20 ∧ XF h h' := by
  subst ec
  have hm := tx_in (m := m) (P := P) (i := a) (by omega)
  refine ⟨hu h 12 12 (nI (a + 1)), ?_, PS_go hP (by omega), hu_n _ _ _ _ (by omega), XF_go _ _⟩
  unfold f8_accepts f8_accepts_e
  rw [isS_g hP h1 h2 h2, bsm, rg_one, decide_eq_true he]
  dsimp only
  rw [bT, bsm, hP.2.2.2.2.1, k_1, nI_add]
  rfl
theorem dig_t (hP : PS h m P a k) {x lo hi : Nat} {xi li hj : Int32} (ex : xi = nI x) (el : li = nI lo) (eh : hj = nI hi) (hx : x ≤ 4) (h1 : 1 ≤ lo) (h2 : lo < 256) (h3 : hi < 256) (he : rg lo hi (tx m P a) = true) : ∃ h', f8_digit xi li hj h = some (1, h') ∧ PS h' m P (a + 1) k ∧ h' 20 (5 * k + x) = nI (tx m P a) - 48 ∧ (∀ j, j ≠ 5 * k + x → h' 20 j = h 20 j) ∧ XF h h' := by
  subst ex el eh
  have hr := of_decide_eq_true he
  have hm := tx_in (m := m) (P := P) (i := a) (by omega)
  have P2 := PS_20 hP (5 * k + x) (nI (tx m P a) - 48)
  have p8 := hP.2.2.2.2.2.2.2
  refine ⟨hu (hu h 20 (5 * k + x) (nI (tx m P a) - 48)) 12 12 (nI (a + 1)), ?_, PS_go P2 (by omega), ?_, fun j hj => ?_, (XF_20 _ _ _).tr (XF_go _ _)⟩
  · have e21 : h 21 (Int32.toNatClampNeg (h 12 12)) = nI (tx m P a) := by rw [hP.2.2.2.2.1, tn_nI (by have := hP.1; omega), hP.2.2.2.1 a hm, tx_is hm]
    have eB : inB (h 12 12) 80 = true := by rw [hP.2.2.2.2.1, inB_nI (by have := hP.1; omega) (by omega)]; trivial
    unfold f8_digit f8_digit_e
    rw [isS_g hP h1 h2 h3, bsm, he]
    dsimp only
    rw [bT, if_pos eB, e21]
    unfold f8_digit_j41
    rw [hP.2.2.2.2.2.1, k_5, pk_mul, nI_add, gd _ (by omega) (by omega), bsm, bT, bsm, tn_nI (by omega), P2.2.2.2.2.1, k_1, nI_add]
    rfl
  · rw [hu_n _ _ _ _ (by omega), hu_s]; unfold upd; rw [if_pos rfl]
  · rw [hu_n _ _ _ _ (by omega), hu_s]; unfold upd; rw [if_neg hj]
theorem dig_f (hP : PS h m P a k) {x lo hi : Nat} {xi li hj : Int32} (ex : xi = nI x) (el : li = nI lo) (eh : hj = nI hi) (hx : x ≤ 4) (h1 : 1 ≤ lo) (h2 : lo < 256) (h3 : hi < 256) (he : rg lo hi (tx m P a) = false) : ∃ h', f8_digit xi li hj h = some (0, h') ∧ PS h' m P a k ∧ (∀ j, j ≠ 5 * k + x → h' 20 j = h 20 j) ∧ XF h h' := by
  subst ex el eh
  have P2 := PS_20 hP (5 * k + x) 0
  have p8 := hP.2.2.2.2.2.2.2
  refine ⟨hu h 20 (5 * k + x) 0, ?_, P2, fun j hj => ?_, XF_20 _ _ _⟩
  · unfold f8_digit f8_digit_e
    rw [isS_g hP h1 h2 h3, bsm, he]
    dsimp only
    rw [bF]
    unfold f8_digit_j41
    rw [hP.2.2.2.2.2.1, k_5, pk_mul, nI_add, gd _ (by omega) (by omega), bsm, bF, bsm, tn_nI (by omega)]
    have e : hu h 20 (5 * k + x) 0 12 12 + 0 = hu h 20 (5 * k + x) 0 12 12 := Int32.add_zero _
    rw [e, hu_id rfl]
    rfl
  · rw [hu_s]; unfold upd; rw [if_neg hj]
theorem tl_f (h : Hp) : f8_readsOrder_j292 0 h = some (0, h) := by
  unfold f8_readsOrder_j292
  rw [if_pos rfl, bsm]
  have e : h 12 11 + 0 = h 12 11 := Int32.add_zero _
  rw [e, hu_id rfl]
  rfl
theorem tl_t (hP : PS h m P a k) (hk : k ≤ 40) : ∃ h', f8_readsOrder_j292 1 h = some (1, h') ∧ PS h' m P a (k + 1) ∧ h' 20 = h 20 ∧ XF h h' := by
  obtain ⟨p1, p2, p3, p4, p5, p6, p7, p8⟩ := hP
  refine ⟨hu h 12 11 (nI (k + 1)), ?_, ⟨p1, p2, ?_, fun i hi => ?_, ?_, ?_, p7, by omega⟩, hu_n _ _ _ _ (by omega), ⟨fun c x _ => hu_n _ _ _ _ x, fun j x _ => by rw [hu_s]; unfold upd; rw [if_neg x]⟩⟩
  · unfold f8_readsOrder_j292
    rw [if_neg (by decide), bsm, p6, k_1, nI_add]
    rfl
  · rw [hu_s]; unfold upd; rw [if_neg (by omega)]; exact p3
  · rw [hu_n _ _ _ _ (by omega)]; exact p4 i hi
  · rw [hu_s]; unfold upd; rw [if_neg (by omega)]; exact p5
  · rw [hu_s]; unfold upd; rw [if_pos rfl]
/-! an order, by its letter -/
theorem ordE_h (e : tx m P a = 104) : ordE m P a = if rg 48 57 (tx m P (a + 1)) = true then (if rg 49 54 (tx m P (a + 2)) = true then (a + 3, true) else (a + 2, false)) else (a + 1, false) := by
  have s0 : ofit m P a 0 0 = true := by show decide (tx m P (a + 0) = 104) = true; exact decide_eq_true e
  have ee : sc (ofit m P a 0) 0 3 = if ofit m P a 0 0 = true then (if rg 48 57 (tx m P (a + 1)) = true then (if rg 49 54 (tx m P (a + 2)) = true then (3, true) else (2, false)) else (1, false)) else (0, false) := rfl
  unfold ordE
  rw [e, show shp 104 = 0 from rfl, show sLen 0 = 3 from rfl, ee, s0, if_neg (by omega), if_pos (show true = true from rfl), if_neg (show ¬ ((0 : Nat) = 1 ∧ _) from fun w => absurd w.1 (by omega))]
  cases rg 48 57 (tx m P (a + 1))
  · rfl
  · cases rg 49 54 (tx m P (a + 2))
    · rfl
    · rfl
theorem ordE_s (e : tx m P a = 115) : ordE m P a = if rg 48 57 (tx m P (a + 1)) = true then (if rg 48 57 (tx m P (a + 2)) = true then (if rg 48 57 (tx m P (a + 3)) = true then (a + 4, true) else (a + 3, false)) else (a + 2, false)) else (a + 1, false) := by
  have s0 : ofit m P a 2 0 = true := by show decide (tx m P (a + 0) = 115) = true; exact decide_eq_true e
  have ee : sc (ofit m P a 2) 0 4 = if ofit m P a 2 0 = true then (if rg 48 57 (tx m P (a + 1)) = true then (if rg 48 57 (tx m P (a + 2)) = true then (if rg 48 57 (tx m P (a + 3)) = true then (4, true) else (3, false)) else (2, false)) else (1, false)) else (0, false) := rfl
  unfold ordE
  rw [e, show shp 115 = 2 from rfl, show sLen 2 = 4 from rfl, ee, s0, if_neg (by omega), if_pos (show true = true from rfl), if_neg (show ¬ ((2 : Nat) = 1 ∧ _) from fun w => absurd w.1 (by omega))]
  cases rg 48 57 (tx m P (a + 1))
  · rfl
  · cases rg 48 57 (tx m P (a + 2))
    · rfl
    · cases rg 48 57 (tx m P (a + 3))
      · rfl
      · rfl
theorem ordE_b (e : tx m P a = 98) : ordE m P a = if rg 48 57 (tx m P (a + 1)) = true then (if tx m P (a + 2) = 43 ∨ tx m P (a + 2) = 45 then (a + 3, true) else (a + 2, false)) else (a + 1, false) := by
  have s0 : ofit m P a 4 0 = true := by show decide (tx m P (a + 0) = 98) = true; exact decide_eq_true e
  have ee : sc (ofit m P a 4) 0 3 = if ofit m P a 4 0 = true then (if rg 48 57 (tx m P (a + 1)) = true then (if decide (tx m P (a + 2) = 43 ∨ tx m P (a + 2) = 45) = true then (3, true) else (2, false)) else (1, false)) else (0, false) := rfl
  unfold ordE
  rw [e, show shp 98 = 4 from rfl, show sLen 4 = 3 from rfl, ee, s0, if_neg (by omega), if_pos (show true = true from rfl), if_neg (show ¬ ((4 : Nat) = 1 ∧ _) from fun w => absurd w.1 (by omega))]
  cases rg 48 57 (tx m P (a + 1))
  · rfl
  · by_cases z : tx m P (a + 2) = 43 ∨ tx m P (a + 2) = 45
    · rw [decide_eq_true z, if_pos z]; rfl
    · rw [decide_eq_false z, if_neg z]; rfl
theorem ordE_c (e : tx m P a = 99) : ordE m P a = (a + 1, true) := by
  have s0 : ofit m P a 5 0 = true := by show decide (tx m P (a + 0) = 99) = true; exact decide_eq_true e
  have ee : sc (ofit m P a 5) 0 1 = if ofit m P a 5 0 = true then (1, true) else (0, false) := rfl
  unfold ordE
  rw [e, show shp 99 = 5 from rfl, show sLen 5 = 1 from rfl, ee, s0, if_neg (by omega), if_pos (show true = true from rfl), if_neg (show ¬ ((5 : Nat) = 1 ∧ _) from fun w => absurd w.1 (by omega))]
  rfl
theorem ordE_p (e : tx m P a = 112) : ordE m P a = if rg 48 57 (tx m P (a + 1)) = true then (if rg 48 57 (tx m P (a + 2)) = true then (if rg 48 57 (tx m P (a + 3)) = true then (if tx m P (a + 4) = 42 then (if rg 48 57 (tx m P (a + 5)) = true then (if tx m P (a + 5) ≠ 48 ∧ rg 48 57 (tx m P (a + 6)) = true then (a + 7, true) else (a + 6, true)) else (a + 5, false)) else (a + 4, false)) else (a + 3, false)) else (a + 2, false)) else (a + 1, false) := by
  have s0 : ofit m P a 1 0 = true := by show decide (tx m P (a + 0) = 112) = true; exact decide_eq_true e
  have ee : sc (ofit m P a 1) 0 6 = if ofit m P a 1 0 = true then (if rg 48 57 (tx m P (a + 1)) = true then (if rg 48 57 (tx m P (a + 2)) = true then (if rg 48 57 (tx m P (a + 3)) = true then (if decide (tx m P (a + 4) = 42) = true then (if rg 48 57 (tx m P (a + 5)) = true then (6, true) else (5, false)) else (4, false)) else (3, false)) else (2, false)) else (1, false)) else (0, false) := rfl
  unfold ordE
  rw [e, show shp 112 = 1 from rfl, show sLen 1 = 6 from rfl, ee, s0, if_neg (by omega), if_pos (show true = true from rfl)]
  cases rg 48 57 (tx m P (a + 1))
  · rfl
  · cases rg 48 57 (tx m P (a + 2))
    · rfl
    · cases rg 48 57 (tx m P (a + 3))
      · rfl
      · by_cases z : tx m P (a + 4) = 42
        · rw [decide_eq_true z, if_pos z]
          cases rg 48 57 (tx m P (a + 5))
          · rfl
          · by_cases y : tx m P (a + 5) ≠ 48 ∧ rg 48 57 (tx m P (a + 6)) = true
            · have y1 : (1 : Nat) = 1 ∧ tx m P (a + 5) ≠ 48 ∧ rg 48 57 (tx m P (a + 6)) = true := ⟨rfl, y⟩
              rw [if_pos y, if_pos y1]; rfl
            · have y1 : ¬ ((1 : Nat) = 1 ∧ tx m P (a + 5) ≠ 48 ∧ rg 48 57 (tx m P (a + 6)) = true) := fun w => y w.2
              rw [if_neg y, if_neg y1]; rfl
        · rw [decide_eq_false z, if_neg z]; rfl
theorem kc_79 : ∀ i, i < 11 → 3 ≤ i → kc 3 i = 79 := by decide +kernel
theorem ordE_t (e : tx m P a = 116) : ordE m P a = if rg 48 57 (tx m P (a + 1)) = true then (if tx m P (a + 2) = 61 then (if (sc (ofit m P a 3) 3 8).2 = true then (a + 11, true) else (a + (sc (ofit m P a 3) 3 8).1, false)) else (a + 2, false)) else (a + 1, false) := by
  have s0 : ofit m P a 3 0 = true := by show decide (tx m P (a + 0) = 116) = true; exact decide_eq_true e
  have ee : sc (ofit m P a 3) 0 11 = if ofit m P a 3 0 = true then (if rg 48 57 (tx m P (a + 1)) = true then (if decide (tx m P (a + 2) = 61) = true then sc (ofit m P a 3) 3 8 else (2, false)) else (1, false)) else (0, false) := rfl
  unfold ordE
  rw [e, show shp 116 = 3 from rfl, show sLen 3 = 11 from rfl, ee, s0, if_neg (by omega), if_pos (show true = true from rfl), if_neg (show ¬ ((3 : Nat) = 1 ∧ _) from fun w => absurd w.1 (by omega))]
  cases rg 48 57 (tx m P (a + 1))
  · rfl
  · by_cases z : tx m P (a + 2) = 61
    · rw [decide_eq_true z, if_pos z, if_pos (show true = true from rfl), if_pos (show true = true from rfl)]
      cases (sc (ofit m P a 3) 3 8).2
      · rfl
      · rfl
    · rw [decide_eq_false z, if_neg z]; rfl
theorem ordE_0 (e : shp (tx m P a) = 6) : ordE m P a = (a, false) := by unfold ordE; rw [if_pos e]
end S31
