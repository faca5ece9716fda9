/-! texts: the model reads an order -/
def dI (m : Nat) (P : Nat → Nat) (i : Nat) : Int32 := nI (tx m P i) - 48
def nmI (m : Nat) (P : Nat → Nat) (b : Nat) : Int32 := if tx m P b ≠ 48 ∧ rg 48 57 (tx m P (b + 1)) = true then (10 * dI m P b + nI (tx m P (b + 1))) - 48 else dI m P b
def dgt (m : Nat) (P : Nat → Nat) (b i : Nat) : Nat := (tx m P (b + i) - 48) * 8 ^ i
def RO (f : Nat → Int32) (m : Nat) (P : Nat → Nat) (k a : Nat) : Prop :=
  f (5 * k) = nI (tx m P a) ∧ (tx m P a = 104 → f (5 * k + 1) = dI m P (a + 1) ∧ f (5 * k + 2) = dI m P (a + 2)) ∧ (tx m P a = 112 → f (5 * k + 1) = dI m P (a + 1) ∧ f (5 * k + 2) = dI m P (a + 2) ∧ f (5 * k + 3) = dI m P (a + 3) ∧ f (5 * k + 4) = nmI m P (a + 5)) ∧ (tx m P a = 115 → f (5 * k + 1) = dI m P (a + 1) ∧ f (5 * k + 2) = dI m P (a + 2) ∧ f (5 * k + 3) = dI m P (a + 3)) ∧ (tx m P a = 116 → f (5 * k + 1) = dI m P (a + 1) ∧ f (5 * k + 2) = nI (sm (dgt m P (a + 3)) 0 8)) ∧ (tx m P a = 98 → f (5 * k + 1) = dI m P (a + 1) ∧ f (5 * k + 2) = nI (if tx m P (a + 2) = 45 then 1 else 0))
def RdR (h : Hp) (m : Nat) (P : Nat → Nat) (a k : Nat) (r : Re) : Prop := ∃ h', r = some (bI (ordE m P a).2, h') ∧ PS h' m P (ordE m P a).1 (if (ordE m P a).2 = true then k + 1 else k) ∧ (∀ j, j < 5 * k → h' 20 j = h 20 j) ∧ XF h h' ∧ ((ordE m P a).2 = true → RO (h' 20) m P k a)
theorem gde {a : Int32} {i n : Nat} (e : a = nI i) (h : i < n) (hn : n < 2147483648) : inB a n = true := by rw [e, inB_nI h hn]; trivial
theorem ne10 : ¬ ((1 : Int32) = 0) := by decide
theorem sl5 {h : Hp} {k x : Nat} {xi : Int32} (e : h 12 11 = nI k) (ex : xi = nI x) : 5 * h 12 11 + xi = nI (5 * k + x) := by rw [e, ex, k_5, pk_mul, nI_add]
section S32
variable {h : Hp} {m : Nat} {P : Nat → Nat} {a k : Nat}
theorem fin_f {e : Nat} {hX : Hp} (eo : ordE m P a = (e, false)) (p : PS hX m P e k) (kp : ∀ j, j < 5 * k → hX 20 j = h 20 j) (x : XF h hX) : RdR h m P a k (f8_readsOrder_j292 0 hX) := by
  unfold RdR
  rw [eo, tl_f]
  exact ⟨hX, rfl, p, kp, x, fun w => absurd (show false = true from w) (by decide)⟩
theorem fin_t {e : Nat} {hX : Hp} (hk : k ≤ 40) (eo : ordE m P a = (e, true)) (p : PS hX m P e k) (kp : ∀ j, j < 5 * k → hX 20 j = h 20 j) (x : XF h hX) (r : RO (hX 20) m P k a) : RdR h m P a k (f8_readsOrder_j292 1 hX) := by
  obtain ⟨h', b1, b2, b3, b4⟩ := tl_t p hk
  unfold RdR
  rw [eo, b1]
  exact ⟨h', rfl, b2, fun j hj => by rw [b3]; exact kp j hj, x.tr b4, fun _ => by rw [b3]; exact r⟩
theorem num_f (hP : PS h m P a k) (he : rg 48 57 (tx m P a) = false) : ∃ h', f8_number 4 h = some (0, h') ∧ PS h' m P a k ∧ (∀ j, j ≠ 5 * k + 4 → h' 20 j = h 20 j) ∧ XF h h' := by
  obtain ⟨h1, b1, b2, b3, b4⟩ := dig_f hP (x := 4) k_4 k_48 k_57 (by omega) (by omega) (by omega) (by omega) he
  unfold f8_number f8_number_e
  rw [b1, bsm, if_pos rfl]
  exact ⟨h1, rfl, b2, b3, b4⟩
theorem num_t (hP : PS h m P a k) (he : rg 48 57 (tx m P a) = true) : ∃ h', f8_number 4 h = some (1, h') ∧ PS h' m P (if tx m P a ≠ 48 ∧ rg 48 57 (tx m P (a + 1)) = true then a + 2 else a + 1) k ∧ h' 20 (5 * k + 4) = nmI m P a ∧ (∀ j, j ≠ 5 * k + 4 → h' 20 j = h 20 j) ∧ XF h h' := by
  obtain ⟨h1, b1, b2, b3, b4, b5⟩ := dig_t hP (x := 4) k_4 k_48 k_57 (by omega) (by omega) (by omega) (by omega) he
  have hr := of_decide_eq_true he
  have p8 := hP.2.2.2.2.2.2.2
  have bt := tx_lt hP.2.1 a
  unfold f8_number f8_number_e nmI
  have ei := sl5 (x := 4) b2.2.2.2.2.2.1 k_4
  rw [b1, bsm, if_neg ne10]
  dsimp only
  rw [if_pos (gde ei (by omega) (by omega)), ei, tn_nI (by omega), b3, bsm]
  by_cases z : tx m P a = 48
  · rw [if_pos (by rw [z, k_48, nI_subU (by omega), k_0]; exact Int32.le_refl _), if_neg (fun w => w.1 z), if_neg (fun w => w.1 z)]
    exact ⟨h1, rfl, b2, b3, b4, b5⟩
  · rw [if_neg (by rw [k_48, nI_subU (by omega), k_0, nI_leU (by omega) (by omega)]; omega), k_48, k_57, isS_g b2 (by omega) (by omega) (by omega), bsm]
    dsimp only
    cases e : rg 48 57 (tx m P (a + 1))
    · rw [bF, if_neg (fun w => absurd w.2 (by decide)), if_neg (fun w => absurd w.2 (by decide))]
      exact ⟨h1, rfl, b2, b3, b4, b5⟩
    · have hr2 := of_decide_eq_true e
      have hm := tx_in (m := m) (P := P) (i := a + 1) (by omega)
      have e21 : h1 21 (Int32.toNatClampNeg (h1 12 12)) = nI (tx m P (a + 1)) := by rw [b2.2.2.2.2.1, tn_nI (by have := hP.1; omega), b2.2.2.2.1 _ hm, tx_is hm]
      have eB : inB (h1 12 12) 80 = true := by rw [b2.2.2.2.2.1, inB_nI (by have := hP.1; omega) (by omega)]; trivial
      have P3 := PS_20 b2 (5 * k + 4) (10 * (nI (tx m P a) - nI 48) + nI (tx m P (a + 1)) - nI 48)
      have P4 := PS_go P3 (a' := a + 2) (by omega)
      rw [bT, if_pos eB, if_pos (gde ei (by omega) (by omega)), bsm, bsm, ei, tn_nI (by omega), e21, P3.2.2.2.2.1, k_1, nI_add, if_pos ⟨z, rfl⟩, if_pos ⟨z, rfl⟩, show a + 1 + 1 = a + 2 by omega]
      refine ⟨_, rfl, P4, ?_, fun j hj => ?_, b5.tr ((XF_20 _ _ _).tr (XF_go _ _))⟩
      · rw [hu_n _ _ _ _ (by omega), hu_s]; unfold upd; rw [if_pos rfl]; unfold dI; rw [k_48]
      · rw [hu_n _ _ _ _ (by omega), hu_s]; unfold upd; rw [if_neg hj]; exact b4 j hj
theorem dir_t (hP : PS h m P a k) (he : tx m P a = 43 ∨ tx m P a = 45) : ∃ h', f8_direction h = some (1, h') ∧ PS h' m P (a + 1) k ∧ h' 20 (5 * k + 2) = nI (if tx m P a = 45 then 1 else 0) ∧ (∀ j, j ≠ 5 * k + 2 → h' 20 j = h 20 j) ∧ XF h h' := by
  have p8 := hP.2.2.2.2.2.2.2
  unfold f8_direction f8_direction_e f8_direction_j28
  by_cases z : tx m P a = 43
  · obtain ⟨h1, b1, b2, b3, b4⟩ := acc_t hP (c := 43) (ci := 43) rfl (by omega) (by omega) z
    have ei := sl5 (x := 2) b2.2.2.2.2.2.1 k_2
    rw [b1, bsm, if_neg ne10]
    dsimp only
    rw [if_pos (gde ei (by omega) (by omega)), bsm, if_neg ne10, ei, tn_nI (by omega), if_neg (by omega)]
    refine ⟨_, rfl, PS_20 b2 _ _, ?_, fun j hj => ?_, b4.tr (XF_20 _ _ _)⟩
    · rw [hu_s]; unfold upd; rw [if_pos rfl, k_0]
    · rw [hu_s]; unfold upd; rw [if_neg hj, b3]
  · have z2 : tx m P a = 45 := by omega
    have P2 := PS_20 hP (5 * k + 2) 1
    obtain ⟨h1, b1, b2, b3, b4⟩ := acc_t P2 (c := 45) k_45 (by omega) (by omega) z2
    rw [acc_f hP (c := 43) (ci := 43) rfl (by omega) (by omega) z, bsm, if_pos rfl]
    dsimp only
    have ei := sl5 (x := 2) hP.2.2.2.2.2.1 k_2
    rw [if_pos (gde ei (by omega) (by omega)), bsm, if_pos rfl, ei, tn_nI (by omega), b1, bsm, if_neg ne10, if_pos z2]
    dsimp only
    refine ⟨_, rfl, b2, ?_, fun j hj => ?_, (XF_20 _ _ _).tr b4⟩
    · rw [b3, hu_s]; unfold upd; rw [if_pos rfl, k_1]
    · rw [b3, hu_s]; unfold upd; rw [if_neg hj]
theorem dir_f (hP : PS h m P a k) (he : ¬ (tx m P a = 43 ∨ tx m P a = 45)) : ∃ h', f8_direction h = some (0, h') ∧ PS h' m P a k ∧ (∀ j, j ≠ 5 * k + 2 → h' 20 j = h 20 j) ∧ XF h h' := by
  have p8 := hP.2.2.2.2.2.2.2
  have P2 := PS_20 hP (5 * k + 2) 1
  unfold f8_direction f8_direction_e f8_direction_j28
  rw [acc_f hP (c := 43) (ci := 43) rfl (by omega) (by omega) (by omega), bsm, if_pos rfl]
  dsimp only
  have ei := sl5 (x := 2) hP.2.2.2.2.2.1 k_2
  rw [if_pos (gde ei (by omega) (by omega)), bsm, if_pos rfl, ei, tn_nI (by omega), acc_f P2 (c := 45) k_45 (by omega) (by omega) (by omega), bsm, if_pos rfl]
  dsimp only
  refine ⟨_, rfl, P2, fun j hj => ?_, XF_20 _ _ _⟩
  rw [hu_s]; unfold upd; rw [if_neg hj]
theorem of3 {i : Nat} (hi : 3 ≤ i) (h11 : i < 11) : ofit m P a 3 i = rg 48 54 (tx m P (a + i)) := by
  unfold ofit
  rw [kc_79 i h11 hi]
  rfl
theorem shl_dg {d p : Nat} (hd : d ≤ 6) (hp : p < 8) : nI d <<< (nI (3 * p) &&& 31) = nI (d * 8 ^ p) := by
  have e8 : (8 : Nat) ^ p = 2 ^ (3 * p) := by rw [Nat.pow_mul]
  have hb : 2 ^ (3 * p) ≤ 2 ^ 21 := Nat.pow_le_pow_right (by omega) (by omega)
  have hm := Nat.mul_le_mul hd hb
  rw [e8, pk_shlN _ (3 * p) (sh_l _ (by omega)) (by omega)]
theorem col_l : ∀ (d p n : Nat) (h : Hp) (S : Nat), p + d = 8 → d < n → PS h m P (a + 3 + p) k → ∃ h', f8_colours_L6 n (nI S) 1 (nI p) h = some (bI (sc (ofit m P a 3) (3 + p) d).2, h') ∧ PS h' m P (a + (sc (ofit m P a 3) (3 + p) d).1) k ∧ ((sc (ofit m P a 3) (3 + p) d).2 = true → h' 20 (5 * k + 2) = nI (S + sm (dgt m P (a + 3)) p d)) ∧ (∀ j, j ≠ 5 * k + 2 → j ≠ 5 * k + 3 → h' 20 j = h 20 j) ∧ XF h h' := by
  intro d
  induction d with
  | zero =>
    intro p n h S hp hn hP
    obtain ⟨n, rfl⟩ : ∃ m, n = m + 1 := ⟨n - 1, by omega⟩
    have p8 := hP.2.2.2.2.2.2.2
    rw [f8_colours_L6_s]
    unfold f8_colours_B6 f8_colours_j60 sc
    rw [if_pos (by rw [k_8, nI_leU (by omega) (by omega)]; omega), if_pos (gde (sl5 (x := 2) hP.2.2.2.2.2.1 k_2) (by omega) (by omega)), bsm, sl5 (x := 2) hP.2.2.2.2.2.1 k_2, tn_nI (by omega)]
    refine ⟨_, rfl, ?_, fun _ => ?_, fun j hj _ => ?_, XF_20 _ _ _⟩
    · rw [show a + (3 + p, true).1 = a + 3 + p by show a + (3 + p) = a + 3 + p; omega]
      exact PS_20 hP _ _
    · rw [hu_s]; unfold upd; rw [if_pos rfl]; rfl
    · rw [hu_s]; unfold upd; rw [if_neg hj]
  | succ d ih =>
    intro p n h S hp hn hP
    obtain ⟨n, rfl⟩ : ∃ m, n = m + 1 := ⟨n - 1, by omega⟩
    have p8 := hP.2.2.2.2.2.2.2
    have es : sc (ofit m P a 3) (3 + p) (d + 1) = if ofit m P a 3 (3 + p) = true then sc (ofit m P a 3) (3 + p + 1) d else (3 + p, false) := rfl
    have e1 : nI p + 1 = nI (p + 1) := by rw [k_1, nI_add]
    rw [f8_colours_L6_s]
    unfold f8_colours_B6
    rw [es, of3 (by omega) (by omega), show a + (3 + p) = a + 3 + p by omega, if_neg (by rw [k_8, nI_leU (by omega) (by omega)]; omega), if_neg (show ¬ ((1 : Int32) = 0) by decide), e1]
    cases e : rg 48 54 (tx m P (a + 3 + p))
    · obtain ⟨h1, b1, b2, b3, b4⟩ := dig_f hP (x := 3) k_3 k_48 k_54 (by omega) (by omega) (by omega) (by omega) e
      obtain ⟨n, rfl⟩ : ∃ m, n = m + 1 := ⟨n - 1, by omega⟩
      rw [b1, bsm, if_pos rfl, if_neg (by decide)]
      dsimp only
      rw [f8_colours_L6_s]
      have eL : f8_colours_B6 (f8_colours_L6 n) (nI S + 0) 0 (nI (p + 1)) h1 = f8_colours_j60 (nI S + 0) 0 h1 := by
        unfold f8_colours_B6
        by_cases w : (8 : Int32) ≤ nI (p + 1)
        · rw [if_pos w]
        · rw [if_neg w, if_pos rfl]
      rw [eL]
      unfold f8_colours_j60
      rw [if_pos (gde (sl5 (x := 2) b2.2.2.2.2.2.1 k_2) (by omega) (by omega)), bsm, sl5 (x := 2) b2.2.2.2.2.2.1 k_2, tn_nI (by omega)]
      refine ⟨_, rfl, ?_, fun w => absurd (show false = true from w) (by decide), fun j hj hj3 => ?_, b4.tr (XF_20 _ _ _)⟩
      · rw [show a + 3 + p = a + (3 + p) by omega] at b2
        exact PS_20 b2 _ _
      · rw [hu_s]; unfold upd; rw [if_neg hj]; exact b3 j hj3
    · obtain ⟨h1, b1, b2, b3, b4, b5⟩ := dig_t hP (x := 3) k_3 k_48 k_54 (by omega) (by omega) (by omega) (by omega) e
      have hr := of_decide_eq_true e
      have ev : nI (tx m P (a + 3 + p)) - 48 = nI (tx m P (a + 3 + p) - 48) := by rw [k_48, nI_subU (by omega)]
      rw [ev] at b3
      have e3 : (3 : Int32) * nI p = nI (3 * p) := by rw [k_3, pk_mul]
      have ei : 5 * h1 12 11 + 3 = nI (5 * k + 3) := by rw [b2.2.2.2.2.2.1, k_5, k_3, pk_mul, nI_add]
      obtain ⟨h2, c1, c2, c3, c4, c5⟩ := ih (p + 1) n h1 (S + (tx m P (a + 3 + p) - 48) * 8 ^ p) (by omega) (by omega) (by rw [show a + 3 + (p + 1) = a + 3 + p + 1 by omega]; exact b2)
      rw [b1, bsm, if_neg ne10, if_pos rfl]
      dsimp only
      rw [if_pos (gde ei (by omega) (by omega)), ei, tn_nI (by omega), b3, bsm, e3, shl_dg (by omega) (by omega), nI_add, show 3 + p + 1 = 3 + (p + 1) by omega]
      refine ⟨h2, c1, c2, fun w => ?_, fun j hj hj3 => (c4 j hj hj3).trans (b4 j hj3), b5.tr c5⟩
      rw [c3 w, Nat.add_assoc]
      rfl
theorem readsOrder_g (hP : PS h m P a k) (hk : k ≤ 40) : RdR h m P a k (f8_readsOrder h) := by
  have p8 := hP.2.2.2.2.2.2.2
  have bt := tx_lt hP.2.1 a
  have e0 : f8_readsOrder h = f8_readsOrder_j34 (nI (tx m P a)) (nI (5 * k)) h := by
    unfold f8_readsOrder f8_readsOrder_e
    have ek : 5 * h 12 11 = nI (5 * k) := by rw [hP.2.2.2.2.2.1, k_5, pk_mul]
    rw [ek]
    by_cases z : a < m
    · have e21 : h 21 (Int32.toNatClampNeg (h 12 12)) = nI (tx m P a) := by rw [hP.2.2.2.2.1, tn_nI (by have := hP.1; omega), hP.2.2.2.1 a z, tx_is z]
      have eB : inB (h 12 12) 80 = true := by rw [hP.2.2.2.2.1, inB_nI (by have := hP.1; omega) (by omega)]; trivial
      rw [if_neg (by rw [hP.2.2.1, hP.2.2.2.2.1, nI_leU (by have := hP.1; omega) (by have := hP.1; omega)]; omega), if_pos eB, e21]
    · have et : tx m P a = 0 := by unfold tx; rw [if_neg z]
      rw [if_pos (by rw [hP.2.2.1, hP.2.2.2.2.1, nI_leU (by have := hP.1; omega) (by have := hP.1; have := hP.2.2.2.2.2.2.1; omega)]; omega), et, k_0]
  rw [e0]
  have P0 := PS_20 hP (5 * k) (nI (tx m P a))
  have X0 := XF_20 h (5 * k) (nI (tx m P a))
  have f0 : hu h 20 (5 * k) (nI (tx m P a)) 20 (5 * k) = nI (tx m P a) := by rw [hu_s]; unfold upd; rw [if_pos rfl]
  have g0 : ∀ j, j ≠ 5 * k → hu h 20 (5 * k) (nI (tx m P a)) 20 j = h 20 j := fun j hj => by rw [hu_s]; unfold upd; rw [if_neg hj]
  unfold f8_readsOrder_j34 f8_readsOrder_j280 f8_readsOrder_j281 f8_readsOrder_j243 f8_readsOrder_j244 f8_readsOrder_j197 f8_readsOrder_j198 f8_readsOrder_j143 f8_readsOrder_j144 f8_readsOrder_j72 f8_readsOrder_j73
  rw [gd _ (by omega) (by omega), bsm, tn_nI (by omega)]
  generalize hu h 20 (5 * k) (nI (tx m P a)) = h0 at P0 X0 f0 g0 ⊢
  have n10 := ne10
  by_cases zh : tx m P a = 104
  · have eo := ordE_h zh
    obtain ⟨h1, a1, a2, a3, a4⟩ := acc_t P0 k_104 (by omega) (by omega) zh
    rw [a1, bsm, if_neg n10]
    dsimp only
    cases e1 : rg 48 57 (tx m P (a + 1))
    · obtain ⟨h2, b1, b2, b3, b4⟩ := dig_f a2 (x := 1) k_1 k_48 k_57 (by omega) (by omega) (by omega) (by omega) e1
      rw [e1, if_neg (by decide)] at eo
      rw [b1, bsm, if_pos rfl]
      dsimp only
      exact fin_f eo b2 (fun j hj => by rw [b3 j (by omega), a3, g0 j (by omega)]) (X0.tr (a4.tr b4))
    · obtain ⟨h2, b1, b2, b3, b4, b5⟩ := dig_t a2 (x := 1) k_1 k_48 k_57 (by omega) (by omega) (by omega) (by omega) e1
      rw [e1, if_pos rfl] at eo
      rw [b1, bsm, if_neg n10]
      dsimp only
      cases e2 : rg 49 54 (tx m P (a + 2))
      · obtain ⟨h3, c1, c2, c3, c4⟩ := dig_f b2 (x := 2) k_2 k_49 k_54 (by omega) (by omega) (by omega) (by omega) e2
        rw [e2, if_neg (by decide)] at eo
        rw [c1, bsm, if_pos rfl]
        dsimp only
        exact fin_f eo c2 (fun j hj => by rw [c3 j (by omega), b4 j (by omega), a3, g0 j (by omega)]) (X0.tr (a4.tr (b5.tr c4)))
      · obtain ⟨h3, c1, c2, c3, c4, c5⟩ := dig_t b2 (x := 2) k_2 k_49 k_54 (by omega) (by omega) (by omega) (by omega) e2
        rw [e2, if_pos rfl] at eo
        rw [c1, bsm, if_neg n10]
        dsimp only
        refine fin_t hk eo c2 (fun j hj => by rw [c4 j (by omega), b4 j (by omega), a3, g0 j (by omega)]) (X0.tr (a4.tr (b5.tr c5))) ⟨by rw [c4 _ (by omega), b4 _ (by omega), a3, f0], fun _ => ⟨by rw [c4 _ (by omega), b3]; rfl, c3⟩, by omega, by omega, by omega, by omega⟩
  · rw [acc_f P0 k_104 (by omega) (by omega) zh, bsm, if_pos rfl]
    dsimp only
    by_cases zp : tx m P a = 112
    · have eo := ordE_p zp
      obtain ⟨h1, a1, a2, a3, a4⟩ := acc_t P0 k_112 (by omega) (by omega) zp
      rw [a1, bsm, if_neg n10]
      dsimp only
      cases e1 : rg 48 57 (tx m P (a + 1))
      · obtain ⟨h2, b1, b2, b3, b4⟩ := dig_f a2 (x := 1) k_1 k_48 k_57 (by omega) (by omega) (by omega) (by omega) e1
        rw [e1, if_neg (by decide)] at eo
        rw [b1, bsm, if_pos rfl]
        dsimp only
        exact fin_f eo b2 (fun j hj => by rw [b3 j (by omega), a3, g0 j (by omega)]) (X0.tr (a4.tr b4))
      · obtain ⟨h2, b1, b2, b3, b4, b5⟩ := dig_t a2 (x := 1) k_1 k_48 k_57 (by omega) (by omega) (by omega) (by omega) e1
        rw [e1, if_pos rfl] at eo
        rw [b1, bsm, if_neg n10]
        dsimp only
        cases e2 : rg 48 57 (tx m P (a + 2))
        · obtain ⟨h3, c1, c2, c3, c4⟩ := dig_f b2 (x := 2) k_2 k_48 k_57 (by omega) (by omega) (by omega) (by omega) e2
          rw [e2, if_neg (by decide)] at eo
          rw [c1, bsm, if_pos rfl]
          dsimp only
          exact fin_f eo c2 (fun j hj => by rw [c3 j (by omega), b4 j (by omega), a3, g0 j (by omega)]) (X0.tr (a4.tr (b5.tr c4)))
        · obtain ⟨h3, c1, c2, c3, c4, c5⟩ := dig_t b2 (x := 2) k_2 k_48 k_57 (by omega) (by omega) (by omega) (by omega) e2
          rw [e2, if_pos rfl] at eo
          rw [c1, bsm, if_neg n10]
          dsimp only
          cases e3 : rg 48 57 (tx m P (a + 3))
          · obtain ⟨h4, d1, d2, d3, d4⟩ := dig_f c2 (x := 3) k_3 k_48 k_57 (by omega) (by omega) (by omega) (by omega) e3
            rw [e3, if_neg (by decide)] at eo
            rw [d1, bsm, if_pos rfl]
            dsimp only
            exact fin_f eo d2 (fun j hj => by rw [d3 j (by omega), c4 j (by omega), b4 j (by omega), a3, g0 j (by omega)]) (X0.tr (a4.tr (b5.tr (c5.tr d4))))
          · obtain ⟨h4, d1, d2, d3, d4, d5⟩ := dig_t c2 (x := 3) k_3 k_48 k_57 (by omega) (by omega) (by omega) (by omega) e3
            rw [e3, if_pos rfl] at eo
            rw [d1, bsm, if_neg n10]
            dsimp only
            by_cases z42 : tx m P (a + 4) = 42
            · obtain ⟨h5, i1, i2, i3, i4⟩ := acc_t d2 (c := 42) (ci := 42) rfl (by omega) (by omega) z42
              rw [if_pos z42] at eo
              rw [i1, bsm, if_neg n10]
              dsimp only
              cases e5 : rg 48 57 (tx m P (a + 5))
              · obtain ⟨h6, l1, l2, l3, l4⟩ := num_f i2 e5
                rw [e5, if_neg (by decide)] at eo
                rw [l1, bsm, if_pos rfl]
                dsimp only
                exact fin_f eo l2 (fun j hj => by rw [l3 j (by omega), i3, d4 j (by omega), c4 j (by omega), b4 j (by omega), a3, g0 j (by omega)]) (X0.tr (a4.tr (b5.tr (c5.tr (d5.tr (i4.tr l4))))))
              · obtain ⟨h6, l1, l2, l3, l4, l5⟩ := num_t i2 e5
                rw [e5, if_pos rfl] at eo
                have eo2 : ordE m P a = (if tx m P (a + 5) ≠ 48 ∧ rg 48 57 (tx m P (a + 5 + 1)) = true then a + 5 + 2 else a + 5 + 1, true) := by
                  rw [eo]
                  by_cases y : tx m P (a + 5) ≠ 48 ∧ rg 48 57 (tx m P (a + 6)) = true
                  · rw [if_pos y, if_pos (show tx m P (a + 5) ≠ 48 ∧ rg 48 57 (tx m P (a + 5 + 1)) = true from y)]
                  · rw [if_neg y, if_neg (show ¬ (tx m P (a + 5) ≠ 48 ∧ rg 48 57 (tx m P (a + 5 + 1)) = true) from y)]
                rw [l1, bsm, if_neg n10]
                dsimp only
                refine fin_t hk eo2 l2 (fun j hj => by rw [l4 j (by omega), i3, d4 j (by omega), c4 j (by omega), b4 j (by omega), a3, g0 j (by omega)]) (X0.tr (a4.tr (b5.tr (c5.tr (d5.tr (i4.tr l5)))))) ⟨by rw [l4 _ (by omega), i3, d4 _ (by omega), c4 _ (by omega), b4 _ (by omega), a3, f0], by omega, fun _ => ⟨by rw [l4 _ (by omega), i3, d4 _ (by omega), c4 _ (by omega), b3]; rfl, by rw [l4 _ (by omega), i3, d4 _ (by omega), c3]; rfl, by rw [l4 _ (by omega), i3, d3]; rfl, l3⟩, by omega, by omega, by omega⟩
            · rw [if_neg z42] at eo
              rw [acc_f d2 (c := 42) (ci := 42) rfl (by omega) (by omega) z42, bsm, if_pos rfl]
              dsimp only
              exact fin_f eo d2 (fun j hj => by rw [d4 j (by omega), c4 j (by omega), b4 j (by omega), a3, g0 j (by omega)]) (X0.tr (a4.tr (b5.tr (c5.tr d5))))
    · rw [acc_f P0 k_112 (by omega) (by omega) zp, bsm, if_pos rfl]
      dsimp only
      by_cases zs : tx m P a = 115
      · have eo := ordE_s zs
        obtain ⟨h1, a1, a2, a3, a4⟩ := acc_t P0 k_115 (by omega) (by omega) zs
        rw [a1, bsm, if_neg n10]
        dsimp only
        cases e1 : rg 48 57 (tx m P (a + 1))
        · obtain ⟨h2, b1, b2, b3, b4⟩ := dig_f a2 (x := 1) k_1 k_48 k_57 (by omega) (by omega) (by omega) (by omega) e1
          rw [e1, if_neg (by decide)] at eo
          rw [b1, bsm, if_pos rfl]
          dsimp only
          exact fin_f eo b2 (fun j hj => by rw [b3 j (by omega), a3, g0 j (by omega)]) (X0.tr (a4.tr b4))
        · obtain ⟨h2, b1, b2, b3, b4, b5⟩ := dig_t a2 (x := 1) k_1 k_48 k_57 (by omega) (by omega) (by omega) (by omega) e1
          rw [e1, if_pos rfl] at eo
          rw [b1, bsm, if_neg n10]
          dsimp only
          cases e2 : rg 48 57 (tx m P (a + 2))
          · obtain ⟨h3, c1, c2, c3, c4⟩ := dig_f b2 (x := 2) k_2 k_48 k_57 (by omega) (by omega) (by omega) (by omega) e2
            rw [e2, if_neg (by decide)] at eo
            rw [c1, bsm, if_pos rfl]
            dsimp only
            exact fin_f eo c2 (fun j hj => by rw [c3 j (by omega), b4 j (by omega), a3, g0 j (by omega)]) (X0.tr (a4.tr (b5.tr c4)))
          · obtain ⟨h3, c1, c2, c3, c4, c5⟩ := dig_t b2 (x := 2) k_2 k_48 k_57 (by omega) (by omega) (by omega) (by omega) e2
            rw [e2, if_pos rfl] at eo
            rw [c1, bsm, if_neg n10]
            dsimp only
            cases e3 : rg 48 57 (tx m P (a + 3))
            · obtain ⟨h4, d1, d2, d3, d4⟩ := dig_f c2 (x := 3) k_3 k_48 k_57 (by omega) (by omega) (by omega) (by omega) e3
              rw [e3, if_neg (by decide)] at eo
              rw [d1, bsm, if_pos rfl]
              dsimp only
              exact fin_f eo d2 (fun j hj => by rw [d3 j (by omega), c4 j (by omega), b4 j (by omega), a3, g0 j (by omega)]) (X0.tr (a4.tr (b5.tr (c5.tr d4))))
            · obtain ⟨h4, d1, d2, d3, d4, d5⟩ := dig_t c2 (x := 3) k_3 k_48 k_57 (by omega) (by omega) (by omega) (by omega) e3
              rw [e3, if_pos rfl] at eo
              rw [d1, bsm, if_neg n10]
              dsimp only
              refine fin_t hk eo d2 (fun j hj => by rw [d4 j (by omega), c4 j (by omega), b4 j (by omega), a3, g0 j (by omega)]) (X0.tr (a4.tr (b5.tr (c5.tr d5)))) ⟨by rw [d4 _ (by omega), c4 _ (by omega), b4 _ (by omega), a3, f0], by omega, by omega, fun _ => ⟨by rw [d4 _ (by omega), c4 _ (by omega), b3]; rfl, by rw [d4 _ (by omega), c3]; rfl, d3⟩, by omega, by omega⟩
      · rw [acc_f P0 k_115 (by omega) (by omega) zs, bsm, if_pos rfl]
        dsimp only
        by_cases zt : tx m P a = 116
        · have eo := ordE_t zt
          obtain ⟨h1, a1, a2, a3, a4⟩ := acc_t P0 k_116 (by omega) (by omega) zt
          rw [a1, bsm, if_neg n10]
          dsimp only
          cases e1 : rg 48 57 (tx m P (a + 1))
          · obtain ⟨h2, b1, b2, b3, b4⟩ := dig_f a2 (x := 1) k_1 k_48 k_57 (by omega) (by omega) (by omega) (by omega) e1
            rw [e1, if_neg (by decide)] at eo
            rw [b1, bsm, if_pos rfl]
            dsimp only
            exact fin_f eo b2 (fun j hj => by rw [b3 j (by omega), a3, g0 j (by omega)]) (X0.tr (a4.tr b4))
          · obtain ⟨h2, b1, b2, b3, b4, b5⟩ := dig_t a2 (x := 1) k_1 k_48 k_57 (by omega) (by omega) (by omega) (by omega) e1
            rw [e1, if_pos rfl] at eo
            rw [b1, bsm, if_neg n10]
            dsimp only
            by_cases z61 : tx m P (a + 2) = 61
            · obtain ⟨h3, c1, c2, c3, c4⟩ := acc_t b2 k_61 (by omega) (by omega) z61
              rw [if_pos z61] at eo
              rw [c1, bsm, if_neg n10]
              dsimp only
              obtain ⟨h4, d1, d2, d3, d4, d5⟩ := col_l (m := m) (P := P) (a := a) (k := k) 8 0 FU h3 0 (by omega) (by unfold FU; omega) c2
              rw [Nat.add_zero] at d1 d2 d3
              have ec : f8_colours h3 = some (bI (sc (ofit m P a 3) 3 8).2, h4) := by
                unfold f8_colours f8_colours_e
                rw [← k_0] at d1
                exact d1
              rw [ec, bsm]
              dsimp only
              have hsc := sc_le (ofit m P a 3) 8 3
              cases e3 : (sc (ofit m P a 3) 3 8).2
              · rw [e3, if_neg (by decide)] at eo
                rw [bF]
                exact fin_f eo d2 (fun j hj => by rw [d4 j (by omega) (by omega), c3, b4 j (by omega), a3, g0 j (by omega)]) (X0.tr (a4.tr (b5.tr (c4.tr d5))))
              · rw [e3, if_pos rfl] at eo
                have e11 : (sc (ofit m P a 3) 3 8).1 = 11 := by
                  have key : ∀ (f : Nat → Bool) (d i : Nat), (sc f i d).2 = true → (sc f i d).1 = i + d := by
                    intro f d
                    induction d with
                    | zero => exact fun _ _ => rfl
                    | succ d ih =>
                      intro i
                      unfold sc
                      split
                      · intro w; rw [ih (i + 1) w]; omega
                      · intro w; exact absurd (show false = true from w) (by decide)
                  exact key _ 8 3 e3
                rw [e11] at d2
                rw [bT]
                refine fin_t hk eo d2 (fun j hj => by rw [d4 j (by omega) (by omega), c3, b4 j (by omega), a3, g0 j (by omega)]) (X0.tr (a4.tr (b5.tr (c4.tr d5)))) ⟨by rw [d4 _ (by omega) (by omega), c3, b4 _ (by omega), a3, f0], by omega, by omega, by omega, fun _ => ⟨by rw [d4 _ (by omega) (by omega), c3, b3]; rfl, by rw [d3 e3, Nat.zero_add]⟩, by omega⟩
            · rw [if_neg z61] at eo
              rw [acc_f b2 k_61 (by omega) (by omega) z61, bsm, if_pos rfl]
              dsimp only
              exact fin_f eo b2 (fun j hj => by rw [b4 j (by omega), a3, g0 j (by omega)]) (X0.tr (a4.tr b5))
        · rw [acc_f P0 k_116 (by omega) (by omega) zt, bsm, if_pos rfl]
          dsimp only
          by_cases zb : tx m P a = 98
          · have eo := ordE_b zb
            obtain ⟨h1, a1, a2, a3, a4⟩ := acc_t P0 k_98 (by omega) (by omega) zb
            rw [a1, bsm, if_neg n10]
            dsimp only
            cases e1 : rg 48 57 (tx m P (a + 1))
            · obtain ⟨h2, b1, b2, b3, b4⟩ := dig_f a2 (x := 1) k_1 k_48 k_57 (by omega) (by omega) (by omega) (by omega) e1
              rw [e1, if_neg (by decide)] at eo
              rw [b1, bsm, if_pos rfl]
              dsimp only
              exact fin_f eo b2 (fun j hj => by rw [b3 j (by omega), a3, g0 j (by omega)]) (X0.tr (a4.tr b4))
            · obtain ⟨h2, b1, b2, b3, b4, b5⟩ := dig_t a2 (x := 1) k_1 k_48 k_57 (by omega) (by omega) (by omega) (by omega) e1
              rw [e1, if_pos rfl] at eo
              rw [b1, bsm, if_neg n10]
              dsimp only
              by_cases zd : tx m P (a + 2) = 43 ∨ tx m P (a + 2) = 45
              · obtain ⟨h3, c1, c2, c3, c4, c5⟩ := dir_t b2 zd
                rw [if_pos zd] at eo
                rw [c1, bsm, if_neg n10]
                dsimp only
                refine fin_t hk eo c2 (fun j hj => by rw [c4 j (by omega), b4 j (by omega), a3, g0 j (by omega)]) (X0.tr (a4.tr (b5.tr c5))) ⟨by rw [c4 _ (by omega), b4 _ (by omega), a3, f0], by omega, by omega, by omega, by omega, fun _ => ⟨by rw [c4 _ (by omega), b3]; rfl, c3⟩⟩
              · obtain ⟨h3, c1, c2, c3, c4⟩ := dir_f b2 zd
                rw [if_neg zd] at eo
                rw [c1, bsm, if_pos rfl]
                dsimp only
                exact fin_f eo c2 (fun j hj => by rw [c3 j (by omega), b4 j (by omega), a3, g0 j (by omega)]) (X0.tr (a4.tr (b5.tr c4)))
          · rw [acc_f P0 k_98 (by omega) (by omega) zb, bsm, if_pos rfl]
            dsimp only
            by_cases zc : tx m P a = 99
            · have eo := ordE_c zc
              obtain ⟨h1, a1, a2, a3, a4⟩ := acc_t P0 k_99 (by omega) (by omega) zc
              rw [a1, bsm]
              dsimp only
              refine fin_t hk eo a2 (fun j hj => by rw [a3, g0 j (by omega)]) (X0.tr a4) ⟨by rw [a3, f0], by omega, by omega, by omega, by omega, by omega⟩
            · rw [acc_f P0 k_99 (by omega) (by omega) zc, bsm]
              dsimp only
              refine fin_f (ordE_0 ?_) P0 (fun j hj => g0 j (by omega)) X0
              unfold shp
              rw [if_neg zb, if_neg zc, if_neg zh, if_neg zp, if_neg zs, if_neg zt]
end S32
