/-! texts: what an order is; the class reads -/
def tx (m : Nat) (P : Nat → Nat) (i : Nat) : Nat := if i < m then P i else 0
def rg (a b c : Nat) : Bool := decide (a ≤ c ∧ c ≤ b)
def ftn (x c : Nat) : Bool := if x = 67 then rg 49 54 c else if x = 68 then rg 48 57 c else if x = 78 then rg 48 57 c else if x = 79 then rg 48 54 c else if x = 83 then decide (c = 43 ∨ c = 45) else decide (c = x)
def kc (k i : Nat) : Nat := ([[104, 68, 67], [112, 68, 68, 68, 42, 78], [115, 68, 68, 68], [116, 68, 61, 79, 79, 79, 79, 79, 79, 79, 79], [98, 68, 83], [99]].getD k []).getD i 0
def shp (c : Nat) : Nat := if c = 98 then 4 else if c = 99 then 5 else if c = 104 then 0 else if c = 112 then 1 else if c = 115 then 2 else if c = 116 then 3 else 6
def sc (f : Nat → Bool) : Nat → Nat → Nat × Bool
  | i, 0 => (i, true)
  | i, d + 1 => if f i = true then sc f (i + 1) d else (i, false)
def ofit (m : Nat) (P : Nat → Nat) (at_ k : Nat) (i : Nat) : Bool := ftn (kc k i) (tx m P (at_ + i))
def ordE (m : Nat) (P : Nat → Nat) (at_ : Nat) : Nat × Bool :=
  if shp (tx m P at_) = 6 then (at_, false)
  else if (sc (ofit m P at_ (shp (tx m P at_))) 0 (sLen (shp (tx m P at_)))).2 = false then (at_ + (sc (ofit m P at_ (shp (tx m P at_))) 0 (sLen (shp (tx m P at_)))).1, false)
  else if shp (tx m P at_) = 1 ∧ tx m P (at_ + 5) ≠ 48 ∧ rg 48 57 (tx m P (at_ + 6)) = true then (at_ + 7, true) else (at_ + sLen (shp (tx m P at_)), true)
def fE (m : Nat) (P : Nat → Nat) : Nat → Nat → Option Nat
  | 0, a => some a
  | n + 1, a => if (ordE m P a).2 = false then some (ordE m P a).1 else if (ordE m P a).1 = m then none else if tx m P (ordE m P a).1 ≠ 59 then some (ordE m P a).1 else fE m P n ((ordE m P a).1 + 1)
def fI (o : Option Nat) : Int32 := match o with
  | none => -6
  | some a => nI a
theorem shp_le (c : Nat) : shp c ≤ 6 := by unfold shp; repeat' split
                                           all_goals omega
theorem kc_is : ∀ k, k < 6 → ∀ i, i < 11 → i < sLen k → sCh k i = nI (kc k i) ∧ kc k i < 256 := by decide +kernel
theorem ln_le : ∀ k, k < 7 → sLen k ≤ 11 := by decide +kernel
theorem ln_em : ∀ k, k < 7 → sEm k = (if k = 6 then 1 else 0) := by decide +kernel
theorem ln_pos : ∀ k, k < 6 → 1 ≤ sLen k := by decide +kernel
theorem ln_last : ∀ k, k < 6 → (kc k (sLen k - 1) = 78 ↔ k = 1) := by decide +kernel
theorem sc_le (f : Nat → Bool) : ∀ (d i : Nat), (sc f i d).1 ≤ i + d ∧ i ≤ (sc f i d).1 := by
  intro d
  induction d with
  | zero => exact fun i => ⟨Nat.le_refl _, Nat.le_refl _⟩
  | succ d ih =>
    intro i
    have := ih (i + 1)
    unfold sc
    split
    · omega
    · exact ⟨by show i ≤ i + (d + 1); omega, Nat.le_refl _⟩
section S30
variable {h : Hp} {m : Nat} {P : Nat → Nat}
def PT (h : Hp) (m : Nat) (P : Nat → Nat) : Prop := m ≤ 80 ∧ (∀ i, i < m → P i < 256) ∧ h 10 1 = nI m ∧ ∀ i, i < m → h 11 i = nI (P i)
theorem tx_lt (hb : ∀ i, i < m → P i < 256) (i : Nat) : tx m P i < 256 := by
  unfold tx
  by_cases z : i < m
  · rw [if_pos z]; exact hb i z
  · rw [if_neg z]; omega
theorem f4_sign_g (hP : PT h m P) {i : Nat} (hi : i < 1000) : f4_sign (nI i) h = some (nI (tx m P i), h) := by
  obtain ⟨h1, h2, h3, h4⟩ := hP
  unfold f4_sign f4_sign_e tx
  rw [if_neg (nI_pos (by omega))]
  by_cases z : i < m
  · rw [if_neg (by rw [h3, nI_leU (by omega) (by omega)]; omega), if_neg (by rw [k_80, nI_leU (by omega) (by omega)]; omega), gd _ (by omega) (by omega), tn_nI (by omega), h4 i z, if_pos z]
  · rw [if_pos (by rw [h3, nI_leU (by omega) (by omega)]; omega), if_neg z, k_0]
theorem f3_isDigit_g {c : Nat} (hc : c < 256) : f3_isDigit (nI c) h = some (bI (rg 48 57 c), h) := by
  unfold f3_isDigit f3_isDigit_e rg
  by_cases z : c < 48
  · rw [if_pos (by rw [k_48, nI_ltU (by omega) (by omega)]; exact z), decide_eq_false (by omega)]; rfl
  · rw [if_neg (by rw [k_48, nI_ltU (by omega) (by omega)]; exact z)]
    by_cases y : 57 < c
    · rw [if_pos (by rw [k_57, nI_ltU (by omega) (by omega)]; exact y), decide_eq_false (by omega)]; rfl
    · rw [if_neg (by rw [k_57, nI_ltU (by omega) (by omega)]; exact y), decide_eq_true (by omega)]; rfl
theorem f3_fits_g {x c : Nat} (hx : x < 256) (hc : c < 256) : f3_fits (nI x) (nI c) h = some (bI (ftn x c), h) := by
  have rr : ∀ a b : Nat, a < 256 → b < 256 → (if nI c < nI a then rz 0 h else if nI b < nI c then rz 0 h else rz 1 h) = some (bI (rg a b c), h) := by
    intro a b ha hb
    unfold rg
    by_cases z : c < a
    · rw [if_pos (by rw [nI_ltU (by omega) (by omega)]; exact z), decide_eq_false (by omega)]; rfl
    · rw [if_neg (by rw [nI_ltU (by omega) (by omega)]; exact z)]
      by_cases y : b < c
      · rw [if_pos (by rw [nI_ltU (by omega) (by omega)]; exact y), decide_eq_false (by omega)]; rfl
      · rw [if_neg (by rw [nI_ltU (by omega) (by omega)]; exact y), decide_eq_true (by omega)]; rfl
  unfold f3_fits f3_fits_e f3_fits_j52 ftn
  by_cases z1 : x = 67
  · rw [if_pos (by rw [z1]; rfl), if_pos z1, k_49, k_54, rr 49 54 (by omega) (by omega)]
  · rw [if_neg (show ¬ nI x = 67 from fun w => z1 ((nI_eqU (a := x) (b := 67) (by omega) (by omega)).mp w)), if_neg z1]
    by_cases z2 : x = 68
    · rw [if_pos (by rw [z2]; rfl), if_pos z2, f3_isDigit_g hc, bsm, rz_b]
    · rw [if_neg (show ¬ nI x = 68 from fun w => z2 ((nI_eqU (a := x) (b := 68) (by omega) (by omega)).mp w)), if_neg z2]
      by_cases z3 : x = 78
      · rw [if_pos (by rw [z3]; rfl), if_pos z3, f3_isDigit_g hc, bsm, rz_b]
      · rw [if_neg (show ¬ nI x = 78 from fun w => z3 ((nI_eqU (a := x) (b := 78) (by omega) (by omega)).mp w)), if_neg z3]
        by_cases z4 : x = 79
        · rw [if_pos (by rw [z4]; rfl), if_pos z4, k_48, k_54, rr 48 54 (by omega) (by omega)]
        · rw [if_neg (show ¬ nI x = 79 from fun w => z4 ((nI_eqU (a := x) (b := 79) (by omega) (by omega)).mp w)), if_neg z4]
          by_cases z5 : x = 83
          · rw [if_pos (by rw [z5]; rfl), if_pos z5]
            by_cases y : c = 43
            · rw [if_pos (by rw [y]; rfl), decide_eq_true (Or.inl y)]; rfl
            · rw [if_neg (show ¬ nI c = 43 from fun w => y ((nI_eqU (a := c) (b := 43) (by omega) (by omega)).mp w))]
              by_cases y2 : c = 45
              · rw [if_pos (by rw [y2, k_45]), decide_eq_true (Or.inr y2)]; rfl
              · rw [if_neg (by rw [k_45, nI_eqU (by omega) (by omega)]; exact y2), decide_eq_false (by omega)]; rfl
          · rw [if_neg (show ¬ nI x = 83 from fun w => z5 ((nI_eqU (a := x) (b := 83) (by omega) (by omega)).mp w)), if_neg z5]
            by_cases y : c = x
            · rw [if_pos (by rw [y]), decide_eq_true y]; rfl
            · rw [if_neg (by rw [nI_eqU (by omega) (by omega)]; exact y), decide_eq_false y]; rfl
theorem f3_has2_g (hP : PT h m P) {i : Nat} (hi : i < 900) : f3_hasSecondDigit (nI i) h = some (bI (decide (tx m P i ≠ 48 ∧ rg 48 57 (tx m P (i + 1)) = true)), h) := by
  have b1 := tx_lt hP.2.1 i
  have b2 := tx_lt hP.2.1 (i + 1)
  unfold f3_hasSecondDigit f3_hasSecondDigit_e
  rw [f4_sign_g hP (by omega), bsm]
  dsimp only
  by_cases z : tx m P i = 48
  · rw [if_pos (by rw [z, k_48]), decide_eq_false (fun w => w.1 z)]; rfl
  · rw [if_neg (by rw [k_48, nI_eqU (by omega) (by omega)]; exact z), k_1, nI_add, f4_sign_g hP (by omega), bsm]
    dsimp only
    rw [f3_isDigit_g b2, bsm]
    dsimp only
    cases e : rg 48 57 (tx m P (i + 1))
    · rw [bF, decide_eq_false (fun w => absurd w.2 (by decide))]; rfl
    · rw [bT, decide_eq_true ⟨z, rfl⟩]; rfl
theorem f3_shape_g {c : Nat} (hc : c < 256) : f3_shapeOf (nI c) = shp c := by
  have q : ∀ k : Nat, k < 256 → (nI c = nI k ↔ c = k) := fun k hk => nI_eqU (by omega) (by omega)
  unfold f3_shapeOf shp
  rw [k_98, k_99, k_104, k_112, k_115, k_116]
  by_cases z1 : c = 98
  · rw [if_pos (by rw [z1]), if_pos z1]
  · rw [if_neg (fun w => z1 ((q 98 (by omega)).mp w)), if_neg z1]
    by_cases z2 : c = 99
    · rw [if_pos (by rw [z2]), if_pos z2]
    · rw [if_neg (fun w => z2 ((q 99 (by omega)).mp w)), if_neg z2]
      by_cases z3 : c = 104
      · rw [if_pos (by rw [z3]), if_pos z3]
      · rw [if_neg (fun w => z3 ((q 104 (by omega)).mp w)), if_neg z3]
        by_cases z4 : c = 112
        · rw [if_pos (by rw [z4]), if_pos z4]
        · rw [if_neg (fun w => z4 ((q 112 (by omega)).mp w)), if_neg z4]
          by_cases z5 : c = 115
          · rw [if_pos (by rw [z5]), if_pos z5]
          · rw [if_neg (fun w => z5 ((q 115 (by omega)).mp w)), if_neg z5]
            by_cases z6 : c = 116
            · rw [if_pos (by rw [z6]), if_pos z6]
            · rw [if_neg (fun w => z6 ((q 116 (by omega)).mp w)), if_neg z6]
theorem shape_l (hP : PT h m P) {a k : Nat} (ha : a ≤ 200) (hk : k < 6) (x2 : Int32) (k4 : Int32 → Int32 → Hp → Re) : ∀ (d i n : Nat), i + d = sLen k → d < n → f3_firstFault_L31 k4 n (nI (a + i)) x2 k (nI i) h = if (sc (ofit m P a k) i d).2 = false then some (nI (a + (sc (ofit m P a k) i d).1), h) else if k = 1 ∧ tx m P (a + 5) ≠ 48 ∧ rg 48 57 (tx m P (a + 6)) = true then f3_firstFault_j96 k4 (nI (a + 7)) x2 h else f3_firstFault_j96 k4 (nI (a + sLen k)) x2 h := by
  have hl := ln_le k (by omega)
  have hl1 := ln_pos k hk
  intro d
  induction d with
  | zero =>
    intro i n hi hn
    obtain ⟨n, rfl⟩ : ∃ m, n = m + 1 := ⟨n - 1, by omega⟩
    obtain rfl : i = sLen k := by omega
    have ka := kc_is k hk (sLen k - 1) (by omega) (by omega)
    have kl := ln_last k hk
    have e1 : Int32.ofNat (sLen k) = nI (sLen k) := rfl
    rw [f3_firstFault_L31_s]
    unfold f3_firstFault_B31 sc
    rw [if_pos (by omega), e1, if_pos (Int32.le_refl _), if_pos (by omega), k_1, nI_subU (by omega), if_pos ⟨by omega, by rw [inB_nI (by omega) (by omega)]; trivial⟩, tn_nI (by omega), ka.1, if_neg (show ¬ (true = false) by decide)]
    by_cases z : k = 1
    · have es : sLen k = 6 := by rw [z]; rfl
      rw [if_pos (by rw [kl.mpr z]; rfl), nI_subU (by omega), f3_has2_g hP (by omega), bsm, es]
      dsimp only
      rw [show a + 6 - 1 = a + 5 by omega, show a + 5 + 1 = a + 6 by omega]
      by_cases y : tx m P (a + 5) ≠ 48 ∧ rg 48 57 (tx m P (a + 6)) = true
      · rw [decide_eq_true y, bT, if_pos ⟨z, y⟩, nI_add]
      · rw [decide_eq_false y, bF, if_neg (fun w => y w.2)]
    · rw [if_neg (show ¬ nI (kc k (sLen k - 1)) = 78 from fun w => z (kl.mp ((nI_eqU (a := kc k (sLen k - 1)) (b := 78) (by omega) (by omega)).mp w))), if_neg (fun w => z w.1)]
  | succ d ih =>
    intro i n hi hn
    obtain ⟨n, rfl⟩ : ∃ m, n = m + 1 := ⟨n - 1, by omega⟩
    have ka := kc_is k hk i (by omega) (by omega)
    have e1 : Int32.ofNat (sLen k) = nI (sLen k) := rfl
    have bt := tx_lt hP.2.1 (a + i)
    rw [f3_firstFault_L31_s]
    unfold f3_firstFault_B31
    have es : sc (ofit m P a k) i (d + 1) = if ofit m P a k i = true then sc (ofit m P a k) (i + 1) d else (i, false) := rfl
    rw [es, if_pos (by omega), e1, if_neg (by rw [nI_leU (by omega) (by omega)]; omega), if_pos ⟨by omega, by rw [inB_nI (by omega) (by omega)]; trivial⟩, f4_sign_g hP (by omega), bsm]
    dsimp only
    rw [tn_nI (by omega), ka.1, f3_fits_g ka.2 bt, bsm]
    dsimp only
    have eo : ftn (kc k i) (tx m P (a + i)) = ofit m P a k i := rfl
    rw [eo]
    cases ofit m P a k i
    · rw [bF, if_neg (show ¬ (false = true) by decide), if_pos rfl]
    · rw [bT, if_pos (show true = true from rfl), k_1, nI_add, nI_add, Nat.add_assoc, ih (i + 1) n (by omega) (by omega)]
theorem ordE_bd {a : Nat} (ho : (ordE m P a).2 = true) : a + 1 ≤ (ordE m P a).1 ∧ (ordE m P a).1 ≤ a + 11 := by
  have hk := shp_le (tx m P a)
  unfold ordE at ho ⊢
  by_cases z : shp (tx m P a) = 6
  · rw [if_pos z] at ho; exact absurd (show false = true from ho) (by decide)
  · rw [if_neg z] at ho ⊢
    have hl := ln_le (shp (tx m P a)) (by omega)
    have hp := ln_pos (shp (tx m P a)) (by omega)
    by_cases y : (sc (ofit m P a (shp (tx m P a))) 0 (sLen (shp (tx m P a)))).2 = false
    · rw [if_pos y] at ho; exact absurd (show false = true from ho) (by decide)
    · rw [if_neg y] at ho ⊢
      split
      · exact ⟨by show a + 1 ≤ a + 7; omega, by show a + 7 ≤ a + 11; omega⟩
      · exact ⟨by show a + 1 ≤ a + sLen _; omega, by show a + sLen _ ≤ a + 11; omega⟩
theorem fault_l (hP : PT h m P) : ∀ (d a o n : Nat), o + d = 80 → d < n → a ≤ m → f3_firstFault_L4 n (nI a) (nI o) h = some (fI (fE m P d a), h) := by
  have hm := hP.1
  intro d
  induction d with
  | zero =>
    intro a o n ho hn ha
    obtain ⟨n, rfl⟩ : ∃ m, n = m + 1 := ⟨n - 1, by omega⟩
    rw [f3_firstFault_L4_s]
    unfold f3_firstFault_B4
    rw [if_pos (by rw [k_80, nI_leU (by omega) (by omega)]; omega)]
    rfl
  | succ d ih =>
    intro a o n ho hn ha
    obtain ⟨n, rfl⟩ : ∃ m, n = m + 1 := ⟨n - 1, by omega⟩
    have bt := tx_lt hP.2.1 a
    have hk := shp_le (tx m P a)
    have es : fE m P (d + 1) a = if (ordE m P a).2 = false then some (ordE m P a).1 else if (ordE m P a).1 = m then none else if tx m P (ordE m P a).1 ≠ 59 then some (ordE m P a).1 else fE m P d ((ordE m P a).1 + 1) := rfl
    have jj : ∀ e, e ≤ 100 → (ordE m P a) = (e, true) → f3_firstFault_j96 (f3_firstFault_L4 n) (nI e) (nI o) h = some (fI (fE m P (d + 1) a), h) := by
      intro e he eq
      have be := tx_lt hP.2.1 e
      unfold f3_firstFault_j96 f4_length f4_length_e
      rw [es, eq, bsm, hP.2.2.1, if_neg (show ¬ (true = false) by decide)]
      dsimp only
      by_cases z : e = m
      · rw [if_pos (by rw [z]), if_pos z]; rfl
      · rw [if_neg (by rw [nI_eqU (by omega) (by omega)]; exact z), if_neg z, f4_sign_g hP (by omega), bsm]
        dsimp only
        by_cases y : tx m P e = 59
        · have hem : e < m := by
            by_cases w : e < m
            · exact w
            · unfold tx at y; rw [if_neg w] at y; omega
          rw [if_pos (by rw [y, k_59]), if_neg (fun w => w y), k_1, nI_add, nI_add, ih (e + 1) (o + 1) n (by omega) (by omega) (by omega)]
        · rw [if_neg (by rw [k_59, nI_eqU (by omega) (by omega)]; exact y), if_pos y]; rfl
    rw [f3_firstFault_L4_s]
    unfold f3_firstFault_B4
    rw [if_neg (by rw [k_80, nI_leU (by omega) (by omega)]; omega), f4_sign_g hP (by omega), bsm]
    dsimp only
    rw [f3_shape_g bt, if_pos (by omega), ln_em _ (by omega)]
    by_cases z : shp (tx m P a) = 6
    · have eo : ordE m P a = (a, false) := by unfold ordE; rw [if_pos z]
      rw [if_pos z, if_neg (by decide), es, eo, if_pos rfl]; rfl
    · have sl := shape_l hP (a := a) (k := shp (tx m P a)) (by omega) (by omega) (nI o) (f3_firstFault_L4 n) (sLen (shp (tx m P a))) 0 FU (by omega) (by have := ln_le (shp (tx m P a)) (by omega); unfold FU; omega)
      rw [Nat.add_zero, ← k_0] at sl
      rw [if_neg z, if_pos rfl, sl]
      by_cases y : (sc (ofit m P a (shp (tx m P a))) 0 (sLen (shp (tx m P a)))).2 = false
      · have eo : ordE m P a = (a + (sc (ofit m P a (shp (tx m P a))) 0 (sLen (shp (tx m P a)))).1, false) := by unfold ordE; rw [if_neg z, if_pos y]
        rw [if_pos y, es, eo, if_pos rfl]; rfl
      · rw [if_neg y]
        by_cases x : shp (tx m P a) = 1 ∧ tx m P (a + 5) ≠ 48 ∧ rg 48 57 (tx m P (a + 6)) = true
        · rw [if_pos x]
          exact jj (a + 7) (by omega) (by unfold ordE; rw [if_neg z, if_neg y, if_pos x])
        · rw [if_neg x]
          exact jj _ (by have := ln_le (shp (tx m P a)) (by omega); omega) (by unfold ordE; rw [if_neg z, if_neg y, if_neg x])
theorem f3_firstFault_g (hP : PT h m P) : f3_firstFault h = some (fI (fE m P 80 0), h) := by
  unfold f3_firstFault f3_firstFault_e
  have := fault_l hP 80 0 0 FU (by omega) (by unfold FU; omega) (by omega)
  rw [← k_0] at this
  exact this
end S30
