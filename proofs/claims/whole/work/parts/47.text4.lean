/-! texts: carried out -/
def obS (m : Nat) (P : Nat → Nat) (a : Nat) (g : GS) : Int32 × GS :=
  if tx m P a = 98 then breS g (dI m P (a + 1)) (nI (if tx m P (a + 2) = 45 then 1 else 0))
  else if tx m P a = 104 then takS g (dI m P (a + 1)) (dI m P (a + 2))
  else if tx m P a = 112 then pouS g (dI m P (a + 1)) (dI m P (a + 2)) (dI m P (a + 3)) (nmI m P (a + 5))
  else if tx m P a = 115 then scrS g (dI m P (a + 1)) (dI m P (a + 2)) (dI m P (a + 3))
  else if tx m P a = 116 then patS g (dI m P (a + 1)) (nI (sm (dgt m P (a + 3)) 0 8))
  else cloS g
def rn (m : Nat) (P : Nat → Nat) : Nat → Nat → GS → Nat → Nat × GS
  | 0, _, g, c => (c, g)
  | d + 1, a, g, c => if (obS m P a g).1 < 0 then (c, g) else if (ordE m P a).1 = m then (c + 1, (obS m P a g).2) else rn m P d ((ordE m P a).1 + 1) (obS m P a g).2 (c + 1)
def caoS (s : St) : Int32 × St := if fE s.m s.P 80 0 = none then (nI (rn s.m s.P 80 0 s.g 0).1, push (s.g, s.n, s.H, s.sv, s.S, 0, s.P) (rn s.m s.P 80 0 s.g 0).2) else (-3, s)
section S35
variable {m : Nat} {P : Nat → Nat} {a k : Nat} {g : GS} {h : Hp}
theorem I_ob (hI : IV g) : IV (obS m P a g).2 := by
  unfold obS
  split
  · exact I_breathe hI _ _
  · split
    · exact I_take hI _ _
    · split
      · exact I_pour hI _ _ _ _
      · split
        · exact I_scrape hI _ _ _
        · split
          · exact I_pattern hI _ _
          · exact I_close hI
theorem neg_ob (hI : IV g) : (obS m P a g).1 < 0 → (obS m P a g).2 = g := by
  unfold obS
  split
  · exact neg_breathe hI _ _
  · split
    · exact neg_take hI _ _
    · split
      · exact neg_pour _ _ _ _
      · split
        · exact neg_scrape hI _ _ _
        · split
          · exact neg_pattern _ _
          · exact neg_close hI
theorem I_rn : ∀ (d a : Nat) (g : GS) (c : Nat), IV g → IV (rn m P d a g c).2 := by
  intro d
  induction d with
  | zero => exact fun _ _ _ h => h
  | succ d ih =>
    intro a g c hI
    unfold rn
    split
    · exact hI
    · split
      · exact I_ob hI
      · exact ih _ _ _ (I_ob hI)
theorem rn_le : ∀ (d a : Nat) (g : GS) (c : Nat), (rn m P d a g c).1 ≤ c + d := by
  intro d
  induction d with
  | zero => exact fun _ _ _ => Nat.le_refl _
  | succ d ih =>
    intro a g c
    unfold rn
    split
    · show c ≤ c + (d + 1); omega
    · split
      · show c + 1 ≤ c + (d + 1); omega
      · have := ih ((ordE m P a).1 + 1) (obS m P a g).2 (c + 1); omega
/-! the class -/
theorem f3_digit_g (hP : PT h m P) {i : Nat} (hi : i < 1000) : f3_digit (nI i) h = some (dI m P i, h) := by
  unfold f3_digit f3_digit_e dI
  rw [f4_sign_g hP hi, bsm]
theorem num_eq (x y : Int32) : x * 10 + (y - 48) = 10 * x + y - 48 := by
  rw [Int32.mul_comm, Int32.sub_eq_add_neg, Int32.sub_eq_add_neg, Int32.add_assoc]
theorem f3_numberAt_g (hP : PT h m P) {i : Nat} (hi : i < 800) : f3_numberAt (nI i) h = some (nmI m P i, h) := by
  unfold f3_numberAt f3_numberAt_e nmI
  rw [f3_digit_g hP (by omega), bsm]
  dsimp only
  rw [f3_has2_g hP (by omega), bsm]
  dsimp only
  by_cases z : tx m P i ≠ 48 ∧ rg 48 57 (tx m P (i + 1)) = true
  · rw [decide_eq_true z, bT, if_pos z, k_1, nI_add, f3_digit_g hP (by omega), bsm]
    dsimp only
    have e : dI m P i * 10 + dI m P (i + 1) = 10 * dI m P i + nI (tx m P (i + 1)) - 48 := num_eq _ _
    rw [e]
  · rw [decide_eq_false z, bF, if_neg z]
def crF (d : Nat → Nat) : Nat → Nat → Nat
  | _, 0 => 0
  | p, n + 1 => d p + 8 * crF d (p + 1) n
theorem crF_sm (d : Nat → Nat) : ∀ (n p : Nat), sm (fun i => d i * 8 ^ i) p n = 8 ^ p * crF d p n := by
  intro n
  induction n with
  | zero => intro p; exact (Nat.mul_zero _).symm
  | succ n ih =>
    intro p
    show d p * 8 ^ p + sm (fun i => d i * 8 ^ i) (p + 1) n = 8 ^ p * (d p + 8 * crF d (p + 1) n)
    rw [ih, Nat.pow_succ, Nat.mul_add, Nat.mul_comm (d p), Nat.mul_assoc]
theorem crF_le {d : Nat → Nat} (hd : ∀ i, d i ≤ 7) : ∀ (n p : Nat), crF d p n < 8 ^ n := by
  intro n
  induction n with
  | zero => intro p; exact Nat.one_pos
  | succ n ih =>
    intro p
    have a := ih (p + 1)
    have b := hd p
    show d p + 8 * crF d (p + 1) n < 8 ^ (n + 1)
    rw [Nat.pow_succ]
    omega
theorem shl_or {x d : Nat} (hx : x < 16777216) (hd : d ≤ 7) : (nI x <<< (3 &&& 31)) ||| nI d = nI (d + 8 * x) := by
  have e1 : nI x <<< (3 &&& 31) = nI (x * 8) := by
    rw [pk_shlN _ 3 (by decide +kernel) (by omega)]
  rw [e1]
  apply Int32.toBitVec_inj.mp
  apply BitVec.eq_of_toNat_eq
  show ((nI (x * 8)).toBitVec ||| (nI d).toBitVec).toNat = _
  rw [BitVec.toNat_or, pk_tn (by omega), pk_tn (by omega), pk_tn (by omega)]
  have := Nat.shiftLeft_add_eq_or_of_lt (i := 3) (b := d) (by omega) x
  rw [Nat.shiftLeft_eq] at this
  rw [show x * 8 = x * 2 ^ 3 by omega, ← this]
  omega
theorem row_l (hP : PT h m P) {b : Nat} (hb : b < 500) (hd : ∀ i, i < 8 → 48 ≤ tx m P (b + i) ∧ tx m P (b + i) ≤ 54) : ∀ (p n : Nat), p ≤ 8 → p < n → f3_colourRow_L5 n (nI b) (nI (crF (fun i => if i < 8 then tx m P (b + i) - 48 else 0) p (8 - p))) (nI p + (-1)) h = some (nI (crF (fun i => if i < 8 then tx m P (b + i) - 48 else 0) 0 8), h) := by
  have hd7 : ∀ i, (fun i => if i < 8 then tx m P (b + i) - 48 else 0) i ≤ 7 := by
    intro i
    show (if i < 8 then tx m P (b + i) - 48 else 0) ≤ 7
    by_cases z : i < 8
    · rw [if_pos z]; have := hd i z; omega
    · rw [if_neg z]; omega
  intro p
  induction p with
  | zero =>
    intro n hp hn
    obtain ⟨n, rfl⟩ : ∃ m, n = m + 1 := ⟨n - 1, by omega⟩
    rw [f3_colourRow_L5_s]
    unfold f3_colourRow_B5
    rw [if_pos (by decide +kernel)]
  | succ p ih =>
    intro n hp hn
    obtain ⟨n, rfl⟩ : ∃ m, n = m + 1 := ⟨n - 1, by omega⟩
    have hx := crF_le hd7 (8 - (p + 1)) (p + 1)
    have hpow : 8 ^ (8 - (p + 1)) ≤ 8 ^ 7 := Nat.pow_le_pow_right (by omega) (by omega)
    have hdp := hd p (by omega)
    have edI : dI m P (b + p) = nI (tx m P (b + p) - 48) := by unfold dI; rw [k_48, nI_subU (by omega)]
    have ec : crF (fun i => if i < 8 then tx m P (b + i) - 48 else 0) p (8 - p) = (tx m P (b + p) - 48) + 8 * crF (fun i => if i < 8 then tx m P (b + i) - 48 else 0) (p + 1) (8 - (p + 1)) := by
      have e8 : 8 - p = (8 - (p + 1)) + 1 := by omega
      rw [e8]
      show (if p < 8 then tx m P (b + p) - 48 else 0) + 8 * crF _ (p + 1) (8 - (p + 1)) = _
      rw [if_pos (by omega)]
    rw [f3_colourRow_L5_s, nI_prd]
    unfold f3_colourRow_B5
    rw [if_neg (nI_pos (by omega)), nI_add, f3_digit_g hP (by omega), bsm, edI]
    dsimp only
    rw [shl_or (by omega) (by omega), ← ec, ih n (by omega) (by omega)]
theorem f3_colourRow_g (hP : PT h m P) {b : Nat} (hb : b < 500) (hd : ∀ i, i < 8 → 48 ≤ tx m P (b + i) ∧ tx m P (b + i) ≤ 54) : f3_colourRow (nI b) h = some (nI (sm (dgt m P b) 0 8), h) := by
  have e : sm (dgt m P b) 0 8 = crF (fun i => if i < 8 then tx m P (b + i) - 48 else 0) 0 8 := by
    have := crF_sm (fun i => if i < 8 then tx m P (b + i) - 48 else 0) 8 0
    rw [Nat.pow_zero, Nat.one_mul] at this
    rw [← this]
    refine sm_cg 8 0 (fun i _ hi => ?_)
    show (tx m P (b + i) - 48) * 8 ^ i = (if i < 8 then tx m P (b + i) - 48 else 0) * 8 ^ i
    rw [if_pos (by omega)]
  have := row_l hP hb hd 8 FU (by omega) (by unfold FU; omega)
  unfold f3_colourRow f3_colourRow_e
  rw [e]
  have e7 : nI 8 + (-1) = (7 : Int32) := by decide +kernel
  rw [e7, show 8 - 8 = 0 from rfl] at this
  rw [k_0]
  exact this
theorem sc_all (f : Nat → Bool) : ∀ (d i : Nat), (sc f i d).2 = true → ∀ j, i ≤ j → j < i + d → f j = true := by
  intro d
  induction d with
  | zero => intro i _ j h1 h2; omega
  | succ d ih =>
    intro i w j h1 h2
    unfold sc at w
    by_cases z : f i = true
    · rw [if_pos z] at w
      by_cases y : j = i
      · rw [y]; exact z
      · exact ih (i + 1) w j (by omega) (by omega)
    · rw [if_neg z] at w; exact absurd (show false = true from w) (by decide)
theorem f3_obey_g (hP : PT h m P) (hC : CR h 1 g) (hI : IV g) (ha : a ≤ 200) (ho : (ordE m P a).2 = true) : ∃ h', f3_obey (nI a) h = some ((obS m P a g).1, h') ∧ CR h' 1 (obS m P a g).2 ∧ (∀ b, b ≠ 2 → b ≠ 5 → b ≠ 6 → b ≠ 7 → h' b = h b) := by
  have bt := tx_lt hP.2.1 a
  have bt2 := tx_lt hP.2.1 (a + 2)
  have q : ∀ c : Nat, c < 256 → (nI (tx m P a) = nI c ↔ tx m P a = c) := fun c hc => nI_eqU (by omega) (by omega)
  unfold f3_obey f3_obey_e obS
  have e1 : nI a + 1 = nI (a + 1) := by rw [k_1, nI_add]
  have e2 : nI a + 2 = nI (a + 2) := by rw [k_2, nI_add]
  have e3 : nI a + 3 = nI (a + 3) := by rw [k_3, nI_add]
  have e5 : nI a + 5 = nI (a + 5) := by rw [k_5, nI_add]
  rw [e1, e2, e3, e5, f3_digit_g hP (by omega), bsm, f3_digit_g hP (by omega), bsm, f3_digit_g hP (by omega), bsm, f4_sign_g hP (by omega), bsm, k_98, k_104, k_112, k_115, k_116]
  dsimp only
  by_cases z1 : tx m P a = 98
  · have key : ∀ b : Bool, (b = decide (tx m P (a + 2) = 45)) → ∃ h', f3_obey_j157 (bI b) (dI m P (a + 1)) h = some ((breS g (dI m P (a + 1)) (nI (if tx m P (a + 2) = 45 then 1 else 0))).1, h') ∧ CR h' 1 (breS g (dI m P (a + 1)) (nI (if tx m P (a + 2) = 45 then 1 else 0))).2 ∧ (∀ b, b ≠ 2 → b ≠ 5 → b ≠ 6 → b ≠ 7 → h' b = h b) := by
      intro b hb
      have eb : bI b = nI (if tx m P (a + 2) = 45 then 1 else 0) := by
        rw [hb]
        by_cases y : tx m P (a + 2) = 45
        · rw [decide_eq_true y, if_pos y]; rfl
        · rw [decide_eq_false y, if_neg y]; rfl
      unfold f3_obey_j157
      rw [f7_bit_b, bsm, eb]
      dsimp only
      obtain ⟨h', w1, w2, w3⟩ := C_breathe hC hI (dI m P (a + 1)) (nI (if tx m P (a + 2) = 45 then 1 else 0))
      rw [w1, bsm]
      exact ⟨h', rfl, w2, fun b y1 y2 y3 y4 => w3 b y1 y2 y3 y4⟩
    rw [if_pos (by rw [z1]), if_pos z1, f4_sign_g hP (by omega), bsm]
    dsimp only
    by_cases y : tx m P (a + 2) = 45
    · rw [if_pos (show nI (tx m P (a + 2)) = 45 by rw [y, k_45])]
      exact key true (decide_eq_true y).symm
    · rw [if_neg (show ¬ nI (tx m P (a + 2)) = 45 by rw [k_45, nI_eqU (by omega) (by omega)]; exact y)]
      exact key false (decide_eq_false y).symm
  · rw [if_neg (fun w => z1 ((q 98 (by omega)).mp w)), if_neg z1]
    by_cases z2 : tx m P a = 104
    · rw [if_pos (by rw [z2]), if_pos z2]
      obtain ⟨h', w1, w2, w3⟩ := C_take hC hI (dI m P (a + 1)) (dI m P (a + 2))
      rw [w1, bsm]
      exact ⟨h', rfl, w2, fr5 w3⟩
    · rw [if_neg (fun w => z2 ((q 104 (by omega)).mp w)), if_neg z2]
      by_cases z3 : tx m P a = 112
      · rw [if_pos (by rw [z3]), if_pos z3, f3_numberAt_g hP (by omega), bsm]
        dsimp only
        obtain ⟨h', w1, w2, w3⟩ := C_pour hC hI (dI m P (a + 1)) (dI m P (a + 2)) (dI m P (a + 3)) (nmI m P (a + 5))
        rw [w1, bsm]
        exact ⟨h', rfl, w2, fr5 w3⟩
      · rw [if_neg (fun w => z3 ((q 112 (by omega)).mp w)), if_neg z3]
        by_cases z4 : tx m P a = 115
        · rw [if_pos (by rw [z4]), if_pos z4]
          obtain ⟨h', w1, w2, w3⟩ := C_scrape hC hI (dI m P (a + 1)) (dI m P (a + 2)) (dI m P (a + 3))
          rw [w1, bsm]
          exact ⟨h', rfl, w2, fr5 w3⟩
        · rw [if_neg (fun w => z4 ((q 115 (by omega)).mp w)), if_neg z4]
          by_cases z5 : tx m P a = 116
          · have eo := ordE_t z5
            have hsc : (sc (ofit m P a 3) 3 8).2 = true := by
              rw [eo] at ho
              cases w1 : rg 48 57 (tx m P (a + 1))
              · rw [w1, if_neg (by decide)] at ho; exact absurd (show false = true from ho) (by decide)
              · rw [w1, if_pos rfl] at ho
                by_cases w2 : tx m P (a + 2) = 61
                · rw [if_pos w2] at ho
                  cases w3 : (sc (ofit m P a 3) 3 8).2
                  · rw [w3, if_neg (by decide)] at ho; exact absurd (show false = true from ho) (by decide)
                  · rfl
                · rw [if_neg w2] at ho; exact absurd (show false = true from ho) (by decide)
            have hd : ∀ i, i < 8 → 48 ≤ tx m P (a + 3 + i) ∧ tx m P (a + 3 + i) ≤ 54 := by
              intro i hi
              have := sc_all _ 8 3 hsc (3 + i) (by omega) (by omega)
              rw [of3 (by omega) (by omega), ← Nat.add_assoc] at this
              exact of_decide_eq_true this
            rw [if_pos (by rw [z5]), if_pos z5, f3_colourRow_g hP (by omega) hd, bsm]
            dsimp only
            obtain ⟨h', w1, w2, w3⟩ := C_pattern hC hI (dI m P (a + 1)) (nI (sm (dgt m P (a + 3)) 0 8))
            rw [w1, bsm]
            exact ⟨h', rfl, w2, fr5 w3⟩
          · rw [if_neg (fun w => z5 ((q 116 (by omega)).mp w)), if_neg z5]
            obtain ⟨h', w1, w2, w3⟩ := C_close hC hI
            rw [w1, bsm]
            exact ⟨h', rfl, w2, fr5 w3⟩
/-! the model -/
theorem f8_does_g (hM : MR (h 13) g) (hI : IV g) (hR : RO (h 20) m P k a) (hb : ∀ i, i < m → P i < 256) (hk : k ≤ 40) : ∃ h', f8_does (nI k) h = some ((obS m P a g).1, h') ∧ MR (h' 13) (obS m P a g).2 ∧ FM h h' := by
  have bt := tx_lt (m := m) (P := P) hb a
  obtain ⟨r0, rh, rp, rs, rt_, rb⟩ := hR
  have q : ∀ c : Nat, c < 256 → (h 20 (Int32.toNatClampNeg (nI (5 * k))) = nI c ↔ tx m P a = c) := fun c hc => by rw [tn_nI (by omega), r0]; exact nI_eqU (by omega) (by omega)
  have E0 : (5 : Int32) * nI k = nI (5 * k) := by rw [k_5, pk_mul]
  have E1 : nI (5 * k) + 1 = nI (5 * k + 1) := by rw [k_1, nI_add]
  have E2 : nI (5 * k) + 2 = nI (5 * k + 2) := by rw [k_2, nI_add]
  have E3 : nI (5 * k) + 3 = nI (5 * k + 3) := by rw [k_3, nI_add]
  have E4 : nI (5 * k) + 4 = nI (5 * k + 4) := by rw [k_4, nI_add]
  unfold f8_does f8_does_e obS
  rw [E0, E1, E2, E3, E4, gd _ (by omega) (by omega), k_98, k_104, k_112, k_115, k_116]
  by_cases z1 : tx m P a = 98
  · have r := rb z1
    rw [if_pos ((q 98 (by omega)).mpr z1), if_pos z1, gd _ (by omega) (by omega), gd _ (by omega) (by omega), tn_nI (by omega), tn_nI (by omega), r.1, r.2]
    obtain ⟨h', w1, w2, w3⟩ := M_breathe hM hI (dI m P (a + 1)) (nI (if tx m P (a + 2) = 45 then 1 else 0))
    rw [w1, bsm]
    exact ⟨h', rfl, w2, w3⟩
  · rw [if_neg (fun w => z1 ((q 98 (by omega)).mp w)), if_neg z1]
    by_cases z2 : tx m P a = 104
    · have r := rh z2
      rw [if_pos ((q 104 (by omega)).mpr z2), if_pos z2, gd _ (by omega) (by omega), gd _ (by omega) (by omega), tn_nI (by omega), tn_nI (by omega), r.1, r.2]
      obtain ⟨h', w1, w2, w3⟩ := M_take hM hI (dI m P (a + 1)) (dI m P (a + 2))
      rw [w1, bsm]
      exact ⟨h', rfl, w2, frM w3⟩
    · rw [if_neg (fun w => z2 ((q 104 (by omega)).mp w)), if_neg z2]
      by_cases z3 : tx m P a = 112
      · have r := rp z3
        rw [if_pos ((q 112 (by omega)).mpr z3), if_pos z3, gd _ (by omega) (by omega), gd _ (by omega) (by omega), gd _ (by omega) (by omega), gd _ (by omega) (by omega), tn_nI (by omega), tn_nI (by omega), tn_nI (by omega), tn_nI (by omega), r.1, r.2.1, r.2.2.1, r.2.2.2]
        obtain ⟨h', w1, w2, w3⟩ := M_pour hM hI (dI m P (a + 1)) (dI m P (a + 2)) (dI m P (a + 3)) (nmI m P (a + 5))
        rw [w1, bsm]
        exact ⟨h', rfl, w2, frM w3⟩
      · rw [if_neg (fun w => z3 ((q 112 (by omega)).mp w)), if_neg z3]
        by_cases z4 : tx m P a = 115
        · have r := rs z4
          rw [if_pos ((q 115 (by omega)).mpr z4), if_pos z4, gd _ (by omega) (by omega), gd _ (by omega) (by omega), gd _ (by omega) (by omega), tn_nI (by omega), tn_nI (by omega), tn_nI (by omega), r.1, r.2.1, r.2.2]
          obtain ⟨h', w1, w2, w3⟩ := M_scrape hM hI (dI m P (a + 1)) (dI m P (a + 2)) (dI m P (a + 3))
          rw [w1, bsm]
          exact ⟨h', rfl, w2, frM w3⟩
        · rw [if_neg (fun w => z4 ((q 115 (by omega)).mp w)), if_neg z4]
          by_cases z5 : tx m P a = 116
          · have r := rt_ z5
            rw [if_pos ((q 116 (by omega)).mpr z5), if_pos z5, gd _ (by omega) (by omega), gd _ (by omega) (by omega), tn_nI (by omega), tn_nI (by omega), r.1, r.2]
            obtain ⟨h', w1, w2, w3⟩ := M_pattern hM hI (dI m P (a + 1)) (nI (sm (dgt m P (a + 3)) 0 8))
            rw [w1, bsm]
            exact ⟨h', rfl, w2, frM w3⟩
          · rw [if_neg (fun w => z5 ((q 116 (by omega)).mp w)), if_neg z5]
            obtain ⟨h', w1, w2, w3⟩ := M_close hM hI
            rw [w1, bsm]
            exact ⟨h', rfl, w2, frM w3⟩
end S35
