/-! ifBreathed -/
def T2 (a b : Bool) : Nat := T1 b a
theorem T2_s (a : Bool) : T2 a a = 0 := by cases a <;> rfl
def mk8 (b0 b1 b2 b3 b4 b5 b6 b7 : Bool) : Int32 :=
  let s (i : Nat) (b : Bool) (a : Int32) : Int32 := if b = true then a ||| (1 <<< (nI i &&& 31)) else a
  s 7 b7 (s 6 b6 (s 5 b5 (s 4 b4 (s 3 b3 (s 2 b2 (s 1 b1 (s 0 b0 0)))))))
theorem mk8_bit : ∀ b0 b1 b2 b3 b4 b5 b6 b7 : Bool, ∀ p, p < 8 → ((mk8 b0 b1 b2 b3 b4 b5 b6 b7 >>> (nI p &&& 31)) &&& 1) = bI (if p = 0 then b0 else if p = 1 then b1 else if p = 2 then b2 else if p = 3 then b3 else if p = 4 then b4 else if p = 5 then b5 else if p = 6 then b6 else b7) := by decide +kernel
theorem bts_bit (f : Nat → Bool) {p : Nat} (hp : p < 8) : ((bts f 0 8 0 >>> (nI p &&& 31)) &&& 1) = bI (f p) := by
  have e : bts f 0 8 0 = mk8 (f 0) (f 1) (f 2) (f 3) (f 4) (f 5) (f 6) (f 7) := rfl
  rw [e, mk8_bit _ _ _ _ _ _ _ _ p hp]
  congr 1
  by_cases z0 : p = 0
  · rw [if_pos z0, z0]
  · rw [if_neg z0]
    by_cases z1 : p = 1
    · rw [if_pos z1, z1]
    · rw [if_neg z1]
      by_cases z2 : p = 2
      · rw [if_pos z2, z2]
      · rw [if_neg z2]
        by_cases z3 : p = 3
        · rw [if_pos z3, z3]
        · rw [if_neg z3]
          by_cases z4 : p = 4
          · rw [if_pos z4, z4]
          · rw [if_neg z4]
            by_cases z5 : p = 5
            · rw [if_pos z5, z5]
            · rw [if_neg z5]
              by_cases z6 : p = 6
              · rw [if_pos z6, z6]
              · rw [if_neg z6, show p = 7 by omega]
section S24
variable {h hc hm : Hp} {s : St} {g : GS}
theorem C_trial (hC : CR h 1 g) : ∃ h', f5_copyFrom 3 1 h = some (0, h') ∧ CR h' 3 g ∧ FB h h' 3 := by
  refine ⟨hf h 4 (va_cpy (h 2) (h 4) 0 0 344), ?_, ?_, fun b a1 a2 a3 a4 => hf_n _ _ _ a1⟩
  · unfold f5_copyFrom f5_copyFrom_e
    have e : cpB 0 0 344 344 344 = true := by
      rw [k_0, k_344]
      exact cpB_t (by omega) (by omega) (by omega) (by omega)
    have e344 : Int32.toNatClampNeg 344 = 344 := by decide +kernel
    rw [if_pos e, bsm, tn_0, e344]
  · intro c hc
    show hf h 4 (va_cpy (h 2) (h 4) 0 0 344) 4 c = _
    rw [hf_s, va_out0 hc, Nat.zero_add]
    exact hC c hc
theorem RC_FB {h' : Hp} (hR : RC h s) (hF : FB h h' 3) : RC h' s := by
  have e2 : h' 2 = h 2 := hF 2 (by omega) (by omega) (by omega) (by omega)
  have e8 : h' 8 = h 8 := hF 8 (by omega) (by omega) (by omega) (by omega)
  have e9 : h' 9 = h 9 := hF 9 (by omega) (by omega) (by omega) (by omega)
  have e10 : h' 10 = h 10 := hF 10 (by omega) (by omega) (by omega) (by omega)
  have e11 : h' 11 = h 11 := hF 11 (by omega) (by omega) (by omega) (by omega)
  unfold RC CR HC rwC PC
  rw [show 1 + 1 = 2 from rfl, e2, e8, e9, e10, e11]
  exact hR
theorem ro_in {k k2 : Nat} {g1 g2 : GS} (h1 : CR h k g1) (h2 : CR h k2 g2) (i1 : IV g1) (i2 : IV g2) {q r : Nat} (hq : q < 4) (hr : r < 5) (k5 : Int32 → Int32 → Int32 → Hp → Re) : ∀ (d p n a : Nat), p + d = 8 → d < n → f6_rightOnlyInFirst_L14 k k2 k5 n (nI q) (nI a) (nI r) (nI p) h = k5 (nI q) (nI (a + sm (fun p => T1 (rt g1 q r p) (rt g2 q r p)) p d)) (nI (r + 1)) h := by
  intro d
  induction d with
  | zero =>
    intro p n a hp hn
    obtain ⟨n, rfl⟩ : ∃ m, n = m + 1 := ⟨n - 1, by omega⟩
    rw [f6_rightOnlyInFirst_L14_s]
    unfold f6_rightOnlyInFirst_B14
    rw [if_pos (by rw [k_8, nI_leU (by omega) (by omega)]; omega), k_1, nI_add]
    rfl
  | succ d ih =>
    intro p n a hp hn
    obtain ⟨n, rfl⟩ : ∃ m, n = m + 1 := ⟨n - 1, by omega⟩
    have es : ∀ f : Nat → Nat, sm f p (d + 1) = f p + sm f (p + 1) d := fun _ => rfl
    have e1 : nI p + 1 = nI (p + 1) := by rw [k_1, nI_add]
    rw [f6_rightOnlyInFirst_L14_s]
    unfold f6_rightOnlyInFirst_B14
    rw [es, if_neg (by rw [k_8, nI_leU (by omega) (by omega)]; omega), f5_isRight_g h1 i1 hq hr (by omega), bsm, f5_isRight_g h2 i2 hq hr (by omega), bsm, e1, ← Nat.add_assoc]
    dsimp only
    have nx := ih (p + 1) n
    cases rt g1 q r p
    · rw [bF, nx _ (by omega) (by omega)]; rfl
    · rw [bT]
      cases rt g2 q r p
      · rw [bF, k_1, nI_add, nx _ (by omega) (by omega)]; rfl
      · rw [bT, nx _ (by omega) (by omega)]; rfl
theorem ro_g {k k2 : Nat} {g1 g2 : GS} (h1 : CR h k g1) (h2 : CR h k2 g2) (i1 : IV g1) (i2 : IV g2) {q : Nat} (hq : q < 4) : f6_rightOnlyInFirst k k2 (nI q) h = some (nI (sm (fun r => sm (fun p => T1 (rt g1 q r p) (rt g2 q r p)) 0 8) 0 5), h) := by
  have loop : ∀ (d r n a : Nat), r + d = 5 → d < n → f6_rightOnlyInFirst_L5 k k2 n (nI q) (nI a) (nI r) h = some (nI (a + sm (fun r => sm (fun p => T1 (rt g1 q r p) (rt g2 q r p)) 0 8) r d), h) := by
    intro d
    induction d with
    | zero =>
      intro p n a hp hn
      obtain ⟨n, rfl⟩ : ∃ m, n = m + 1 := ⟨n - 1, by omega⟩
      rw [f6_rightOnlyInFirst_L5_s]
      unfold f6_rightOnlyInFirst_B5
      rw [if_pos (by rw [k_5, nI_leU (by omega) (by omega)]; omega)]
      rfl
    | succ d ih =>
      intro p n a hp hn
      obtain ⟨n, rfl⟩ : ∃ m, n = m + 1 := ⟨n - 1, by omega⟩
      have es : ∀ f : Nat → Nat, sm f p (d + 1) = f p + sm f (p + 1) d := fun _ => rfl
      rw [f6_rightOnlyInFirst_L5_s]
      unfold f6_rightOnlyInFirst_B5
      rw [es, if_neg (by rw [k_5, nI_leU (by omega) (by omega)]; omega), k_0, ro_in h1 h2 i1 i2 hq (by omega) _ 8 0 FU a (by omega) (by unfold FU; omega), ih (p + 1) n _ (by omega) (by omega), Nat.add_assoc]
  unfold f6_rightOnlyInFirst f6_rightOnlyInFirst_e
  rw [k_0, loop 5 0 FU 0 (by omega) (by unfold FU; omega), Nat.zero_add]
def ifB (g : GS) (q d i : Nat) : Int32 := if i = 0 then nI (brS g q d).2.1 else if i = 1 then nI (sm (fun r => sm (fun p => T1 (rt g q r p) (rt (brS g q d).1 q r p)) 0 8) 0 5) else nI (sm (fun r => sm (fun p => T2 (rt g q r p) (rt (brS g q d).1 q r p)) 0 8) 0 5)
theorem ifBreathed_bad3 (x3 : Int32) (e : inR x3 3 = false) (A : Re) (h : Hp) : (if x3 < 0 then some ((-2 : Int32), h) else if x3 ≤ 2 then A else some (-2, h)) = some (-2, h) := by
  have e2 := of_decide_eq_false e
  by_cases y : x3 < 0
  · rw [if_pos y]
  · rw [if_neg y, if_neg]
    intro w
    rw [k_0, lt_n _ (by omega)] at y
    rw [k_2, le_n _ (by omega)] at w
    omega
theorem C_ifB (hR : RC hc s) (hS : SI s) (x1 x2 x3 : Int32) : ∃ h', f7_ifBreathed x1 x2 x3 hc = some (if inR x1 4 = false then -1 else if inR x2 2 = false then -2 else if inR x3 3 = false then -2 else ifB s.g (tN x1) (tN x2) (tN x3), h') ∧ RC h' s ∧ CF hc h' := by
  unfold f7_ifBreathed f7_ifBreathed_e
  rw [f7_isQuarter_b, bsm]
  dsimp only
  cases e1 : inR x1 4
  · rw [bF, sF]; exact ⟨_, rfl, hR, CF.rf _⟩
  · rw [bT, sT, f7_isDirection_b, bsm]
    dsimp only
    obtain ⟨q, hq, rfl⟩ := inR_of e1 (by omega)
    cases e2 : inR x2 2
    · rw [bF, sF]; exact ⟨_, rfl, hR, CF.rf _⟩
    · rw [bT, sT]
      obtain ⟨d, hd, rfl⟩ := inR_of e2 (by omega)
      cases e3 : inR x3 3
      · rw [sF, ifBreathed_bad3 _ e3]; exact ⟨_, rfl, hR, CF.rf _⟩
      · rw [sT]
        obtain ⟨i, hi, rfl⟩ := inR_of e3 (by omega)
        rw [if_neg (nI_pos (by omega)), if_pos (by rw [k_2, nI_leU (by omega) (by omega)]; omega), tN_nI (by omega), tN_nI (by omega), tN_nI (by omega)]
        obtain ⟨h1, a1, a2, a3⟩ := C_trial hR.1
        rw [a1, bsm]
        dsimp only
        obtain ⟨h2, b1, b2, b3, b4⟩ := C_over (Or.inr rfl) hS.1 a2 hq hd
        rw [b1, bsm]
        dsimp only
        have F := a3.tr b4
        have R2 := RC_FB hR F
        have iB := IV_br hS.1 (d := d) hq
        rw [ro_g R2.1 b2 hS.1 iB hq, ro_g b2 R2.1 iB hS.1 hq, bsm, bsm]
        unfold ifB
        by_cases z0 : i = 0
        · rw [if_pos (by rw [z0, k_0]), if_pos z0]; exact ⟨_, rfl, R2, fun b hb => F b (by omega) (by omega) (by omega) (by omega)⟩
        · rw [if_neg (by rw [k_0, nI_eqU (by omega) (by omega)]; exact z0), if_neg z0]
          by_cases z1 : i = 1
          · rw [if_pos (by rw [z1, k_1]), if_pos z1]; exact ⟨_, rfl, R2, fun b hb => F b (by omega) (by omega) (by omega) (by omega)⟩
          · rw [if_neg (by rw [k_1, nI_eqU (by omega) (by omega)]; exact z1), if_neg z1]; exact ⟨_, rfl, R2, fun b hb => F b (by omega) (by omega) (by omega) (by omega)⟩
/-! the model -/
end S24
