/-! texts: the fault of the model -/
def RS (f : Nat → Int32) (m : Nat) (P : Nat → Nat) (N : Nat) : Nat → Nat → Nat → Prop
  | 0, _, _ => True
  | d + 1, a, k => RO f m P k a ∧ (if (ordE m P a).1 = m then N = k + 1 else RS f m P N d ((ordE m P a).1 + 1) (k + 1))
def fM (o : Option Nat) : Int32 := match o with
  | none => -1
  | some a => nI a
theorem RO_keep {f f' : Nat → Int32} {m : Nat} {P : Nat → Nat} {k a : Nat} (e : ∀ j, j < 5 * (k + 1) → f' j = f j) (h : RO f m P k a) : RO f' m P k a := by
  unfold RO at h ⊢
  rw [e (5 * k) (by omega), e (5 * k + 1) (by omega), e (5 * k + 2) (by omega), e (5 * k + 3) (by omega), e (5 * k + 4) (by omega)]
  exact h
section S33
variable {h : Hp} {m : Nat} {P : Nat → Nat} {a k : Nat}
theorem l15_0 (n : Nat) (h : Hp) : f8_faultOf_L15 (n + 1) 0 h = some (h 12 12, h) := by
  rw [f8_faultOf_L15_s]
  unfold f8_faultOf_B15 f8_faultOf_j55
  rw [if_pos rfl, if_pos rfl]
theorem mfault_l : ∀ (d a k n : Nat) (h : Hp), PS h m P a k → 2 * k ≤ a → m + 2 ≤ a + 2 * d → d + 2 < n → ∃ h' N, ((f8_readsOrder h).bind fun c5 => f8_faultOf_L15 n c5.1 c5.2) = some (fM (fE m P d a), h') ∧ h' 12 11 = nI N ∧ N ≤ 41 ∧ (∀ j, j < 5 * k → h' 20 j = h 20 j) ∧ XF h h' ∧ (fE m P d a = none → RS (h' 20) m P N d a k) := by
  intro d
  induction d with
  | zero => intro a k n h hP h2 h3 hn; exact absurd hP.2.2.2.2.2.2.1 (by omega)
  | succ d ih =>
    intro a k n h hP h2 h3 hn
    obtain ⟨n, rfl⟩ : ∃ m, n = m + 1 := ⟨n - 1, by omega⟩
    have hm := hP.1
    have ham := hP.2.2.2.2.2.2.1
    have es : fE m P (d + 1) a = if (ordE m P a).2 = false then some (ordE m P a).1 else if (ordE m P a).1 = m then none else if tx m P (ordE m P a).1 ≠ 59 then some (ordE m P a).1 else fE m P d ((ordE m P a).1 + 1) := rfl
    obtain ⟨h1, b1, b2, b3, b4, b5⟩ := readsOrder_g hP (by omega)
    rw [b1, bsm]
    dsimp only
    cases eo : (ordE m P a).2
    · rw [eo, if_neg (by decide)] at b2
      rw [eo, if_pos rfl] at es
      refine ⟨h1, k, ?_, b2.2.2.2.2.2.1, b2.2.2.2.2.2.2.2, b3, b4, fun w => by rw [es] at w; exact absurd w (by simp)⟩
      rw [es, bI_f, l15_0, b2.2.2.2.2.1]
      rfl
    · rw [eo, if_pos rfl] at b2
      rw [eo, if_neg (by decide)] at es
      have hb := ordE_bd eo
      have r1 := b5 eo
      rw [bI_t, f8_faultOf_L15_s]
      unfold f8_faultOf_B15
      rw [if_neg ne10]
      by_cases z : (ordE m P a).1 = m
      · rw [if_pos z] at es
        unfold f8_faultOf_j55
        rw [if_pos (by rw [b2.2.2.1, b2.2.2.2.2.1, z]; exact Int32.le_refl _), if_neg ne10, es]
        refine ⟨h1, k + 1, rfl, b2.2.2.2.2.2.1, b2.2.2.2.2.2.2.2, b3, b4, fun _ => ⟨r1, ?_⟩⟩
        rw [if_pos z]
      · rw [if_neg z] at es
        have hle := b2.2.2.2.2.2.2.1
        rw [if_neg (by rw [b2.2.2.1, b2.2.2.2.2.1, nI_leU (by omega) (by omega)]; omega)]
        by_cases y : tx m P (ordE m P a).1 = 59
        · rw [if_neg (fun w => w y)] at es
          obtain ⟨h2, c1, c2, c3, c4⟩ := acc_t b2 k_59 (by omega) (by omega) y
          rw [c1, bsm, if_neg ne10]
          dsimp only
          obtain ⟨h3, N, d1, d2, d3, d4, d5, d6⟩ := ih ((ordE m P a).1 + 1) (k + 1) n h2 c2 (by omega) (by omega) (by omega)
          have eq : ((f8_readsOrder h2).bind fun c6 => if c6.1 = 0 then f8_faultOf_L15 n 0 c6.2 else f8_faultOf_L15 n 1 c6.2) = ((f8_readsOrder h2).bind fun c5 => f8_faultOf_L15 n c5.1 c5.2) := by
            obtain ⟨h4, q1, _⟩ := readsOrder_g c2 (by omega)
            rw [q1, bsm, bsm]
            dsimp only
            cases (ordE m P ((ordE m P a).1 + 1)).2
            · rfl
            · rfl
          rw [eq, d1, es]
          refine ⟨h3, N, rfl, d2, d3, fun j hj => by rw [d4 j (by omega), c3, b3 j hj], b4.tr (c4.tr d5), fun w => ⟨RO_keep (fun j hj => by rw [d4 j hj, c3]) r1, ?_⟩⟩
          rw [if_neg z]
          exact d6 w
        · rw [if_pos y] at es
          obtain ⟨n, rfl⟩ : ∃ m, n = m + 1 := ⟨n - 1, by omega⟩
          rw [acc_f b2 k_59 (by omega) (by omega) y, bsm, if_pos rfl]
          dsimp only
          rw [l15_0, b2.2.2.2.2.1, es]
          exact ⟨h1, k + 1, rfl, b2.2.2.2.2.2.1, b2.2.2.2.2.2.2.2, b3, b4, fun w => absurd w (by simp)⟩
theorem f8_faultOf_g (hm : m ≤ 80) (hb : ∀ i, i < m → P i < 256) (h9 : h 12 9 = nI m) (h21 : ∀ i, i < m → h 21 i = nI (P i)) : ∃ h' N, f8_faultOf h = some (fM (fE m P 80 0), h') ∧ h' 12 11 = nI N ∧ N ≤ 41 ∧ XF h h' ∧ (fE m P 80 0 = none → RS (h' 20) m P N 80 0 0) := by
  have P0 : PS (hu (hu h 12 12 0) 12 11 0) m P 0 0 := by
    refine ⟨hm, hb, ?_, fun i hi => ?_, ?_, ?_, Nat.zero_le _, by omega⟩
    · rw [hu_s]; unfold upd; rw [if_neg (by omega), hu_s]; unfold upd; rw [if_neg (by omega)]; exact h9
    · rw [hu_n _ _ _ _ (by omega), hu_n _ _ _ _ (by omega)]; exact h21 i hi
    · rw [hu_s]; unfold upd; rw [if_neg (by omega), hu_s]; unfold upd; rw [if_pos rfl, k_0]
    · rw [hu_s]; unfold upd; rw [if_pos rfl, k_0]
  have X0 : XF h (hu (hu h 12 12 0) 12 11 0) := by
    refine ⟨fun c x _ => by rw [hu_n _ _ _ _ x, hu_n _ _ _ _ x], fun j x y => ?_⟩
    rw [hu_s]; unfold upd; rw [if_neg x, hu_s]; unfold upd; rw [if_neg y]
  obtain ⟨h', N, a1, a2, a3, a4, a5, a6⟩ := mfault_l 80 0 0 FU _ P0 (by omega) (by omega) (by unfold FU; omega)
  unfold f8_faultOf f8_faultOf_e
  rw [bsm, bsm]
  exact ⟨h', N, a1, a2, a3, X0.tr a5, a6⟩
theorem fE_le : ∀ (d a : Nat), a ≤ m → (∀ e, fE m P d a = some e → e ≤ 100 + a + 12 * d) := by
  intro d
  induction d with
  | zero => intro a _ e w; unfold fE at w; have := Option.some.inj w; omega
  | succ d ih =>
    intro a ha e w
    have es : fE m P (d + 1) a = if (ordE m P a).2 = false then some (ordE m P a).1 else if (ordE m P a).1 = m then none else if tx m P (ordE m P a).1 ≠ 59 then some (ordE m P a).1 else fE m P d ((ordE m P a).1 + 1) := rfl
    rw [es] at w
    have ob : (ordE m P a).1 ≤ a + 11 := by
      cases eo : (ordE m P a).2
      · have hk := shp_le (tx m P a)
        unfold ordE at eo ⊢
        by_cases z : shp (tx m P a) = 6
        · rw [if_pos z]; show a ≤ a + 11; omega
        · rw [if_neg z] at eo ⊢
          have hl := ln_le (shp (tx m P a)) (by omega)
          by_cases y : (sc (ofit m P a (shp (tx m P a))) 0 (sLen (shp (tx m P a)))).2 = false
          · rw [if_pos y]
            have := sc_le (ofit m P a (shp (tx m P a))) (sLen (shp (tx m P a))) 0
            show a + (sc (ofit m P a (shp (tx m P a))) 0 (sLen (shp (tx m P a)))).1 ≤ a + 11
            omega
          · rw [if_neg y]
            split
            · show a + 7 ≤ a + 11; omega
            · show a + sLen _ ≤ a + 11; omega
      · exact (ordE_bd eo).2
    by_cases z1 : (ordE m P a).2 = false
    · rw [if_pos z1] at w; have := Option.some.inj w; omega
    · rw [if_neg z1] at w
      by_cases z2 : (ordE m P a).1 = m
      · rw [if_pos z2] at w; exact absurd w (by simp)
      · rw [if_neg z2] at w
        by_cases z3 : tx m P (ordE m P a).1 = 59
        · rw [if_neg (fun v => v z3)] at w
          have hlt : (ordE m P a).1 < m := tx_in (m := m) (P := P) (by omega)
          have := ih ((ordE m P a).1 + 1) (by omega) e w
          omega
        · rw [if_pos z3] at w; have := Option.some.inj w; omega
end S33
section S34
variable {h hc hm : Hp} {s : St}
theorem PT_of (hR : RC h s) (hS : SI s) : PT h s.m s.P := ⟨hS.2.2.2.2.1, hS.2.2.2.2.2, hR.2.2.1, hR.2.2.2⟩
def fltV (s : St) : Int32 := fI (fE s.m s.P 80 0)
theorem C_fault (hR : RC h s) (hS : SI s) : f7_fault h = some (fltV s, h) := by
  unfold f7_fault f7_fault_e
  rw [f3_firstFault_g (PT_of hR hS), bsm]
  rfl
theorem RM_XF {h' : Hp} (hR : RM h s) (x : XF h h') : RM h' s := by
  refine ⟨by rw [x.1 13 (by omega) (by omega)]; exact hR.1, ?_, ?_⟩
  · have := hR.2.1
    unfold HM rwM at this ⊢
    rw [x.1 16 (by omega) (by omega), x.1 17 (by omega) (by omega), x.1 18 (by omega) (by omega), x.2 10 (by omega) (by omega)]
    exact this
  · have := hR.2.2
    unfold PM at this ⊢
    rw [x.1 21 (by omega) (by omega), x.2 9 (by omega) (by omega)]
    exact this
theorem M_fault (hR : RM h s) (hS : SI s) : ∃ h', f8_fault h = some (fltV s, h') ∧ RM h' s ∧ MF h h' := by
  obtain ⟨h', N, a1, a2, a3, a4, a5⟩ := f8_faultOf_g (h := h) hS.2.2.2.2.1 hS.2.2.2.2.2 hR.2.2.1 hR.2.2.2
  have hle := fE_le (m := s.m) (P := s.P) 80 0 (Nat.zero_le _)
  unfold f8_fault f8_fault_e fltV
  rw [a1, bsm]
  dsimp only
  refine ⟨h', ?_, RM_XF hR a4, fun b hb => a4.1 b (by omega) (by omega)⟩
  generalize fE s.m s.P 80 0 = o at hle ⊢
  cases o with
  | none => exact if_neg (by decide)
  | some e =>
    have := hle e rfl
    exact if_pos (by show 0 ≤ nI e; rw [k_0, nI_leU (by omega) (by omega)]; omega)
end S34
