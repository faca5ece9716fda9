/-! an act: a pattern; every act -/
section S49
variable {h : Hp} {s : St} {g : GS}
theorem k_9 : (9 : Int32) = nI 9 := rfl
theorem k_10 : (10 : Int32) = nI 10 := rfl
theorem k_900 : (900 : Int32) = nI 900 := rfl
theorem shN {m : Nat} (hm : m < 2147483648) {a : Nat} (ha : a < 32) : nI m >>> (nI a &&& 31) = nI (m / 2 ^ a) := pk_shrN hm _ a (sh_l a ha)
theorem shl_d : ∀ k, k < 8 → ∀ d, d < 7 → nI d <<< (nI (3 * k) &&& 31) = nI (d * 8 ^ k) := by decide +kernel
def dgt (m j : Nat) : Nat := m / 2 ^ (9 + 2 * j) % 7
def pvs (m : Nat) : Nat → Nat
  | 0 => 0
  | k + 1 => pvs m k + dgt m k * 8 ^ k
theorem pvs8 (m : Nat) : pvs m 8 = 0 + dgt m 0 * 1 + dgt m 1 * 8 + dgt m 2 * 64 + dgt m 3 * 512 + dgt m 4 * 4096 + dgt m 5 * 32768 + dgt m 6 * 262144 + dgt m 7 * 2097152 := rfl
theorem dgt_lt (m j : Nat) : dgt m j < 7 := Nat.mod_lt _ (by decide)
theorem pvs_ok (m : Nat) : pvs m 8 < 16777216 ∧ ∀ p, p < 8 → pvs m 8 / 8 ^ p % 8 ≤ 6 := by
  have d0 := dgt_lt m 0
  have d1 := dgt_lt m 1
  have d2 := dgt_lt m 2
  have d3 := dgt_lt m 3
  have d4 := dgt_lt m 4
  have d5 := dgt_lt m 5
  have d6 := dgt_lt m 6
  have d7 := dgt_lt m 7
  rw [pvs8]
  generalize dgt m 0 = a0 at d0 ⊢
  generalize dgt m 1 = a1 at d1 ⊢
  generalize dgt m 2 = a2 at d2 ⊢
  generalize dgt m 3 = a3 at d3 ⊢
  generalize dgt m 4 = a4 at d4 ⊢
  generalize dgt m 5 = a5 at d5 ⊢
  generalize dgt m 6 = a6 at d6 ⊢
  generalize dgt m 7 = a7 at d7 ⊢
  refine ⟨by omega, fun p hp => ?_⟩
  rcases (show p = 0 ∨ p = 1 ∨ p = 2 ∨ p = 3 ∨ p = 4 ∨ p = 5 ∨ p = 6 ∨ p = 7 by omega) with rfl | rfl | rfl | rfl | rfl | rfl | rfl | rfl
  · rw [show (8 : Nat) ^ 0 = 1 by rfl]; omega
  · rw [show (8 : Nat) ^ 1 = 8 by rfl]; omega
  · rw [show (8 : Nat) ^ 2 = 64 by rfl]; omega
  · rw [show (8 : Nat) ^ 3 = 512 by rfl]; omega
  · rw [show (8 : Nat) ^ 4 = 4096 by rfl]; omega
  · rw [show (8 : Nat) ^ 5 = 32768 by rfl]; omega
  · rw [show (8 : Nat) ^ 6 = 262144 by rfl]; omega
  · rw [show (8 : Nat) ^ 7 = 2097152 by rfl]; omega
theorem pat_eq (g : GS) {r v : Nat} (hr : r < 5) (hv : v < 16777216) (hd : ∀ p, p < 8 → v / 8 ^ p % 8 ≤ 6) : patS g (nI r) (nI v) = if r < g 19 then (-5, g) else (bI (decide (g (3 + r) ≠ 4294967295)), gu g (3 + r) v) := by
  have ho : okP (nI v) = true := by
    unfold okP
    rw [inC_nI (Nat.zero_le _) (show v ≤ 16777215 by omega) (by omega), Bool.true_and, al_iff]
    intro j _ hj
    rw [tN_nI (by omega)]
    exact decide_eq_true (hd j (by omega))
  unfold patS
  rw [inR_nI hr (by omega), sT, ho, sT, tN_nI (by omega), tN_nI (by omega)]
theorem pat_loop {m : Nat} (hm : m < 2147483648) (x3 x8 x24 : Int32) : ∀ (d k n : Nat), k + d = 8 → d < n → fL_acts_L579 n (nI m) x3 x8 x24 (nI (pvs m k)) (nI k) h = fL_acts_B579 (fun _ _ _ _ _ _ _ => none) (nI m) x3 x8 x24 (nI (pvs m 8)) (nI 8) h := by
  intro d
  induction d with
  | zero =>
    intro k n hk hn
    obtain ⟨n, rfl⟩ : ∃ m, n = m + 1 := ⟨n - 1, by omega⟩
    rw [fL_acts_L579_s, show k = 8 by omega]
    unfold fL_acts_B579
    rw [if_pos (by decide +kernel), if_pos (by decide +kernel)]
  | succ d ih =>
    intro k n hk hn
    obtain ⟨n, rfl⟩ : ∃ m, n = m + 1 := ⟨n - 1, by omega⟩
    have e1 : nI k + 1 = nI (k + 1) := by rw [k_1, nI_add]
    have e2 : (9 : Int32) + 2 * nI k = nI (9 + 2 * k) := by rw [k_2, pk_mul, k_9, nI_add]
    have e3 : (3 : Int32) * nI k = nI (3 * k) := by rw [k_3, pk_mul]
    have e4 : nI (m / 2 ^ (9 + 2 * k)) - nI (m / 2 ^ (9 + 2 * k)) / 7 * 7 = nI (dgt m k) := by
      rw [k_7, mdN (Nat.lt_of_le_of_lt (Nat.div_le_self _ _) hm) (by omega) (by omega)]
      rfl
    have e5 : pvs m k + dgt m k * 8 ^ k = pvs m (k + 1) := rfl
    rw [fL_acts_L579_s]
    unfold fL_acts_B579
    rw [if_neg (by rw [k_8, nI_leU (by omega) (by omega)]; omega), e2, e3, shN hm (by omega), e4, shl_d k (by omega) _ (dgt_lt m k), nI_add, e5, bsm, e1, ih (k + 1) n (by omega) (by omega)]
    unfold fL_acts_B579
    rw [if_pos (by decide +kernel)]
theorem ac_pattern (hR : RC h s) (hS : SI s) (hL : LI s.g) {m r : Nat} (hm : m < 2147483648) (hr : r < 5) : OK ((f7_ofRing (nI r) 1 h).bind fun c55 => fL_acts_L579 FU (nI m) (nI r) (bI (decide (s.g 19 ≤ r))) c55.1 0 0 c55.2) := by
  have hI := hS.1
  obtain ⟨v1, v2⟩ := pvs_ok m
  have el := pat_loop (h := h) hm (nI r) (bI (decide (s.g 19 ≤ r))) (bI (decide (s.g (3 + r) ≠ 4294967295))) 8 0 FU (by omega) (by unfold FU; omega)
  rw [show pvs m 0 = 0 from rfl, ← k_0] at el
  rw [rg_1 hR.1 hI hr, bsm]
  dsimp only
  rw [el]
  generalize pvs m 8 = v at v1 v2
  obtain ⟨h1, s1, a1, a2, a3, a4⟩ := do_pattern hR hS (nI r) (nI v)
  rw [pat_eq s.g hr v1 v2] at a1 a4
  unfold fL_acts_B579
  rw [if_pos (by decide +kernel), a1, bsm]
  dsimp only
  by_cases z : s.g 19 ≤ r
  · rw [if_neg (by omega)] at a4
    dsimp only at a4
    rw [if_neg (by rw [decide_eq_true z]; decide), if_neg (show ¬ r < s.g 19 by omega)]
    dsimp only
    have hL1 : LI s1.g := LI_lo hL a3.1 (fun q hq => by rw [a4, gu_ne (by omega)]) (by rw [a4, gu_ne (by omega)]) (by rw [a4, gu_ne (by omega)]) (by rw [a4, gu_ne (by omega)]) (by rw [a4, gu_ne (by omega)]) (by rw [a4, tot_gu (by omega)])
    have hI1 := a3.1
    have g2 : s1.g 2 ≤ 1 := hI1.2.2.1
    have e1 : f7_at 0 (nI r) 3 2 h1 = some (nI (v / 512 % 8), h1) := by
      have := at_2 a2.1 hI1 (q := 0) (r := r) (p := 3) (by omega) hr (by omega)
      unfold wn at this
      rw [pp0, show s1.g (3 + r) = v by rw [a4, gu_s], if_neg (by omega), ← k_0, ← k_3] at this
      exact this
    have e2 : f7_at 1 (nI r) 4 4 h1 = some (nI (pp s1.g 1 4), h1) := by
      have := at_4 a2.1 hI1 (q := 1) (r := r) (p := 4) (by omega) hr (by omega)
      rw [← k_1] at this
      rw [← this, k_4]
    have e3 : (nI v >>> (9 &&& 31)) &&& 7 = nI (v / 512 % 8) := by
      rw [k_9, shN (by omega) (by omega), and7_n (by omega)]
    rw [if_pos rfl, e1, bsm, e3]
    dsimp only
    rw [if_pos rfl, e2, bsm]
    dsimp only
    rw [ct_9 a2.1, bsm]
    dsimp only
    unfold fL_acts_j677
    have ep : pp s1.g 1 4 = if s1.g 2 = 1 then 3 else 4 := by
      unfold pp
      by_cases y : s1.g 2 = 1
      · rw [if_pos ⟨y, rfl⟩, if_pos y]
      · rw [if_neg (fun w => y w.1), if_neg y]
    by_cases y : s1.g 2 = 1
    · rw [if_pos y] at ep
      rw [if_pos ((nz_1 (by omega)).mpr y), if_pos (by rw [ep]; rfl)]
      exact OK_rz a2 a3 hL1
    · rw [if_neg y] at ep
      rw [if_neg (fun w => y ((nz_1 (by omega)).mp w)), if_pos (by rw [ep]; rfl)]
      exact OK_rz a2 a3 hL1
  · rw [if_pos (by omega)] at a4
    dsimp only at a4
    rw [if_pos (by rw [decide_eq_false z]; decide), if_pos (show r < s.g 19 by omega), if_pos rfl]
    exact OK_rz a2 a3 (by rw [a4]; exact hL)
theorem shD {m a d : Nat} (hm : m < 2147483648) (ha : a < 32) (d0 : 0 < d) (hd : d < 2147483648) : (nI m >>> (nI a &&& 31)) - (nI m >>> (nI a &&& 31)) / nI d * nI d = nI (m / 2 ^ a % d) := by
  rw [shN hm ha, mdN (Nat.lt_of_le_of_lt (Nat.div_le_self _ _) hm) d0 hd]
theorem acts_66 (hR : RC h s) (hS : SI s) (hL : LI s.g) {m q r p : Nat} (hm : m < 2147483648) (hq : q < 4) (hr : r < 5) (hp : p < 8) : OK (fL_acts_j66 (nI m) (nI q) (nI r) (nI p) (nI (s.g (15 + q))) (nI (co s.g q r p)) (nI (gr s.g q r p)) (bI (decide (s.g 19 ≤ r))) h) := by
  have hI := hS.1
  have e10 : nI m - nI m / 10 * 10 = nI (m % 10) := by rw [k_10, mdN hm (by omega) (by omega)]
  have s1 : (1 : Int32) + ((nI m >>> (12 &&& 31)) - (nI m >>> (12 &&& 31)) / 6 * 6) = nI (1 + m / 2 ^ 12 % 6) := by
    have := shD (a := 12) (d := 6) hm (by omega) (by omega) (by omega)
    rw [← k_12, ← k_6] at this
    rw [this, k_1, nI_add]
  have s2 : (1 : Int32) + ((nI m >>> (12 &&& 31)) - (nI m >>> (12 &&& 31)) / 40 * 40) = nI (1 + m / 2 ^ 12 % 40) := by
    have := shD (a := 12) (d := 40) hm (by omega) (by omega) (by omega)
    rw [← k_12, ← k_40] at this
    rw [this, k_1, nI_add]
  have s3 : (nI m >>> (6 &&& 31)) - (nI m >>> (6 &&& 31)) / 2 * 2 = nI (m / 2 ^ 6 % 2) := by
    have := shD (a := 6) (d := 2) hm (by omega) (by omega) (by omega)
    rw [← k_6, ← k_2] at this
    exact this
  have s4 : (1 : Int32) + ((nI m >>> (4 &&& 31)) - (nI m >>> (4 &&& 31)) / 6 * 6) = nI (1 + m / 2 ^ 4 % 6) := by
    have := shD (a := 4) (d := 6) hm (by omega) (by omega) (by omega)
    rw [← k_4, ← k_6] at this
    rw [this, k_1, nI_add]
  have s5 : (1 : Int32) + ((nI m >>> (7 &&& 31)) - (nI m >>> (7 &&& 31)) / 900 * 900) = nI (1 + m / 2 ^ 7 % 900) := by
    have := shD (a := 7) (d := 900) hm (by omega) (by omega) (by omega)
    rw [← k_7, ← k_900] at this
    rw [this, k_1, nI_add]
  have s6 : (nI m >>> (4 &&& 31)) - (nI m >>> (4 &&& 31)) / 3 * 3 = nI (m / 2 ^ 4 % 3) := by
    have := shD (a := 4) (d := 3) hm (by omega) (by omega) (by omega)
    rw [← k_4, ← k_3] at this
    exact this
  have s7 : (nI m >>> (8 &&& 31)) - (nI m >>> (8 &&& 31)) / 2 * 2 = nI (m / 2 ^ 8 % 2) := by
    have := shD (a := 8) (d := 2) hm (by omega) (by omega) (by omega)
    rw [← k_8, ← k_2] at this
    exact this
  have s8 : (1 : Int32) + ((nI m >>> (8 &&& 31)) - (nI m >>> (8 &&& 31)) / 40 * 40) = nI (1 + m / 2 ^ 8 % 40) := by
    have := shD (a := 8) (d := 40) hm (by omega) (by omega) (by omega)
    rw [← k_8, ← k_40] at this
    rw [this, k_1, nI_add]
  have hpo : OK (fL_acts_j209 (nI m) (nI q) (nI r) (nI p) (nI (s.g (15 + q))) (nI (co s.g q r p)) (nI (gr s.g q r p)) (bI (decide (s.g 19 ≤ r))) h) := by
    unfold fL_acts_j209
    rw [s2, bsm]
    exact ac_pour hR hS hL hq hr hp (by omega) (by omega)
  have hk : m % 10 < 10 := Nat.mod_lt _ (by omega)
  unfold fL_acts_j66
  rw [ct_3 hR.1, bsm]
  dsimp only
  rw [e10]
  generalize m % 10 = k at hk
  rcases (show k = 0 ∨ k = 1 ∨ k = 2 ∨ k = 3 ∨ k = 4 ∨ k = 5 ∨ k = 6 ∨ k = 7 ∨ k = 8 ∨ k = 9 by omega) with rfl | rfl | rfl | rfl | rfl | rfl | rfl | rfl | rfl | rfl
  · rw [if_pos (by decide +kernel), s1, bsm]
    exact ac_take hR hS hL hq (by omega) (by omega)
  · rw [if_neg (by decide +kernel), if_pos (by decide +kernel)]
    exact hpo
  · rw [if_neg (by decide +kernel), if_neg (by decide +kernel), if_pos (by decide +kernel)]
    exact hpo
  · rw [if_neg (by decide +kernel), if_neg (by decide +kernel), if_neg (by decide +kernel), if_pos (by decide +kernel)]
    exact hpo
  · rw [if_neg (by decide +kernel), if_neg (by decide +kernel), if_neg (by decide +kernel), if_neg (by decide +kernel), if_pos (by decide +kernel)]
    exact ac_scrape hR hS hL hq hr hp
  · rw [if_neg (by decide +kernel), if_neg (by decide +kernel), if_neg (by decide +kernel), if_neg (by decide +kernel), if_neg (by decide +kernel), if_pos (by decide +kernel), s3, bsm]
    exact ac_breathe hR hS hL hq (Nat.mod_lt _ (by omega))
  · rw [if_neg (by decide +kernel), if_neg (by decide +kernel), if_neg (by decide +kernel), if_neg (by decide +kernel), if_neg (by decide +kernel), if_neg (by decide +kernel), if_pos (by decide +kernel)]
    exact ac_pattern hR hS hL hm hr
  · rw [if_neg (by decide +kernel), if_neg (by decide +kernel), if_neg (by decide +kernel), if_neg (by decide +kernel), if_neg (by decide +kernel), if_neg (by decide +kernel), if_neg (by decide +kernel), if_pos (by decide +kernel), s4, bsm, oc_0 hR.1 (by omega) (by omega), bsm]
    dsimp only
    rw [s5, bsm]
    exact ac_fill hR hS hL (by omega) (by omega) (by omega) (by omega)
  · rw [if_neg (by decide +kernel), if_neg (by decide +kernel), if_neg (by decide +kernel), if_neg (by decide +kernel), if_neg (by decide +kernel), if_neg (by decide +kernel), if_neg (by decide +kernel), if_neg (by decide +kernel), if_pos (by decide +kernel), ct_0 hR.1, bsm]
    exact ac_close hR hS hL
  · rw [if_neg (by decide +kernel), if_neg (by decide +kernel), if_neg (by decide +kernel), if_neg (by decide +kernel), if_neg (by decide +kernel), if_neg (by decide +kernel), if_neg (by decide +kernel), if_neg (by decide +kernel), if_neg (by decide +kernel), s6, bsm]
    have hw : m / 2 ^ 4 % 3 < 3 := Nat.mod_lt _ (by omega)
    have hv : m / 2 ^ 8 % 2 < 2 := Nat.mod_lt _ (by omega)
    have hv2 : m / 2 ^ 8 % 40 < 40 := Nat.mod_lt _ (by omega)
    rw [s7, s8]
    generalize m / 2 ^ 4 % 3 = w at hw
    generalize m / 2 ^ 8 % 2 = v at hv
    generalize m / 2 ^ 8 % 40 = v2 at hv2
    by_cases z : w = 2
    · rw [if_pos (by rw [z]; rfl)]
      exact ac_set hR hS hL hw (by omega) (by omega) (by omega)
    · rw [if_neg (by rw [k_2, nI_eqU (by omega) (by omega)]; exact z)]
      exact ac_set hR hS hL hw (by omega) (by omega) (by omega)
theorem acts_g (hR : RC h s) (hS : SI s) (hL : LI s.g) {m : Nat} (hm : m < 2147483648) : OK (fL_acts (nI m) h) := by
  have hI := hS.1
  have s1 : (nI m >>> (4 &&& 31)) - (nI m >>> (4 &&& 31)) / 4 * 4 = nI (m / 2 ^ 4 % 4) := by
    have := shD (a := 4) (d := 4) hm (by omega) (by omega) (by omega)
    rw [← k_4] at this
    exact this
  have s2 : (nI m >>> (6 &&& 31)) - (nI m >>> (6 &&& 31)) / 5 * 5 = nI (m / 2 ^ 6 % 5) := by
    have := shD (a := 6) (d := 5) hm (by omega) (by omega) (by omega)
    rw [← k_6, ← k_5] at this
    exact this
  have s3 : (nI m >>> (9 &&& 31)) - (nI m >>> (9 &&& 31)) / 8 * 8 = nI (m / 2 ^ 9 % 8) := by
    have := shD (a := 9) (d := 8) hm (by omega) (by omega) (by omega)
    rw [← k_9, ← k_8] at this
    exact this
  have hq : m / 2 ^ 4 % 4 < 4 := Nat.mod_lt _ (by omega)
  have hr : m / 2 ^ 6 % 5 < 5 := Nat.mod_lt _ (by omega)
  have hp : m / 2 ^ 9 % 8 < 8 := Nat.mod_lt _ (by omega)
  unfold fL_acts fL_acts_e
  rw [s1, s2, s3, bsm, bsm, bsm]
  generalize m / 2 ^ 4 % 4 = q at hq
  generalize m / 2 ^ 6 % 5 = r at hr
  generalize m / 2 ^ 9 % 8 = p at hp
  rw [oq_2 hR.1 hq, bsm]
  dsimp only
  rw [at_0 hR.1 hq hr hp, bsm]
  dsimp only
  rw [at_1 hR.1 hq hr hp, bsm]
  dsimp only
  rw [rg_0 hR.1 hI hr, bsm]
  dsimp only
  have := acts_66 hR hS hL hm hq hr hp
  by_cases z : r < s.g 19
  · rw [decide_eq_false (show ¬ s.g 19 ≤ r by omega)] at this
    rw [decide_eq_true z, if_neg (by decide)]
    exact this
  · rw [decide_eq_true (show s.g 19 ≤ r by omega)] at this
    rw [decide_eq_false z, if_pos (by decide)]
    exact this
end S49
