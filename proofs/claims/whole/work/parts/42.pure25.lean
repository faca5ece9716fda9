/-! the pad: put, wipe -/
def pa (s : St) (v : Nat) : St := (s.g, s.n, s.H, s.sv, s.S, s.m + 1, fun i => if i = s.m then v else s.P i)
def sh8 (x : Int64) (b : Nat) : Int64 := (x.toUInt64 >>> ((8 * nI b : Int32).toInt64.toUInt64 &&& Int64.toUInt64 63)).toInt64
def sgn (y : Int64) : Nat := (y &&& 255).toBitVec.toNat
theorem sgn_lt (y : Int64) : sgn y < 256 := by
  unfold sgn
  rw [Int64.toBitVec_and, BitVec.toNat_and]
  exact Nat.lt_of_le_of_lt Nat.and_le_right (by decide +kernel)
theorem sgn_is (y : Int64) : (y &&& 255).toInt32 = nI (sgn y) := by
  have h := sgn_lt y
  apply Int32.toBitVec_inj.mp
  apply BitVec.eq_of_toNat_eq
  rw [pk_tn (by omega), Int64.toBitVec_toInt32, BitVec.signExtend_eq_setWidth_of_le _ (by omega), BitVec.toNat_setWidth]
  exact Nat.mod_eq_of_lt (by unfold sgn at h; omega)
theorem nar_is : ∀ v, v < 256 → vp_nar .char (((nI v).toUInt32 % 65536).toInt32) = nI v := by decide +kernel
def am : Nat → Int64 → Nat → Nat
  | 0, _, a => a
  | m + 1, x, a => if (lg_cmp x 0) = 0 then a else if (lg_cmp (x &&& 255) 33) < 0 then 0 else if (lg_cmp (x &&& 255) 126) ≤ 0 then am m (x.toUInt64 >>> ((8 : Int32).toInt64.toUInt64 &&& Int64.toUInt64 63)).toInt64 (a + 1) else 0
theorem am_le : ∀ (m : Nat) (x : Int64) (a : Nat), am m x a ≤ a + m := by
  intro m
  induction m with
  | zero => intro x a; exact Nat.le_refl _
  | succ m ih =>
    intro x a
    unfold am
    split
    · omega
    · split
      · omega
      · split
        · have := ih (x.toUInt64 >>> ((8 : Int32).toInt64.toUInt64 &&& Int64.toUInt64 63)).toInt64 (a + 1); omega
        · omega
def putL (x : Int64) : Nat → St → St
  | 0, s => s
  | b + 1, s => putL x b (pa s (sgn (sh8 x b)))
def putS (s : St) (x : Int64) : Int32 × St := if am 8 x 0 = 0 then (-2, s) else if s.m + am 8 x 0 ≤ 80 then (nI (s.m + am 8 x 0), putL x (am 8 x 0) s) else (-4, s)
def wipS (s : St) : Int32 × St := (nI s.m, (s.g, s.n, s.H, s.sv, s.S, 0, s.P))
theorem SI_pa {s : St} (hS : SI s) {v : Nat} (hv : v < 256) (hm : s.m < 80) : SI (pa s v) := by
  obtain ⟨a1, a2, a3, a4, a5, a6⟩ := hS
  refine ⟨a1, a2, a3, a4, show s.m + 1 ≤ 80 by omega, fun i hi => ?_⟩
  show (if i = s.m then v else s.P i) < 256
  by_cases z : i = s.m
  · rw [if_pos z]; exact hv
  · rw [if_neg z]; exact a6 i (by have : i < s.m + 1 := hi; omega)
theorem SI_putL {x : Int64} : ∀ (b : Nat) (s : St), SI s → s.m + b ≤ 80 → SI (putL x b s) := by
  intro b
  induction b with
  | zero => exact fun s h _ => h
  | succ b ih =>
    intro s h hb
    exact ih _ (SI_pa h (sgn_lt _) (by omega)) (by show s.m + 1 + b ≤ 80; omega)
theorem SI_put {s : St} (hS : SI s) (x : Int64) : SI (putS s x).2 := by
  unfold putS
  split
  · exact hS
  · split
    · rename_i h; exact SI_putL _ s hS h
    · exact hS
theorem SI_wipe {s : St} (hS : SI s) : SI (wipS s).2 := by
  obtain ⟨a1, a2, a3, a4, a5, a6⟩ := hS
  exact ⟨a1, a2, a3, a4, Nat.zero_le _, fun i hi => absurd hi (Nat.not_lt_zero _)⟩
theorem nI_prd (b : Nat) : nI (b + 1) + (-1) = nI b := by
  have e : nI (b + 1) = nI b + 1 := by rw [k_1, nI_add]
  rw [e, Int32.add_assoc, show (1 : Int32) + (-1) = 0 by decide +kernel, Int32.add_zero]
section S26
variable {h hc hm : Hp} {s : St}
theorem RC_pad {h' : Hp} (hR : RC h s) {m : Nat} {P : Nat → Nat} (hF : ∀ c, c ≠ 10 → c ≠ 11 → h' c = h c) (hP : h' 10 1 = nI m ∧ ∀ i, i < m → h' 11 i = nI (P i)) : RC h' (s.g, s.n, s.H, s.sv, s.S, m, P) := by
  refine ⟨?_, ?_, hP⟩
  · have := hR.1
    unfold CR at this ⊢
    rw [hF (1 + 1) (by omega) (by omega)]
    exact this
  · obtain ⟨o, b⟩ := hR.2.1
    refine ⟨o, ?_⟩
    unfold HC rwC at b ⊢
    rw [hF 8 (by omega) (by omega), hF 9 (by omega) (by omega)]
    exact b
theorem RM_pad {h' : Hp} (hR : RM h s) {m : Nat} {P : Nat → Nat} (hF : ∀ c, c ≠ 12 → c ≠ 21 → h' c = h c) (h10 : h' 12 10 = h 12 10) (hP : h' 12 9 = nI m ∧ ∀ i, i < m → h' 21 i = nI (P i)) : RM h' (s.g, s.n, s.H, s.sv, s.S, m, P) := by
  refine ⟨by rw [hF 13 (by omega) (by omega)]; exact hR.1, ?_, hP⟩
  have := hR.2.1
  unfold HM rwM at this ⊢
  rw [hF 16 (by omega) (by omega), hF 17 (by omega) (by omega), hF 18 (by omega) (by omega), h10]
  exact this
theorem C_am : ∀ (m : Nat) (x : Int64) (a n : Nat), a + m = 8 → m < n → f4_amountOf_L5 n x (nI a) h = some (nI (am m x a), h) := by
  intro m
  induction m with
  | zero =>
    intro x a n ha hn
    obtain ⟨n, rfl⟩ : ∃ m, n = m + 1 := ⟨n - 1, by omega⟩
    rw [f4_amountOf_L5_s]
    unfold f4_amountOf_B5 am
    rw [if_pos (by rw [k_8, nI_leU (by omega) (by omega)]; omega)]
  | succ m ih =>
    intro x a n ha hn
    obtain ⟨n, rfl⟩ : ∃ m, n = m + 1 := ⟨n - 1, by omega⟩
    rw [f4_amountOf_L5_s]
    unfold f4_amountOf_B5 am
    rw [if_neg (by rw [k_8, nI_leU (by omega) (by omega)]; omega)]
    by_cases z : (lg_cmp x 0) = 0
    · rw [if_pos z, if_pos z]
    · rw [if_neg z, if_neg z]
      by_cases z1 : (lg_cmp (x &&& 255) 33) < 0
      · rw [if_pos z1, if_pos z1, k_0]
      · rw [if_neg z1, if_neg z1]
        by_cases z2 : (lg_cmp (x &&& 255) 126) ≤ 0
        · rw [if_pos z2, if_pos z2, bsm, k_1, nI_add, ih _ (a + 1) n (by omega) (by omega)]
        · rw [if_neg z2, if_neg z2, k_0]
theorem M_am (x1 : Int64) : ∀ (m : Nat) (x : Int64) (a n : Nat), a + m = 8 → m < n → f8_put_L5 n x1 (nI a) x h = f8_put_j60 x1 (nI (am m x a)) h := by
  have bad : f8_put_j60 x1 (nI 0) h = some (-2, h) := by
    unfold f8_put_j60
    rw [if_pos (show nI 0 = 0 from k_0.symm)]
  intro m
  induction m with
  | zero =>
    intro x a n ha hn
    obtain ⟨n, rfl⟩ : ∃ m, n = m + 1 := ⟨n - 1, by omega⟩
    rw [f8_put_L5_s]
    unfold f8_put_B5 am
    rw [if_pos (by rw [k_8, nI_leU (by omega) (by omega)]; omega)]
  | succ m ih =>
    intro x a n ha hn
    obtain ⟨n, rfl⟩ : ∃ m, n = m + 1 := ⟨n - 1, by omega⟩
    rw [f8_put_L5_s]
    unfold f8_put_B5 am
    rw [if_neg (by rw [k_8, nI_leU (by omega) (by omega)]; omega)]
    by_cases z : (lg_cmp x 0) = 0
    · rw [if_pos z, if_pos z]
    · rw [if_neg z, if_neg z]
      by_cases z1 : (lg_cmp (x &&& 255) 33) < 0
      · rw [if_pos z1, if_pos z1, bad]
      · rw [if_neg z1, if_neg z1]
        by_cases z2 : (lg_cmp (x &&& 255) 126) ≤ 0
        · rw [if_pos z2, if_pos z2, bsm, k_1, nI_add, ih _ (a + 1) n (by omega) (by omega)]
        · rw [if_neg z2, if_neg z2, bad]
theorem C_add (hR : RC h s) (hm : s.m < 80) (v : Nat) : ∃ h', f4_addSign (nI v) h = some (0, h') ∧ RC h' (pa s v) ∧ CF h h' := by
  have hP := hR.2.2
  unfold f4_addSign f4_addSign_e
  rw [hP.1, if_neg (nI_pos (by omega)), if_pos (by rw [k_80, nI_ltU (by omega) (by omega)]; omega), gd _ hm (by omega), bsm, bsm, tn_nI (by omega), hu_n _ _ _ _ (by omega), hP.1, k_1, nI_add]
  refine ⟨_, rfl, RC_pad hR (fun c x1 x2 => by rw [hu_n _ _ _ _ x1, hu_n _ _ _ _ x2]) ⟨?_, fun i hi => ?_⟩, fun b hb => by rw [hu_n _ _ _ _ (by omega), hu_n _ _ _ _ (by omega)]⟩
  · rw [hu_s]; unfold upd; rw [if_pos rfl]
  · rw [hu_n _ _ _ _ (by omega), hu_s]; unfold upd
    show (if i = s.m then nI v else h 11 i) = nI (if i = s.m then v else s.P i)
    by_cases z : i = s.m
    · rw [if_pos z, if_pos z]
    · rw [if_neg z, if_neg z]; exact hP.2 i (by omega)
theorem C_putL (x : Int64) : ∀ (b n : Nat) (h : Hp) (s : St), b < n → RC h s → s.m + b ≤ 80 → ∃ h', f4_append_L31 n x (nI b + (-1)) h = some (nI (s.m + b), h') ∧ RC h' (putL x b s) ∧ CF h h' := by
  intro b
  induction b with
  | zero =>
    intro n h s hn hR hb
    obtain ⟨n, rfl⟩ : ∃ m, n = m + 1 := ⟨n - 1, by omega⟩
    rw [f4_append_L31_s]
    unfold f4_append_B31
    rw [if_pos (by decide +kernel), hR.2.2.1]
    exact ⟨h, rfl, hR, CF.rf h⟩
  | succ b ih =>
    intro n h s hn hR hb
    obtain ⟨n, rfl⟩ : ∃ m, n = m + 1 := ⟨n - 1, by omega⟩
    obtain ⟨h1, a1, a2, a3⟩ := C_add hR (by omega) (sgn (sh8 x b))
    rw [f4_append_L31_s, nI_prd]
    unfold f4_append_B31
    have e : (((x.toUInt64 >>> ((8 * nI b : Int32).toInt64.toUInt64 &&& Int64.toUInt64 63)).toInt64) &&& 255).toInt32 = nI (sgn (sh8 x b)) := sgn_is (sh8 x b)
    rw [if_neg (nI_pos (by omega)), e, a1, bsm]
    obtain ⟨h2, b1, b2, b3⟩ := ih n h1 _ (by omega) a2 (by show s.m + 1 + b ≤ 80; omega)
    refine ⟨h2, ?_, b2, a3.tr b3⟩
    dsimp only
    rw [b1]
    show some (nI (s.m + 1 + b), h2) = _
    rw [show s.m + 1 + b = s.m + (b + 1) by omega]
theorem C_put (hR : RC h s) (hS : SI s) (x : Int64) : ∃ h', f7_put x h = some ((putS s x).1, h') ∧ RC h' (putS s x).2 ∧ CF h h' := by
  have hl := am_le 8 x 0
  have h80 := hS.2.2.2.2.1
  unfold f7_put f7_put_e f4_append f4_append_e f4_amountOf f4_amountOf_e putS
  rw [k_0, C_am 8 x 0 FU (by omega) (by unfold FU; omega), bsm]
  dsimp only
  by_cases z : am 8 x 0 = 0
  · rw [if_pos (by rw [z]), if_pos z, bsm]; exact ⟨h, rfl, hR, CF.rf h⟩
  · rw [if_neg (by rw [nI_eqU (by omega) (by omega)]; exact z), if_neg z]
    by_cases y : s.m + am 8 x 0 ≤ 80
    · rw [if_pos (by rw [hR.2.2.1, nI_add, k_80, nI_leU (by omega) (by omega)]; exact y), if_pos y, Int32.sub_eq_add_neg]
      obtain ⟨h1, a1, a2, a3⟩ := C_putL x (am 8 x 0) FU h s (by unfold FU; omega) hR y
      rw [a1, bsm]
      exact ⟨h1, rfl, a2, a3⟩
    · rw [if_neg (by rw [hR.2.2.1, nI_add, k_80, nI_leU (by omega) (by omega)]; exact y), if_neg y, bsm]; exact ⟨h, rfl, hR, CF.rf h⟩
theorem M_putL (x : Int64) : ∀ (b n : Nat) (h : Hp) (s : St), b < n → RM h s → s.m + b ≤ 80 → ∃ h', f8_put_L86 n x (nI b + (-1)) h = some (nI (s.m + b), h') ∧ RM h' (putL x b s) ∧ MF h h' := by
  intro b
  induction b with
  | zero =>
    intro n h s hn hR hb
    obtain ⟨n, rfl⟩ : ∃ m, n = m + 1 := ⟨n - 1, by omega⟩
    rw [f8_put_L86_s]
    unfold f8_put_B86
    rw [if_pos (by decide +kernel), hR.2.2.1]
    exact ⟨h, rfl, hR, MF.rf h⟩
  | succ b ih =>
    intro n h s hn hR hb
    obtain ⟨n, rfl⟩ : ∃ m, n = m + 1 := ⟨n - 1, by omega⟩
    have hP := hR.2.2
    rw [f8_put_L86_s, nI_prd]
    unfold f8_put_B86
    have e : (((x.toUInt64 >>> ((8 * nI b : Int32).toInt64.toUInt64 &&& Int64.toUInt64 63)).toInt64) &&& 255).toInt32 = nI (sgn (sh8 x b)) := sgn_is (sh8 x b)
    rw [if_neg (nI_pos (by omega)), e, nar_is _ (sgn_lt _), hP.1, gd _ (by omega) (by omega), bsm, bsm, tn_nI (by omega), hu_n _ _ _ _ (by omega), hP.1, k_1, nI_add]
    have a2 : RM (hu (hu h 21 s.m (nI (sgn (sh8 x b)))) 12 9 (nI (s.m + 1))) (pa s (sgn (sh8 x b))) := by
      refine RM_pad hR (fun c x1 x2 => by rw [hu_n _ _ _ _ x1, hu_n _ _ _ _ x2]) ?_ ⟨?_, fun i hi => ?_⟩
      · rw [hu_s]; unfold upd; rw [if_neg (by omega), hu_n _ _ _ _ (by omega)]
      · rw [hu_s]; unfold upd; rw [if_pos rfl]
      · rw [hu_n _ _ _ _ (by omega), hu_s]; unfold upd
        show (if i = s.m then nI (sgn (sh8 x b)) else h 21 i) = nI (if i = s.m then (sgn (sh8 x b)) else s.P i)
        by_cases z : i = s.m
        · rw [if_pos z, if_pos z]
        · rw [if_neg z, if_neg z]; exact hP.2 i (by omega)
    have a3 : MF h (hu (hu h 21 s.m (nI (sgn (sh8 x b)))) 12 9 (nI (s.m + 1))) := fun b hb => by rw [hu_n _ _ _ _ (by omega), hu_n _ _ _ _ (by omega)]
    generalize hu (hu h 21 s.m (nI (sgn (sh8 x b)))) 12 9 (nI (s.m + 1)) = h1 at a2 a3 ⊢
    obtain ⟨h2, b1, b2, b3⟩ := ih n h1 _ (by omega) a2 (by show s.m + 1 + b ≤ 80; omega)
    rw [← k_1]
    refine ⟨h2, ?_, b2, a3.tr b3⟩
    rw [b1]
    show some (nI (s.m + 1 + b), h2) = _
    rw [show s.m + 1 + b = s.m + (b + 1) by omega]
theorem M_put (hR : RM h s) (hS : SI s) (x : Int64) : ∃ h', f8_put x h = some ((putS s x).1, h') ∧ RM h' (putS s x).2 ∧ MF h h' := by
  have hl := am_le 8 x 0
  have h80 := hS.2.2.2.2.1
  unfold f8_put f8_put_e putS
  rw [k_0, M_am x 8 x 0 FU (by omega) (by unfold FU; omega)]
  unfold f8_put_j60
  by_cases z : am 8 x 0 = 0
  · rw [if_pos (by rw [z, k_0]), if_pos z]; exact ⟨h, rfl, hR, MF.rf h⟩
  · rw [if_neg (by rw [k_0, nI_eqU (by omega) (by omega)]; exact z), if_neg z]
    by_cases y : s.m + am 8 x 0 ≤ 80
    · rw [if_pos (by rw [hR.2.2.1, nI_add, k_80, nI_leU (by omega) (by omega)]; exact y), if_pos y, Int32.sub_eq_add_neg]
      obtain ⟨h1, a1, a2, a3⟩ := M_putL x (am 8 x 0) FU h s (by unfold FU; omega) hR y
      rw [a1]
      exact ⟨h1, rfl, a2, a3⟩
    · rw [if_neg (by rw [hR.2.2.1, nI_add, k_80, nI_leU (by omega) (by omega)]; exact y), if_neg y]; exact ⟨h, rfl, hR, MF.rf h⟩
theorem C_empty (hR : RC h s) : ∃ h', f4_empty h = some (0, h') ∧ RC h' (wipS s).2 ∧ (∀ c, c ≠ 10 → h' c = h c) := by
  unfold f4_empty f4_empty_e
  refine ⟨_, rfl, RC_pad hR (fun c x1 x2 => by rw [hu_n _ _ _ _ x1]) ⟨?_, fun i hi => by omega⟩, fun c x1 => hu_n _ _ _ _ x1⟩
  rw [hu_s]; unfold upd; rw [if_pos rfl, k_0]
theorem C_wipe (hR : RC h s) : ∃ h', f7_wipe h = some ((wipS s).1, h') ∧ RC h' (wipS s).2 ∧ CF h h' := by
  obtain ⟨h1, a1, a2, a3⟩ := C_empty hR
  unfold f7_wipe f7_wipe_e f4_length f4_length_e
  rw [bsm]
  dsimp only
  rw [a1, bsm, hR.2.2.1]
  exact ⟨h1, rfl, a2, fun b hb => a3 b (by omega)⟩
theorem M_wipe (hR : RM h s) : ∃ h', f8_wipe h = some ((wipS s).1, h') ∧ RM h' (wipS s).2 ∧ MF h h' := by
  unfold f8_wipe f8_wipe_e
  rw [bsm, hR.2.2.1]
  refine ⟨_, rfl, RM_pad hR (fun c x1 x2 => by rw [hu_n _ _ _ _ x1]) ?_ ⟨?_, fun i hi => by omega⟩, fun b hb => hu_n _ _ _ _ (by omega)⟩
  · rw [hu_s]; unfold upd; rw [if_neg (by omega)]
  · rw [hu_s]; unfold upd; rw [if_pos rfl, k_0]
end S26
