/-! sums of the model -/
theorem sm_blk (F : Nat → Nat → Nat) {b : Nat} (hb : 0 < b) (a : Nat) : sm (fun k => F (k / b) (k % b)) (b * a) b = sm (F a) 0 b := by
  have key : ∀ j, j < b → F ((b * a + j) / b) ((b * a + j) % b) = F a j := fun j hj => by
    rw [Nat.mul_add_div hb, Nat.div_eq_of_lt hj, Nat.add_zero, Nat.mul_add_mod, Nat.mod_eq_of_lt hj]
  have e : ∀ (d i : Nat), i + d ≤ b → sm (fun k => F (k / b) (k % b)) (b * a + i) d = sm (F a) i d := by
    intro d
    induction d with
    | zero => exact fun _ _ => rfl
    | succ d ih =>
      intro i hi
      show F ((b * a + i) / b) ((b * a + i) % b) + sm (fun k => F (k / b) (k % b)) (b * a + i + 1) d = F a i + sm (F a) (i + 1) d
      rw [key i (by omega), Nat.add_assoc, ih (i + 1) (by omega)]
  exact e b 0 (by omega)
theorem sm_flatB (F : Nat → Nat → Nat) {b : Nat} (hb : 0 < b) : ∀ a, sm (fun k => F (k / b) (k % b)) 0 (b * a) = sm (fun i => sm (F i) 0 b) 0 a := by
  intro a
  induction a with
  | zero => rfl
  | succ a ih =>
    rw [Nat.mul_succ, sm_app, ih, Nat.zero_add, sm_blk F hb, sm_app, Nat.zero_add]
    rfl
theorem mdN {a d : Nat} (ha : a < 2147483648) (h0 : 0 < d) (hd : d < 2147483648) : nI a - nI a / nI d * nI d = nI (a % d) := by
  have e := Nat.div_add_mod a d
  rw [Nat.mul_comm] at e
  rw [nI_divU ha h0 hd, pk_mul, nI_subU (by generalize a / d * d = X at e ⊢; omega)]
  congr 1
  generalize a / d * d = X at e ⊢
  omega
section S18
variable {h : Hp} {g : GS}
def opF (g : GS) (w q r p : Nat) : Nat := if w = 4 then mea g 2 4294967295 q r p else if w = 5 then mea g 0 4294967295 q r p else mea g 5 4294967295 q r p
theorem mea0 (g : GS) (q r p : Nat) : mea g 0 4294967295 q r p = gr g q r p := by unfold mea; rw [if_pos rfl, mt_any, if_pos rfl]
theorem mea5 (g : GS) (q r p : Nat) : mea g 5 4294967295 q r p = ms g q r p := by unfold mea; rw [if_neg (by omega), if_neg (by omega), if_neg (by omega), if_neg (by omega), if_neg (by omega), mt_any, if_pos rfl]
theorem ofPlaces_l (hM : MR (h 13) g) (hI : IV g) {w r : Nat} (hw : 4 ≤ w ∧ w ≤ 6) (hr : r < 5) : ∀ (d k n a : Nat), k + d = 32 → d < n → f8_ofPlaces_L5 n (nI r) (nI w) (nI a) (nI k) h = some (nI (a + sm (fun k => opF g w (k / 8) r (k % 8)) k d), h) := by
  intro d
  induction d with
  | zero =>
    intro k n a hk hn
    obtain ⟨n, rfl⟩ : ∃ m, n = m + 1 := ⟨n - 1, by omega⟩
    rw [f8_ofPlaces_L5_s]
    unfold f8_ofPlaces_B5
    rw [if_pos (by rw [k_32, nI_leU (by omega) (by omega)]; omega)]
    rfl
  | succ d ih =>
    intro k n a hk hn
    obtain ⟨n, rfl⟩ : ∃ m, n = m + 1 := ⟨n - 1, by omega⟩
    have es : ∀ f : Nat → Nat, sm f k (d + 1) = f k + sm f (k + 1) d := fun _ => rfl
    have hx := ix_lt (q := k / 8) (r := r) (p := k % 8) (by omega) hr (by omega)
    have nx : ∀ b, f8_ofPlaces_L5 n (nI r) (nI w) (nI (a + b)) (nI (k + 1)) h = some (nI (a + (b + sm (fun k => opF g w (k / 8) r (k % 8)) (k + 1) d)), h) := fun b => by rw [ih (k + 1) n _ (by omega) (by omega), Nat.add_assoc]
    rw [f8_ofPlaces_L5_s]
    unfold f8_ofPlaces_B5
    rw [es, if_neg (by rw [k_32, nI_leU (by omega) (by omega)]; omega), md8 (by omega), dv8 (by omega), f8_isRight_g hM hI (by omega) hr (by omega), bsm]
    dsimp only
    by_cases w4 : w = 4
    · have e : opF g w (k / 8) r (k % 8) = if rt g (k / 8) r (k % 8) = false then 1 else 0 := by unfold opF mea; rw [if_pos w4, if_neg (by omega), if_neg (by omega), if_pos rfl]
      rw [if_pos (by rw [w4, k_4]), e]
      cases rt g (k / 8) r (k % 8)
      · rw [bF, if_pos rfl, k_1, nI_add, nI_add, nx]
      · rw [bT, if_neg (by decide), k_0, k_1, nI_add, nI_add, nx]
    · rw [if_neg (by rw [k_4, nI_eqU (by omega) (by omega)]; exact w4)]
      by_cases w5 : w = 5
      · have e : opF g w (k / 8) r (k % 8) = gr g (k / 8) r (k % 8) := by unfold opF; rw [if_neg w4, if_pos w5, mea0]
        rw [if_pos (by rw [w5, k_5]), e, f8_p_g, bsm]
        dsimp only
        rw [k_1, nI_add, gd _ hx (by omega), bsm, tn_nI (by omega), hM.gr (by omega) hr (by omega), nI_add, nI_add, nx]
      · have e : opF g w (k / 8) r (k % 8) = ms g (k / 8) r (k % 8) := by unfold opF; rw [if_neg w4, if_neg w5, mea5]
        rw [if_neg (by rw [k_5, nI_eqU (by omega) (by omega)]; exact w5), e, f8_missing_g hM hI (by omega) hr (by omega), bsm]
        dsimp only
        rw [k_1, nI_add, nI_add, nx]
theorem f8_ofPlaces_g (hM : MR (h 13) g) (hI : IV g) {w r : Nat} (hw : 4 ≤ w ∧ w ≤ 6) (hr : r < 5) : f8_ofPlaces (nI r) (nI w) h = some (nI (sm (fun q => sm (fun p => opF g w q r p) 0 8) 0 4), h) := by
  unfold f8_ofPlaces f8_ofPlaces_e
  rw [k_0, ofPlaces_l hM hI hw hr 32 0 FU 0 (by omega) (by unfold FU; omega), Nat.zero_add, show 32 = 8 * 4 from rfl, sm_flat (fun q p => opF g w q r p) 4]
def oiF (g : GS) (w q r p : Nat) : Nat := if w = 0 then gr g q r p else if w = 1 then (if wn g q r p = 4294967290 then 0 else if rt g q r p = false then 1 else 0) else if w = 11 then (if rt g q r p = false then 0 else 1) else if co g q r p = w - 4 then gr g q r p else 0
theorem ofIn_j (hM : MR (h 13) g) {w q r p k a : Nat} {fl : Int32} {nr : Nat} (hw : w ≤ 11) (hw2 : w ≤ 1 ∨ 5 ≤ w) (hq : q < 4) (hr : r < 5) (hp : p < 8) (hc : co g q r p ≤ 6) (b : Bool) (k5 : Int32 → Int32 → Int32 → Int32 → Hp → Re) (hnr : nr ≤ 1) : f8_ofPlacesIn_j72 k5 (nI q) (nI w) (nI a) (nI k) (nI (ix q r p)) (bI b) (nI nr) h = k5 (nI q) (nI w) (nI (a + (if w = 0 then gr g q r p else if w = 1 then nr else if w = 11 then (if b = false then 0 else 1) else if co g q r p = w - 4 then gr g q r p else 0))) (nI (k + 1)) h := by
  have hx := ix_lt hq hr hp
  have eg := hM.gr hq hr hp
  have ec := hM.co hq hr hp
  have key : ∀ y : Nat, (1 < w → w ≠ 11 → y = if co g q r p = w - 4 then gr g q r p else 0) → f8_ofPlacesIn_j102 k5 (nI q) (nI w) (nI a) (nI k) (nI (ix q r p)) (bI b) (nI nr) (nI y) h = k5 (nI q) (nI w) (nI (a + (if w = 0 then gr g q r p else if w = 1 then nr else if w = 11 then (if b = false then 0 else 1) else if co g q r p = w - 4 then gr g q r p else 0))) (nI (k + 1)) h := by
    intro y hy
    unfold f8_ofPlacesIn_j102
    by_cases w0 : w = 0
    · rw [if_pos (by rw [w0, k_0]), if_pos w0, k_1, nI_add, gd _ hx (by omega), bsm, tn_nI (by omega), eg, nI_add, nI_add]
    · rw [if_neg (by rw [k_0, nI_eqU (by omega) (by omega)]; exact w0), if_neg w0]
      by_cases w1 : w = 1
      · rw [if_pos (by rw [w1, k_1]), if_pos w1]
        by_cases n0 : nr = 0
        · rw [if_pos (by rw [n0, k_0]), n0, k_0, k_1, nI_add, nI_add]
        · rw [if_neg (by rw [k_0, nI_eqU (by omega) (by omega)]; exact n0), show nr = 1 by omega, k_1, nI_add, nI_add]
      · rw [if_neg (by rw [k_1, nI_eqU (by omega) (by omega)]; exact w1), if_neg w1]
        by_cases w11 : w = 11
        · rw [if_pos (by rw [w11, k_11]), if_pos w11]
          cases b
          · rw [bF, if_pos rfl, k_0, k_1, nI_add, nI_add]
          · rw [bT, if_neg (by decide), k_1, nI_add, nI_add]
        · rw [if_neg (by rw [k_11, nI_eqU (by omega) (by omega)]; exact w11), if_neg w11, nI_add, k_1, nI_add, hy (by omega) w11]
  unfold f8_ofPlacesIn_j72
  rw [k_0, nI_add, Nat.add_zero, gd _ (by omega) (by omega), tn_nI (by omega), k_1, nI_add, gd _ hx (by omega), tn_nI (by omega)]
  by_cases z : h 13 (ix q r p) = nI w - 4
  · rw [if_pos z, eg]
    refine key _ (fun a1 a2 => ?_)
    rw [ec, k_4, nI_subU (by omega), nI_eqU (by omega) (by omega)] at z
    rw [if_pos z]
  · rw [if_neg z]
    refine key _ (fun a1 a2 => ?_)
    rw [ec, k_4, nI_subU (by omega), nI_eqU (by omega) (by omega)] at z
    rw [if_neg z]
theorem ofIn_l (hM : MR (h 13) g) (hI : IV g) {w q : Nat} (hw : w ≤ 11) (hw2 : w ≤ 1 ∨ 5 ≤ w) (hq : q < 4) : ∀ (d k n a : Nat), k + d = 40 → d < n → f8_ofPlacesIn_L5 n (nI q) (nI w) (nI a) (nI k) h = some (nI (a + sm (fun k => oiF g w q (k / 8) (k % 8)) k d), h) := by
  intro d
  induction d with
  | zero =>
    intro k n a hk hn
    obtain ⟨n, rfl⟩ : ∃ m, n = m + 1 := ⟨n - 1, by omega⟩
    rw [f8_ofPlacesIn_L5_s]
    unfold f8_ofPlacesIn_B5
    rw [if_pos (by rw [k_40, nI_leU (by omega) (by omega)]; omega)]
    rfl
  | succ d ih =>
    intro k n a hk hn
    obtain ⟨n, rfl⟩ : ∃ m, n = m + 1 := ⟨n - 1, by omega⟩
    have es : ∀ f : Nat → Nat, sm f k (d + 1) = f k + sm f (k + 1) d := fun _ => rfl
    have hx := ix_lt (q := q) (r := k / 8) (p := k % 8) hq (by omega) (by omega)
    have hc := hI.2.2.2.2.2.2.2.2 q (k / 8) (k % 8) hq (by omega) (by omega)
    rw [f8_ofPlacesIn_L5_s]
    unfold f8_ofPlacesIn_B5 f8_ofPlacesIn_j71
    rw [es, if_neg (by rw [k_40, nI_leU (by omega) (by omega)]; omega), md8 (by omega), dv8 (by omega), f8_p_g, bsm]
    dsimp only
    rw [f8_isRight_g hM hI hq (by omega) (by omega), bsm]
    dsimp only
    rw [k_18, nI_add, gd _ (by omega) (by omega), tn_nI (by omega)]
    have fin : ∀ nr, nr ≤ 1 → (w = 1 → nr = if wn g q (k / 8) (k % 8) = 4294967290 then 0 else if rt g q (k / 8) (k % 8) = false then 1 else 0) → f8_ofPlacesIn_j72 (f8_ofPlacesIn_L5 n) (nI q) (nI w) (nI a) (nI k) (nI (ix q (k / 8) (k % 8))) (bI (rt g q (k / 8) (k % 8))) (nI nr) h = some (nI (a + (oiF g w q (k / 8) (k % 8) + sm (fun k => oiF g w q (k / 8) (k % 8)) (k + 1) d)), h) := by
      intro nr h1 h2
      rw [ofIn_j (fl := 0) hM hw hw2 hq (by omega) (by omega) (by omega) _ _ h1, ih (k + 1) n _ (by omega) (by omega), Nat.add_assoc]
      have e : (if w = 0 then gr g q (k / 8) (k % 8) else if w = 1 then nr else if w = 11 then (if rt g q (k / 8) (k % 8) = false then 0 else 1) else if co g q (k / 8) (k % 8) = w - 4 then gr g q (k / 8) (k % 8) else 0) = oiF g w q (k / 8) (k % 8) := by
        unfold oiF
        by_cases w1 : w = 1
        · rw [if_neg (by omega), if_pos w1, if_neg (by omega), if_pos w1, h2 w1]
        · rw [if_neg w1, if_neg w1]
      rw [e]
    by_cases z : g (3 + k / 8) = 4294967295
    · have ew : wn g q (k / 8) (k % 8) = 4294967290 := by unfold wn; rw [if_pos z]
      rw [if_neg (by rw [hM.has (by omega), if_pos z, k_1, nI_eqU (by omega) (by omega)]; omega), k_0]
      exact fin 0 (by omega) (fun _ => by rw [if_pos ew])
    · have ew : ¬ wn g q (k / 8) (k % 8) = 4294967290 := by unfold wn; rw [if_neg z]; omega
      rw [if_pos (by rw [hM.has (by omega), if_neg z, k_1])]
      cases e : rt g q (k / 8) (k % 8)
      · have := fin 1 (by omega) (fun _ => by rw [if_neg ew, if_pos e])
        rw [e] at this
        rw [bF, k_1, this]
      · have := fin 0 (by omega) (fun _ => by rw [if_neg ew, if_neg (by rw [e]; decide)])
        rw [e] at this
        rw [bT, k_0, this]
theorem f8_ofPlacesIn_g (hM : MR (h 13) g) (hI : IV g) {w q : Nat} (hw : w ≤ 11) (hw2 : w ≤ 1 ∨ 5 ≤ w) (hq : q < 4) : f8_ofPlacesIn (nI q) (nI w) h = some (nI (sm (fun r => sm (fun p => oiF g w q r p) 0 8) 0 5), h) := by
  unfold f8_ofPlacesIn f8_ofPlacesIn_e
  rw [k_0, ofIn_l hM hI hw hw2 hq 40 0 FU 0 (by omega) (by unfold FU; omega), Nat.zero_add, show 40 = 8 * 5 from rfl, sm_flat (fun r p => oiF g w q r p) 5]
def oaF (g : GS) (w c q r p : Nat) : Nat := if w = 2 then (if co g q r p = c then gr g q r p else 0) else if wn g q r p = c then (if w = 3 then 1 else ms g q r p) else 0
theorem ofAll_l (hM : MR (h 13) g) (hI : IV g) {w c : Nat} (hw : 2 ≤ w ∧ w ≤ 4) (hc : c ≤ 7) : ∀ (d k n a : Nat), k + d = 160 → d < n → f8_ofAll_L5 n (nI c) (nI w) (nI a) (nI k) h = some (nI (a + sm (fun k => oaF g w c (k / 40) (k % 40 / 8) (k % 8)) k d), h) := by
  intro d
  induction d with
  | zero =>
    intro k n a hk hn
    obtain ⟨n, rfl⟩ : ∃ m, n = m + 1 := ⟨n - 1, by omega⟩
    rw [f8_ofAll_L5_s]
    unfold f8_ofAll_B5
    rw [if_pos (by rw [show k = 160 by omega]; decide +kernel)]
    rfl
  | succ d ih =>
    intro k n a hk hn
    obtain ⟨n, rfl⟩ : ∃ m, n = m + 1 := ⟨n - 1, by omega⟩
    have es : ∀ f : Nat → Nat, sm f k (d + 1) = f k + sm f (k + 1) d := fun _ => rfl
    have hq : k / 40 < 4 := by omega
    have hr : k % 40 / 8 < 5 := by omega
    have hp : k % 8 < 8 := by omega
    have k160 : (160 : Int32) = nI 160 := by decide +kernel
    have ei : 63 + 2 * k = ix (k / 40) (k % 40 / 8) (k % 8) := by unfold ix; omega
    have hx := ix_lt hq hr hp
    have hcc := hI.2.2.2.2.2.2.2.2 _ _ _ hq hr hp
    have hb := wn_le hI (q := k / 40) hr hp
    rw [f8_ofAll_L5_s]
    unfold f8_ofAll_B5
    rw [es, if_neg (by rw [k160, nI_leU (by omega) (by omega)]; omega), md8 (by omega), k_40, mdN (by omega) (by omega) (by omega), nI_divU (by omega) (by omega) (by omega), dv8 (by omega), f8_wanted_g hM hI hq hr hp, bsm]
    dsimp only
    have nx : ∀ b, f8_ofAll_L5 n (nI c) (nI w) (nI (a + b)) (nI (k + 1)) h = some (nI (a + (b + sm (fun k => oaF g w c (k / 40) (k % 40 / 8) (k % 8)) (k + 1) d)), h) := fun b => by rw [ih (k + 1) n _ (by omega) (by omega), Nat.add_assoc]
    have eg := hM.gr hq hr hp
    have ec := hM.co hq hr hp
    have jj : ∀ fl : Bool, (fl = decide (wn g (k / 40) (k % 40 / 8) (k % 8) = c)) → f8_ofAll_j53 (f8_ofAll_L5 n) (nI c) (nI w) (nI a) (nI k) (63 + 2 * nI k) (bI fl) h = some (nI (a + (oaF g w c (k / 40) (k % 40 / 8) (k % 8) + sm (fun k => oaF g w c (k / 40) (k % 40 / 8) (k % 8)) (k + 1) d)), h) := by
      intro fl hfl
      have j81 : ∀ y : Nat, (y = if co g (k / 40) (k % 40 / 8) (k % 8) = c then gr g (k / 40) (k % 40 / 8) (k % 8) else 0) → f8_ofAll_j81 (f8_ofAll_L5 n) (nI c) (nI w) (nI a) (nI k) (bI fl) (nI y) h = some (nI (a + (oaF g w c (k / 40) (k % 40 / 8) (k % 8) + sm (fun k => oaF g w c (k / 40) (k % 40 / 8) (k % 8)) (k + 1) d)), h) := by
        intro y hy
        unfold f8_ofAll_j81
        have eo : oaF g w c (k / 40) (k % 40 / 8) (k % 8) = if w = 2 then y else if fl = true then (if w = 3 then 1 else ms g (k / 40) (k % 40 / 8) (k % 8)) else 0 := by
          unfold oaF
          rw [← hy, hfl]
          by_cases z : wn g (k / 40) (k % 40 / 8) (k % 8) = c
          · rw [if_pos z, decide_eq_true z, if_pos rfl]
          · rw [if_neg z, decide_eq_false z, if_neg (show ¬ (false = true) by decide)]
        rw [eo]
        by_cases w2 : w = 2
        · rw [if_pos (by rw [w2, k_2]), if_pos w2, nI_add, k_1, nI_add, nx]
        · rw [if_neg (by rw [k_2, nI_eqU (by omega) (by omega)]; exact w2), if_neg w2]
          cases fl
          · rw [bF, if_neg (by decide), k_0, nI_add, k_1, nI_add, nx]
          · rw [bT, if_pos rfl]
            by_cases w3 : w = 3
            · rw [if_pos (by rw [w3, k_3]), if_pos w3, k_1, nI_add, nI_add, nx]
            · rw [if_neg (by rw [k_3, nI_eqU (by omega) (by omega)]; exact w3), if_neg w3, md8 (by omega), k_40, mdN (by omega) (by omega) (by omega), nI_divU (by omega) (by omega) (by omega), dv8 (by omega), f8_missing_g hM hI hq hr hp, bsm]
              dsimp only
              rw [nI_add, k_1, nI_add, nx]
      unfold f8_ofAll_j53
      rw [k_63, k_2, pk_mul, nI_add, ei, k_0, nI_add, Nat.add_zero, gd _ (by omega) (by omega), tn_nI (by omega), k_1, nI_add, gd _ hx (by omega), tn_nI (by omega)]
      by_cases z : co g (k / 40) (k % 40 / 8) (k % 8) = c
      · rw [if_pos (by rw [ec, z]), eg]
        exact j81 _ (by rw [if_pos z])
      · rw [if_neg (by rw [ec, nI_eqU (by omega) (by omega)]; exact z)]
        exact j81 _ (by rw [if_neg z])
    by_cases z : wn g (k / 40) (k % 40 / 8) (k % 8) = c
    · rw [if_pos (by rw [z])]
      exact jj true (decide_eq_true z).symm
    · rw [if_neg (by rw [nI_eqU (by omega) (by omega)]; exact z)]
      exact jj false (decide_eq_false z).symm
theorem f8_ofAll_g (hM : MR (h 13) g) (hI : IV g) {w c : Nat} (hw : 2 ≤ w ∧ w ≤ 4) (hc : c ≤ 7) : f8_ofAll (nI c) (nI w) h = some (nI (sm (fun r => sm (fun q => sm (fun p => oaF g w c q r p) 0 8) 0 4) 0 5), h) := by
  unfold f8_ofAll f8_ofAll_e
  rw [k_0, ofAll_l hM hI hw hc 160 0 FU 0 (by omega) (by unfold FU; omega), Nat.zero_add]
  have e1 : sm (fun k => oaF g w c (k / 40) (k % 40 / 8) (k % 8)) 0 160 = sm (fun k => (fun i p => oaF g w c (i / 5) (i % 5) p) (k / 8) (k % 8)) 0 (8 * 20) := by
    refine sm_cg 160 0 (fun k _ hk => ?_)
    show _ = oaF g w c (k / 8 / 5) (k / 8 % 5) (k % 8)
    rw [show k / 8 / 5 = k / 40 by omega, show k / 8 % 5 = k % 40 / 8 by omega]
  rw [e1, sm_flat (fun i p => oaF g w c (i / 5) (i % 5) p) 20, show 20 = 5 * 4 from rfl, sm_flatB (fun q r => sm (fun p => oaF g w c q r p) 0 8) (by omega) 4, sm_swap (fun q r => sm (fun p => oaF g w c q r p) 0 8) 5 4 0]
end S18
