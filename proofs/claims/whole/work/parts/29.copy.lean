/-! the copying loops of the model -/
section S13
variable {h : Hp}
theorem cp_hold : ∀ (m k n : Nat) (h : Hp), k + m = 383 → m < n → ∃ h', f8_hold_L2 n (nI k) h = some (0, h') ∧ (∀ j, k ≤ j → j < 383 → h' 14 (j) = h 13 (j)) ∧ (∀ j, ¬ (k ≤ j ∧ j < 383) → h' 14 j = h 14 j) ∧ (∀ c, c ≠ 14 → h' c = h c) := by
  intro m
  induction m with
  | zero =>
    intro k n h hk hn 
    obtain ⟨n, rfl⟩ : ∃ m, n = m + 1 := ⟨n - 1, by omega⟩
    rw [f8_hold_L2_s]
    unfold f8_hold_B2
    rw [if_pos (by rw [k_383, nI_leU (by omega) (by omega)]; omega)]
    exact ⟨h, rfl, by omega, fun _ _ => rfl, fun _ _ => rfl⟩
  | succ m ih =>
    intro k n h hk hn 
    obtain ⟨n, rfl⟩ : ∃ m, n = m + 1 := ⟨n - 1, by omega⟩
    rw [f8_hold_L2_s]
    unfold f8_hold_B2
    rw [if_neg (by rw [k_383, nI_leU (by omega) (by omega)]; omega), gd _ (by omega) (by omega), gd _ (by omega) (by omega), bsm, tn_nI (by omega), k_1, nI_add]
    obtain ⟨h', a1, a2, a3, a4⟩ := ih (k + 1) n (hu h 14 (k) (h 13 (k))) (by omega) (by omega)
    refine ⟨h', a1, fun j j1 j2 => ?_, fun j j1 => ?_, fun c hc => by rw [a4 c hc, hu_n _ _ _ _ hc]⟩
    · by_cases y : j = k
      · subst y
        rw [a3 _ (by omega), hu_s]; unfold upd; rw [if_pos rfl]
      · rw [a2 j (by omega) j2, hu_n _ _ _ _ (by omega)]
    · rw [a3 _ (by omega), hu_s]; unfold upd; rw [if_neg (by omega)]
theorem cp_keep : ∀ (m k n : Nat) (h : Hp), k + m = 383 → m < n → ∃ h', f8_keepTrial_L2 n (nI k) h = some (0, h') ∧ (∀ j, k ≤ j → j < 383 → h' 15 (j) = h 13 (j)) ∧ (∀ j, ¬ (k ≤ j ∧ j < 383) → h' 15 j = h 15 j) ∧ (∀ c, c ≠ 15 → h' c = h c) := by
  intro m
  induction m with
  | zero =>
    intro k n h hk hn 
    obtain ⟨n, rfl⟩ : ∃ m, n = m + 1 := ⟨n - 1, by omega⟩
    rw [f8_keepTrial_L2_s]
    unfold f8_keepTrial_B2
    rw [if_pos (by rw [k_383, nI_leU (by omega) (by omega)]; omega)]
    exact ⟨h, rfl, by omega, fun _ _ => rfl, fun _ _ => rfl⟩
  | succ m ih =>
    intro k n h hk hn 
    obtain ⟨n, rfl⟩ : ∃ m, n = m + 1 := ⟨n - 1, by omega⟩
    rw [f8_keepTrial_L2_s]
    unfold f8_keepTrial_B2
    rw [if_neg (by rw [k_383, nI_leU (by omega) (by omega)]; omega), gd _ (by omega) (by omega), gd _ (by omega) (by omega), bsm, tn_nI (by omega), k_1, nI_add]
    obtain ⟨h', a1, a2, a3, a4⟩ := ih (k + 1) n (hu h 15 (k) (h 13 (k))) (by omega) (by omega)
    refine ⟨h', a1, fun j j1 j2 => ?_, fun j j1 => ?_, fun c hc => by rw [a4 c hc, hu_n _ _ _ _ hc]⟩
    · by_cases y : j = k
      · subst y
        rw [a3 _ (by omega), hu_s]; unfold upd; rw [if_pos rfl]
      · rw [a2 j (by omega) j2, hu_n _ _ _ _ (by omega)]
    · rw [a3 _ (by omega), hu_s]; unfold upd; rw [if_neg (by omega)]
theorem cp_back : ∀ (m k n : Nat) (h : Hp), k + m = 383 → m < n → ∃ h', f8_putBack_L2 n (nI k) h = some (0, h') ∧ (∀ j, k ≤ j → j < 383 → h' 13 (j) = h 15 (j)) ∧ (∀ j, ¬ (k ≤ j ∧ j < 383) → h' 13 j = h 13 j) ∧ (∀ c, c ≠ 13 → h' c = h c) := by
  intro m
  induction m with
  | zero =>
    intro k n h hk hn 
    obtain ⟨n, rfl⟩ : ∃ m, n = m + 1 := ⟨n - 1, by omega⟩
    rw [f8_putBack_L2_s]
    unfold f8_putBack_B2
    rw [if_pos (by rw [k_383, nI_leU (by omega) (by omega)]; omega)]
    exact ⟨h, rfl, by omega, fun _ _ => rfl, fun _ _ => rfl⟩
  | succ m ih =>
    intro k n h hk hn 
    obtain ⟨n, rfl⟩ : ∃ m, n = m + 1 := ⟨n - 1, by omega⟩
    rw [f8_putBack_L2_s]
    unfold f8_putBack_B2
    rw [if_neg (by rw [k_383, nI_leU (by omega) (by omega)]; omega), gd _ (by omega) (by omega), gd _ (by omega) (by omega), bsm, tn_nI (by omega), k_1, nI_add]
    obtain ⟨h', a1, a2, a3, a4⟩ := ih (k + 1) n (hu h 13 (k) (h 15 (k))) (by omega) (by omega)
    refine ⟨h', a1, fun j j1 j2 => ?_, fun j j1 => ?_, fun c hc => by rw [a4 c hc, hu_n _ _ _ _ hc]⟩
    · by_cases y : j = k
      · subst y
        rw [a3 _ (by omega), hu_s]; unfold upd; rw [if_pos rfl]
      · rw [a2 j (by omega) j2, hu_n _ _ _ _ (by omega)]
    · rw [a3 _ (by omega), hu_s]; unfold upd; rw [if_neg (by omega)]
theorem cp_shift (v : Int32) : ∀ (m k n : Nat) (h : Hp), k + m = 1915 → m < n → ∃ h', f8_recorded_L15 n v (nI k) h = f8_recorded_L56 FU v 0 (hu h' 12 10 (h' 12 10 - 1)) ∧ (∀ j, k ≤ j → j < 1915 → h' 16 (j) = h 16 (383 + j)) ∧ (∀ j, ¬ (k ≤ j ∧ j < 1915) → h' 16 j = h 16 j) ∧ (∀ c, c ≠ 16 → h' c = h c) := by
  intro m
  induction m with
  | zero =>
    intro k n h hk hn 
    obtain ⟨n, rfl⟩ : ∃ m, n = m + 1 := ⟨n - 1, by omega⟩
    rw [f8_recorded_L15_s]
    unfold f8_recorded_B15
    rw [if_pos (by rw [k_1915, nI_leU (by omega) (by omega)]; omega)]
    exact ⟨h, rfl, by omega, fun _ _ => rfl, fun _ _ => rfl⟩
  | succ m ih =>
    intro k n h hk hn 
    obtain ⟨n, rfl⟩ : ∃ m, n = m + 1 := ⟨n - 1, by omega⟩
    rw [f8_recorded_L15_s]
    unfold f8_recorded_B15
    rw [if_neg (by rw [k_1915, nI_leU (by omega) (by omega)]; omega), k_383, nI_add, gd _ (by omega) (by omega), gd _ (by omega) (by omega), bsm, tn_nI (by omega), tn_nI (by omega), k_1, nI_add]
    obtain ⟨h', a1, a2, a3, a4⟩ := ih (k + 1) n (hu h 16 (k) (h 16 (383 + k))) (by omega) (by omega)
    refine ⟨h', a1, fun j j1 j2 => ?_, fun j j1 => ?_, fun c hc => by rw [a4 c hc, hu_n _ _ _ _ hc]⟩
    · by_cases y : j = k
      · subst y
        rw [a3 _ (by omega), hu_s]; unfold upd; rw [if_pos rfl]
      · rw [a2 j (by omega) j2, hu_s, show upd (h 16) k (h 16 (383 + k)) (383 + j) = h 16 (383 + j) by unfold upd; exact if_neg (by omega)]
    · rw [a3 _ (by omega), hu_s]; unfold upd; rw [if_neg (by omega)]
theorem cp_rec (v : Int32) {a : Nat} (ha : a < 6) : ∀ (m k n : Nat) (h : Hp), k + m = 383 → m < n → h 12 10 = nI a → ∃ h', f8_recorded_L56 n v (nI k) h = some (v, hu h' 12 10 (h' 12 10 + 1)) ∧ (∀ j, k ≤ j → j < 383 → h' 16 (383 * a + j) = h 14 (j)) ∧ (∀ j, ¬ (383 * a + k ≤ j ∧ j < 383 * a + 383) → h' 16 j = h 16 j) ∧ (∀ c, c ≠ 16 → h' c = h c) := by
  intro m
  induction m with
  | zero =>
    intro k n h hk hn hx
    obtain ⟨n, rfl⟩ : ∃ m, n = m + 1 := ⟨n - 1, by omega⟩
    rw [f8_recorded_L56_s]
    unfold f8_recorded_B56
    rw [if_pos (by rw [k_383, nI_leU (by omega) (by omega)]; omega)]
    exact ⟨h, rfl, by omega, fun _ _ => rfl, fun _ _ => rfl⟩
  | succ m ih =>
    intro k n h hk hn hx
    obtain ⟨n, rfl⟩ : ∃ m, n = m + 1 := ⟨n - 1, by omega⟩
    rw [f8_recorded_L56_s]
    unfold f8_recorded_B56
    rw [if_neg (by rw [k_383, nI_leU (by omega) (by omega)]; omega), hx, k_383, pk_mul, nI_add, gd _ (by omega) (by omega), gd _ (by omega) (by omega), bsm, tn_nI (by omega), tn_nI (by omega), k_1, nI_add]
    obtain ⟨h', a1, a2, a3, a4⟩ := ih (k + 1) n (hu h 16 (383 * a + k) (h 14 (k))) (by omega) (by omega) (by rw [hu_n _ _ _ _ (by omega)]; exact hx)
    refine ⟨h', a1, fun j j1 j2 => ?_, fun j j1 => ?_, fun c hc => by rw [a4 c hc, hu_n _ _ _ _ hc]⟩
    · by_cases y : j = k
      · subst y
        rw [a3 _ (by omega), hu_s]; unfold upd; rw [if_pos rfl]
      · rw [a2 j (by omega) j2, hu_n _ _ _ _ (by omega)]
    · rw [a3 _ (by omega), hu_s]; unfold upd; rw [if_neg (by omega)]
theorem cp_undo {a : Nat} (ha : a < 6) : ∀ (m k n : Nat) (h : Hp), k + m = 383 → m < n → h 12 10 = nI a → ∃ h', f8_undo_L22 n (nI k) h = some (h' 12 10, h') ∧ (∀ j, k ≤ j → j < 383 → h' 13 (j) = h 16 (383 * a + j)) ∧ (∀ j, ¬ (k ≤ j ∧ j < 383) → h' 13 j = h 13 j) ∧ (∀ c, c ≠ 13 → h' c = h c) := by
  intro m
  induction m with
  | zero =>
    intro k n h hk hn hx
    obtain ⟨n, rfl⟩ : ∃ m, n = m + 1 := ⟨n - 1, by omega⟩
    rw [f8_undo_L22_s]
    unfold f8_undo_B22
    rw [if_pos (by rw [k_383, nI_leU (by omega) (by omega)]; omega)]
    exact ⟨h, rfl, by omega, fun _ _ => rfl, fun _ _ => rfl⟩
  | succ m ih =>
    intro k n h hk hn hx
    obtain ⟨n, rfl⟩ : ∃ m, n = m + 1 := ⟨n - 1, by omega⟩
    rw [f8_undo_L22_s]
    unfold f8_undo_B22
    rw [if_neg (by rw [k_383, nI_leU (by omega) (by omega)]; omega), hx, k_383, pk_mul, nI_add, gd _ (by omega) (by omega), gd _ (by omega) (by omega), bsm, tn_nI (by omega), tn_nI (by omega), k_1, nI_add]
    obtain ⟨h', a1, a2, a3, a4⟩ := ih (k + 1) n (hu h 13 (k) (h 16 (383 * a + k))) (by omega) (by omega) (by rw [hu_n _ _ _ _ (by omega)]; exact hx)
    refine ⟨h', a1, fun j j1 j2 => ?_, fun j j1 => ?_, fun c hc => by rw [a4 c hc, hu_n _ _ _ _ hc]⟩
    · by_cases y : j = k
      · subst y
        rw [a3 _ (by omega), hu_s]; unfold upd; rw [if_pos rfl]
      · rw [a2 j (by omega) j2, hu_n _ _ _ _ (by omega)]
    · rw [a3 _ (by omega), hu_s]; unfold upd; rw [if_neg (by omega)]
theorem cp_save {i : Nat} (hi : i < 2) : ∀ (m k n : Nat) (h : Hp), k + m = 383 → m < n → ∃ h', f8_save_L14 n (nI i) (nI k) h = some (hu h' 18 i 1 13 3, hu h' 18 i 1) ∧ (∀ j, k ≤ j → j < 383 → h' 17 (383 * i + j) = h 13 (j)) ∧ (∀ j, ¬ (383 * i + k ≤ j ∧ j < 383 * i + 383) → h' 17 j = h 17 j) ∧ (∀ c, c ≠ 17 → h' c = h c) := by
  intro m
  induction m with
  | zero =>
    intro k n h hk hn 
    obtain ⟨n, rfl⟩ : ∃ m, n = m + 1 := ⟨n - 1, by omega⟩
    rw [f8_save_L14_s]
    unfold f8_save_B14
    rw [if_pos (by rw [k_383, nI_leU (by omega) (by omega)]; omega), gd _ (by omega) (by omega), tn_nI (by omega), tn_3]
    exact ⟨h, rfl, by omega, fun _ _ => rfl, fun _ _ => rfl⟩
  | succ m ih =>
    intro k n h hk hn 
    obtain ⟨n, rfl⟩ : ∃ m, n = m + 1 := ⟨n - 1, by omega⟩
    rw [f8_save_L14_s]
    unfold f8_save_B14
    rw [if_neg (by rw [k_383, nI_leU (by omega) (by omega)]; omega), k_383, pk_mul, nI_add, gd _ (by omega) (by omega), gd _ (by omega) (by omega), bsm, tn_nI (by omega), tn_nI (by omega), k_1, nI_add]
    obtain ⟨h', a1, a2, a3, a4⟩ := ih (k + 1) n (hu h 17 (383 * i + k) (h 13 (k))) (by omega) (by omega)
    refine ⟨h', a1, fun j j1 j2 => ?_, fun j j1 => ?_, fun c hc => by rw [a4 c hc, hu_n _ _ _ _ hc]⟩
    · by_cases y : j = k
      · subst y
        rw [a3 _ (by omega), hu_s]; unfold upd; rw [if_pos rfl]
      · rw [a2 j (by omega) j2, hu_n _ _ _ _ (by omega)]
    · rw [a3 _ (by omega), hu_s]; unfold upd; rw [if_neg (by omega)]
theorem cp_rest {i : Nat} (hi : i < 2) : ∀ (m k n : Nat) (h : Hp), k + m = 383 → m < n → ∃ h', f8_restore_L30 n (nI i) (nI k) h = ((f8_recorded (h' 13 3) h').bind fun c2 => some (c2.1, c2.2)) ∧ (∀ j, k ≤ j → j < 383 → h' 13 (j) = h 17 (383 * i + j)) ∧ (∀ j, ¬ (k ≤ j ∧ j < 383) → h' 13 j = h 13 j) ∧ (∀ c, c ≠ 13 → h' c = h c) := by
  intro m
  induction m with
  | zero =>
    intro k n h hk hn 
    obtain ⟨n, rfl⟩ : ∃ m, n = m + 1 := ⟨n - 1, by omega⟩
    rw [f8_restore_L30_s]
    unfold f8_restore_B30
    rw [if_pos (by rw [k_383, nI_leU (by omega) (by omega)]; omega), tn_3]
    exact ⟨h, rfl, by omega, fun _ _ => rfl, fun _ _ => rfl⟩
  | succ m ih =>
    intro k n h hk hn 
    obtain ⟨n, rfl⟩ : ∃ m, n = m + 1 := ⟨n - 1, by omega⟩
    rw [f8_restore_L30_s]
    unfold f8_restore_B30
    rw [if_neg (by rw [k_383, nI_leU (by omega) (by omega)]; omega), k_383, pk_mul, nI_add, gd _ (by omega) (by omega), gd _ (by omega) (by omega), bsm, tn_nI (by omega), tn_nI (by omega), k_1, nI_add]
    obtain ⟨h', a1, a2, a3, a4⟩ := ih (k + 1) n (hu h 13 (k) (h 17 (383 * i + k))) (by omega) (by omega)
    refine ⟨h', a1, fun j j1 j2 => ?_, fun j j1 => ?_, fun c hc => by rw [a4 c hc, hu_n _ _ _ _ hc]⟩
    · by_cases y : j = k
      · subst y
        rw [a3 _ (by omega), hu_s]; unfold upd; rw [if_pos rfl]
      · rw [a2 j (by omega) j2, hu_n _ _ _ _ (by omega)]
    · rw [a3 _ (by omega), hu_s]; unfold upd; rw [if_neg (by omega)]
end S13
