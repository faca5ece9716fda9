/-! a breath, in numbers -/
def spl (H n : Nat) : Nat := if H < n then (n - H) / 2 else 0
def src (d p : Nat) : Nat := if d = 1 then (p + 1) % 8 else (p + 7) % 8
def nc (C : Nat → Nat) (d p : Nat) : Nat := if C p = 0 then C (src d p) else C p
def wb (H : Nat) (G C : Nat → Nat) (d p : Nat) : Nat := (G p - spl H (G p)) + (if nc C d p = C (src d p) then spl H (G (src d p)) else 0)
def tg (H : Nat) (G C : Nat → Nat) (d p : Nat) : Nat := min 99 (wb H G C d p)
def ls (H : Nat) (G C : Nat → Nat) (d p : Nat) : Nat := wb H G C d p - tg H G C d p + (if nc C d p = C (src d p) then 0 else spl H (G (src d p)))
theorem src_lt (d p : Nat) : src d p < 8 := by unfold src; split <;> omega
theorem spl_le (H n : Nat) : spl H n ≤ n := by unfold spl; split <;> omega
section B1
variable {h : Hp} {g : GS} {k : Nat}
theorem f0_remembered_g {ka p : Nat} (hp : p < 8) : f0_remembered ka (nI p) h = some (h ka p, h) := by
  unfold f0_remembered f0_remembered_e
  rw [if_neg (nI_pos (by omega)), if_neg (by rw [k_8, nI_leU (by omega) (by omega)]; omega), gd _ hp (by omega), tn_nI (by omega)]
theorem f0_spilled_g {n H : Nat} (hn : n ≤ 99) (hH : H ≤ 99) : f0_spilled (nI n) (nI H) h = some (nI (spl H n), h) := by
  unfold f0_spilled f0_spilled_e spl
  by_cases z : H < n
  · rw [if_neg (by rw [nI_leU (by omega) (by omega)]; omega), if_pos z, nI_subU (by omega), k_2, nI_divU (by omega) (by omega) (by omega)]
  · rw [if_pos (by rw [nI_leU (by omega) (by omega)]; omega), if_neg z, k_0]
/-- what a breath over a state object doesn't touch -/
def FB (h h' : Hp) (k : Nat) : Prop := ∀ b, b ≠ k + 1 → b ≠ 5 → b ≠ 6 → b ≠ 7 → h' b = h b
theorem FB.rf (h : Hp) (k : Nat) : FB h h k := fun _ _ _ _ _ => rfl
theorem FB.tr {h h1 h2 : Hp} {k : Nat} (x : FB h h1 k) (y : FB h1 h2 k) : FB h h2 k := fun b a1 a2 a3 a4 => (y b a1 a2 a3 a4).trans (x b a1 a2 a3 a4)
theorem f0_rememberRing_g (hk : k = 1 ∨ k = 3) (hC : CR h k g) {q r : Nat} (hq : q < 4) (hr : r < 5) : ∃ h', f0_rememberRing k (nI q) (nI r) h = some (0, h') ∧ (∀ j, j < 8 → h' 6 j = nI (gr g q r j) ∧ h' 7 j = nI (co g q r j)) ∧ CR h' k g ∧ (∀ b, b ≠ 6 → b ≠ 7 → h' b = h b) := by
  have loop : ∀ (d p n : Nat) (h : Hp), p + d = 8 → d < n → CR h k g → (∀ j, j < p → h 6 j = nI (gr g q r j) ∧ h 7 j = nI (co g q r j)) → ∃ h', f0_rememberRing_L3 k n (nI q) (nI r) (nI p) h = some (0, h') ∧ (∀ j, j < 8 → h' 6 j = nI (gr g q r j) ∧ h' 7 j = nI (co g q r j)) ∧ CR h' k g ∧ (∀ b, b ≠ 6 → b ≠ 7 → h' b = h b) := by
    intro d
    induction d with
    | zero =>
      intro p n h hp hn hC hr0
      obtain ⟨n, rfl⟩ : ∃ m, n = m + 1 := ⟨n - 1, by omega⟩
      rw [f0_rememberRing_L3_s]
      unfold f0_rememberRing_B3
      rw [if_pos (by rw [k_8, nI_leU (by omega) (by omega)]; omega)]
      exact ⟨h, rfl, fun j hj => hr0 j (by omega), hC, fun _ _ _ => rfl⟩
    | succ d ih =>
      intro p n h hp hn hC hr0
      obtain ⟨n, rfl⟩ : ∃ m, n = m + 1 := ⟨n - 1, by omega⟩
      rw [f0_rememberRing_L3_s]
      unfold f0_rememberRing_B3
      rw [if_neg (by rw [k_8, nI_leU (by omega) (by omega)]; omega), if_neg (by rw [k_8, nI_leU (by omega) (by omega)]; omega), f5_grains_g hC hq hr (by omega), bsm]
      dsimp only
      rw [gd _ (by omega) (by omega), bsm, tn_nI (by omega)]
      have hC1 : CR (hu h 6 p (nI (gr g q r p))) k g := CR_fr hC (FR_hu _ _) (by omega)
      rw [f5_colour_g hC1 hq hr (by omega), bsm]
      dsimp only
      rw [gd _ (by omega) (by omega), bsm, k_1, nI_add]
      have hC2 : CR (hu (hu h 6 p (nI (gr g q r p))) 7 p (nI (co g q r p))) k g := CR_fr hC1 (FR_hu _ _) (by omega)
      obtain ⟨h', a, b, c, d2⟩ := ih (p + 1) n _ (by omega) (by omega) hC2 (fun j hj => by
        rw [hu_n _ _ _ _ (by omega), hu_s, hu_s, hu_n _ _ _ _ (by omega)]
        unfold upd
        by_cases z : j = p
        · subst z; rw [if_pos rfl, if_pos rfl]; exact ⟨rfl, rfl⟩
        · rw [if_neg z, if_neg z]; exact hr0 j (by omega))
      exact ⟨h', a, b, c, fun x x1 x2 => by rw [d2 x x1 x2, hu_n _ _ _ _ x2, hu_n _ _ _ _ x1]⟩
  unfold f0_rememberRing f0_rememberRing_e
  rw [k_0]
  exact loop 8 0 FU h (by omega) (by unfold FU; omega) hC (fun j hj => by omega)
theorem f0_overPlace_g (hk : k = 1 ∨ k = 3) (hC : CR h k g) {G C : Nat → Nat} (h6 : ∀ j, j < 8 → h 6 j = nI (G j)) (h7 : ∀ j, j < 8 → h 7 j = nI (C j)) (hG : ∀ j, j < 8 → G j ≤ 99) (hCc : ∀ j, j < 8 → C j ≤ 6) (hH : g 1 ≤ 99) {q r p d : Nat} (hq : q < 4) (hr : r < 5) (hp : p < 8) (hd : d < 2) : ∃ h', f0_overPlace k (nI q) (nI r) (nI p) (nI d) h = some (nI (ls (g 1) G C d p), h') ∧ CR h' k (hpS g q r p (nc C d p) (tg (g 1) G C d p)) ∧ h' 5 2 = (if tg (g 1) G C d p = G p then h 5 2 else 1) ∧ h' 6 = h 6 ∧ h' 7 = h 7 ∧ FB h h' k := by
  have hs := src_lt d p
  have hGp := hG p hp
  have hGs := hG _ hs
  have hs1 := spl_le (g 1) (G p)
  have hs2 := spl_le (g 1) (G (src d p))
  have hcp := hCc p hp
  have hcs := hCc _ hs
  have hwb : wb (g 1) G C d p ≤ 198 := by unfold wb; split <;> omega
  have htg : tg (g 1) G C d p ≤ wb (g 1) G C d p := Nat.min_le_right _ _
  have htg9 : tg (g 1) G C d p ≤ 99 := Nat.min_le_left _ _
  have hnc : nc C d p ≤ 6 := by unfold nc; split <;> omega
  -- the end
  have e170 : ∀ (h : Hp) (jn : Bool), CR h k g → ∃ h', f0_overPlace_j170 k (nI q) (nI r) (nI p) (nI (nc C d p)) (nI (spl (g 1) (G (src d p)))) (bI jn) (nI (wb (g 1) G C d p)) (nI (tg (g 1) G C d p)) h = some (nI (wb (g 1) G C d p - tg (g 1) G C d p + (if jn then 0 else spl (g 1) (G (src d p)))), h') ∧ CR h' k (hpS g q r p (nc C d p) (tg (g 1) G C d p)) ∧ FR h h' (k + 1) := by
    intro h jn hC
    unfold f0_overPlace_j170
    obtain ⟨h1, a, b, c⟩ := f5_heap_g (c := nc C d p) (n := tg (g 1) G C d p) hC hq hr hp (by omega)
    rw [a, bsm]
    dsimp only
    rw [nI_subU htg]
    cases jn
    · rw [bF, nI_add]
      exact ⟨h1, rfl, b, c⟩
    · rw [bT, k_0, nI_add]
      exact ⟨h1, rfl, b, c⟩
  have e140 : ∀ jn : Bool, ∃ h', f0_overPlace_j140 k (nI q) (nI r) (nI p) (nI (nc C d p)) (nI (spl (g 1) (G (src d p)))) (bI jn) (nI (wb (g 1) G C d p)) h = some (nI (wb (g 1) G C d p - tg (g 1) G C d p + (if jn then 0 else spl (g 1) (G (src d p)))), h') ∧ CR h' k (hpS g q r p (nc C d p) (tg (g 1) G C d p)) ∧ h' 5 2 = (if tg (g 1) G C d p = G p then h 5 2 else 1) ∧ h' 6 = h 6 ∧ h' 7 = h 7 ∧ FB h h' k := by
    intro jn
    unfold f0_overPlace_j140
    rw [f0_remembered_g hp, bsm]
    dsimp only
    have em : (if nI (wb (g 1) G C d p) < 99 then nI (wb (g 1) G C d p) else 99) = nI (tg (g 1) G C d p) := by
      unfold tg
      by_cases z : wb (g 1) G C d p < 99
      · rw [if_pos (by rw [k_99, nI_ltU (by omega) (by omega)]; exact z), Nat.min_eq_right (by omega)]
      · rw [if_neg (by rw [k_99, nI_ltU (by omega) (by omega)]; exact z), Nat.min_eq_left (by omega), k_99]
    rw [em]
    by_cases z : tg (g 1) G C d p = G p
    · rw [if_pos (by rw [h6 p hp, z]), if_pos z]
      obtain ⟨h1, a, b, c⟩ := e170 h jn hC
      exact ⟨h1, a, b, by rw [c _ (by omega)], c _ (by omega), c _ (by omega), fun x x1 x2 x3 x4 => c _ x1⟩
    · rw [if_neg (by rw [h6 p hp, nI_eqU (by omega) (by omega)]; exact z), if_neg z, bsm]
      obtain ⟨h1, a, b, c⟩ := e170 (hu h 5 2 1) jn (CR_fr hC (FR_hu _ _) (by omega))
      refine ⟨h1, a, b, ?_, ?_, ?_, fun x x1 x2 x3 x4 => ?_⟩
      · rw [c _ (by omega), hu_s]; simp [upd]
      · rw [c _ (by omega), hu_n _ _ _ _ (by omega)]
      · rw [c _ (by omega), hu_n _ _ _ _ (by omega)]
      · rw [c _ x1, hu_n _ _ _ _ x2]
  have e104 : ∃ h', f0_overPlace_j104 k (nI q) (nI r) (nI p) (nI (src d p)) (nI (nc C d p)) (nI (spl (g 1) (G (src d p)))) (nI (G p - spl (g 1) (G p))) h = some (nI (ls (g 1) G C d p), h') ∧ CR h' k (hpS g q r p (nc C d p) (tg (g 1) G C d p)) ∧ h' 5 2 = (if tg (g 1) G C d p = G p then h 5 2 else 1) ∧ h' 6 = h 6 ∧ h' 7 = h 7 ∧ FB h h' k := by
    unfold f0_overPlace_j104
    rw [f0_remembered_g hs, bsm]
    dsimp only
    unfold f0_overPlace_j123
    by_cases z : nc C d p = C (src d p)
    · rw [if_pos (by rw [h7 _ hs, z]), if_neg (by decide), nI_add]
      have ew : G p - spl (g 1) (G p) + spl (g 1) (G (src d p)) = wb (g 1) G C d p := by unfold wb; rw [if_pos z]
      rw [ew]
      obtain ⟨h', a, b⟩ := e140 true
      refine ⟨h', ?_, b⟩
      unfold ls
      rw [if_pos z]
      exact a
    · rw [if_neg (by rw [h7 _ hs, nI_eqU (by omega) (by omega)]; exact z), if_pos rfl]
      have ew : G p - spl (g 1) (G p) = wb (g 1) G C d p := by unfold wb; rw [if_neg z, Nat.add_zero]
      rw [ew]
      obtain ⟨h', a, b⟩ := e140 false
      refine ⟨h', ?_, b⟩
      unfold ls
      rw [if_neg z]
      exact a
  have e26 : ∃ h', f0_overPlace_j26 k (nI q) (nI r) (nI p) (nI (src d p)) h = some (nI (ls (g 1) G C d p), h') ∧ CR h' k (hpS g q r p (nc C d p) (tg (g 1) G C d p)) ∧ h' 5 2 = (if tg (g 1) G C d p = G p then h 5 2 else 1) ∧ h' 6 = h 6 ∧ h' 7 = h 7 ∧ FB h h' k := by
    unfold f0_overPlace_j26
    rw [k_1, f5_setting_g hC (by omega), bsm]
    dsimp only
    rw [f0_remembered_g hp, bsm]
    dsimp only
    rw [f0_remembered_g hs, bsm]
    dsimp only
    rw [h6 _ hs, f0_spilled_g hGs hH, bsm]
    dsimp only
    rw [f0_remembered_g hp, bsm]
    dsimp only
    rw [f0_remembered_g hp, bsm]
    dsimp only
    rw [h6 _ hp, f0_spilled_g hGp hH, bsm]
    dsimp only
    rw [nI_subU hs1]
    by_cases z : C p = 0
    · rw [if_pos (by rw [h7 p hp, z, k_0]), f0_remembered_g hs, bsm]
      dsimp only
      rw [h7 _ hs]
      have e : nc C d p = C (src d p) := by unfold nc; rw [if_pos z]
      rw [e] at e104
      rw [e]
      exact e104
    · rw [if_neg (by rw [h7 p hp, k_0, nI_eqU (by omega) (by omega)]; exact z), h7 p hp]
      have e : nc C d p = C p := by unfold nc; rw [if_neg z]
      rw [e] at e104
      rw [e]
      exact e104
  unfold f0_overPlace f0_overPlace_e
  by_cases z : d = 1
  · rw [if_pos (by rw [z, k_1])]
    have e : (nI p + 1) - (nI p + 1) / 8 * 8 = nI (src d p) := by
      rw [k_1, nI_add, md8 (by omega)]
      unfold src; rw [if_pos z]
    rw [e]
    exact e26
  · rw [if_neg (by rw [k_1, nI_eqU (by omega) (by omega)]; exact z)]
    have e : ((nI p + 8) - 1) - ((nI p + 8) - 1) / 8 * 8 = nI (src d p) := by
      rw [show nI p + 8 - 1 = nI (p + 7) by (rw [k_8, nI_add, k_1, nI_subU (by omega)]; rfl), md8 (by omega)]
      unfold src; rw [if_neg z]
    rw [e]
    exact e26
end B1
