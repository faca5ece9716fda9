/-! changes of the model's row -/
theorem gr_gu {g : GS} {c v q r p : Nat} (hc : c < 24) : gr (gu g c v) q r p = gr g q r p := by unfold gr gu; rw [if_neg (by omega)]
theorem co_gu {g : GS} {c v q r p : Nat} (hc : c < 24) : co (gu g c v) q r p = co g q r p := by unfold co gu; rw [if_neg (by omega)]
theorem MR_upd {s : Nat → Int32} {g : GS} (hM : MR s g) {c : Nat} (v : Nat) (hc : vc c) : MR (upd s (mx c) (nI v)) (gu g c v) := by
  have hl := mx_lt hc
  have hc2 : c < 24 := by unfold vc at hc; omega
  refine ⟨fun d hd => ?_, fun r hr => ?_, fun q r p hq hr hp => ?_⟩
  · unfold upd gu
    by_cases z : d = c
    · rw [if_pos (by rw [z]), if_pos z]
    · rw [if_neg (fun e => z (mx_inj hd hc e)), if_neg z]
      exact hM.1 d hd
  · have e : gu g c v (3 + r) = g (3 + r) := gu_n _ _ _ (by unfold vc at hc; omega)
    rw [e]
    refine ⟨?_, fun z p hp => ?_⟩
    · unfold upd
      rw [if_neg (by omega)]
      exact (hM.2.1 r hr).1
    · unfold upd
      rw [if_neg (by omega)]
      exact (hM.2.1 r hr).2 z p hp
  · rw [gr_gu hc2, co_gu hc2]
    unfold upd ix
    rw [if_neg (by omega), if_neg (by omega)]
    exact hM.2.2 q r p hq hr hp
theorem MR_put {s : Nat → Int32} {g : GS} (hM : MR s g) {q r p : Nat} (c n : Nat) (hq : q < 4) (hr : r < 5) (hp : p < 8) : MR (upd (upd s (ix q r p) (nI (if n = 0 then 0 else c))) (ix q r p + 1) (nI n)) (hpS g q r p c n) := by
  have hlow : ∀ j, j < 63 → upd (upd s (ix q r p) (nI (if n = 0 then 0 else c))) (ix q r p + 1) (nI n) j = s j := by
    intro j hj
    unfold upd ix
    rw [if_neg (by omega), if_neg (by omega)]
  refine ⟨fun d hd => ?_, fun r' hr' => ?_, fun q' r' p' hq' hr' hp' => ?_⟩
  · rw [hlow _ (by have := mx_lt hd; omega), hpS_lo _ (by unfold vc at hd; omega)]
    exact hM.1 d hd
  · rw [hpS_lo _ (by omega), hlow _ (by omega)]
    refine ⟨(hM.2.1 r' hr').1, fun z p' hp' => ?_⟩
    rw [hlow _ (by omega)]
    exact (hM.2.1 r' hr').2 z p' hp'
  · rw [hpS_gr g hq hr hp hq' hr' hp', hpS_co g hq hr hp hq' hr' hp']
    by_cases z : q' = q ∧ r' = r ∧ p' = p
    · obtain ⟨rfl, rfl, rfl⟩ := z
      simp [upd]
    · rw [if_neg z, if_neg z]
      have e1 : ix q' r' p' ≠ ix q r p ∧ ix q' r' p' ≠ ix q r p + 1 ∧ ix q' r' p' + 1 ≠ ix q r p := by unfold ix; omega
      unfold upd
      rw [if_neg e1.2.1, if_neg e1.1, if_neg (by omega), if_neg e1.2.2]
      exact hM.2.2 q' r' p' hq' hr' hp'
section M2
variable {h : Hp} {g : GS}
theorem MRu (hM : MR (h 13) g) {c i : Nat} (v : Nat) (hc : vc c) (hi : mx c = i) : MR (hu h 13 i (nI v) 13) (gu g c v) := by
  subst hi
  rw [hu_s]
  exact MR_upd hM v hc
end M2
/-! the changes, in numbers -/
def hd (g : GS) (c : Nat) : Nat := if g 15 = c then 0 else if g 16 = c then 1 else if g 17 = c then 2 else if g 18 = c then 3 else 4
def tN (x : Int32) : Nat := x.toNatClampNeg
def setS (g : GS) (x1 x2 : Int32) : Int32 × GS :=
  if (x1 = 0 ∧ inC x2 1 50 = true) ∨ (x1 = 1 ∧ inC x2 1 99 = true) ∨ (x1 = 2 ∧ inR x2 2 = true) then (nI (g (tN x1)), gu g (tN x1) (tN x2)) else (-2, g)
def takS (g : GS) (x1 x2 : Int32) : Int32 × GS :=
  if inR x1 4 = false then (-1, g) else if inR x2 7 = false then (-2, g) else if tN x2 ≠ 0 ∧ hd g (tN x2) ≠ 4 ∧ hd g (tN x2) ≠ tN x1 then (-5, g) else (nI (g (15 + tN x1)), gu g (15 + tN x1) (tN x2))
def filS (g : GS) (x1 x2 : Int32) : Int32 × GS :=
  if inC x1 1 6 = false then (-1, g) else if inC x2 1 9999 = false then (-2, g) else (nI (min 9999 (g (8 + tN x1) + tN x2)), gu g (8 + tN x1) (min 9999 (g (8 + tN x1) + tN x2)))
def pouS (g : GS) (x1 x2 x3 x4 : Int32) : Int32 × GS :=
  if (inR x1 4 && inR x2 5 && inR x3 8) = false then (-1, g) else if inC x4 1 99 = false then (-2, g)
  else if g (15 + tN x1) = 0 ∨ tN x2 < g 19 ∨ ¬ (co g (tN x1) (tN x2) (tN x3) = 0 ∨ co g (tN x1) (tN x2) (tN x3) = g (15 + tN x1)) ∨ g (8 + g (15 + tN x1)) < tN x4 then (-5, g)
  else if 99 < gr g (tN x1) (tN x2) (tN x3) + tN x4 then (-4, g)
  else (nI (gr g (tN x1) (tN x2) (tN x3) + tN x4), gu (gu (hpS g (tN x1) (tN x2) (tN x3) (g (15 + tN x1)) (gr g (tN x1) (tN x2) (tN x3) + tN x4)) (8 + g (15 + tN x1)) (g (8 + g (15 + tN x1)) - tN x4)) 22 (g 22 + tN x4))
def scrS (g : GS) (x1 x2 x3 : Int32) : Int32 × GS :=
  if (inR x1 4 && inR x2 5 && inR x3 8) = false then (-1, g) else if tN x2 < g 19 ∨ gr g (tN x1) (tN x2) (tN x3) = 0 then (-5, g)
  else (nI (gr g (tN x1) (tN x2) (tN x3)), gu (hpS g (tN x1) (tN x2) (tN x3) 0 0) 23 (g 23 + gr g (tN x1) (tN x2) (tN x3)))
theorem tN_nI {a : Nat} (h : a < 2147483648) : tN (nI a) = a := tn_nI h
theorem gu_ne {g : GS} {c v j : Nat} (h : j ≠ c) : gu g c v j = g j := gu_n _ _ _ h
