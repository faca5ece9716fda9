/-! the reads, side by side -/
def RP (f7 f8 : Hp → Re) (hc hm : Hp) : Prop := ∃ v, f7 hc = some (v, hc) ∧ f8 hm = some (v, hm)
section S20
variable {hc hm : Hp} {s : St} {g : GS}
theorem C_tal (hC : CR hc 1 g) (hI : IV g) {m c Q R : Nat} {xm xc xQ xR : Int32} (e1 : xm = nI m) (e2 : xc = nI c) (e3 : xQ = nI Q) (e4 : xR = nI R) (b1 : m < 6) (b2 : c < 4294967296) (b3 : Q < 4294967296) (b4 : R < 4294967296) : f6_tally xm xc xQ xR hc = some (nI (tal g m c Q R), hc) := by
  rw [e1, e2, e3, e4, f6_tally_g hC hI b1 b2 b3 b4]
theorem oi_0 (g : GS) (q : Nat) (hq : q < 4) : sm (fun r => sm (fun p => oiF g 0 q r p) 0 8) 0 5 = tal g 0 4294967295 q 4294967295 := by
  rw [tal_q g 0 _ hq]
  refine sm_cg 5 0 (fun r _ _ => sm_cg 8 0 (fun p _ _ => ?_))
  rw [mea0]; unfold oiF; rw [if_pos rfl]
theorem oi_1 (g : GS) (q : Nat) (hq : q < 4) : sm (fun r => sm (fun p => oiF g 1 q r p) 0 8) 0 5 = tal g 3 4294967295 q 4294967295 := by
  rw [tal_q g 3 _ hq]
  exact sm_cg 5 0 (fun r _ _ => sm_cg 8 0 (fun p _ _ => rfl))
theorem oi_11 (g : GS) (q : Nat) (hq : q < 4) : sm (fun r => sm (fun p => oiF g 11 q r p) 0 8) 0 5 = tal g 1 4294967295 q 4294967295 := by
  rw [tal_q g 1 _ hq]
  exact sm_cg 5 0 (fun r _ _ => sm_cg 8 0 (fun p _ _ => rfl))
theorem oi_c (g : GS) (q w : Nat) (hq : q < 4) (hw : 5 ≤ w ∧ w ≤ 10) : sm (fun r => sm (fun p => oiF g w q r p) 0 8) 0 5 = tal g 0 (w - 4) q 4294967295 := by
  rw [tal_q g 0 _ hq]
  refine sm_cg 5 0 (fun r _ _ => sm_cg 8 0 (fun p _ _ => ?_))
  unfold oiF mea
  rw [if_neg (by omega), if_neg (by omega), if_neg (by omega), if_pos rfl, mt_is (by omega)]
  by_cases z : co g q r p = w - 4
  · rw [if_pos z, decide_eq_true z.symm, if_pos rfl]
  · rw [if_neg z, decide_eq_false (fun y => z y.symm), if_neg (by decide)]
theorem oa_2 (g : GS) (c : Nat) (hc : c < 4294967295) : sm (fun r => sm (fun q => sm (fun p => oaF g 2 c q r p) 0 8) 0 4) 0 5 = tal g 0 c 4294967295 4294967295 := by
  rw [tal_a]
  refine sm_cg 5 0 (fun r _ _ => sm_cg 4 0 (fun q _ _ => sm_cg 8 0 (fun p _ _ => ?_)))
  unfold oaF mea
  rw [if_pos rfl, if_pos rfl, mt_is hc]
  by_cases z : co g q r p = c
  · rw [if_pos z, decide_eq_true z.symm, if_pos rfl]
  · rw [if_neg z, decide_eq_false (fun y => z y.symm), if_neg (by decide)]
theorem oa_3 (g : GS) (c : Nat) : sm (fun r => sm (fun q => sm (fun p => oaF g 3 c q r p) 0 8) 0 4) 0 5 = tal g 4 c 4294967295 4294967295 := by
  rw [tal_a]
  exact sm_cg 5 0 (fun r _ _ => sm_cg 4 0 (fun q _ _ => sm_cg 8 0 (fun p _ _ => rfl)))
theorem oa_4 (g : GS) (c : Nat) (hc : c < 4294967295) : sm (fun r => sm (fun q => sm (fun p => oaF g 4 c q r p) 0 8) 0 4) 0 5 = tal g 5 c 4294967295 4294967295 := by
  rw [tal_a]
  refine sm_cg 5 0 (fun r _ _ => sm_cg 4 0 (fun q _ _ => sm_cg 8 0 (fun p _ _ => ?_)))
  unfold oaF mea
  rw [if_neg (show ¬ (4 : Nat) = 2 by omega), if_neg (show ¬ (4 : Nat) = 3 by omega), if_neg (show ¬ (5 : Nat) = 0 by omega), if_neg (show ¬ (5 : Nat) = 1 by omega), if_neg (show ¬ (5 : Nat) = 2 by omega), if_neg (show ¬ (5 : Nat) = 3 by omega), if_neg (show ¬ (5 : Nat) = 4 by omega), mt_is hc]
  by_cases z : wn g q r p = c
  · rw [if_pos z, decide_eq_true z.symm, if_pos rfl]
  · rw [if_neg z, decide_eq_false (fun y => z y.symm), if_neg (by decide)]
theorem op_4 (g : GS) (r : Nat) (hr : r < 5) : sm (fun q => sm (fun p => opF g 4 q r p) 0 8) 0 4 = tal g 2 4294967295 4294967295 r := by
  rw [tal_r g 2 _ hr]
  exact sm_cg 4 0 (fun r _ _ => sm_cg 8 0 (fun p _ _ => rfl))
theorem op_5 (g : GS) (r : Nat) (hr : r < 5) : sm (fun q => sm (fun p => opF g 5 q r p) 0 8) 0 4 = tal g 0 4294967295 4294967295 r := by
  rw [tal_r g 0 _ hr]
  exact sm_cg 4 0 (fun r _ _ => sm_cg 8 0 (fun p _ _ => rfl))
theorem op_6 (g : GS) (r : Nat) (hr : r < 5) : sm (fun q => sm (fun p => opF g 6 q r p) 0 8) 0 4 = tal g 5 4294967295 4294967295 r := by
  rw [tal_r g 5 _ hr]
  exact sm_cg 4 0 (fun r _ _ => sm_cg 8 0 (fun p _ _ => rfl))
theorem bI_if (b : Bool) (h : Hp) : (if bI b = 0 then (some ((0 : Int32), h)) else some (1, h)) = some (bI b, h) := by
  cases b
  · rfl
  · rfl
theorem bI_fi (b : Bool) (h : Hp) : (if bI b = 0 then (some ((1 : Int32), h)) else some (0, h)) = some (bI (!b), h) := by
  cases b
  · rfl
  · rfl
theorem sub4 {x : Int32} {c : Nat} (e : x - 4 = nI c) : x = nI (c + 4) := by
  have : x = x - 4 + 4 := (Int32.sub_add_cancel x 4).symm
  rw [this, e, k_4, nI_add]
end S20
