/-! the constructor of the model: its body behind the new rows -/
abbrev Rmo : Room := { frames := 2, cells := 9, slots := 4521, locals := 60 }
def moF (k : Nat) (j : Nat) : Nat := if j = 0 then 5 else if j = 1 then 12 else if j = 2 then 1 else if 12 ≤ j ∧ j < 12 + k then 300 else 0
section CM
variable {E : EN} {A : Nat → Prop} {p : Program} {l : Launch} {e : Env} {s : State} {m : MethodId} {args : Array Value} {below : List Frame} {meth : Method} {c : Code} {Q : State → Prop} {h : Hp}
theorem mo_get (hO : OB E 12 5 (fs_12 E)) (X : XC E RX8 cX8_init 2 none A p s m args meth c) {pc : Nat} {lv : List (Nat × Value)} {st : List Value} (hd : decode cX8_init pc = .ok (.getfield 7, 3)) (kk : V E 2 A p l e Rmo s m args below meth c 9 4521 Q (pc + 3) lv (.ref (eA E 13) :: st) h) : V E 2 A p l e Rmo s m args below meth c 9 4521 Q pc lv (.ref (eA E 12) :: st) h := V_get (k := 12) (ci := 5) (N := 13) (j := 0) X inW_X8 hO rfl (by decide) rfl fl_X8_7 rfl hd kk
theorem mo_put (hR : AR E 13 (eI E) 383) (X : XC E RX8 cX8_init 2 none A p s m args meth c) {pc a v : Nat} {ai vi : Int32} {lv : List (Nat × Value)} {st : List Value} (ea : ai = nI a) (ev : vi = nI v) (ha : a < 383) (hd : decode cX8_init pc = .ok (.iastore, 1)) (kk : V E 2 A p l e Rmo s m args below meth c 9 4521 Q (pc + 1) lv st (hu h 13 a (nI v))) : V E 2 A p l e Rmo s m args below meth c 9 4521 Q pc lv (.int vi :: .int ai :: .ref (eA E 13) :: st) h := by
  subst ea ev
  refine V_iast X hR (gde rfl ha (by omega)) hd ?_
  rw [tn_nI (by omega)]
  exact kk
def moR (h0 h : Hp) (k : Nat) : Prop := (∀ j, j < 383 → h 13 j = nI (moF k j)) ∧ FR h0 h 13
theorem mo_loop (hO : OB E 12 5 (fs_12 E)) (hR : AR E 13 (eI E) 383) (X : XC E RX8 cX8_init 2 none A p s m args meth c) {h0 : Hp} (kk : ∀ h', moR h0 h' 6 → V E 2 A p l e Rmo s m args below meth c 9 4521 Q 129 [(0, .ref (eA E 12)), (1, .int (nI 7))] [] h') : ∀ (d k : Nat) (h : Hp), k + d = 6 → moR h0 h k → V E 2 A p l e Rmo s m args below meth c 9 4521 Q 105 [(0, .ref (eA E 12)), (1, .int (nI (k + 1)))] [] h := by
  intro d
  induction d with
  | zero =>
    intro k h hd hC
    obtain rfl : k = 6 := by omega
    refine V_iload_n X 1 rfl dX8_init_105 ?_
    refine V_bipush X (v := 6) (by decide) dX8_init_106 ?_
    exact V_icmp_gt X (tgt := 129) (by decide) dX8_init_108 (fun _ => kk h hC) (fun w => absurd (show (6 : Int32) < nI 7 by decide) w)
  | succ d ih =>
    intro k h hd hC
    refine V_iload_n X 1 rfl dX8_init_105 ?_
    refine V_bipush X (v := 6) (by decide) dX8_init_106 ?_
    refine V_icmp_gt X (tgt := 129) (by decide) dX8_init_108 (fun w => absurd w (by rw [k_6, nI_ltU (by omega) (by omega)]; omega)) (fun _ => ?_)
    refine V_aload_n X 0 rfl dX8_init_111 ?_
    refine mo_get hO X dX8_init_112 ?_
    refine V_bipush X (v := 11) (by decide) dX8_init_115 ?_
    refine V_iload_n X 1 rfl dX8_init_117 ?_
    refine V_iadd X dX8_init_118 ?_
    refine V_sipush X (v := 300) (by decide) dX8_init_119 ?_
    refine mo_put hR X (a := 12 + k) (v := 300) (by rw [k_11, nI_add]; congr 1; omega) k_300 (by omega) dX8_init_122 ?_
    have e1 : nI (k + 1) + Int32.ofInt 1 = nI (k + 1 + 1) := by show nI (k + 1) + 1 = _; rw [k_1, nI_add]
    refine V_iinc X (n := 1) (v := nI (k + 1 + 1)) 1 rfl e1 (by decide) rfl dX8_init_123 ?_
    refine V_goto X (tgt := 105) (by decide) dX8_init_126 ?_
    refine V_sub [1, 0] rfl (ih (k + 1) _ (by omega) ⟨fun j hj => ?_, hC.2.tr (FR_hu _ _)⟩)
    rw [hu_s]; unfold upd moF
    by_cases z : j = 12 + k
    · rw [if_pos z, if_neg (by omega), if_neg (by omega), if_neg (by omega), if_pos (by omega)]
    · rw [if_neg z, hC.1 j hj]
      unfold moF
      congr 1
      by_cases y : 12 ≤ j ∧ j < 12 + k
      · rw [if_neg (show ¬ j = 0 by omega), if_neg (show ¬ j = 1 by omega), if_neg (show ¬ j = 2 by omega), if_pos y, if_neg (show ¬ j = 0 by omega), if_neg (show ¬ j = 1 by omega), if_neg (show ¬ j = 2 by omega), if_pos (by omega)]
      · rw [if_neg y, if_neg (show ¬ (12 ≤ j ∧ j < 12 + (k + 1)) by omega)]
theorem mo_body (hO : OB E 12 5 (fs_12 E)) (hR : AR E 13 (eI E) 383) (X : XC E RX8 cX8_init 2 none A p s m args meth c) (h13 : ∀ j, h 13 j = 0) (kk : ∀ h', moR h h' 6 → V E 2 A p l e Rmo s m args below meth c 9 4521 Q 129 [(0, .ref (eA E 12)), (1, .int (nI 7))] [] h') : V E 2 A p l e Rmo s m args below meth c 9 4521 Q 81 [(0, .ref (eA E 12))] [] h := by
  refine V_aload_n X 0 rfl dX8_init_81 ?_
  refine mo_get hO X dX8_init_82 ?_
  refine V_iconst X (v := 0) (by decide) dX8_init_85 ?_
  refine V_iconst X (v := 5) (by decide) dX8_init_86 ?_
  refine mo_put hR X (a := 0) (v := 5) k_0 k_5 (by omega) dX8_init_87 ?_
  refine V_aload_n X 0 rfl dX8_init_88 ?_
  refine mo_get hO X dX8_init_89 ?_
  refine V_iconst X (v := 1) (by decide) dX8_init_92 ?_
  refine V_bipush X (v := 12) (by decide) dX8_init_93 ?_
  refine mo_put hR X (a := 1) (v := 12) k_1 k_12 (by omega) dX8_init_95 ?_
  refine V_aload_n X 0 rfl dX8_init_96 ?_
  refine mo_get hO X dX8_init_97 ?_
  refine V_iconst X (v := 2) (by decide) dX8_init_100 ?_
  refine V_iconst X (v := 1) (by decide) dX8_init_101 ?_
  refine mo_put hR X (a := 2) (v := 1) k_2 k_1 (by omega) dX8_init_102 ?_
  refine V_iconst X (v := 1) (by decide) dX8_init_103 ?_
  refine V_istore_n X (by decide) rfl dX8_init_104 ?_
  refine V_sub [1, 0] rfl ?_
  refine mo_loop hO hR X (h0 := h) kk 6 0 _ (by omega) ⟨fun j hj => ?_, ((FR_hu _ _).tr (FR_hu _ _)).tr (FR_hu _ _)⟩
  rw [hu_s]; unfold upd
  rw [hu_s]; unfold upd
  rw [hu_s]; unfold upd moF
  rw [h13, k_0]
  by_cases z0 : j = 0
  · rw [if_neg (by omega), if_neg (by omega), if_pos z0, if_pos z0]
  · by_cases z1 : j = 1
    · rw [if_neg (by omega), if_pos z1, if_neg z0, if_pos z1]
    · by_cases z2 : j = 2
      · rw [if_pos z2, if_neg z0, if_neg z1, if_pos z2]
      · rw [if_neg z2, if_neg z1, if_neg z0, if_neg z0, if_neg z1, if_neg z2, if_neg (by omega)]
end CM
