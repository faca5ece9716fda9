/-! the constructor of a state: its body behind the new row -/
theorem ml_X5_19 : Cond.methodLink RX5 19 yX5_dropPatterns ∈ LW := by decide +kernel
abbrev Rst : Room := { frames := 3, cells := 1, slots := 344, locals := 120 }
section CS
variable {E : EN} {A : Nat → Prop} {p : Program} {l : Launch} {e : Env} {s : State} {m : MethodId} {args : Array Value} {below : List Frame} {meth : Method} {c : Code} {Q : State → Prop} {h : Hp} {g : GS}
theorem st_lay (hk : SR E 1) (X : XC E RX5 cX5_init 2 none A p s m args meth c) {pc a v : Nat} {ai vi : Int32} {lv : List (Nat × Value)} {st : List Value} (ea : ai = nI a) (ev : vi = nI v) (ha : a < 344) (hC : CR h 1 g) (hst : (st.map fun v => v.category).sum ≤ 8) (hd : decode cX5_init pc = .ok (.invokevirtual 15, 3)) (kk : ∀ h', CR h' 1 (gu g a v) → V E 2 A p l e Rst s m args below meth c 1 344 Q (pc + 3) lv st h') : V E 2 A p l e Rst s m args below meth c 1 344 Q pc lv (.int vi :: .int ai :: .ref (eA E 1) :: st) h := by
  subst ea ev
  obtain ⟨h', a1, a2, a3⟩ := f5_lay_g (v := v) hC ha
  exact V_callVv X hk.1 rfl rfl (f5_lay_ok hk a1) ys_X5_lay yw_X5_lay ml_X5_15 rfl rfl ⟨Nat.le_of_ble_eq_true rfl, Nat.le_of_ble_eq_true rfl⟩ ⟨Nat.le_of_ble_eq_true rfl, Nat.le_of_ble_eq_true rfl⟩ hst hd (kk h' a2)
def gF (g : GS) : Nat → GS
  | 0 => g
  | k + 1 => gu (gF g k) (9 + k) 300
theorem st_loop (hk : SR E 1) (X : XC E RX5 cX5_init 2 none A p s m args meth c) {g : GS} (kk : ∀ h', CR h' 1 (gF g 6) → V E 2 A p l e Rst s m args below meth c 1 344 Q 57 [(0, .ref (eA E 1)), (1, .int (nI 7))] [] h') : ∀ (d k : Nat) (h : Hp), k + d = 6 → CR h 1 (gF g k) → V E 2 A p l e Rst s m args below meth c 1 344 Q 34 [(0, .ref (eA E 1)), (1, .int (nI (k + 1)))] [] h := by
  intro d
  induction d with
  | zero =>
    intro k h hd hC
    obtain rfl : k = 6 := by omega
    refine V_iload_n X 1 rfl dX5_init_34 ?_
    refine V_bipush X (v := 6) (by decide) dX5_init_35 ?_
    exact V_icmp_gt X (tgt := 57) (by decide) dX5_init_37 (fun _ => kk h hC) (fun w => absurd (show (6 : Int32) < nI 7 by decide) w)
  | succ d ih =>
    intro k h hd hC
    refine V_iload_n X 1 rfl dX5_init_34 ?_
    refine V_bipush X (v := 6) (by decide) dX5_init_35 ?_
    refine V_icmp_gt X (tgt := 57) (by decide) dX5_init_37 (fun w => absurd w (by rw [k_6, nI_ltU (by omega) (by omega)]; omega)) (fun _ => ?_)
    refine V_aload_n X 0 rfl dX5_init_40 ?_
    refine V_bipush X (v := 8) (by decide) dX5_init_41 ?_
    refine V_iload_n X 1 rfl dX5_init_43 ?_
    refine V_iadd X dX5_init_44 ?_
    refine V_sipush X (v := 300) (by decide) dX5_init_45 ?_
    refine st_lay hk X (a := 9 + k) (v := 300) (by rw [k_8, nI_add]; congr 1; omega) k_300 (by omega) hC (Nat.le_of_ble_eq_true rfl) dX5_init_48 (fun h' hC' => ?_)
    have e1 : nI (k + 1) + Int32.ofInt 1 = nI (k + 1 + 1) := by show nI (k + 1) + 1 = _; rw [k_1, nI_add]
    refine V_iinc X (n := 1) (v := nI (k + 1 + 1)) 1 rfl e1 (by decide) rfl dX5_init_51 ?_
    refine V_goto X (tgt := 34) (by decide) dX5_init_54 ?_
    exact V_sub [1, 0] rfl (ih (k + 1) h' (by omega) hC')
theorem st_body (hk : SR E 1) (X : XC E RX5 cX5_init 2 none A p s m args meth c) (hC : CR h 1 (fun _ => 0)) (kk : ∀ h', CR h' 1 s0.g → V E 2 A p l e Rst s m args below meth c 1 344 Q 61 [(0, .ref (eA E 1)), (1, .int (nI 7))] [] h') : V E 2 A p l e Rst s m args below meth c 1 344 Q 13 [(0, .ref (eA E 1))] [] h := by
  refine V_aload_n X 0 rfl dX5_init_13 ?_
  refine V_iconst X (v := 0) (by decide) dX5_init_14 ?_
  refine V_iconst X (v := 5) (by decide) dX5_init_15 ?_
  refine st_lay hk X (a := 0) (v := 5) k_0 k_5 (by omega) hC (Nat.le_of_ble_eq_true rfl) dX5_init_16 (fun h1 c1 => ?_)
  refine V_aload_n X 0 rfl dX5_init_19 ?_
  refine V_iconst X (v := 1) (by decide) dX5_init_20 ?_
  refine V_bipush X (v := 12) (by decide) dX5_init_21 ?_
  refine st_lay hk X (a := 1) (v := 12) k_1 k_12 (by omega) c1 (Nat.le_of_ble_eq_true rfl) dX5_init_23 (fun h2 c2 => ?_)
  refine V_aload_n X 0 rfl dX5_init_26 ?_
  refine V_iconst X (v := 2) (by decide) dX5_init_27 ?_
  refine V_iconst X (v := 1) (by decide) dX5_init_28 ?_
  refine st_lay hk X (a := 2) (v := 1) k_2 k_1 (by omega) c2 (Nat.le_of_ble_eq_true rfl) dX5_init_29 (fun h3 c3 => ?_)
  refine V_iconst X (v := 1) (by decide) dX5_init_32 ?_
  refine V_istore_n X (by decide) rfl dX5_init_33 ?_
  refine V_sub [1, 0] rfl ?_
  refine st_loop hk X (g := gu (gu (gu (fun _ => 0) 0 5) 1 12) 2 1) (fun h4 c4 => ?_) 6 0 h3 (by omega) c3
  refine V_aload_n X 0 rfl dX5_init_57 ?_
  obtain ⟨h5, a1, a2, a3⟩ := dropPatterns_g c4
  refine V_callVv X hk.1 rfl rfl (f5_dropPatterns_ok hk a1) ys_X5_dropPatterns yw_X5_dropPatterns ml_X5_19 rfl rfl ⟨Nat.le_of_ble_eq_true rfl, Nat.le_of_ble_eq_true rfl⟩ ⟨Nat.le_of_ble_eq_true rfl, Nat.le_of_ble_eq_true rfl⟩ (Nat.le_of_ble_eq_true rfl) dX5_init_58 ?_
  refine kk h5 (fun c hc => ?_)
  rw [a2 c hc]
  congr 1
  show (if 3 ≤ c ∧ c < 8 then 4294967295 else gF (gu (gu (gu (fun _ => 0) 0 5) 1 12) 2 1) 6 c) = (if c = 0 then 5 else if c = 1 then 12 else if c = 2 then 1 else if 3 ≤ c ∧ c < 8 then 4294967295 else if 9 ≤ c ∧ c < 15 then 300 else 0)
  have eF : ∀ k, gF (gu (gu (gu (fun _ => 0) 0 5) 1 12) 2 1) k c = if 9 ≤ c ∧ c < 9 + k then 300 else gu (gu (gu (fun _ => 0) 0 5) 1 12) 2 1 c := by
    intro k
    induction k with
    | zero => rw [if_neg (by omega)]; rfl
    | succ k ih =>
      show (if c = 9 + k then 300 else gF (gu (gu (gu (fun _ => 0) 0 5) 1 12) 2 1) k c) = _
      rw [ih]
      by_cases z : c = 9 + k
      · rw [if_pos z, if_pos (by omega)]
      · rw [if_neg z]
        by_cases y : 9 ≤ c ∧ c < 9 + k
        · rw [if_pos y, if_pos (by omega)]
        · rw [if_neg y, if_neg (by omega)]
  have e3 : gu (gu (gu (fun _ => 0) 0 5) 1 12) 2 1 c = if c = 2 then 1 else if c = 1 then 12 else if c = 0 then 5 else 0 := rfl
  rw [eF, e3]
  by_cases z0 : c = 0
  · rw [if_neg (by omega), if_neg (by omega), if_neg (by omega), if_neg (by omega), if_pos z0, if_pos z0]
  · by_cases z1 : c = 1
    · rw [if_neg (by omega), if_neg (by omega), if_neg (by omega), if_pos z1, if_neg z0, if_pos z1]
    · by_cases z2 : c = 2
      · rw [if_neg (by omega), if_neg (by omega), if_pos z2, if_neg z0, if_neg z1, if_pos z2]
      · rw [if_neg z0, if_neg z1, if_neg z2, if_neg z0, if_neg z1, if_neg z2]
end CS
