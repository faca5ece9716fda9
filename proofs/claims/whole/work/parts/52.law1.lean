/-! the law's loop -/
section LP
variable {E : EN} {p : Program} {l : Launch} {e : Env} {s : State} {m : MethodId} {below : List Frame} {meth : Method} {c : Code} {h : Hp} {u : St} {b L : Nat} {xs : Nat → Int32}
theorem and31_n (x : Int32) : ∃ k, k < 32 ∧ x &&& 31 = nI k := by
  refine ⟨x.toBitVec.toNat % 2 ^ 5, Nat.mod_lt _ (by decide), pk_and x 5 (by decide)⟩
theorem sub5 {L i : Nat} (hL : L ≤ 2560) (hi : i ≤ 5000) : (nI L - 5 < nI i) ↔ L < i + 5 := by
  rw [Int32.lt_iff_toInt_lt, k_5, pk_sub_toInt (by omega) (by omega), nI_toInt (by omega)]
  omega
theorem vin {L i j : Nat} {ji : Int32} (ej : ji = nI j) (h : i + j < L) (hL : L ≤ 2560) : vp_in (nI i + ji) L := by
  rw [ej, nI_add]
  exact nI_in h (by omega)
theorem law_end {xx : Int32} (X : XC E RL cL_law 4 ret (fun q => s.heap.size ≤ q) p s m #[Value.ref b] meth c) : V E 4 (fun q => s.heap.size ≤ q) p l e room_1 s m #[Value.ref b] below meth c 22 8430 (lw_Z below #[Value.ref b] s) 896 (lawL E b xx) [] h := by
  refine V_iconst X (v := 1) (by decide) dL_law_896 ?_
  intro H locs ls hP hD hS hl
  exact va_forget (fun q hq => hS.2.2 q hq) (lw_ret X.1 X.2.1 X.2.2.1 X.2.2.2.2.2.2.1 dL_law_897)
theorem law_loop (hE : IW E) (X : XC E RL cL_law 4 ret (fun q => s.heap.size ≤ q) p s m #[Value.ref b] meth c) (hX : va_X b L xs s s.heap) (hbl : b < s.heap.size) (hL : L ≤ 2560) : ∀ (n i : Nat) (h : Hp) (u : St), L < i + 5 * n → i ≤ 2565 → RC h u → RM h u → SI u → V E 4 (fun q => s.heap.size ≤ q) p l e room_1 s m #[Value.ref b] below meth c 22 8430 (lw_Z below #[Value.ref b] s) 18 (lawL E b (nI i)) [] h := by
  have hbA : ¬ (fun q => s.heap.size ≤ q) b := Nat.not_le.mpr hbl
  have hx0 : ∀ i : Nat, nI i = nI i + 0 := fun i => (Int32.add_zero _).symm
  intro n
  induction n with
  | zero =>
    intro i h u hn hi hC hM hS
    refine V_iload_n X 3 rfl dL_law_18 ?_
    refine V_aload_n X 0 rfl dL_law_19 ?_
    refine V_slen X hX hbl hbA dL_law_20 ?_
    refine V_iconst X (v := 5) (by decide) dL_law_21 ?_
    refine V_isub X dL_law_22 ?_
    refine V_icmp_gt X (tgt := 896) (by decide) dL_law_23 (fun _ => law_end X) (fun w => absurd ((sub5 hL (by omega)).mpr (by omega)) w)
  | succ n ih =>
    intro i h u hn hi hC hM hS
    refine V_iload_n X 3 rfl dL_law_18 ?_
    refine V_aload_n X 0 rfl dL_law_19 ?_
    refine V_slen X hX hbl hbA dL_law_20 ?_
    refine V_iconst X (v := 5) (by decide) dL_law_21 ?_
    refine V_isub X dL_law_22 ?_
    refine V_icmp_gt X (tgt := 896) (by decide) dL_law_23 (fun _ => law_end X) (fun w => ?_)
    have w2 : i + 5 ≤ L := Nat.le_of_not_lt (fun z => w ((sub5 hL (by omega)).mpr z))
    have n890 : ∀ (h' : Hp) (u' : St), RC h' u' → RM h' u' → SI u' → V E 4 (fun q => s.heap.size ≤ q) p l e room_1 s m #[Value.ref b] below meth c 22 8430 (lw_Z below #[Value.ref b] s) 890 (lawL E b (nI i)) [] h' := by
      intro h' u' r1 r2 r3
      have e5 : nI i + 5 = nI (i + 5) := by rw [k_5, nI_add]
      refine V_iinc X (n := 5) (v := nI (i + 5)) 3 rfl (show nI i + Int32.ofInt 5 = nI (i + 5) from e5) (by decide) rfl dL_law_890 ?_
      refine V_goto X (tgt := 18) (by decide) dL_law_893 ?_
      exact V_sub [1, 2, 3, 0] rfl (ih (i + 5) h' u' (by omega) (by omega) r1 r2 r3)
    have h1 := vin (L := L) k_1 (show i + 1 < L by omega) hL
    have h2 := vin (L := L) k_2 (show i + 2 < L by omega) hL
    have h3 := vin (L := L) k_3 (show i + 3 < L by omega) hL
    have h4 := vin (L := L) k_4 (show i + 4 < L by omega) hL
    refine V_aload_n X 0 rfl dL_law_26 ?_
    refine V_iload_n X 3 rfl dL_law_27 ?_
    refine V_sld X hX hbl hbA (nI_in (show i < L by omega) (by omega)) dL_law_28 ?_
    refine V_bipush X (v := 31) (by decide) dL_law_29 ?_
    refine V_iand X dL_law_31 ?_
    obtain ⟨k, hk, ek⟩ := and31_n (xs (Int32.toNatClampNeg (nI i)))
    rw [ek]
    by_cases z0 : k = 0
    · refine V_table X (off := 120) (tgt := 152) (by rw [z0]; decide +kernel) (by decide) (by decide) dL_law_32 ?_
      exact lw_set hE X hX hbl hbA h1 h2 h3 h4 hC hM hS n890
    by_cases z1 : k = 1
    · refine V_table X (off := 153) (tgt := 185) (by rw [z1]; decide +kernel) (by decide) (by decide) dL_law_32 ?_
      exact lw_pattern hE X hX hbl hbA h1 h2 h3 h4 hC hM hS n890
    by_cases z2 : k = 2
    · refine V_table X (off := 186) (tgt := 218) (by rw [z2]; decide +kernel) (by decide) (by decide) dL_law_32 ?_
      exact lw_take hE X hX hbl hbA h1 h2 h3 h4 hC hM hS n890
    by_cases z3 : k = 3
    · refine V_table X (off := 219) (tgt := 251) (by rw [z3]; decide +kernel) (by decide) (by decide) dL_law_32 ?_
      exact lw_fill hE X hX hbl hbA h1 h2 h3 h4 hC hM hS n890
    by_cases z4 : k = 4
    · refine V_table X (off := 252) (tgt := 284) (by rw [z4]; decide +kernel) (by decide) (by decide) dL_law_32 ?_
      exact lw_pour hE X hX hbl hbA h1 h2 h3 h4 hC hM hS n890
    by_cases z5 : k = 5
    · refine V_table X (off := 305) (tgt := 337) (by rw [z5]; decide +kernel) (by decide) (by decide) dL_law_32 ?_
      exact lw_scrape hE X hX hbl hbA h1 h2 h3 h4 hC hM hS n890
    by_cases z6 : k = 6
    · refine V_table X (off := 348) (tgt := 380) (by rw [z6]; decide +kernel) (by decide) (by decide) dL_law_32 ?_
      exact lw_breathe hE X hX hbl hbA h1 h2 h3 h4 hC hM hS n890
    by_cases z7 : k = 7
    · refine V_table X (off := 381) (tgt := 413) (by rw [z7]; decide +kernel) (by decide) (by decide) dL_law_32 ?_
      exact lw_close hE X hX hbl hbA h1 h2 h3 h4 hC hM hS n890
    by_cases z8 : k = 8
    · refine V_table X (off := 394) (tgt := 426) (by rw [z8]; decide +kernel) (by decide) (by decide) dL_law_32 ?_
      exact lw_sweep hE X hX hbl hbA h1 h2 h3 h4 hC hM hS n890
    by_cases z9 : k = 9
    · refine V_table X (off := 407) (tgt := 439) (by rw [z9]; decide +kernel) (by decide) (by decide) dL_law_32 ?_
      exact lw_at hE X hX hbl hbA h1 h2 h3 h4 hC hM hS n890
    by_cases z10 : k = 10
    · refine V_table X (off := 460) (tgt := 492) (by rw [z10]; decide +kernel) (by decide) (by decide) dL_law_32 ?_
      exact lw_ofRing hE X hX hbl hbA h1 h2 h3 h4 hC hM hS n890
    by_cases z11 : k = 11
    · refine V_table X (off := 493) (tgt := 525) (by rw [z11]; decide +kernel) (by decide) (by decide) dL_law_32 ?_
      exact lw_ofQuarter hE X hX hbl hbA h1 h2 h3 h4 hC hM hS n890
    by_cases z12 : k = 12
    · refine V_table X (off := 526) (tgt := 558) (by rw [z12]; decide +kernel) (by decide) (by decide) dL_law_32 ?_
      exact lw_ofColour hE X hX hbl hbA h1 h2 h3 h4 hC hM hS n890
    by_cases z13 : k = 13
    · refine V_table X (off := 559) (tgt := 591) (by rw [z13]; decide +kernel) (by decide) (by decide) dL_law_32 ?_
      exact lw_count hE X hX hbl hbA h1 h2 h3 h4 hC hM hS n890
    by_cases z14 : k = 14
    · refine V_table X (off := 582) (tgt := 614) (by rw [z14]; decide +kernel) (by decide) (by decide) dL_law_32 ?_
      exact lw_needed hE X hX hbl hbA h1 h2 h3 h4 hC hM hS n890
    by_cases z15 : k = 15
    · refine V_table X (off := 605) (tgt := 637) (by rw [z15]; decide +kernel) (by decide) (by decide) dL_law_32 ?_
      exact lw_lacking hE X hX hbl hbA h1 h2 h3 h4 hC hM hS n890
    by_cases z16 : k = 16
    · refine V_table X (off := 618) (tgt := 650) (by rw [z16]; decide +kernel) (by decide) (by decide) dL_law_32 ?_
      exact lw_ifBreathed hE X hX hbl hbA h1 h2 h3 h4 hC hM hS n890
    by_cases z17 : k = 17
    · refine V_table X (off := 661) (tgt := 693) (by rw [z17]; decide +kernel) (by decide) (by decide) dL_law_32 ?_
      exact lw_settles hE X hX hbl hbA h1 h2 h3 h4 hC hM hS n890
    by_cases z18 : k = 18
    · refine V_table X (off := 694) (tgt := 726) (by rw [z18]; decide +kernel) (by decide) (by decide) dL_law_32 ?_
      exact lw_best hE X hX hbl hbA h1 h2 h3 h4 hC hM hS n890
    by_cases z19 : k = 19
    · refine V_table X (off := 707) (tgt := 739) (by rw [z19]; decide +kernel) (by decide) (by decide) dL_law_32 ?_
      exact lw_put hE X hX hbl hbA h1 h2 h3 h4 hC hM hS n890
    by_cases z20 : k = 20
    · refine V_table X (off := 760) (tgt := 792) (by rw [z20]; decide +kernel) (by decide) (by decide) dL_law_32 ?_
      exact lw_wipe hE X hX hbl hbA h1 h2 h3 h4 hC hM hS n890
    by_cases z21 : k = 21
    · refine V_table X (off := 773) (tgt := 805) (by rw [z21]; decide +kernel) (by decide) (by decide) dL_law_32 ?_
      exact lw_fault hE X hX hbl hbA h1 h2 h3 h4 hC hM hS n890
    by_cases z22 : k = 22
    · refine V_table X (off := 786) (tgt := 818) (by rw [z22]; decide +kernel) (by decide) (by decide) dL_law_32 ?_
      exact lw_carryOut hE X hX hbl hbA h1 h2 h3 h4 hC hM hS n890
    by_cases z23 : k = 23
    · refine V_table X (off := 799) (tgt := 831) (by rw [z23]; decide +kernel) (by decide) (by decide) dL_law_32 ?_
      exact lw_undo hE X hX hbl hbA h1 h2 h3 h4 hC hM hS n890
    by_cases z24 : k = 24
    · refine V_table X (off := 812) (tgt := 844) (by rw [z24]; decide +kernel) (by decide) (by decide) dL_law_32 ?_
      exact lw_save hE X hX hbl hbA h1 h2 h3 h4 hC hM hS n890
    by_cases z25 : k = 25
    · refine V_table X (off := 835) (tgt := 867) (by rw [z25]; decide +kernel) (by decide) (by decide) dL_law_32 ?_
      exact lw_restore hE X hX hbl hbA h1 h2 h3 h4 hC hM hS n890
    refine V_table X (off := 858) (tgt := 890) (tsel_out (Or.inr (by rw [nI_toInt (by omega)]; omega))) (by decide) (by decide) dL_law_32 ?_
    exact n890 h u hC hM hS
end LP
