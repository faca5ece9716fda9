/-! the law, from its entry -/
theorem wl_Ma : Cond.code yX7_init cX7_init 1 none ∈ LW ∧ Cond.initialized RX7 ∈ LW ∧ Cond.instanceMethod yX7_init ∈ LW ∧ Cond.classLink RL 10 RX7 ∈ LW ∧ Cond.instantiable RX7 5 ∈ LW ∧ Cond.methodLink RL 76 yX7_init ∈ LW := by decide +kernel
theorem nd_Ma : yX7_init.cls ≠ "java/lang/invoke/MethodHandle" ∧ yX7_init.cls ≠ "java/lang/invoke/VarHandle" ∧ (parseMethodDescriptor yX7_init.desc).map (fun d => d.parameters.length) = some 0 := by decide +kernel
/-- the first picture: the two states' digits, the model's, nothing else -/
def hp0 (g1 g2 : Hp) : Hp := fun c => if c = 2 then g1 2 else if c = 4 then g2 2 else (fun _ => 0)
theorem hp0_RC {g1 g2 : Hp} (h : CR g1 1 s0.g) : RC (hp0 g1 g2) s0 := RC_0 h (fun _ => rfl) (fun _ => rfl)
set_option maxHeartbeats 8000000 in
/-- THE LAW, from its entry -/
theorem whole_start {p : Program} {e : Env} {s : State} {m : MethodId} {below : List Frame} {meth : Method} {c : Code} (l : Launch) (hflags : l.flags = flags0) {b L : Nat} {xs : Nat → Int32} (hL : L ≤ 260) (C0 : lw_At p s m meth c b L xs) : W p l e room_1 s m #[Value.ref b] below meth c s.heap [] 0 0 (lw_Z below #[Value.ref b] s) (entryFrame m ([Value.ref b] : List Value).toArray 5) := by
  obtain ⟨hx, hb, hr, hml, hown, hts0, hX, hbl, hlk, hgv⟩ := id C0
  obtain ⟨D, cI, cZ, cC, t, K, KV, hK0⟩ := law_CP hts0 hgv
  have hts : ∀ w ∈ LW, w.before #[Value.ref b] s = true := fun w hw => hts0 w (List.mem_filter.mp hw).1
  have hK : CP (EZ D cI cZ cC t K KV (fun _ => 0) (fun _ => [])) (fun q => s.heap.size ≤ q) s := hK0 _ _
  have hown : s.vm.findClass RL = some m.cls := hown
  generalize hAe : (fun q : Nat => s.heap.size ≤ q) = A at hK
  have hA : ∀ q : Nat, s.heap.size ≤ q → A q := fun q h => by rw [← hAe]; exact h
  have hS : va_S A s.heap s.heap [] := va_S.rf
  have hP : va_P D vwCl [] s.heap := fun k q h => by simp at h
  have hD : va_D A [] := ⟨fun i j p q h => by simp at h, fun k q h => by simp at h⟩
  have hl := lv_entry ([.ref b]) (n := 5) (Nat.le_of_ble_eq_true rfl)
  rw [lg_entry_eq]
  generalize (lg_sl ([.ref b]) ++ List.replicate (5 - (lg_sl ([.ref b])).length) Slot.unset).toArray = ls at hl ⊢
  have hl : lv_has ls 5 [(0, .ref b)] := hl
  refine va_new (ci := 4) (fs := [.null, .null, .null, .null, .null]) (C := RX7) (T := TX7) (N := 5) hx hb hts inW_X7 tyX7 tyX7_ok hown (hts _ wl_Ma.2.2.2.1) (hts _ wl_Ma.2.2.2.2.1) (hts _ wl_Ma.2.1) hK.1 hP hD hS hA rfl (fun j hj => by rcases (show j = 0 ∨ j = 1 ∨ j = 2 ∨ j = 3 ∨ j = 4 by omega) with rfl | rfl | rfl | rfl | rfl <;> rfl) (Nat.le_of_ble_eq_true rfl) (Nat.le_of_ble_eq_true rfl) dL_law_0 (fun k0 H0 hP hD hS => ?_)
  have hP : va_P D vwCl [(k0, .inr (4, [.null, .null, .null, .null, .null]))] H0 := hP
  have hD : va_D A [(k0, .inr (4, [.null, .null, .null, .null, .null]))] := hD
  refine W.widen (k := 1) (n := 5) (Nat.le_of_ble_eq_true rfl) (Nat.le_of_ble_eq_true rfl) ?_
  refine lv_dup hx hb dL_law_3 rfl ?_
  have hPc := hP.sub (ws' := [(k0, .inr (4, [.null, .null, .null, .null, .null]))]) [0] rfl
  have hDc := hD.sub (ws' := [(k0, .inr (4, [.null, .null, .null, .null, .null]))]) [0] (by decide) rfl
  have hFc := va_free (wc := [(k0, .inr (4, [.null, .null, .null, .null, .null]))]) hD hS hA [0] rfl
  refine va_callv (va_runI (As := []) (rest := [.ref k0]) ⟨hx, hb, hml, hown, hts⟩ (c_Mandalas l D cI cZ cC t K KV k0 H0.size) ⟨callB_of 0 hts (LW_goodC wl_Ma.1) rfl (rfl : RMa.cells = 11) (rfl : RMa.slots = 3891) (hts _ wl_Ma.2.1) (hts _ wl_Ma.2.2.2.2.2) nd_Ma ⟨Nat.le_of_ble_eq_true rfl, Nat.le_of_ble_eq_true rfl⟩, rfl, hts _ wl_Ma.2.2.1⟩ ⟨fun a U g mk q => ⟨q.1, q.2.1, q.2.2.1, CP.blind g mk q.2.2.2.1, q.2.2.2.2⟩, fun U hU hW => ⟨rfl, by rw [hU], by rw [hU]; exact hPc, CP.warm (H0 := H0) hK hW (by rw [hU]; exact hS) hFc, hDc.weaken (fun _ _ _ _ => trivial)⟩⟩ rfl rfl hl.1 rfl (lv_room (Nat.le_of_ble_eq_true rfl)) dL_law_4 ⟨Nat.le_of_ble_eq_true rfl, Nat.le_of_ble_eq_true rfl⟩) hS (fun q _ h => hFc q h) hFc (fun u tt H0c locs0 ht hvm hw0 hB hz1 hk1 hS => ?_)
  obtain ⟨a0, g1, g2⟩ := u
  obtain ⟨hP1, hD1⟩ := hB
  rw [ht] at hP1
  obtain ⟨hP, hD⟩ := va_join (wr := []) (w1 := wMa cI k0 a0 g1 g2) hP hD [0] [] rfl rfl (by decide) (by decide) hk1 hFc hP1 hD1
  have hP : va_P D vwCl (wMa cI k0 a0 g1 g2) H0c := hP
  have hD : va_D A (wMa cI k0 a0 g1 g2) := hD
  refine W.widen (k := 12) (n := 3896) (Nat.le_of_ble_eq_true rfl) (Nat.le_of_ble_eq_true rfl) ?_
  refine lv_astore_n (lv' := [(1, .ref k0), (0, .ref b)]) hx hb dL_law_7 rfl hl (by decide) rfl (fun ls hl => ?_)
  have hP : va_P D vwCl (wld (EZ D cI cZ cC t K KV (fun n => if n = 0 then k0 else a0 n) (fun h => full (EZ D cI cZ cC t K KV (fun n => if n = 0 then k0 else a0 n) (fun _ => [])) h)) (hp0 g1 g2)) H0c := hP
  have hD : va_D A (wld (EZ D cI cZ cC t K KV (fun n => if n = 0 then k0 else a0 n) (fun h => full (EZ D cI cZ cC t K KV (fun n => if n = 0 then k0 else a0 n) (fun _ => [])) h)) (hp0 g1 g2)) := hD
  have X : XC (EZ D cI cZ cC t K KV (fun n => if n = 0 then k0 else a0 n) (fun h => full (EZ D cI cZ cC t K KV (fun n => if n = 0 then k0 else a0 n) (fun _ => [])) h)) RL cL_law 5 ret A p s m #[Value.ref b] meth c := ⟨hx, hb, hr, hml, hown, hts, hlk, by rw [← hAe]; exact hK0 _ _, hA⟩
  subst hAe
  obtain ⟨hq, elaw⟩ := law_g (L := L) (xs := xs) (hp0_RC (g2 := g2) hw0.1)
  have K := fL_law_e_ok (l := l) (e := e) (below := below) (E := (EZ D cI cZ cC t K KV (fun n => if n = 0 then k0 else a0 n) (fun h => full (EZ D cI cZ cC t K KV (fun n => if n = 0 then k0 else a0 n) (fun _ => [])) h))) (fun _ => rfl) hX hbl (Nat.not_le.mpr hbl) hL X elaw
  exact K H0c locs0 ls hP hD hS (lv_sub hl [1, 0] rfl)
