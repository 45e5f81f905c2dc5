theorem is_X9 : Cond.instantiable RX9 11 ∈ TB := tb_1 _ (List.mem_of_getElem? (i := 1) rfl)
theorem is_X10 : Cond.instantiable RX10 46 ∈ TB := tb_1 _ (List.mem_of_getElem? (i := 4) rfl)
theorem ck_L_7 : Cond.classLink RL 7 RX9 ∈ TB := tb_1 _ (List.mem_of_getElem? (i := 0) rfl)
theorem ck_L_10 : Cond.classLink RL 10 RX10 ∈ TB := tb_1 _ (List.mem_of_getElem? (i := 3) rfl)
theorem lk_L_9 : Cond.methodLink RL 9 yX9_init ∈ TB := tb_1 _ (List.mem_of_getElem? (i := 7) rfl)
theorem lk_L_12 : Cond.methodLink RL 12 yX10_init ∈ TB := tb_7 _ (List.mem_of_getElem? (i := 14) rfl)
theorem im_X9_init : Cond.instanceMethod yX9_init ∈ TB := tb_1 _ (List.mem_of_getElem? (i := 8) rfl)
theorem im_X10_init : Cond.instanceMethod yX10_init ∈ TB := tb_7 _ (List.mem_of_getElem? (i := 15) rfl)
theorem co_X9_init : Cond.code yX9_init cX9_init 1 none ∈ TB := tb_1 _ (List.mem_of_getElem? (i := 9) rfl)
theorem co_X10_init : Cond.code yX10_init cX10_init 2 none ∈ TB := tb_7 _ (List.mem_of_getElem? (i := 16) rfl)
theorem gj_X9_init : GoodIn TB (Cond.code yX9_init cX9_init 1 none :: TB) := tb_good (List.forall_mem_cons.mpr ⟨co_X9_init, fun _ h => h⟩)
theorem hd_X9_init : yX9_init.cls ≠ "java/lang/invoke/MethodHandle" ∧ yX9_init.cls ≠ "java/lang/invoke/VarHandle" ∧ (parseMethodDescriptor yX9_init.desc).map (fun d => d.parameters.length) = some 0 := by decide +kernel
theorem gj_X10_init : GoodIn TB (Cond.code yX10_init cX10_init 2 none :: TB) := tb_good (List.forall_mem_cons.mpr ⟨co_X10_init, fun _ h => h⟩)
theorem hd_X10_init : yX10_init.cls ≠ "java/lang/invoke/MethodHandle" ∧ yX10_init.cls ≠ "java/lang/invoke/VarHandle" ∧ (parseMethodDescriptor yX10_init.desc).map (fun d => d.parameters.length) = some 0 := by decide +kernel
theorem pa_P {D : va_G} {cl : List vw_C} {w1 w2 : va_W} {H : Heap} (hP : va_P D cl (w1 ++ w2) H) : va_P D cl w1 H ∧ va_P D cl w2 H := by
  refine ⟨fun k q hk => hP k q ?_, fun k q hk => hP (w1.length + k) q ?_⟩
  · rw [List.getElem?_append_left (List.getElem?_eq_some_iff.mp hk).1]; exact hk
  · rw [List.getElem?_append_right (Nat.le_add_right _ _), Nat.add_sub_cancel_left]; exact hk
theorem pa_D {A : Nat → Prop} {w1 w2 : va_W} (hD : va_D A (w1 ++ w2)) : va_D A w1 ∧ va_D A w2 ∧ ∀ (i j : Nat) (p q : Nat × va_E), w1[i]? = some p → w2[j]? = some q → p.1 ≠ q.1 := by
  have e1 : ∀ (k : Nat) (q : Nat × va_E), w1[k]? = some q → (w1 ++ w2)[k]? = some q := fun k q hk => by rw [List.getElem?_append_left (List.getElem?_eq_some_iff.mp hk).1]; exact hk
  have e2 : ∀ (k : Nat) (q : Nat × va_E), w2[k]? = some q → (w1 ++ w2)[w1.length + k]? = some q := fun k q hk => by rw [List.getElem?_append_right (Nat.le_add_right _ _), Nat.add_sub_cancel_left]; exact hk
  refine ⟨⟨fun i j p q hp hq => hD.1 i j p q (e1 _ _ hp) (e1 _ _ hq), fun k q hk => hD.2 _ _ (e1 _ _ hk)⟩, ⟨fun i j p q hp hq e => ?_, fun k q hk => hD.2 _ _ (e2 _ _ hk)⟩, fun i j p q hp hq e => ?_⟩
  · have := hD.1 _ _ p q (e2 _ _ hp) (e2 _ _ hq) e
    omega
  · have h1 := hD.1 _ _ p q (e1 _ _ hp) (e2 _ _ hq) e
    have h2 := (List.getElem?_eq_some_iff.mp hp).1
    omega
theorem pa_f {A : Nat → Prop} {k : Nat → Nat × ClassId} {k2 : Nat → ClassId} {h h2 : Nat → Nat} {st st2 : rs_T} (hD : va_D A (wdC k h st ++ wdM k2 h2 st2)) : lg_f k h h2 A := by
  obtain ⟨d1, d2, d3⟩ := pa_D hD
  refine ⟨(pq_C d1).1, (pq_C d1).2, (pq_M d2).1, (pq_M d2).2, fun i j hi hj e => ?_⟩
  obtain ⟨q1, e1, f1⟩ := pe_C k h st i hi
  obtain ⟨q2, e2, f2⟩ := pe_M k2 h2 st2 j hj
  exact d3 i j q1 q2 e1 e2 (by rw [f1, f2, e])
set_option maxHeartbeats 4000000 in
set_option maxRecDepth 100000 in
theorem whole_of {p : Program} {e : Env} {s : State} {m : MethodId} {below : List Frame} {meth : Method} {c : Code} (l : Launch) {b L : Nat} {xs : Nat → Int32} (hL : L ≤ 2048) (C0 : lw_At p s m meth c b L xs) {N : Nat} {S : Nat → rs_T → rs_T → Prop} (hs : sm_ok N S) : W p l e room_1 s m #[Value.ref b] below meth c s.heap [] 0 0 (lw_Z below #[Value.ref b] s) (entryFrame m ([Value.ref b] : List Value).toArray 4) := by
  obtain ⟨hx, hb, hr, hml, hown, hts0, hX, hbl, hlk, hgv⟩ := id C0
  have hown : s.vm.findClass RL = some m.cls := hown
  have hts : ∀ w ∈ TB, w.before #[Value.ref b] s = true := fun w hw => hts0 w (tl_TB w hw)
  have hA : ∀ q : Nat, s.heap.size ≤ q → (fun q : Nat => s.heap.size ≤ q) q := fun _ h => h
  have hN1 : va_Nw (Cond.methodLinkNest RX8 44 yX9_isWithin "RegisterMachine") s := va_Nw.of rfl (hts0 _ tl_n1)
  have hN2 : va_Nw (Cond.methodLinkNest RX9 11 yX3_init "RegisterMachine") s := va_Nw.of rfl (hts0 _ tl_n2)
  have hNC : ∀ w ∈ nwC, va_Nw w s := List.forall_mem_cons.mpr ⟨hN1, fun _ h => absurd h List.not_mem_nil⟩
  obtain ⟨cc0, ii0, hKn0⟩ := u_known (C := RX0) (T := TX0) (N := 17) (n := 17) hts inlX0 (hts _ is_X0)
  obtain ⟨cc1, ii1, hKn1⟩ := u_known (C := RX1) (T := TX1) (N := 10) (n := 10) hts inlX1 (hts _ is_X1)
  obtain ⟨cc2, ii2, hKn2⟩ := u_known (C := RX3) (T := TX3) (N := 16) (n := 16) hts inlX3 (hts _ is_X3)
  obtain ⟨cc3, ii3, hKn3⟩ := u_known (C := RX4) (T := TX4) (N := 9) (n := 9) hts inlX4 (hts _ is_X4)
  obtain ⟨cc4, ii4, hKn4⟩ := u_known (C := RX5) (T := TX5) (N := 4) (n := 4) hts inlX5 (hts _ is_X5)
  obtain ⟨cc5, ii5, hKn5⟩ := u_known (C := RX6) (T := TX6) (N := 3) (n := 3) hts inlX6 (hts _ is_X6)
  obtain ⟨cc6, ii6, hKn6⟩ := u_known (C := RX7) (T := TX7) (N := 4) (n := 4) hts inlX7 (hts _ is_X7)
  obtain ⟨cc7, ii7, hKn7⟩ := u_known (C := RX8) (T := TX8) (N := 7) (n := 7) hts inlX8 (hts _ is_X8)
  obtain ⟨cc8, ii8, hKn8⟩ := u_known (C := RX9) (T := TX9) (N := 11) (n := 11) hts inlX9 (hts _ is_X9)
  obtain ⟨cc9, ii9, hKn9⟩ := u_known (C := RX10) (T := TX10) (N := 46) (n := 46) hts inlX10 (hts _ is_X10)
  obtain ⟨D, hKc⟩ : ∃ D : va_G, ∀ (k : Nat) (q : vw_C), vwCl[k]? = some q → u_Kn s q.1 q.2.1 q.2.2 (D.1 k) (D.2 k) := by
    refine ⟨(fun k => [cc0, cc1, cc2, cc3, cc4, cc5, cc6, cc7, cc8, cc9].getD k cc0, fun k => [ii0, ii1, ii2, ii3, ii4, ii5, ii6, ii7, ii8, ii9].getD k ii0), ?_⟩
    intro k q hq
    match k, hq with
    | 0, hq => cases hq; exact hKn0
    | 1, hq => cases hq; exact hKn1
    | 2, hq => cases hq; exact hKn2
    | 3, hq => cases hq; exact hKn3
    | 4, hq => cases hq; exact hKn4
    | 5, hq => cases hq; exact hKn5
    | 6, hq => cases hq; exact hKn6
    | 7, hq => cases hq; exact hKn7
    | 8, hq => cases hq; exact hKn8
    | 9, hq => cases hq; exact hKn9
    | k + 10, hq => simp [vwCl] at hq
  have hS : va_S (fun q : Nat => s.heap.size ≤ q) s.heap s.heap [] := va_S.rf
  have hK : va_K D vwCl [] s := ⟨hKc, fun k q h => by simp at h⟩
  have hP : va_P D vwCl [] s.heap := fun k q h => by simp at h
  have hD : va_D (fun q : Nat => s.heap.size ≤ q) [] := ⟨fun i j p q h => by simp at h, fun k q h => by simp at h⟩
  have hl := lv_entry ([.ref b]) (n := 4) (Nat.le_of_ble_eq_true rfl)
  rw [lg_entry_eq]
  generalize (lg_sl ([.ref b]) ++ List.replicate (4 - (lg_sl ([.ref b])).length) Slot.unset).toArray = ls at hl ⊢
  have hl : lv_has ls 4 [(0, .ref b)] := hl
  refine va_new (ci := 8) (fs := [.null, .null, .null, .null, .null, .null, .null, .null, .null, .int 0, .int 0]) (C := RX9) (T := TX9) (N := 11) hx hb hts inlX9 tyX9 tyX9_ok hown (hts _ ck_L_7) (hts _ is_X9) (hts _ in_X9) hK hP hD hS hA rfl df_X9 (Nat.le_of_ble_eq_true rfl) (Nat.le_of_ble_eq_true rfl) dL_law_0 (fun q0 H hP hD hS => ?_)
  have hP : va_P D vwCl [(q0, .inr (8, [.null, .null, .null, .null, .null, .null, .null, .null, .null, .int 0, .int 0]))] H := hP
  have hD : va_D (fun q : Nat => s.heap.size ≤ q) [(q0, .inr (8, [.null, .null, .null, .null, .null, .null, .null, .null, .null, .int 0, .int 0]))] := hD
  refine W.widen (k := 1) (n := 11) (Nat.le_of_ble_eq_true rfl) (Nat.le_of_ble_eq_true rfl) ?_
  refine lv_dup hx hb dL_law_3 rfl ?_
  have hPc := hP.sub (ws' := [(q0, .inr (8, [.null, .null, .null, .null, .null, .null, .null, .null, .null, .int 0, .int 0]))]) [0] rfl
  have hDc := hD.sub (ws' := [(q0, .inr (8, [.null, .null, .null, .null, .null, .null, .null, .null, .null, .int 0, .int 0]))]) [0] (by decide) rfl
  have hKc := hK.sub (tys' := []) [] rfl
  have hFc := va_free (wc := [(q0, .inr (8, [.null, .null, .null, .null, .null, .null, .null, .null, .null, .int 0, .int 0]))]) hD hS hA [0] rfl
  refine va_callv (va_runI (As := []) (rest := [.ref q0]) ⟨hx, hb, hml, hown, hts⟩ (kn_Ma l D q0 H.size) (cwI 0 hts gj_X9_init rfl rfl rfl (hts _ in_X9) (hts _ lk_L_9) (hts _ im_X9_init) rfl hd_X9_init ⟨Nat.le_of_ble_eq_true rfl, Nat.le_of_ble_eq_true rfl⟩) ⟨nb_Ma, fun U hU hW => ⟨rfl, by rw [hU], by rw [hU]; exact hPc, va_K.moved hW.alike hKc, hDc.weaken (fun _ _ _ _ => trivial), va_Nw.warmM hW hN2⟩⟩ rfl rfl hl.1 rfl (lv_room (Nat.le_of_ble_eq_true rfl)) dL_law_4 ⟨Nat.le_of_ble_eq_true rfl, Nat.le_of_ble_eq_true rfl⟩) hS (fun q _ h => hFc q h) hFc (fun u t H1 locs ht hvm hw hB hz1 hk1 hS => ?_)
  obtain ⟨hP1, hK1, hD1⟩ := hB
  rw [ht] at hP1
  have hK1 := va_K.moved hvm.symm hK1
  subst hw
  obtain ⟨hP, hD⟩ := va_join (wr := []) (w1 := wdC u.2 u.1 i0_C) hP hD [0] [] rfl rfl (by decide) (by decide) hk1 hFc hP1 hD1
  generalize H1 = H at hP hS ⊢
  have hP : va_P D vwCl (wdC u.2 u.1 i0_C) H := hP
  have hD : va_D (fun q : Nat => s.heap.size ≤ q) (wdC u.2 u.1 i0_C) := hD
  have hKC : va_K D vwCl (tyC u.2) s := hK1
  refine W.widen (k := 44) (n := 2101) (Nat.le_of_ble_eq_true rfl) (Nat.le_of_ble_eq_true rfl) ?_
  refine lv_astore_n (lv' := [(1, .ref (u.1 0)), (0, .ref b)]) hx hb dL_law_7 rfl hl (by decide) rfl (fun ls hl => ?_)
  refine va_new (ci := 9) (fs := [.int 0, .int 0, .int 0, .null, .null, .null, .null, .null, .null, .null, .null, .null, .null, .int 0, .int 0, .int 0, .int 0, .null, .null, .null, .null, .null, .null, .null, .null, .null, .int 0, .int 0, .int 0, .int 0, .int 0, .int 0, .int 0, .int 0, .int 0, .null, .null, .null, .null, .null, .int 0, .int 0, .int 0, .null, .null, .null]) (C := RX10) (T := TX10) (N := 46) hx hb hts inlX10 tyX10 tyX10_ok hown (hts _ ck_L_10) (hts _ is_X10) (hts _ in_X10) hK hP hD hS hA rfl df_X10 (Nat.le_of_ble_eq_true rfl) (Nat.le_of_ble_eq_true rfl) dL_law_8 (fun q1 H hP hD hS => ?_)
  refine W.widen (k := 45) (n := 2147) (Nat.le_of_ble_eq_true rfl) (Nat.le_of_ble_eq_true rfl) ?_
  refine lv_dup hx hb dL_law_11 rfl ?_
  have hPc := hP.sub (ws' := [(q1, .inr (9, [.int 0, .int 0, .int 0, .null, .null, .null, .null, .null, .null, .null, .null, .null, .null, .int 0, .int 0, .int 0, .int 0, .null, .null, .null, .null, .null, .null, .null, .null, .null, .int 0, .int 0, .int 0, .int 0, .int 0, .int 0, .int 0, .int 0, .int 0, .null, .null, .null, .null, .null, .int 0, .int 0, .int 0, .null, .null, .null]))]) [44] rfl
  have hDc := hD.sub (ws' := [(q1, .inr (9, [.int 0, .int 0, .int 0, .null, .null, .null, .null, .null, .null, .null, .null, .null, .null, .int 0, .int 0, .int 0, .int 0, .null, .null, .null, .null, .null, .null, .null, .null, .null, .int 0, .int 0, .int 0, .int 0, .int 0, .int 0, .int 0, .int 0, .int 0, .null, .null, .null, .null, .null, .int 0, .int 0, .int 0, .null, .null, .null]))]) [44] (by decide) rfl
  have hFc := va_free (wc := [(q1, .inr (9, [.int 0, .int 0, .int 0, .null, .null, .null, .null, .null, .null, .null, .null, .null, .null, .int 0, .int 0, .int 0, .int 0, .null, .null, .null, .null, .null, .null, .null, .null, .null, .int 0, .int 0, .int 0, .int 0, .int 0, .int 0, .int 0, .int 0, .int 0, .null, .null, .null, .null, .null, .int 0, .int 0, .int 0, .null, .null, .null]))]) hD hS hA [44] rfl
  refine va_callv (va_runI (As := []) (rest := [.ref q1]) ⟨hx, hb, hml, hown, hts⟩ (kn_Md l D q1 H.size) (cwI 0 hts gj_X10_init rfl rfl rfl (hts _ in_X10) (hts _ lk_L_12) (hts _ im_X10_init) rfl hd_X10_init ⟨Nat.le_of_ble_eq_true rfl, Nat.le_of_ble_eq_true rfl⟩) ⟨nb_Md, fun U hU hW => ⟨rfl, by rw [hU], by rw [hU]; exact hPc, va_K.moved hW.alike hKc, hDc.weaken (fun _ _ _ _ => trivial)⟩⟩ rfl rfl hl.1 rfl (lv_room (Nat.le_of_ble_eq_true rfl)) dL_law_12 ⟨Nat.le_of_ble_eq_true rfl, Nat.le_of_ble_eq_true rfl⟩) hS (fun q _ h => hFc q h) hFc (fun v t H1 locs ht hvm hw hB hz1 hk1 hS => ?_)
  obtain ⟨hP1, hK1, hD1⟩ := hB
  rw [ht] at hP1
  have hKM : va_K D vwCl (tyM v.2) s := va_K.moved hvm.symm hK1
  subst hw
  obtain ⟨hP, hD⟩ := va_join (wr := wdC u.2 u.1 i0_C) (w1 := wdM v.2 v.1 i0_M) hP hD [44] [0, 1, 2, 3, 4, 5, 6, 7, 8, 9, 10, 11, 12, 13, 14, 15, 16, 17, 18, 19, 20, 21, 22, 23, 24, 25, 26, 27, 28, 29, 30, 31, 32, 33, 34, 35, 36, 37, 38, 39, 40, 41, 42, 43] rfl rfl (by decide) (by decide) hk1 hFc hP1 hD1
  generalize H1 = H at hP hS ⊢
  refine W.widen (k := 72 + i0_C.2.2.2 4) (n := 18704 + i0_C.2.2.2 5) (Nat.le_of_ble_eq_true rfl) (Nat.le_of_ble_eq_true rfl) ?_
  refine lv_astore_n (lv' := [(2, .ref (v.1 0)), (1, .ref (u.1 0)), (0, .ref b)]) hx hb dL_law_15 rfl hl (by decide) rfl (fun ls hl => ?_)
  refine lv_iconst (v := 0) hx hb dL_law_16 (by decide) ?_
  refine lv_istore_n (lv' := [(3, .int 0), (2, .ref (v.1 0)), (1, .ref (u.1 0)), (0, .ref b)]) hx hb dL_law_17 rfl hl (by decide) rfl (fun ls hl => ?_)
  exact law_loop l hL hx hb hr hml hown hts hX hbl hlk hKM hNC hs (L + 5) 0 0 u.2 i0_C i0_M H locs ls (by omega) (Nat.zero_le L) nI_0.symm hs.2.2.2.2.2.2.2.2.2.2.2.2.2.2 ⟨(pa_P hP).1, (pa_P hP).2, hS, pa_f hD, hKC, z0_C, ⟨Nat.zero_le _, Nat.le_of_ble_eq_true rfl, Nat.zero_le _, Nat.le_of_ble_eq_true rfl⟩⟩ (lv_sub hl [0, 3, 2, 1] rfl)
