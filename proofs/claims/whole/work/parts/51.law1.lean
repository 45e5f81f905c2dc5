theorem pd_C {A : Nat → Prop} {k : Nat → Nat × ClassId} {h : Nat → Nat} {st : rs_T} (hi : ∀ i j, i < 44 → j < 44 → adC k h i = adC k h j → i = j) (ha : ∀ i, i < 44 → A (adC k h i)) : va_D A (wdC k h st) := by
  refine ⟨fun i j p q hp hq e => ?_, fun i q hq => ?_⟩
  · have h1 := adrC k h st i p hp
    have h2 := adrC k h st j q hq
    exact hi i j h1.1 h2.1 (by rw [← h1.2, ← h2.2]; exact e)
  · have h1 := adrC k h st i q hq
    rw [h1.2]; exact ha i h1.1
theorem pq_C {A : Nat → Prop} {k : Nat → Nat × ClassId} {h : Nat → Nat} {st : rs_T} (hD : va_D A (wdC k h st)) : (∀ i j, i < 44 → j < 44 → adC k h i = adC k h j → i = j) ∧ ∀ i, i < 44 → A (adC k h i) := by
  refine ⟨fun i j hi hj e => ?_, fun i hi => ?_⟩
  · obtain ⟨q1, e1, f1⟩ := pe_C k h st i hi
    obtain ⟨q2, e2, f2⟩ := pe_C k h st j hj
    exact hD.1 i j q1 q2 e1 e2 (by rw [f1, f2, e])
  · obtain ⟨q1, e1, f1⟩ := pe_C k h st i hi
    rw [← f1]; exact hD.2 i q1 e1
theorem pk_C {D : va_G} {k : Nat → Nat × ClassId} {h : Nat → Nat} {st : rs_T} {H H1 : Heap} (hP : va_P D vwCl (wdC k h st) H) (hk : ∀ i, i < 44 → H1[adC k h i]? = H[adC k h i]?) : va_P D vwCl (wdC k h st) H1 := by
  intro i q hq
  have h1 := adrC k h st i q hq
  exact (hP i q hq).kept (by rw [h1.2]; exact hk i h1.1)
theorem pl_C {D : va_G} {k : Nat → Nat × ClassId} {h : Nat → Nat} {st : rs_T} {H : Heap} (hP : va_P D vwCl (wdC k h st) H) (i : Nat) (hi : i < 44) : adC k h i < H.size := by
  obtain ⟨q, e, f⟩ := pe_C k h st i hi
  have h1 := hP i q e
  rw [← f]
  unfold va_at at h1
  rcases hq : q.2 with a | a
  · rw [hq] at h1
    exact (Array.getElem?_eq_some_iff.mp h1).1
  · rw [hq] at h1
    obtain ⟨r, -, cell, h2, -⟩ := h1
    exact (Array.getElem?_eq_some_iff.mp h2).1
theorem pd_M {A : Nat → Prop} {k : Nat → ClassId} {h : Nat → Nat} {st : rs_T} (hi : ∀ i j, i < 28 → j < 28 → h i = h j → i = j) (ha : ∀ i, i < 28 → A (h i)) : va_D A (wdM k h st) := by
  refine ⟨fun i j p q hp hq e => ?_, fun i q hq => ?_⟩
  · have h1 := adrM k h st i p hp
    have h2 := adrM k h st j q hq
    exact hi i j h1.1 h2.1 (by rw [← h1.2, ← h2.2]; exact e)
  · have h1 := adrM k h st i q hq
    rw [h1.2]; exact ha i h1.1
theorem pe_M (k : Nat → ClassId) (h : Nat → Nat) (st : rs_T) (i : Nat) (hi : i < 28) : ∃ q : Nat × va_E, (wdM k h st)[i]? = some q ∧ q.1 = h i := by
  have hl : i < (wdM k h st).length := hi
  refine ⟨(wdM k h st)[i], List.getElem?_eq_getElem hl, ?_⟩
  exact (adrM k h st i _ (List.getElem?_eq_getElem hl)).2
theorem pq_M {A : Nat → Prop} {k : Nat → ClassId} {h : Nat → Nat} {st : rs_T} (hD : va_D A (wdM k h st)) : (∀ i j, i < 28 → j < 28 → h i = h j → i = j) ∧ ∀ i, i < 28 → A (h i) := by
  refine ⟨fun i j hi hj e => ?_, fun i hi => ?_⟩
  · obtain ⟨q1, e1, f1⟩ := pe_M k h st i hi
    obtain ⟨q2, e2, f2⟩ := pe_M k h st j hj
    exact hD.1 i j q1 q2 e1 e2 (by rw [f1, f2, e])
  · obtain ⟨q1, e1, f1⟩ := pe_M k h st i hi
    rw [← f1]; exact hD.2 i q1 e1
theorem pk_M {D : va_G} {k : Nat → ClassId} {h : Nat → Nat} {st : rs_T} {H H1 : Heap} (hP : va_P D vwCl (wdM k h st) H) (hk : ∀ i, i < 28 → H1[h i]? = H[h i]?) : va_P D vwCl (wdM k h st) H1 := by
  intro i q hq
  have h1 := adrM k h st i q hq
  exact (hP i q hq).kept (by rw [h1.2]; exact hk i h1.1)
theorem pl_M {D : va_G} {k : Nat → ClassId} {h : Nat → Nat} {st : rs_T} {H : Heap} (hP : va_P D vwCl (wdM k h st) H) (i : Nat) (hi : i < 28) : h i < H.size := by
  obtain ⟨q, e, f⟩ := pe_M k h st i hi
  have h1 := hP i q e
  rw [← f]
  unfold va_at at h1
  rcases hq : q.2 with a | a
  · rw [hq] at h1
    exact (Array.getElem?_eq_some_iff.mp h1).1
  · rw [hq] at h1
    obtain ⟨r, -, cell, h2, -⟩ := h1
    exact (Array.getElem?_eq_some_iff.mp h2).1
def lg_f (k : Nat → Nat × ClassId) (h h2 : Nat → Nat) (A : Nat → Prop) : Prop := (∀ i j, i < 44 → j < 44 → adC k h i = adC k h j → i = j) ∧ (∀ i, i < 44 → A (adC k h i)) ∧ (∀ i j, i < 28 → j < 28 → h2 i = h2 j → i = j) ∧ (∀ i, i < 28 → A (h2 i)) ∧ ∀ i j, i < 44 → j < 28 → adC k h i ≠ h2 j
def lg_g (D : va_G) (s : State) (k : Nat → Nat × ClassId) (k2 : Nat → ClassId) (h h2 : Nat → Nat) (A : Nat → Prop) (H : Heap) (locs : List Loc) (st st2 : rs_T) : Prop := va_P D vwCl (wdC k h st) H ∧ va_P D vwCl (wdM k2 h2 st2) H ∧ va_S A s.heap H locs ∧ lg_f k h h2 A ∧ va_K D vwCl (tyC k) s ∧ zL st ∧ vA (fun _ => 0) st.2.2.2
section LAWR
variable {p : Program} {l : Launch} {e : Env} {s : State} {m : MethodId} {args : Array Value} {below : List Frame} {meth : Method} {c : Code} {H : Heap} {locs : List Loc} {Q : State → Prop} {cc : ByteArray} {pc nL : Nat} {own : String} {ls : Array Slot} {D : va_G} {k : Nat → Nat × ClassId} {k2 : Nat → ClassId} {h h2 : Nat → Nat} {st st2 : rs_T} {A : Nat → Prop}
theorem lc_iC (hx : p.tables.exec = Jvm.exec) (hb : c.code = cc) (hml : c.maxLocals = nL) (hown : s.vm.findClass own = some m.cls) (hts : ∀ w ∈ TB, w.before args s = true) (hN : ∀ w ∈ nwC, va_Nw w s) (hA : ∀ q, s.heap.size ≤ q → A q) {lv : List (Nat × Value)} (hl : lv_has ls nL lv) (G : lg_g D s k k2 h h2 A H locs st st2) {As rest st0 : List Value} {y : MethodName} {bytes : ByteArray} {maxL : Nat} {ty : FieldType} {rm : Room} {r : Int32} {s1 : rs_T} (con : mIC l D k h y bytes maxL ty rm (.ref (h 0) :: As) st r s1) {idx : Nat} {Cn : String} (gi : GoodIn TB (wsV own idx Cn y (.code y bytes maxL (some ty) :: TB))) {ci Nf : Nat} {T : u_T} {fs : List Value} (hw : (wdC k h st)[0]? = some (h 0, .inr (ci, fs))) (hcl : vwCl[ci]? = some (Cn, T, Nf)) {n : Nat} (hd : y.cls = Cn ∧ y.cls ≠ "java/lang/invoke/MethodHandle" ∧ y.cls ≠ "java/lang/invoke/VarHandle" ∧ (parseMethodDescriptor y.desc).map (fun d => d.parameters.length) = some n) (hR : rm.frames + 1 ≤ room_1.frames ∧ 8 + (maxL + 11) + rm.locals ≤ room_1.locals) (hn : As.length = n) (hst : st0 = As.reverse ++ .ref (h 0) :: rest) (hroom : (rest.map fun v => v.category).sum ≤ 8) (hdg : decode cc pc = .ok (.invokevirtual idx, 3)) (kk : ∀ (k1 : Nat → Nat × ClassId) (H1 : Heap) (locs1 : List Loc), lg_g D s k1 k2 h h2 A H1 locs1 s1 st2 → W p l e room_1 s m args below meth c H1 locs1 (72 + s1.2.2.2 4) (18704 + s1.2.2.2 5) Q (F0 m (pc + 3) ls (.int r :: rest))) : W p l e room_1 s m args below meth c H locs (72 + st.2.2.2 4) (18704 + st.2.2.2 5) Q (F0 m pc ls st0) := by
  obtain ⟨hP, hP2, hS, F, hKC, hZ, hV⟩ := G
  have hV0 := hV
  unfold vA at hV0
  have hDc : va_D (fun _ => True) (wdC k h st) := pd_C F.1 (fun _ _ => trivial)
  have hF : ∀ q, arC k h H.size q → A q := fun q hq => hq.elim (fun ⟨j, hj, e⟩ => by rw [e]; exact F.2.1 j hj) (fun x => hA q (Nat.le_trans hS.1 x))
  refine va_calli (va_runV (As := As) (rest := rest) ⟨hx, hb, hml, hown, hts⟩ (con.2.2 H.size) (cwV n hts gi rfl con.1 con.2.1 hd hR) ⟨blindC, va_recv hKC hP hcl hw, fun U hU hW => ⟨rfl, by rw [hU], by rw [hU]; exact hP, va_K.moved hW.alike hKC, fun w hw => nwwmC w hw hW (hN w hw), hDc, hZ, rfl⟩⟩ rfl hn hl.1 hst (lv_room hroom) hdg ⟨by show _ ≤ 600000; omega, by show _ ≤ 7302249; omega⟩) hS (fun q _ hq => hF q hq) hF (fun r1 u t H1 locs1 ht hvm hw hB hz1 hk1 hS => ?_)
  have hO := pk_M (H1 := H1) hP2 (fun j hj => hk1 _ (pl_M hP2 j hj) (fun q => q.elim (fun ⟨i, hi, e⟩ => absurd e.symm (F.2.2.2.2 i j hi hj)) (fun x => absurd (pl_M hP2 j hj) (Nat.not_lt.mpr x))))
  obtain ⟨rfl, rfl⟩ := hw
  obtain ⟨hP1, hK1, hD1, hZ1, hV1⟩ := hB
  rw [ht] at hP1
  have hV1 : u.2.2.2 = st.2.2.2 := hV1
  have hkk := kk k H1 locs1 ⟨hP1, hO, hS, F, hKC, hZ1, by rw [hV1]; exact hV⟩
  rw [hV1] at hkk
  exact hkk
theorem lc_lC (hx : p.tables.exec = Jvm.exec) (hb : c.code = cc) (hml : c.maxLocals = nL) (hown : s.vm.findClass own = some m.cls) (hts : ∀ w ∈ TB, w.before args s = true) (hN : ∀ w ∈ nwC, va_Nw w s) (hA : ∀ q, s.heap.size ≤ q → A q) {lv : List (Nat × Value)} (hl : lv_has ls nL lv) (G : lg_g D s k k2 h h2 A H locs st st2) {As rest st0 : List Value} {y : MethodName} {bytes : ByteArray} {maxL : Nat} {rm : Room} {r : Int64} {s1 : rs_T} (con : mLC l D k h y bytes maxL rm (.ref (h 0) :: As) st r s1) {idx : Nat} {Cn : String} (gi : GoodIn TB (wsV own idx Cn y (.code y bytes maxL (some .long) :: TB))) {ci Nf : Nat} {T : u_T} {fs : List Value} (hw : (wdC k h st)[0]? = some (h 0, .inr (ci, fs))) (hcl : vwCl[ci]? = some (Cn, T, Nf)) {n : Nat} (hd : y.cls = Cn ∧ y.cls ≠ "java/lang/invoke/MethodHandle" ∧ y.cls ≠ "java/lang/invoke/VarHandle" ∧ (parseMethodDescriptor y.desc).map (fun d => d.parameters.length) = some n) (hR : rm.frames + 1 ≤ room_1.frames ∧ 8 + (maxL + 11) + rm.locals ≤ room_1.locals) (hn : As.length = n) (hst : st0 = As.reverse ++ .ref (h 0) :: rest) (hroom : (rest.map fun v => v.category).sum ≤ 8) (hdg : decode cc pc = .ok (.invokevirtual idx, 3)) (kk : ∀ (k1 : Nat → Nat × ClassId) (H1 : Heap) (locs1 : List Loc), lg_g D s k1 k2 h h2 A H1 locs1 s1 st2 → W p l e room_1 s m args below meth c H1 locs1 (72 + s1.2.2.2 4) (18704 + s1.2.2.2 5) Q (F0 m (pc + 3) ls (.long r :: rest))) : W p l e room_1 s m args below meth c H locs (72 + st.2.2.2 4) (18704 + st.2.2.2 5) Q (F0 m pc ls st0) := by
  obtain ⟨hP, hP2, hS, F, hKC, hZ, hV⟩ := G
  have hV0 := hV
  unfold vA at hV0
  have hDc : va_D (fun _ => True) (wdC k h st) := pd_C F.1 (fun _ _ => trivial)
  have hF : ∀ q, arC k h H.size q → A q := fun q hq => hq.elim (fun ⟨j, hj, e⟩ => by rw [e]; exact F.2.1 j hj) (fun x => hA q (Nat.le_trans hS.1 x))
  refine va_calll (va_runV (As := As) (rest := rest) ⟨hx, hb, hml, hown, hts⟩ (con.2.2 H.size) (cwV n hts gi rfl con.1 con.2.1 hd hR) ⟨blindC, va_recv hKC hP hcl hw, fun U hU hW => ⟨rfl, by rw [hU], by rw [hU]; exact hP, va_K.moved hW.alike hKC, fun w hw => nwwmC w hw hW (hN w hw), hDc, hZ, rfl⟩⟩ rfl hn hl.1 hst (lv_room hroom) hdg ⟨by show _ ≤ 600000; omega, by show _ ≤ 7302249; omega⟩) hS (fun q _ hq => hF q hq) hF (fun r1 u t H1 locs1 ht hvm hw hB hz1 hk1 hS => ?_)
  have hO := pk_M (H1 := H1) hP2 (fun j hj => hk1 _ (pl_M hP2 j hj) (fun q => q.elim (fun ⟨i, hi, e⟩ => absurd e.symm (F.2.2.2.2 i j hi hj)) (fun x => absurd (pl_M hP2 j hj) (Nat.not_lt.mpr x))))
  obtain ⟨rfl, rfl⟩ := hw
  obtain ⟨hP1, hK1, hD1, hZ1, hV1⟩ := hB
  rw [ht] at hP1
  have hV1 : u.2.2.2 = st.2.2.2 := hV1
  have hkk := kk k H1 locs1 ⟨hP1, hO, hS, F, hKC, hZ1, by rw [hV1]; exact hV⟩
  rw [hV1] at hkk
  exact hkk
theorem lc_iCA (hx : p.tables.exec = Jvm.exec) (hb : c.code = cc) (hml : c.maxLocals = nL) (hown : s.vm.findClass own = some m.cls) (hts : ∀ w ∈ TB, w.before args s = true) (hN : ∀ w ∈ nwC, va_Nw w s) (hA : ∀ q, s.heap.size ≤ q → A q) {lv : List (Nat × Value)} (hl : lv_has ls nL lv) (G : lg_g D s k k2 h h2 A H locs st st2) {As rest st0 : List Value} {y : MethodName} {bytes : ByteArray} {maxL : Nat} {ty : FieldType} {fr lo : Nat} {r : Int32} {s1 : rs_T} (con : nIC l D k h y bytes maxL ty fr lo (.ref (h 0) :: As) st r s1) {idx : Nat} {Cn : String} (gi : GoodIn TB (wsV own idx Cn y (.code y bytes maxL (some ty) :: TB))) {ci Nf : Nat} {T : u_T} {fs : List Value} (hw : (wdC k h st)[0]? = some (h 0, .inr (ci, fs))) (hcl : vwCl[ci]? = some (Cn, T, Nf)) {n : Nat} (hd : y.cls = Cn ∧ y.cls ≠ "java/lang/invoke/MethodHandle" ∧ y.cls ≠ "java/lang/invoke/VarHandle" ∧ (parseMethodDescriptor y.desc).map (fun d => d.parameters.length) = some n) (hR : fr + 1 ≤ room_1.frames ∧ 8 + (maxL + 11) + lo ≤ room_1.locals) (hn : As.length = n) (hst : st0 = As.reverse ++ .ref (h 0) :: rest) (hroom : (rest.map fun v => v.category).sum ≤ 8) (hdg : decode cc pc = .ok (.invokevirtual idx, 3)) (kk : ∀ (k1 : Nat → Nat × ClassId) (H1 : Heap) (locs1 : List Loc), lg_g D s k1 k2 h h2 A H1 locs1 s1 st2 → W p l e room_1 s m args below meth c H1 locs1 (72 + s1.2.2.2 4) (18704 + s1.2.2.2 5) Q (F0 m (pc + 3) ls (.int r :: rest))) : W p l e room_1 s m args below meth c H locs (72 + st.2.2.2 4) (18704 + st.2.2.2 5) Q (F0 m pc ls st0) := by
  obtain ⟨hP, hP2, hS, F, hKC, hZ, hV⟩ := G
  have hV0 := hV
  unfold vA at hV0
  have hDc : va_D (fun _ => True) (wdC k h st) := pd_C F.1 (fun _ _ => trivial)
  have hF : ∀ q, arC k h H.size q → A q := fun q hq => hq.elim (fun ⟨j, hj, e⟩ => by rw [e]; exact F.2.1 j hj) (fun x => hA q (Nat.le_trans hS.1 x))
  refine va_calli (rn_V (As := As) (rest := rest) ⟨hx, hb, hml, hown, hts⟩ (con H.size) (cwV n hts gi rfl rfl rfl hd hR) ⟨blindC, va_recv hKC hP hcl hw, fun U hU hW => ⟨rfl, by rw [hU], by rw [hU]; exact hP, va_K.moved hW.alike hKC, fun w hw => nwwmC w hw hW (hN w hw), hDc, hZ, vA_rf hV.2.1 hV.2.2.2⟩⟩ rfl hn hl.1 hst (lv_room hroom) hdg ⟨by show _ + (100000 - st.2.2.2 4) ≤ 600000; omega, by show _ + (1000000 - st.2.2.2 5) ≤ 7302249; omega⟩) hS (fun q _ hq => hF q hq) hF (fun r1 u t H1 locs1 ht hvm hw hB hz1 hk1 hS => ?_)
  have hO := pk_M (H1 := H1) hP2 (fun j hj => hk1 _ (pl_M hP2 j hj) (fun q => q.elim (fun ⟨i, hi, e⟩ => absurd e.symm (F.2.2.2.2 i j hi hj)) (fun x => absurd (pl_M hP2 j hj) (Nat.not_lt.mpr x))))
  obtain ⟨u1, k1⟩ := u
  obtain ⟨rfl, hw⟩ := hw
  have hw : u1 = s1 := hw
  subst hw
  obtain ⟨hP1, hK1, hD1, hZ1, hV1⟩ := hB
  rw [ht] at hP1
  have hV1 : vA st.2.2.2 u1.2.2.2 := hV1
  have hV2 := hV1
  unfold vA at hV2
  have hD1 : va_D (arC k h H.size) (wdC k1 h u1) := hD1
  have e1 : 72 + st.2.2.2 4 + (u1.2.2.2 4 - st.2.2.2 4) = 72 + u1.2.2.2 4 := by omega
  have e2 : 18704 + st.2.2.2 5 + (u1.2.2.2 5 - st.2.2.2 5) = 18704 + u1.2.2.2 5 := by omega
  rw [e1, e2]
  exact kk k1 H1 locs1 ⟨hP1, hO, hS, ⟨(pq_C hD1).1, fun i hi => hF _ ((pq_C hD1).2 i hi), F.2.2.1, F.2.2.2.1, fun i j hi hj e => by
    rcases (pq_C hD1).2 i hi with ⟨i2, hi2, e3⟩ | hq
    · exact F.2.2.2.2 i2 j hi2 hj (e3.symm.trans e)
    · have := pl_M hP2 j hj
      omega⟩, va_K.moved hvm.symm hK1, hZ1, vA_tr hV hV1⟩
theorem lc_lCA (hx : p.tables.exec = Jvm.exec) (hb : c.code = cc) (hml : c.maxLocals = nL) (hown : s.vm.findClass own = some m.cls) (hts : ∀ w ∈ TB, w.before args s = true) (hN : ∀ w ∈ nwC, va_Nw w s) (hA : ∀ q, s.heap.size ≤ q → A q) {lv : List (Nat × Value)} (hl : lv_has ls nL lv) (G : lg_g D s k k2 h h2 A H locs st st2) {As rest st0 : List Value} {y : MethodName} {bytes : ByteArray} {maxL : Nat} {fr lo : Nat} {r : Int64} {s1 : rs_T} (con : nLC l D k h y bytes maxL fr lo (.ref (h 0) :: As) st r s1) {idx : Nat} {Cn : String} (gi : GoodIn TB (wsV own idx Cn y (.code y bytes maxL (some .long) :: TB))) {ci Nf : Nat} {T : u_T} {fs : List Value} (hw : (wdC k h st)[0]? = some (h 0, .inr (ci, fs))) (hcl : vwCl[ci]? = some (Cn, T, Nf)) {n : Nat} (hd : y.cls = Cn ∧ y.cls ≠ "java/lang/invoke/MethodHandle" ∧ y.cls ≠ "java/lang/invoke/VarHandle" ∧ (parseMethodDescriptor y.desc).map (fun d => d.parameters.length) = some n) (hR : fr + 1 ≤ room_1.frames ∧ 8 + (maxL + 11) + lo ≤ room_1.locals) (hn : As.length = n) (hst : st0 = As.reverse ++ .ref (h 0) :: rest) (hroom : (rest.map fun v => v.category).sum ≤ 8) (hdg : decode cc pc = .ok (.invokevirtual idx, 3)) (kk : ∀ (k1 : Nat → Nat × ClassId) (H1 : Heap) (locs1 : List Loc), lg_g D s k1 k2 h h2 A H1 locs1 s1 st2 → W p l e room_1 s m args below meth c H1 locs1 (72 + s1.2.2.2 4) (18704 + s1.2.2.2 5) Q (F0 m (pc + 3) ls (.long r :: rest))) : W p l e room_1 s m args below meth c H locs (72 + st.2.2.2 4) (18704 + st.2.2.2 5) Q (F0 m pc ls st0) := by
  obtain ⟨hP, hP2, hS, F, hKC, hZ, hV⟩ := G
  have hV0 := hV
  unfold vA at hV0
  have hDc : va_D (fun _ => True) (wdC k h st) := pd_C F.1 (fun _ _ => trivial)
  have hF : ∀ q, arC k h H.size q → A q := fun q hq => hq.elim (fun ⟨j, hj, e⟩ => by rw [e]; exact F.2.1 j hj) (fun x => hA q (Nat.le_trans hS.1 x))
  refine va_calll (rn_V (As := As) (rest := rest) ⟨hx, hb, hml, hown, hts⟩ (con H.size) (cwV n hts gi rfl rfl rfl hd hR) ⟨blindC, va_recv hKC hP hcl hw, fun U hU hW => ⟨rfl, by rw [hU], by rw [hU]; exact hP, va_K.moved hW.alike hKC, fun w hw => nwwmC w hw hW (hN w hw), hDc, hZ, vA_rf hV.2.1 hV.2.2.2⟩⟩ rfl hn hl.1 hst (lv_room hroom) hdg ⟨by show _ + (100000 - st.2.2.2 4) ≤ 600000; omega, by show _ + (1000000 - st.2.2.2 5) ≤ 7302249; omega⟩) hS (fun q _ hq => hF q hq) hF (fun r1 u t H1 locs1 ht hvm hw hB hz1 hk1 hS => ?_)
  have hO := pk_M (H1 := H1) hP2 (fun j hj => hk1 _ (pl_M hP2 j hj) (fun q => q.elim (fun ⟨i, hi, e⟩ => absurd e.symm (F.2.2.2.2 i j hi hj)) (fun x => absurd (pl_M hP2 j hj) (Nat.not_lt.mpr x))))
  obtain ⟨u1, k1⟩ := u
  obtain ⟨rfl, hw⟩ := hw
  have hw : u1 = s1 := hw
  subst hw
  obtain ⟨hP1, hK1, hD1, hZ1, hV1⟩ := hB
  rw [ht] at hP1
  have hV1 : vA st.2.2.2 u1.2.2.2 := hV1
  have hV2 := hV1
  unfold vA at hV2
  have hD1 : va_D (arC k h H.size) (wdC k1 h u1) := hD1
  have e1 : 72 + st.2.2.2 4 + (u1.2.2.2 4 - st.2.2.2 4) = 72 + u1.2.2.2 4 := by omega
  have e2 : 18704 + st.2.2.2 5 + (u1.2.2.2 5 - st.2.2.2 5) = 18704 + u1.2.2.2 5 := by omega
  rw [e1, e2]
  exact kk k1 H1 locs1 ⟨hP1, hO, hS, ⟨(pq_C hD1).1, fun i hi => hF _ ((pq_C hD1).2 i hi), F.2.2.1, F.2.2.2.1, fun i j hi hj e => by
    rcases (pq_C hD1).2 i hi with ⟨i2, hi2, e3⟩ | hq
    · exact F.2.2.2.2 i2 j hi2 hj (e3.symm.trans e)
    · have := pl_M hP2 j hj
      omega⟩, va_K.moved hvm.symm hK1, hZ1, vA_tr hV hV1⟩
theorem lc_iM (hx : p.tables.exec = Jvm.exec) (hb : c.code = cc) (hml : c.maxLocals = nL) (hown : s.vm.findClass own = some m.cls) (hts : ∀ w ∈ TB, w.before args s = true) (hK : va_K D vwCl (tyM k2) s) (hN : ∀ w ∈ nwM, va_Nw w s) (hA : ∀ q, s.heap.size ≤ q → A q) {lv : List (Nat × Value)} (hl : lv_has ls nL lv) (G : lg_g D s k k2 h h2 A H locs st st2) {As rest st0 : List Value} {y : MethodName} {bytes : ByteArray} {maxL : Nat} {ty : FieldType} {rm : Room} {r : Int32} {s1 : rs_T} (con : mIM l D k2 h2 y bytes maxL ty rm (.ref (h2 0) :: As) st2 r s1) {idx : Nat} {Cn : String} (gi : GoodIn TB (wsV own idx Cn y (.code y bytes maxL (some ty) :: TB))) {ci Nf : Nat} {T : u_T} {fs : List Value} (hw : (wdM k2 h2 st2)[0]? = some (h2 0, .inr (ci, fs))) (hcl : vwCl[ci]? = some (Cn, T, Nf)) {n : Nat} (hd : y.cls = Cn ∧ y.cls ≠ "java/lang/invoke/MethodHandle" ∧ y.cls ≠ "java/lang/invoke/VarHandle" ∧ (parseMethodDescriptor y.desc).map (fun d => d.parameters.length) = some n) (hR : rm.frames + 1 ≤ room_1.frames ∧ 8 + (maxL + 11) + rm.locals ≤ room_1.locals) (hn : As.length = n) (hst : st0 = As.reverse ++ .ref (h2 0) :: rest) (hroom : (rest.map fun v => v.category).sum ≤ 8) (hdg : decode cc pc = .ok (.invokevirtual idx, 3)) (kk : ∀ (H1 : Heap) (locs1 : List Loc), lg_g D s k k2 h h2 A H1 locs1 st s1 → W p l e room_1 s m args below meth c H1 locs1 (72 + st.2.2.2 4) (18704 + st.2.2.2 5) Q (F0 m (pc + 3) ls (.int r :: rest))) : W p l e room_1 s m args below meth c H locs (72 + st.2.2.2 4) (18704 + st.2.2.2 5) Q (F0 m pc ls st0) := by
  obtain ⟨hP, hP2, hS, F, hKC, hZ, hV⟩ := G
  have hV0 := hV
  unfold vA at hV0
  have hDc : va_D (fun _ => True) (wdM k2 h2 st2) := pd_M F.2.2.1 (fun _ _ => trivial)
  have hF : ∀ q, arM h2 H.size q → A q := fun q hq => hq.elim (fun ⟨j, hj, e⟩ => by rw [e]; exact F.2.2.2.1 j hj) (fun x => hA q (Nat.le_trans hS.1 x))
  refine va_calli (va_runV (As := As) (rest := rest) ⟨hx, hb, hml, hown, hts⟩ (con.2.2 H.size) (cwV n hts gi rfl con.1 con.2.1 hd hR) ⟨blindM, va_recv hK hP2 hcl hw, fun U hU hW => ⟨rfl, by rw [hU], by rw [hU]; exact hP2, va_K.moved hW.alike hK, fun w hw => nwwmM w hw hW (hN w hw), hDc⟩⟩ rfl hn hl.1 hst (lv_room hroom) hdg ⟨by show _ ≤ 600000; omega, by show _ ≤ 7302249; omega⟩) hS (fun q _ hq => hF q hq) hF (fun r1 u t H1 locs1 ht hvm hw hB hz1 hk1 hS => ?_)
  obtain ⟨rfl, rfl⟩ := hw
  obtain ⟨hP1, hK1, hD1⟩ := hB
  rw [ht] at hP1
  have hO := pk_C (H1 := H1) hP (fun j hj => hk1 _ (pl_C hP j hj) (fun q => q.elim (fun ⟨i, hi, e⟩ => absurd e (F.2.2.2.2 j i hj hi)) (fun x => absurd (pl_C hP j hj) (Nat.not_lt.mpr x))))
  exact kk H1 locs1 ⟨hO, hP1, hS, F, hKC, hZ, hV⟩
theorem lc_lM (hx : p.tables.exec = Jvm.exec) (hb : c.code = cc) (hml : c.maxLocals = nL) (hown : s.vm.findClass own = some m.cls) (hts : ∀ w ∈ TB, w.before args s = true) (hK : va_K D vwCl (tyM k2) s) (hN : ∀ w ∈ nwM, va_Nw w s) (hA : ∀ q, s.heap.size ≤ q → A q) {lv : List (Nat × Value)} (hl : lv_has ls nL lv) (G : lg_g D s k k2 h h2 A H locs st st2) {As rest st0 : List Value} {y : MethodName} {bytes : ByteArray} {maxL : Nat} {rm : Room} {r : Int64} {s1 : rs_T} (con : mLM l D k2 h2 y bytes maxL rm (.ref (h2 0) :: As) st2 r s1) {idx : Nat} {Cn : String} (gi : GoodIn TB (wsV own idx Cn y (.code y bytes maxL (some .long) :: TB))) {ci Nf : Nat} {T : u_T} {fs : List Value} (hw : (wdM k2 h2 st2)[0]? = some (h2 0, .inr (ci, fs))) (hcl : vwCl[ci]? = some (Cn, T, Nf)) {n : Nat} (hd : y.cls = Cn ∧ y.cls ≠ "java/lang/invoke/MethodHandle" ∧ y.cls ≠ "java/lang/invoke/VarHandle" ∧ (parseMethodDescriptor y.desc).map (fun d => d.parameters.length) = some n) (hR : rm.frames + 1 ≤ room_1.frames ∧ 8 + (maxL + 11) + rm.locals ≤ room_1.locals) (hn : As.length = n) (hst : st0 = As.reverse ++ .ref (h2 0) :: rest) (hroom : (rest.map fun v => v.category).sum ≤ 8) (hdg : decode cc pc = .ok (.invokevirtual idx, 3)) (kk : ∀ (H1 : Heap) (locs1 : List Loc), lg_g D s k k2 h h2 A H1 locs1 st s1 → W p l e room_1 s m args below meth c H1 locs1 (72 + st.2.2.2 4) (18704 + st.2.2.2 5) Q (F0 m (pc + 3) ls (.long r :: rest))) : W p l e room_1 s m args below meth c H locs (72 + st.2.2.2 4) (18704 + st.2.2.2 5) Q (F0 m pc ls st0) := by
  obtain ⟨hP, hP2, hS, F, hKC, hZ, hV⟩ := G
  have hV0 := hV
  unfold vA at hV0
  have hDc : va_D (fun _ => True) (wdM k2 h2 st2) := pd_M F.2.2.1 (fun _ _ => trivial)
  have hF : ∀ q, arM h2 H.size q → A q := fun q hq => hq.elim (fun ⟨j, hj, e⟩ => by rw [e]; exact F.2.2.2.1 j hj) (fun x => hA q (Nat.le_trans hS.1 x))
  refine va_calll (va_runV (As := As) (rest := rest) ⟨hx, hb, hml, hown, hts⟩ (con.2.2 H.size) (cwV n hts gi rfl con.1 con.2.1 hd hR) ⟨blindM, va_recv hK hP2 hcl hw, fun U hU hW => ⟨rfl, by rw [hU], by rw [hU]; exact hP2, va_K.moved hW.alike hK, fun w hw => nwwmM w hw hW (hN w hw), hDc⟩⟩ rfl hn hl.1 hst (lv_room hroom) hdg ⟨by show _ ≤ 600000; omega, by show _ ≤ 7302249; omega⟩) hS (fun q _ hq => hF q hq) hF (fun r1 u t H1 locs1 ht hvm hw hB hz1 hk1 hS => ?_)
  obtain ⟨rfl, rfl⟩ := hw
  obtain ⟨hP1, hK1, hD1⟩ := hB
  rw [ht] at hP1
  have hO := pk_C (H1 := H1) hP (fun j hj => hk1 _ (pl_C hP j hj) (fun q => q.elim (fun ⟨i, hi, e⟩ => absurd e (F.2.2.2.2 j i hj hi)) (fun x => absurd (pl_C hP j hj) (Nat.not_lt.mpr x))))
  exact kk H1 locs1 ⟨hO, hP1, hS, F, hKC, hZ, hV⟩
end LAWR
theorem lc_cmp (r : Int64) : lg_cmp r r = 0 := by unfold lg_cmp; simp
def sm_ok (N : Nat) (S : Nat → rs_T → rs_T → Prop) : Prop :=
  (∀ (n : Nat) (c m : rs_T), n < 512 → S n c m → ∀ (z0 : Int32) (z1 : Int32) (z2 : Int32), ∃ (r : Int32) (c1 m1 : rs_T), fx_Ma_function z0 z1 z2 c = some (r, c1) ∧ fx_Md_function z0 z1 z2 m = some (r, m1) ∧ S (n + 1) c1 m1) ∧
  (∀ (n : Nat) (c m : rs_T), n < 512 → S n c m → ∀ (z0 : Int32) (z1 : Int32) (z2 : Int32), ∃ (r : Int32) (c1 m1 : rs_T), fx_Ma_code z0 z1 z2 c = some (r, c1) ∧ fx_Md_code z0 z1 z2 m = some (r, m1) ∧ S (n + 1) c1 m1) ∧
  (∀ (n : Nat) (c m : rs_T), n < 512 → S n c m → ∃ (r : Int32) (c1 m1 : rs_T), fx_Ma_drop c = some (r, c1) ∧ fx_Md_drop m = some (r, m1) ∧ S (n + 1) c1 m1) ∧
  (∀ (n : Nat) (c m : rs_T), n < 512 → S n c m → ∀ (z0 : Int32) (z1 : Int32), ∃ (r : Int32) (c1 m1 : rs_T), fx_Ma_entry z0 z1 c = some (r, c1) ∧ fx_Md_entry z0 z1 m = some (r, m1) ∧ S (n + 1) c1 m1) ∧
  (∀ (n : Nat) (c m : rs_T), n < 512 → S n c m → ∀ (z0 : Int64), ∃ (r : Int32) (c1 m1 : rs_T), fx_Ma_argument z0 c = some (r, c1) ∧ fx_Md_argument z0 m = some (r, m1) ∧ S (n + 1) c1 m1) ∧
  (∀ (n : Nat) (c m : rs_T), n < 512 → S n c m → ∀ (z0 : Int32), ∃ (r : Int32) (c1 m1 : rs_T), fx_Ma_call N z0 c = some (r, c1) ∧ fx_Md_call N z0 m = some (r, m1) ∧ S (n + 1) c1 m1) ∧
  (∀ (n : Nat) (c m : rs_T), n < 512 → S n c m → ∀ (z0 : Int32), ∃ (r : Int32) (c1 m1 : rs_T), fx_Ma_run N z0 c = some (r, c1) ∧ fx_Md_run N z0 m = some (r, m1) ∧ S (n + 1) c1 m1) ∧
  (∀ (n : Nat) (c m : rs_T), n < 512 → S n c m → ∀ (z0 : Int32), ∃ (r : Int32) (c1 m1 : rs_T), fx_Ma_state z0 c = some (r, c1) ∧ fx_Md_state N z0 m = some (r, m1) ∧ S (n + 1) c1 m1) ∧
  (∀ (n : Nat) (c m : rs_T), n < 512 → S n c m → ∀ (z0 : Int32), ∃ (r : Int32) (c1 m1 : rs_T), fx_Ma_tier z0 c = some (r, c1) ∧ fx_Md_tier z0 m = some (r, m1) ∧ S (n + 1) c1 m1) ∧
  (∀ (n : Nat) (c m : rs_T), n < 512 → S n c m → ∀ (z0 : Int32), ∃ (r : Int64) (c1 m1 : rs_T), fx_Ma_result z0 c = some (r, c1) ∧ fx_Md_result z0 m = some (r, m1) ∧ S (n + 1) c1 m1) ∧
  (∀ (n : Nat) (c m : rs_T), n < 512 → S n c m → ∀ (z0 : Int32), ∃ (r : Int64) (c1 m1 : rs_T), fx_Ma_global z0 c = some (r, c1) ∧ fx_Md_global z0 m = some (r, m1) ∧ S (n + 1) c1 m1) ∧
  (∀ (n : Nat) (c m : rs_T), n < 512 → S n c m → ∀ (z0 : Int32), ∃ (r : Int32) (c1 m1 : rs_T), fx_Ma_memory z0 c = some (r, c1) ∧ fx_Md_memory z0 m = some (r, m1) ∧ S (n + 1) c1 m1) ∧
  (∀ (n : Nat) (c m : rs_T), n < 512 → S n c m → ∀ (z0 : Int32) (z1 : Int32), ∃ (r : Int32) (c1 m1 : rs_T), fx_Ma_look z0 z1 c = some (r, c1) ∧ fx_Md_look z0 z1 m = some (r, m1) ∧ S (n + 1) c1 m1) ∧
  (∀ (n : Nat) (c m : rs_T), S n c m → S (n + 1) c m) ∧
  S 0 i0_C i0_M
