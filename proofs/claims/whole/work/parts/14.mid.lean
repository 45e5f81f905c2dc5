
-- ===== a cell whose contents are told otherwise =====
theorem cc_congr {cA : ClassId} {n : Nat} {f g : Nat → Int32} (h : ∀ j, j < n → f j = g j) : vp_cell cA (n, .inl f) = vp_cell cA (n, .inl g) := by
  rw [vp_cell_i, vp_cell_i]
  unfold arrV
  have e : (fun j : Fin n => Value.int (f j.val)) = (fun j : Fin n => Value.int (g j.val)) := funext fun j => by rw [h j.val j.isLt]
  rw [e]
theorem cc_P {D : va_G} {cl : List vw_C} {ws : va_W} {H : Heap} (hP : va_P D cl ws H) (q0 : Nat) {a n : Nat} {cA : ClassId} {f g : Nat → Int32} (he : ws[q0]? = some (a, .inl (cA, n, .inl f))) (h : ∀ j, j < n → f j = g j) : va_P D cl (ws.set q0 (a, .inl (cA, n, .inl g))) H := by
  intro k q hk
  by_cases e : k = q0
  · subst e
    have hlt : k < ws.length := (List.getElem?_eq_some_iff.mp he).1
    rw [List.getElem?_set_self hlt] at hk
    cases hk
    have h1 := hP k _ he
    show H[a]? = some (vp_cell cA (n, .inl g))
    rw [← cc_congr (f := f) h]
    exact h1
  · rw [List.getElem?_set_ne (fun q => e q.symm)] at hk
    exact hP k q hk
theorem kk_set {D : va_G} {cl : List vw_C} {tys : List (ClassId × FieldType)} {U : State} {t0 : Nat} {cN : ClassId} {ty : FieldType} (hK : va_K D cl tys U) (h : ArrOfT U cN ty ∧ va_RA U cN ty) : va_K D cl (tys.set t0 (cN, ty)) U := by
  refine ⟨hK.1, fun k q hk => ?_⟩
  by_cases e : t0 = k
  · subst e
    by_cases hl : t0 < tys.length
    · rw [List.getElem?_set_self hl] at hk
      cases hk
      exact h
    · rw [List.getElem?_eq_none (by rw [List.length_set]; omega)] at hk
      cases hk
  · rw [List.getElem?_set_ne e] at hk
    exact hK.2 k q hk
-- ===== a new cell takes the place of an old one, and an object names it =====
theorem pd_new {D : va_G} {cl : List vw_C} {A : Nat → Prop} {ws : va_W} {H : Heap} {x : Nat × va_E} {oc ca : Nat} {ob : Nat × va_E} (hP : va_P D cl ((ws ++ [x]).set oc ob) H) (hD : va_D A ((ws ++ [x]).set oc ob)) (ho : oc < ws.length) (hc : ca < ws.length) (hne : ¬ ca = oc) : va_P D cl ((ws.set oc ob).set ca x) H ∧ va_D A ((ws.set oc ob).set ca x) := by
  have at' : ∀ (i : Nat) (q : Nat × va_E), ((ws.set oc ob).set ca x)[i]? = some q → ((ws ++ [x]).set oc ob)[if i = ca then ws.length else i]? = some q := by
    intro i q hq
    by_cases e : i = ca
    · subst e
      rw [List.getElem?_set_self (by rw [List.length_set]; exact hc)] at hq
      rw [if_pos rfl, List.getElem?_set_ne (by omega), List.getElem?_append_right (Nat.le_refl _), Nat.sub_self]
      exact hq
    · rw [List.getElem?_set_ne (fun z => e z.symm)] at hq
      rw [if_neg e]
      have hi : i < ws.length := by
        have := (List.getElem?_eq_some_iff.mp hq).1
        rw [List.length_set] at this
        exact this
      rw [List.set_append_left _ _ ho, List.getElem?_append_left (by rw [List.length_set]; exact hi)]
      exact hq
  have lt' : ∀ (i : Nat) (q : Nat × va_E), ((ws.set oc ob).set ca x)[i]? = some q → i < ws.length := by
    intro i q hq
    have := (List.getElem?_eq_some_iff.mp hq).1
    rw [List.length_set, List.length_set] at this
    exact this
  refine ⟨fun i q hq => hP _ q (at' i q hq), fun i j p q hp hq e => ?_, fun i q hq => hD.2 _ q (at' i q hq)⟩
  have h1 := hD.1 _ _ p q (at' i p hp) (at' j q hq) e
  have hi := lt' i p hp
  have hj := lt' j q hq
  by_cases e1 : i = ca
  · by_cases e2 : j = ca
    · omega
    · rw [if_pos e1, if_neg e2] at h1; omega
  · by_cases e2 : j = ca
    · rw [if_neg e1, if_pos e2] at h1; omega
    · rw [if_neg e1, if_neg e2] at h1; exact h1
def rm_copyOf (N : Nat) : Room := { frames := 1, cells := 1, slots := N, locals := 50 }
abbrev pr_copyOf (D : va_G) (a sz n : Nat) (cA : ClassId) (f : Nat → Int32) (x : Int32) : Array Value → State → Prop := va_Pc [.ref a, .int x] (fun U => U.heap.size = sz ∧ va_P D vwCl [(a, .inl (cA, n, .inl f))] U.heap ∧ va_K D vwCl [(cA, .int)] U ∧ va_D (fun _ => True) [(a, .inl (cA, n, .inl f))])
theorem nb_copyOf {D : va_G} {a sz n : Nat} {cA : ClassId} {f : Nat → Int32} {x : Int32} : FrameBlind (pr_copyOf D a sz n cA f x) := fun b U g mk q => by
  obtain ⟨q0, q1, qP, qK, qD⟩ := q
  exact ⟨q0, q1, qP, va_K.moved (u := U) (U := U.calling g mk b) (Vm.Alike.refl U.vm) qK, qD⟩
theorem cl_nn {x : Int32} (h : 0 ≤ x.toInt) : ¬ x < 0 := fun z => by
  have := Int32.lt_iff_toInt_lt.mp z
  have e : (0 : Int32).toInt = 0 := by decide
  omega
theorem cl_ti {x : Int32} (h : 0 ≤ x.toInt) : x.toInt = (x.toNatClampNeg : Int) := by
  show x.toInt = ((x.toInt.toNat : Nat) : Int)
  omega
set_option maxHeartbeats 4000000 in
set_option maxRecDepth 100000 in
theorem kn_copyOf (l : Launch) (D : va_G) (a sz : Nat) (cA : ClassId) (n : Nat) (f : Nat → Int32) (x : Int32) (hz : ∀ j, n ≤ j → f j = 0) (h0 : 0 ≤ x.toInt) (h1 : x.toInt ≤ 4096) (hn : n < x.toNatClampNeg) : Met l yJ7_copyOf_59c91 (.code yJ7_copyOf_59c91 cJ7_copyOf_59c91 3 (some (.array .int)) :: TB) (rm_copyOf x.toNatClampNeg) (pr_copyOf D a sz n cA f x) (va_Qr (fun _ : ClassId => True) (fun cN q t => va_P D vwCl [(a, .inl (cA, n, .inl f)), (q, .inl (cN, x.toNatClampNeg, .inl f))] t.heap ∧ va_K D vwCl [(cA, .int), (cN, .int)] t ∧ va_D (va_A [(a, .inl (cA, n, .inl f))] sz) [(a, .inl (cA, n, .inl f)), (q, .inl (cN, x.toNatClampNeg, .inl f))]) (va_A [(a, .inl (cA, n, .inl f))] sz)) 1 x.toNatClampNeg (va_A [(a, .inl (cA, n, .inl f))] sz) := by
  refine Met.ofW (cc := cJ7_copyOf_59c91) (maxL := 3) (ret := some (.array .int)) (by decide) rfl ?_
  intro p e s m args below meth c s₁ B hml hv
  obtain ⟨rfl, hsz, hP, hK, hD0⟩ := hv
  have hx := B.exec
  have hb := B.bytes
  have hr := B.returns
  have hlk := B.notSynchronized
  subst hsz
  have hts0 := atoms_spec (ws := .code yJ7_copyOf_59c91 cJ7_copyOf_59c91 3 (some (.array .int)) :: TB) B.pre
  have hts : ∀ w ∈ TB, w.before #[.ref a, .int x] s = true := fun w hw => hts0 w (List.mem_cons_of_mem _ hw)
  have hown : s.vm.findClass RJ7 = some m.cls := findClass_of_methodNamed B.named
  have hD := hD0.self (sz := s.heap.size)
  have hA : ∀ q, s.heap.size ≤ q → va_A [(a, .inl (cA, n, .inl f))] s.heap.size q := fun q h => Or.inr h
  generalize hAe : va_A [(a, .inl (cA, n, .inl f))] s.heap.size = A at hD hA ⊢
  have hS : va_S A s.heap s.heap [] := va_S.rf
  have hl := lv_entry ([.ref a, .int x]) (n := 3) (Nat.le_of_ble_eq_true rfl)
  rw [lg_entry_eq]
  generalize (lg_sl ([.ref a, .int x]) ++ List.replicate (3 - (lg_sl ([.ref a, .int x])).length) Slot.unset).toArray = ls at hl ⊢
  have hl : lv_has ls 3 [(0, .ref a), (1, .int x)] := hl
  have hxi := cl_ti h0
  have hxn := cl_nn h0
  have hn31 : n < 2 ^ 31 := by omega
  refine lv_iload_n hx hb dJ7_copyOf_59c91_0 rfl (lv_at hl 1 rfl) ?_
  refine lv_aload_n hx hb dJ7_copyOf_59c91_1 rfl (lv_at hl 0 rfl) ?_
  refine va_alen (v := nI n) hx hb hK hP 0 0 rfl rfl rfl dJ7_copyOf_59c91_2 ?_
  refine lv_icmp_ne (tgt := 14) hx hb dJ7_copyOf_59c91_3 (by decide) (fun hq => ?_) (fun hq => ?_)
  · refine lv_iload_n hx hb dJ7_copyOf_59c91_14 rfl (lv_at hl 1 rfl) ?_
    refine va_newa (atype := .int) (ty := .int) (a0 := (x.toNatClampNeg, .inl fun _ => 0)) (N' := x.toNatClampNeg) hx hb (hts _ ac_I) rfl hK hP hD hS hA (fun _ => rfl) hxn rfl (by show _ * 4 ≤ _; omega) (by show 0 + 1 ≤ 1; omega) (by show 0 + _ ≤ x.toNatClampNeg; omega) dJ7_copyOf_59c91_15 (fun q1 c1 H hK hP hD hS => ?_)
    have hP : va_P D vwCl [(a, .inl (cA, n, .inl f)), (q1, .inl (c1, x.toNatClampNeg, .inl fun _ => 0))] H := hP
    have hD : va_D A [(a, .inl (cA, n, .inl f)), (q1, .inl (c1, x.toNatClampNeg, .inl fun _ => 0))] := hD
    have hK : va_K D vwCl [(cA, .int), (c1, .int)] s := hK
    refine lv_astore_n (lv' := [(2, .ref q1), (0, .ref a), (1, .int x)]) hx hb dJ7_copyOf_59c91_17 rfl hl (by decide) rfl (fun ls hl => ?_)
    refine lv_aload_n hx hb dJ7_copyOf_59c91_18 rfl (lv_at hl 1 rfl) ?_
    refine lv_iconst (v := 0) hx hb dJ7_copyOf_59c91_19 (by decide) ?_
    refine lv_aload_n hx hb dJ7_copyOf_59c91_20 rfl (lv_at hl 0 rfl) ?_
    refine lv_iconst (v := 0) hx hb dJ7_copyOf_59c91_21 (by decide) ?_
    refine lv_aload_n hx hb dJ7_copyOf_59c91_22 rfl (lv_at hl 1 rfl) ?_
    refine va_alen (v := nI n) hx hb hK hP 0 0 rfl rfl rfl dJ7_copyOf_59c91_23 ?_
    refine lv_iload_n hx hb dJ7_copyOf_59c91_24 rfl (lv_at hl 2 rfl) ?_
    refine va_mmin hx hb (hml.trans hl.1.symm) hown (hts _ lk_J7_304) (hts _ st_mmin) (hts _ in_math) (hts _ co_mmin) (by show 1 ≤ 1; omega) (Nat.le_of_ble_eq_true rfl) (by show 0 + 1 ≤ 1; omega) (by show 0 + _ ≤ x.toNatClampNeg; omega) dJ7_copyOf_59c91_25 ?_
    have hmin : (if x < nI n then x else nI n) = nI n := if_neg (fun z => by
      have := Int32.lt_iff_toInt_lt.mp z
      rw [nI_toInt hn31] at this
      omega)
    rw [hmin]
    have hc : (nI n).toNatClampNeg = n := nI_clamp hn31
    refine va_copyi (ty := .int) hx hb (hml.trans hl.1.symm) hown (hts _ lk_J7_150) (hts _ nt_acopy) (hts _ st_acopy) (hts _ in_system) hK hP hD hS 0 1 0 1 rfl rfl rfl rfl rfl (by decide) (by decide) (nI_pos hn31) (by rw [hc]; show 0 + n ≤ n; omega) (by rw [hc]; show 0 + n ≤ x.toNatClampNeg; omega) (fun i hi => rfl) (by show 1 ≤ 1; omega) (Nat.le_of_ble_eq_true rfl) dJ7_copyOf_59c91_28 (fun H locs hP hD hS => ?_)
    have hP : va_P D vwCl [(a, .inl (cA, n, .inl f)), (q1, .inl (c1, x.toNatClampNeg, .inl (va_cpy f (fun _ => 0) 0 0 (nI n).toNatClampNeg)))] H := hP
    have hD : va_D A [(a, .inl (cA, n, .inl f)), (q1, .inl (c1, x.toNatClampNeg, .inl (va_cpy f (fun _ => 0) 0 0 (nI n).toNatClampNeg)))] := hD
    have hP : va_P D vwCl [(a, .inl (cA, n, .inl f)), (q1, .inl (c1, x.toNatClampNeg, .inl f))] H := cc_P hP 1 rfl (fun j hj => by
      rw [hc]
      unfold va_cpy
      by_cases e : j < n
      · rw [if_pos ⟨Nat.zero_le _, by omega⟩, Nat.zero_add, Nat.sub_zero]
      · rw [if_neg (fun z => e (by omega)), hz j (by omega)])
    have hD : va_D A [(a, .inl (cA, n, .inl f)), (q1, .inl (c1, x.toNatClampNeg, .inl f))] := hD.set (p := 1) (a := q1) (e0 := .inl (c1, x.toNatClampNeg, .inl (va_cpy f (fun _ => 0) 0 0 (nI n).toNatClampNeg))) (e := .inl (c1, x.toNatClampNeg, .inl f)) rfl
    refine lv_aload_n hx hb dJ7_copyOf_59c91_31 rfl (lv_at hl 0 rfl) ?_
    refine W.widen (k := 1) (n := x.toNatClampNeg) (by omega) (by omega) ?_
    exact W.aret hx hb hr (Or.inr ⟨_, rfl⟩) (Or.inr ⟨_, rfl⟩) (fun t ht hW => ⟨⟨c1, q1, rfl, trivial, by rw [ht]; exact hP, va_K.moved hW.alike hK, hD⟩, hS.F ht⟩) hS.2.2 dJ7_copyOf_59c91_32 hlk
  · exfalso
    have hq : x = nI n := by first | exact hq | exact Decidable.not_not.mp hq
    have : x.toNatClampNeg = n := by rw [hq]; exact nI_clamp hn31
    omega
section CPS
variable {p : Program} {l : Launch} {e : Env} {R : Room} {s : State} {m : MethodId} {args : Array Value} {below : List Frame} {meth : Method} {c : Code} {H : Heap} {locs : List Loc} {Q : State → Prop} {cc : ByteArray} {pc nL cells slots : Nat} {own : String} {ls : Array Slot} {D : va_G} {A : Nat → Prop} {ws : va_W} {tys : List (ClassId × FieldType)}
set_option maxHeartbeats 1000000 in
theorem cp_step (hx : p.tables.exec = Jvm.exec) (hb : c.code = cc) (hml : c.maxLocals = nL) (hown : s.vm.findClass own = some m.cls) (hts : ∀ w ∈ TB, w.before args s = true) {lv : List (Nat × Value)} (hl : lv_has ls nL lv) (hK : va_K D vwCl tys s) (hP : va_P D vwCl ws H) (hD : va_D A ws) (hS : va_S A s.heap H locs) (hA : ∀ q, s.heap.size ≤ q → A q)
    (ca oc t0 j : Nat) {a ob n : Nat} {cA : ClassId} {f : Nat → Int32} {ci : Nat} {fs : List Value} {x : Int32} (ha : ws[ca]? = some (a, .inl (cA, n, .inl f))) (ho : ws[oc]? = some (ob, .inr (ci, fs))) (ht : tys[t0]? = some (cA, .int)) (hne : ¬ ca = oc)
    (hz : ∀ j, n ≤ j → f j = 0) (h0 : 0 ≤ x.toInt) (h1 : x.toInt ≤ 4096) (hn : n < x.toNatClampNeg)
    {Cn ref : String} {T : u_T} {Nf : Nat} (hcl : vwCl[ci]? = some (Cn, T, Nf)) (hin : ∀ w ∈ u_ws Cn T Nf, w ∈ TB) (ty0 : Nat → FieldType) (hty : ∀ k, k < Nf → parseFieldDescriptor (T k).2.2.1 = some (ty0 k)) (hnm : ∀ a, a < Nf → ∀ b, b < Nf → a ≠ b → (T a).2.1 ≠ (T b).2.1) (hj : j < Nf) {idx idx2 : Nat} (hlink : (Cond.fieldLink own idx2 ref (T j).2.1 (T j).2.2.1).before args s = true) (hsame : ∀ x, s.fieldFound? (T j).1 (T j).2.1 (T j).2.2.1 = some x → s.fieldFound? ref (T j).2.1 (T j).2.2.1 = some x) (hfin : (T j).2.2.2 = false) (hd : parseFieldDescriptor (T j).2.2.1 = some (.array .int)) (hlf : j < fs.length)
    (gi : GoodIn TB (va_wsS own idx yJ7_copyOf_59c91 (.code yJ7_copyOf_59c91 cJ7_copyOf_59c91 3 (some (.array .int)) :: TB))) (hR : 2 ≤ R.frames ∧ 72 ≤ R.locals) (hcells : cells + 1 ≤ R.cells) (hslots : slots + x.toNatClampNeg ≤ R.slots)
    (hdg1 : decode cc pc = .ok (.invokestatic idx, 3)) (hdg2 : decode cc (pc + 3) = .ok (.putfield idx2, 3))
    (kk : ∀ (q : Nat) (cN : ClassId) (H1 : Heap) (locs1 : List Loc), va_K D vwCl (tys.set t0 (cN, .int)) s → va_P D vwCl ((ws.set oc (ob, .inr (ci, fs.set j (.ref q)))).set ca (q, .inl (cN, x.toNatClampNeg, .inl f))) H1 → va_D A ((ws.set oc (ob, .inr (ci, fs.set j (.ref q)))).set ca (q, .inl (cN, x.toNatClampNeg, .inl f))) → va_S A s.heap H1 locs1 → W p l e R s m args below meth c H1 locs1 (cells + 1) (slots + x.toNatClampNeg) Q (F0 m (pc + 3 + 3) ls [])) : W p l e R s m args below meth c H locs cells slots Q (F0 m pc ls [.int x, .ref a, .ref ob]) := by
  have hPc : va_P D vwCl [(a, .inl (cA, n, .inl f))] H := fun k q hk => by
    have hk0 : k = 0 := by have := (List.getElem?_eq_some_iff.mp hk).1; simp at this; exact this
    subst hk0
    cases hk
    exact hP ca _ ha
  have hDc : va_D A [(a, .inl (cA, n, .inl f))] := ⟨fun i j p q hp hq _ => by
    have h2 := (List.getElem?_eq_some_iff.mp hp).1
    have h3 := (List.getElem?_eq_some_iff.mp hq).1
    simp at h2 h3
    omega, fun k q hk => by
    have hk0 : k = 0 := by have := (List.getElem?_eq_some_iff.mp hk).1; simp at this; exact this
    subst hk0
    cases hk
    exact hD.2 ca _ ha⟩
  have hKc : va_K D vwCl [(cA, .int)] s := ⟨hK.1, fun k q hk => by
    have hk0 : k = 0 := by have := (List.getElem?_eq_some_iff.mp hk).1; simp at this; exact this
    subst hk0
    cases hk
    exact hK.2 t0 _ ht⟩
  have hFc : ∀ q, va_A [(a, .inl (cA, n, .inl f))] H.size q → A q := fun q h => by
    rcases h with ⟨k, e1, h⟩ | h
    · have hk0 : k = 0 := by have := (List.getElem?_eq_some_iff.mp h).1; simp at this; exact this
      subst hk0
      cases h
      exact hD.2 ca _ ha
    · exact hA q (Nat.le_trans hS.1 h)
  refine va_callr (va_runS (As := [.ref a, .int x]) (rest := [.ref ob]) ⟨hx, hb, hml, hown, hts⟩ (kn_copyOf l D a H.size cA n f x hz h0 h1 hn) (va_cwS 2 hts gi rfl rfl rfl hd_copyOf ⟨hR.1, hR.2⟩) ⟨nb_copyOf, fun U hU hW => ⟨rfl, by rw [hU], by rw [hU]; exact hPc, va_K.moved hW.alike hKc, hDc.weaken (fun _ _ _ _ => trivial)⟩⟩ rfl rfl hl.1 rfl (lv_room (Nat.le_of_ble_eq_true rfl)) hdg1 ⟨hcells, hslots⟩) hS (fun q _ h => hFc q h) hFc (fun cN q t H1 locs1 ht1 hvm hw hB hz1 hk1 hS => ?_)
  obtain ⟨hP1, hK1, hD1⟩ := hB
  rw [ht1] at hP1
  have hK1 := va_K.moved hvm.symm hK1
  have hq0 : va_A [(a, .inl (cA, n, .inl f))] H.size q := hD1.2 1 _ rfl
  have hqa : ¬ q = a := fun z => by
    have h3 := hD1.1 1 0 (q, .inl (cN, x.toNatClampNeg, .inl f)) (a, .inl (cA, n, .inl f)) rfl rfl z
    omega
  have hqs : H.size ≤ q := by
    rcases hq0 with ⟨k, e1, h⟩ | h
    · have hk0 : k = 0 := by have := (List.getElem?_eq_some_iff.mp h).1; simp at this; exact this
      subst hk0
      exact absurd (congrArg Prod.fst (Option.some.inj h)).symm hqa
    · exact h
  have hP2 : va_P D vwCl (ws ++ [(q, .inl (cN, x.toNatClampNeg, .inl f))]) H1 := fun k y hy => by
    by_cases hkl : k < ws.length
    · rw [List.getElem?_append_left hkl] at hy
      by_cases hkc : k = ca
      · subst hkc
        rw [ha] at hy
        cases hy
        exact hP1 0 _ rfl
      · refine (hP k y hy).kept (hk1 y.1 (hP k y hy).lt (fun z => ?_))
        rcases z with ⟨k2, e1, h⟩ | h
        · have hk0 : k2 = 0 := by have := (List.getElem?_eq_some_iff.mp h).1; simp at this; exact this
          subst hk0
          exact hkc (hD.1 k ca y _ hy ha (congrArg Prod.fst (Option.some.inj h)).symm)
        · have := (hP k y hy).lt
          omega
    · rw [List.getElem?_append_right (by omega)] at hy
      have hk0 : k - ws.length = 0 := by have := (List.getElem?_eq_some_iff.mp hy).1; simp at this; omega
      rw [hk0] at hy
      cases hy
      exact hP1 1 _ rfl
  have hD2 : va_D A (ws ++ [(q, .inl (cN, x.toNatClampNeg, .inl f))]) := by
    have lt' : ∀ (i : Nat) (y : Nat × va_E), ws[i]? = some y → y.1 < q := fun i y hy => Nat.lt_of_lt_of_le (hP i y hy).lt hqs
    have sp' : ∀ (i : Nat) (y : Nat × va_E), (ws ++ ([(q, .inl (cN, x.toNatClampNeg, .inl f))] : va_W))[i]? = some y → ws[i]? = some y ∨ (i = ws.length ∧ y.1 = q) := fun i y hy => by
      by_cases hkl : i < ws.length
      · rw [List.getElem?_append_left hkl] at hy
        exact Or.inl hy
      · rw [List.getElem?_append_right (by omega)] at hy
        have hk0 : i - ws.length = 0 := by have := (List.getElem?_eq_some_iff.mp hy).1; simp at this; omega
        rw [hk0] at hy
        cases hy
        exact Or.inr ⟨by omega, rfl⟩
    refine ⟨fun i j p1 q1 hp hq e1 => ?_, fun i y hy => ?_⟩
    · rcases sp' i p1 hp with h2 | ⟨h2, h3⟩
      · rcases sp' j q1 hq with h4 | ⟨h4, h5⟩
        · exact hD.1 i j p1 q1 h2 h4 e1
        · have := lt' i p1 h2
          omega
      · rcases sp' j q1 hq with h4 | ⟨h4, h5⟩
        · have := lt' j q1 h4
          omega
        · omega
    · rcases sp' i y hy with h2 | ⟨h2, h3⟩
      · exact hD.2 i y h2
      · rw [h3]; exact hFc q hq0
  have hol : oc < ws.length := (List.getElem?_eq_some_iff.mp ho).1
  refine va_put hx hb hts hin ty0 hty hnm hown hK hP2 hD2 hS oc (by rw [List.getElem?_append_left hol]; exact ho) hcl j hj hlink hsame hfin hd rfl rfl hlf hdg2 (fun H2 locs2 hP3 hD3 hS => ?_)
  obtain ⟨hP4, hD4⟩ := pd_new hP3 hD3 hol (List.getElem?_eq_some_iff.mp ha).1 hne
  exact kk q cN H2 locs2 (kk_set hK (hK1.2 1 _ rfl)) hP4 hD4 hS
end CPS

def wdX (L : Nat → Nat) (k : Nat → Nat × ClassId) (h : Nat → Nat) (st : rs_T) : va_W := [(h 0, .inr (8, [.ref (h 1), .ref (h 2), .ref (h 3), .ref (h 4), .ref (h 5), .ref (h 6), .ref (h 7), .ref (h 8), .ref (k 9).1, .int (rI st 0), .int (rI st 1)])),
  (h 1, .inr (2, [.ref (k 10).1, .ref (k 11).1, .ref (k 12).1, .ref (k 13).1, .ref (k 14).1, .ref (k 15).1, .ref (k 16).1, .ref (k 17).1, .ref (k 18).1, .ref (k 19).1, .ref (k 20).1, .ref (k 21).1, .ref (k 22).1, .int (rI st 2), .int (rI st 3), .int (rI st 4)])),
  (h 2, .inr (7, [.ref (h 1), .ref (k 23).1, .ref (k 24).1, .int (rI st 5), .int (rI st 6), .int (rI st 7), .int (rI st 8)])),
  (h 3, .inr (6, [.ref (k 25).1, .ref (k 26).1, .ref (k 27).1, .int (rI st 9)])),
  (h 4, .inr (0, [.ref (h 1), .ref (k 28).1, .ref (k 29).1, .ref (k 30).1, .ref (k 31).1, .ref (k 32).1, .ref (k 33).1, .ref (k 34).1, .int (rI st 10), .int (rI st 11), .int (rI st 12), .int (rI st 13), .int (rI st 14), .int (rI st 15), .int (rI st 16), .int (rI st 17), .int (rI st 18)])),
  (h 5, .inr (3, [.ref (k 35).1, .ref (k 36).1, .ref (k 37).1, .ref (k 38).1, .ref (k 39).1, .ref (k 40).1, .ref (k 41).1, .int (rI st 19), .int (rI st 20)])),
  (h 6, .inr (1, [.ref (h 1), .ref (h 5), .ref (k 42).1, .ref (k 43).1, .int (rI st 21), .int (rI st 22), .int (rI st 23), .int (rI st 24), .int (rI st 25), .int (rI st 26)])),
  (h 7, .inr (5, [.ref (h 1), .ref (h 3), .ref (h 4)])),
  (h 8, .inr (4, [.ref (h 1), .ref (h 5), .ref (h 3), .ref (h 4)])),
  ((k 9).1, .inl ((k 9).2, 8, .inr (.inl (rL st 0)))),
  ((k 10).1, .inl ((k 10).2, 40, .inl (rA st 0))),
  ((k 11).1, .inl ((k 11).2, 40, .inl (rA st 1))),
  ((k 12).1, .inl ((k 12).2, 40, .inl (rA st 2))),
  ((k 13).1, .inl ((k 13).2, 40, .inl (rA st 3))),
  ((k 14).1, .inl ((k 14).2, 40, .inl (rA st 4))),
  ((k 15).1, .inl ((k 15).2, 40, .inl (rA st 5))),
  ((k 16).1, .inl ((k 16).2, 40, .inl (rA st 6))),
  ((k 17).1, .inl ((k 17).2, (L 17), .inl (rA st 7))),
  ((k 18).1, .inl ((k 18).2, (L 18), .inl (rA st 8))),
  ((k 19).1, .inl ((k 19).2, (L 19), .inl (rA st 9))),
  ((k 20).1, .inl ((k 20).2, (L 20), .inl (rA st 10))),
  ((k 21).1, .inl ((k 21).2, (L 21), .inl (rA st 11))),
  ((k 22).1, .inl ((k 22).2, (L 22), .inl (rA st 12))),
  ((k 23).1, .inl ((k 23).2, (L 23), .inl (rA st 13))),
  ((k 24).1, .inl ((k 24).2, (L 24), .inl (rA st 14))),
  ((k 25).1, .inl ((k 25).2, 30, .inl (rA st 15))),
  ((k 26).1, .inl ((k 26).2, 8, .inr (.inl (rL st 1)))),
  ((k 27).1, .inl ((k 27).2, 384, .inl (rA st 16))),
  ((k 28).1, .inl ((k 28).2, 30, .inl (rA st 17))),
  ((k 29).1, .inl ((k 29).2, 30, .inl (rA st 18))),
  ((k 30).1, .inl ((k 30).2, 30, .inl (rA st 19))),
  ((k 31).1, .inl ((k 31).2, 30, .inl (rA st 20))),
  ((k 32).1, .inl ((k 32).2, 30, .inl (rA st 21))),
  ((k 33).1, .inl ((k 33).2, 220, .inr (.inl (rL st 2)))),
  ((k 34).1, .inl ((k 34).2, 8, .inr (.inl (rL st 3)))),
  ((k 35).1, .inl ((k 35).2, 40, .inl (rA st 22))),
  ((k 36).1, .inl ((k 36).2, (L 36), .inl (rA st 23))),
  ((k 37).1, .inl ((k 37).2, (L 37), .inl (rA st 24))),
  ((k 38).1, .inl ((k 38).2, (L 38), .inl (rA st 25))),
  ((k 39).1, .inl ((k 39).2, (L 39), .inl (rA st 26))),
  ((k 40).1, .inl ((k 40).2, (L 40), .inl (rA st 27))),
  ((k 41).1, .inl ((k 41).2, (L 41), .inl (rA st 28))),
  ((k 42).1, .inl ((k 42).2, 220, .inl (rA st 29))),
  ((k 43).1, .inl ((k 43).2, (L 43), .inl (rA st 30)))]
def lnC (st : rs_T) (c : Nat) : Nat := bif Nat.beq c 17 then rN st 0 else bif Nat.beq c 18 then rN st 0 else bif Nat.beq c 19 then rN st 0 else bif Nat.beq c 20 then rN st 0 else bif Nat.beq c 21 then rN st 0 else bif Nat.beq c 22 then rN st 0 else bif Nat.beq c 23 then rN st 1 else bif Nat.beq c 24 then rN st 1 else bif Nat.beq c 36 then rN st 2 else bif Nat.beq c 37 then rN st 2 else bif Nat.beq c 38 then rN st 2 else bif Nat.beq c 39 then rN st 2 else bif Nat.beq c 40 then rN st 2 else bif Nat.beq c 41 then rN st 2 else bif Nat.beq c 43 then rN st 3 else 0
def upN (L : Nat → Nat) (c v : Nat) : Nat → Nat := fun x => bif Nat.beq x c then v else L x
def upK (k : Nat → Nat × ClassId) (c : Nat) (v : Nat × ClassId) : Nat → Nat × ClassId := fun x => bif Nat.beq x c then v else k x
theorem wdX_C (k : Nat → Nat × ClassId) (h : Nat → Nat) (st : rs_T) : wdC k h st = wdX (lnC st) k h st := rfl
set_option maxHeartbeats 4000000 in
set_option maxRecDepth 100000 in
theorem mid_Pr {p : Program} {l : Launch} {e : Env} {s : State} {m : MethodId} {args : Array Value} {below : List Frame} {meth : Method} {c : Code} {H : Heap} {locs : List Loc} {Q : State → Prop} {ls : Array Slot} {D : va_G} {k k0 : Nat → Nat × ClassId} {h : Nat → Nat} {st : rs_T} {E : Nat → Nat} {fr lo : Nat} {x : Int32} (C : cxC D k p s m args meth c cX3_makeRoom 2 (some .boolean) RX3) (hl : lv_has ls 2 [(1, .int x), (0, .ref (h 1))]) (G : gdC D k h (vA E) (arC k0 h s.heap.size) s.heap H locs st) (hg : rN st 0 < x.toNatClampNeg ∧ 0 ≤ x.toInt ∧ x.toInt ≤ 4096 ∧ rN st 4 + 6 ≤ 100000 ∧ rN st 5 + 6 * x.toNatClampNeg ≤ 1000000) (hfr : 2 ≤ fr) (hlo : 72 ≤ lo) (kk : ∀ (k1 : Nat → Nat × ClassId) (_ : va_K D vwCl (tyC k1) s) (H1 : Heap) (locs1 : List Loc) (ls1 : Array Slot), lv_has ls1 2 [(0, .ref (h 1))] → gdC D k1 h (vA E) (arC k0 h s.heap.size) s.heap H1 locs1 (gN st 0 x.toNatClampNeg 6) → W p l e (rmA fr lo E) s m args below meth c H1 locs1 ((gN st 0 x.toNatClampNeg 6).2.2.2 4 - E 4) ((gN st 0 x.toNatClampNeg 6).2.2.2 5 - E 5) Q (F0 m 108 ls1 [])) : W p l e (rmA fr lo E) s m args below meth c H locs (st.2.2.2 4 - E 4) (st.2.2.2 5 - E 5) Q (F0 m 36 ls []) := by
  obtain ⟨hx, hb, hml, hr, hown, hts, hK, hN, hlk⟩ := C
  obtain ⟨g0, g1, g2, g3, g4⟩ := hg
  obtain ⟨hP, hD, hS, hZ, hV⟩ := G
  unfold vA at hV
  have hA : ∀ q, s.heap.size ≤ q → arC k0 h s.heap.size q := fun q z => Or.inr z
  have n4 : rN st 4 = st.2.2.2 4 := rfl
  have n5 : rN st 5 = st.2.2.2 5 := rfl
  have hP : va_P D vwCl (wdX (lnC st) k h st) H := hP
  have hD : va_D (arC k0 h s.heap.size) (wdX (lnC st) k h st) := hD
  obtain ⟨z0, z1, z2, z3, z4, z5, z6, z7, z8, z9, z10, z11, z12, z13, z14, z15⟩ := id hZ
  refine lv_aload_n hx hb dX3_makeRoom_36 rfl (lv_at hl 1 rfl) ?_
  refine lv_aload_n hx hb dX3_makeRoom_37 rfl (lv_at hl 1 rfl) ?_
  refine va_get (ci := 2) (v := .ref (k 17).1) (C := RX3) (T := TX3) (N := 16) hx hb hts inlX3 hown hK hP 1 rfl rfl 7 (by decide) (hts _ lk_X3_33) (fun _ h9 => h9) rfl dX3_makeRoom_38 ?_
  refine lv_iload_n hx hb dX3_makeRoom_41 rfl (lv_at hl 0 rfl) ?_
  refine cp_step hx hb hml hown hts hl hK hP hD hS hA 17 1 8 7 (n := rN st 0) (f := rA st 7) rfl rfl rfl (by decide) z0 g1 g2 g0 rfl inlX3 tyX3 tyX3_ok nmX3 (by decide) (hts _ lk_X3_33) (fun _ h9 => h9) rfl (tyX3_ok _ (by decide)) (Nat.le_of_ble_eq_true rfl) gi_X3_67 ⟨hfr, hlo⟩ (by show _ ≤ 100000 - E 4; omega) (by show _ ≤ 1000000 - E 5; omega) dX3_makeRoom_42 dX3_makeRoom_45 (fun q0 c0 H locs hK hP hD hS => ?_)
  have hP : va_P D vwCl (wdX (upN (lnC st) 17 x.toNatClampNeg) (upK k 17 (q0, c0)) h st) H := hP
  have hD : va_D (arC k0 h s.heap.size) (wdX (upN (lnC st) 17 x.toNatClampNeg) (upK k 17 (q0, c0)) h st) := hD
  have hK : va_K D vwCl (tyC (upK k 17 (q0, c0))) s := hK
  refine lv_aload_n hx hb dX3_makeRoom_48 rfl (lv_at hl 1 rfl) ?_
  refine lv_aload_n hx hb dX3_makeRoom_49 rfl (lv_at hl 1 rfl) ?_
  refine va_get (ci := 2) (v := .ref ((upK k 17 (q0, c0)) 18).1) (C := RX3) (T := TX3) (N := 16) hx hb hts inlX3 hown hK hP 1 rfl rfl 8 (by decide) (hts _ lk_X3_36) (fun _ h9 => h9) rfl dX3_makeRoom_50 ?_
  refine lv_iload_n hx hb dX3_makeRoom_53 rfl (lv_at hl 0 rfl) ?_
  refine cp_step hx hb hml hown hts hl hK hP hD hS hA 18 1 9 8 (n := rN st 0) (f := rA st 8) rfl rfl rfl (by decide) z1 g1 g2 g0 rfl inlX3 tyX3 tyX3_ok nmX3 (by decide) (hts _ lk_X3_36) (fun _ h9 => h9) rfl (tyX3_ok _ (by decide)) (Nat.le_of_ble_eq_true rfl) gi_X3_67 ⟨hfr, hlo⟩ (by show _ ≤ 100000 - E 4; omega) (by show _ ≤ 1000000 - E 5; omega) dX3_makeRoom_54 dX3_makeRoom_57 (fun q1 c1 H locs hK hP hD hS => ?_)
  have hP : va_P D vwCl (wdX (upN (upN (lnC st) 17 x.toNatClampNeg) 18 x.toNatClampNeg) (upK (upK k 17 (q0, c0)) 18 (q1, c1)) h st) H := hP
  have hD : va_D (arC k0 h s.heap.size) (wdX (upN (upN (lnC st) 17 x.toNatClampNeg) 18 x.toNatClampNeg) (upK (upK k 17 (q0, c0)) 18 (q1, c1)) h st) := hD
  have hK : va_K D vwCl (tyC (upK (upK k 17 (q0, c0)) 18 (q1, c1))) s := hK
  refine lv_aload_n hx hb dX3_makeRoom_60 rfl (lv_at hl 1 rfl) ?_
  refine lv_aload_n hx hb dX3_makeRoom_61 rfl (lv_at hl 1 rfl) ?_
  refine va_get (ci := 2) (v := .ref ((upK (upK k 17 (q0, c0)) 18 (q1, c1)) 19).1) (C := RX3) (T := TX3) (N := 16) hx hb hts inlX3 hown hK hP 1 rfl rfl 9 (by decide) (hts _ lk_X3_39) (fun _ h9 => h9) rfl dX3_makeRoom_62 ?_
  refine lv_iload_n hx hb dX3_makeRoom_65 rfl (lv_at hl 0 rfl) ?_
  refine cp_step hx hb hml hown hts hl hK hP hD hS hA 19 1 10 9 (n := rN st 0) (f := rA st 9) rfl rfl rfl (by decide) z2 g1 g2 g0 rfl inlX3 tyX3 tyX3_ok nmX3 (by decide) (hts _ lk_X3_39) (fun _ h9 => h9) rfl (tyX3_ok _ (by decide)) (Nat.le_of_ble_eq_true rfl) gi_X3_67 ⟨hfr, hlo⟩ (by show _ ≤ 100000 - E 4; omega) (by show _ ≤ 1000000 - E 5; omega) dX3_makeRoom_66 dX3_makeRoom_69 (fun q2 c2 H locs hK hP hD hS => ?_)
  have hP : va_P D vwCl (wdX (upN (upN (upN (lnC st) 17 x.toNatClampNeg) 18 x.toNatClampNeg) 19 x.toNatClampNeg) (upK (upK (upK k 17 (q0, c0)) 18 (q1, c1)) 19 (q2, c2)) h st) H := hP
  have hD : va_D (arC k0 h s.heap.size) (wdX (upN (upN (upN (lnC st) 17 x.toNatClampNeg) 18 x.toNatClampNeg) 19 x.toNatClampNeg) (upK (upK (upK k 17 (q0, c0)) 18 (q1, c1)) 19 (q2, c2)) h st) := hD
  have hK : va_K D vwCl (tyC (upK (upK (upK k 17 (q0, c0)) 18 (q1, c1)) 19 (q2, c2))) s := hK
  refine lv_aload_n hx hb dX3_makeRoom_72 rfl (lv_at hl 1 rfl) ?_
  refine lv_aload_n hx hb dX3_makeRoom_73 rfl (lv_at hl 1 rfl) ?_
  refine va_get (ci := 2) (v := .ref ((upK (upK (upK k 17 (q0, c0)) 18 (q1, c1)) 19 (q2, c2)) 20).1) (C := RX3) (T := TX3) (N := 16) hx hb hts inlX3 hown hK hP 1 rfl rfl 10 (by decide) (hts _ lk_X3_42) (fun _ h9 => h9) rfl dX3_makeRoom_74 ?_
  refine lv_iload_n hx hb dX3_makeRoom_77 rfl (lv_at hl 0 rfl) ?_
  refine cp_step hx hb hml hown hts hl hK hP hD hS hA 20 1 11 10 (n := rN st 0) (f := rA st 10) rfl rfl rfl (by decide) z3 g1 g2 g0 rfl inlX3 tyX3 tyX3_ok nmX3 (by decide) (hts _ lk_X3_42) (fun _ h9 => h9) rfl (tyX3_ok _ (by decide)) (Nat.le_of_ble_eq_true rfl) gi_X3_67 ⟨hfr, hlo⟩ (by show _ ≤ 100000 - E 4; omega) (by show _ ≤ 1000000 - E 5; omega) dX3_makeRoom_78 dX3_makeRoom_81 (fun q3 c3 H locs hK hP hD hS => ?_)
  have hP : va_P D vwCl (wdX (upN (upN (upN (upN (lnC st) 17 x.toNatClampNeg) 18 x.toNatClampNeg) 19 x.toNatClampNeg) 20 x.toNatClampNeg) (upK (upK (upK (upK k 17 (q0, c0)) 18 (q1, c1)) 19 (q2, c2)) 20 (q3, c3)) h st) H := hP
  have hD : va_D (arC k0 h s.heap.size) (wdX (upN (upN (upN (upN (lnC st) 17 x.toNatClampNeg) 18 x.toNatClampNeg) 19 x.toNatClampNeg) 20 x.toNatClampNeg) (upK (upK (upK (upK k 17 (q0, c0)) 18 (q1, c1)) 19 (q2, c2)) 20 (q3, c3)) h st) := hD
  have hK : va_K D vwCl (tyC (upK (upK (upK (upK k 17 (q0, c0)) 18 (q1, c1)) 19 (q2, c2)) 20 (q3, c3))) s := hK
  refine lv_aload_n hx hb dX3_makeRoom_84 rfl (lv_at hl 1 rfl) ?_
  refine lv_aload_n hx hb dX3_makeRoom_85 rfl (lv_at hl 1 rfl) ?_
  refine va_get (ci := 2) (v := .ref ((upK (upK (upK (upK k 17 (q0, c0)) 18 (q1, c1)) 19 (q2, c2)) 20 (q3, c3)) 21).1) (C := RX3) (T := TX3) (N := 16) hx hb hts inlX3 hown hK hP 1 rfl rfl 11 (by decide) (hts _ lk_X3_45) (fun _ h9 => h9) rfl dX3_makeRoom_86 ?_
  refine lv_iload_n hx hb dX3_makeRoom_89 rfl (lv_at hl 0 rfl) ?_
  refine cp_step hx hb hml hown hts hl hK hP hD hS hA 21 1 12 11 (n := rN st 0) (f := rA st 11) rfl rfl rfl (by decide) z4 g1 g2 g0 rfl inlX3 tyX3 tyX3_ok nmX3 (by decide) (hts _ lk_X3_45) (fun _ h9 => h9) rfl (tyX3_ok _ (by decide)) (Nat.le_of_ble_eq_true rfl) gi_X3_67 ⟨hfr, hlo⟩ (by show _ ≤ 100000 - E 4; omega) (by show _ ≤ 1000000 - E 5; omega) dX3_makeRoom_90 dX3_makeRoom_93 (fun q4 c4 H locs hK hP hD hS => ?_)
  have hP : va_P D vwCl (wdX (upN (upN (upN (upN (upN (lnC st) 17 x.toNatClampNeg) 18 x.toNatClampNeg) 19 x.toNatClampNeg) 20 x.toNatClampNeg) 21 x.toNatClampNeg) (upK (upK (upK (upK (upK k 17 (q0, c0)) 18 (q1, c1)) 19 (q2, c2)) 20 (q3, c3)) 21 (q4, c4)) h st) H := hP
  have hD : va_D (arC k0 h s.heap.size) (wdX (upN (upN (upN (upN (upN (lnC st) 17 x.toNatClampNeg) 18 x.toNatClampNeg) 19 x.toNatClampNeg) 20 x.toNatClampNeg) 21 x.toNatClampNeg) (upK (upK (upK (upK (upK k 17 (q0, c0)) 18 (q1, c1)) 19 (q2, c2)) 20 (q3, c3)) 21 (q4, c4)) h st) := hD
  have hK : va_K D vwCl (tyC (upK (upK (upK (upK (upK k 17 (q0, c0)) 18 (q1, c1)) 19 (q2, c2)) 20 (q3, c3)) 21 (q4, c4))) s := hK
  refine lv_aload_n hx hb dX3_makeRoom_96 rfl (lv_at hl 1 rfl) ?_
  refine lv_aload_n hx hb dX3_makeRoom_97 rfl (lv_at hl 1 rfl) ?_
  refine va_get (ci := 2) (v := .ref ((upK (upK (upK (upK (upK k 17 (q0, c0)) 18 (q1, c1)) 19 (q2, c2)) 20 (q3, c3)) 21 (q4, c4)) 22).1) (C := RX3) (T := TX3) (N := 16) hx hb hts inlX3 hown hK hP 1 rfl rfl 12 (by decide) (hts _ lk_X3_48) (fun _ h9 => h9) rfl dX3_makeRoom_98 ?_
  refine lv_iload_n hx hb dX3_makeRoom_101 rfl (lv_at hl 0 rfl) ?_
  refine cp_step hx hb hml hown hts hl hK hP hD hS hA 22 1 13 12 (n := rN st 0) (f := rA st 12) rfl rfl rfl (by decide) z5 g1 g2 g0 rfl inlX3 tyX3 tyX3_ok nmX3 (by decide) (hts _ lk_X3_48) (fun _ h9 => h9) rfl (tyX3_ok _ (by decide)) (Nat.le_of_ble_eq_true rfl) gi_X3_67 ⟨hfr, hlo⟩ (by show _ ≤ 100000 - E 4; omega) (by show _ ≤ 1000000 - E 5; omega) dX3_makeRoom_102 dX3_makeRoom_105 (fun q5 c5 H locs hK hP hD hS => ?_)
  have hP : va_P D vwCl (wdX (upN (upN (upN (upN (upN (upN (lnC st) 17 x.toNatClampNeg) 18 x.toNatClampNeg) 19 x.toNatClampNeg) 20 x.toNatClampNeg) 21 x.toNatClampNeg) 22 x.toNatClampNeg) (upK (upK (upK (upK (upK (upK k 17 (q0, c0)) 18 (q1, c1)) 19 (q2, c2)) 20 (q3, c3)) 21 (q4, c4)) 22 (q5, c5)) h st) H := hP
  have hD : va_D (arC k0 h s.heap.size) (wdX (upN (upN (upN (upN (upN (upN (lnC st) 17 x.toNatClampNeg) 18 x.toNatClampNeg) 19 x.toNatClampNeg) 20 x.toNatClampNeg) 21 x.toNatClampNeg) 22 x.toNatClampNeg) (upK (upK (upK (upK (upK (upK k 17 (q0, c0)) 18 (q1, c1)) 19 (q2, c2)) 20 (q3, c3)) 21 (q4, c4)) 22 (q5, c5)) h st) := hD
  have hK : va_K D vwCl (tyC (upK (upK (upK (upK (upK (upK k 17 (q0, c0)) 18 (q1, c1)) 19 (q2, c2)) 20 (q3, c3)) 21 (q4, c4)) 22 (q5, c5))) s := hK
  have hP : va_P D vwCl (wdC (upK (upK (upK (upK (upK (upK k 17 (q0, c0)) 18 (q1, c1)) 19 (q2, c2)) 20 (q3, c3)) 21 (q4, c4)) 22 (q5, c5)) h (gN st 0 x.toNatClampNeg 6)) H := hP
  have hD : va_D (arC k0 h s.heap.size) (wdC (upK (upK (upK (upK (upK (upK k 17 (q0, c0)) 18 (q1, c1)) 19 (q2, c2)) 20 (q3, c3)) 21 (q4, c4)) 22 (q5, c5)) h (gN st 0 x.toNatClampNeg 6)) := hD
  have hZ1 : zL (gN st 0 x.toNatClampNeg 6) := ⟨fun i hi => z0 i (by have hi : x.toNatClampNeg ≤ i := hi; omega), fun i hi => z1 i (by have hi : x.toNatClampNeg ≤ i := hi; omega), fun i hi => z2 i (by have hi : x.toNatClampNeg ≤ i := hi; omega), fun i hi => z3 i (by have hi : x.toNatClampNeg ≤ i := hi; omega), fun i hi => z4 i (by have hi : x.toNatClampNeg ≤ i := hi; omega), fun i hi => z5 i (by have hi : x.toNatClampNeg ≤ i := hi; omega), z6, z7, z8, z9, z10, z11, z12, z13, z14, z15⟩
  have e1 : st.2.2.2 4 - E 4 + 1 + 1 + 1 + 1 + 1 + 1 = (gN st 0 x.toNatClampNeg 6).2.2.2 4 - E 4 := by show _ = st.2.2.2 4 + 6 - E 4; omega
  have e2 : st.2.2.2 5 - E 5 + x.toNatClampNeg + x.toNatClampNeg + x.toNatClampNeg + x.toNatClampNeg + x.toNatClampNeg + x.toNatClampNeg = (gN st 0 x.toNatClampNeg 6).2.2.2 5 - E 5 := by show _ = st.2.2.2 5 + 6 * x.toNatClampNeg - E 5; omega
  rw [e1, e2]
  exact kk _ hK H locs ls (lv_sub hl [1] rfl) ⟨hP, hD, hS, hZ1, ⟨by show E 4 ≤ st.2.2.2 4 + 6; omega, by show st.2.2.2 4 + 6 ≤ 100000; omega, by show E 5 ≤ st.2.2.2 5 + 6 * x.toNatClampNeg; omega, by show st.2.2.2 5 + 6 * x.toNatClampNeg ≤ 1000000; omega⟩⟩
set_option maxHeartbeats 4000000 in
set_option maxRecDepth 100000 in
theorem mid_Rc {p : Program} {l : Launch} {e : Env} {s : State} {m : MethodId} {args : Array Value} {below : List Frame} {meth : Method} {c : Code} {H : Heap} {locs : List Loc} {Q : State → Prop} {ls : Array Slot} {D : va_G} {k k0 : Nat → Nat × ClassId} {h : Nat → Nat} {st : rs_T} {E : Nat → Nat} {fr lo : Nat} {x : Int32} (C : cxC D k p s m args meth c cX4_makeRoom 4 none RX4) (hl : lv_has ls 4 [(3, .int x), (0, .ref (h 5))]) (G : gdC D k h (vA E) (arC k0 h s.heap.size) s.heap H locs st) (hg : rN st 2 < x.toNatClampNeg ∧ 0 ≤ x.toInt ∧ x.toInt ≤ 4096 ∧ rN st 4 + 6 ≤ 100000 ∧ rN st 5 + 6 * x.toNatClampNeg ≤ 1000000) (hfr : 2 ≤ fr) (hlo : 72 ≤ lo) (kk : ∀ (k1 : Nat → Nat × ClassId) (_ : va_K D vwCl (tyC k1) s) (H1 : Heap) (locs1 : List Loc) (ls1 : Array Slot), lv_has ls1 4 [(0, .ref (h 5))] → gdC D k1 h (vA E) (arC k0 h s.heap.size) s.heap H1 locs1 (gN st 2 x.toNatClampNeg 6) → W p l e (rmA fr lo E) s m args below meth c H1 locs1 ((gN st 2 x.toNatClampNeg 6).2.2.2 4 - E 4) ((gN st 2 x.toNatClampNeg 6).2.2.2 5 - E 5) Q (F0 m 108 ls1 [])) : W p l e (rmA fr lo E) s m args below meth c H locs (st.2.2.2 4 - E 4) (st.2.2.2 5 - E 5) Q (F0 m 36 ls []) := by
  obtain ⟨hx, hb, hml, hr, hown, hts, hK, hN, hlk⟩ := C
  obtain ⟨g0, g1, g2, g3, g4⟩ := hg
  obtain ⟨hP, hD, hS, hZ, hV⟩ := G
  unfold vA at hV
  have hA : ∀ q, s.heap.size ≤ q → arC k0 h s.heap.size q := fun q z => Or.inr z
  have n4 : rN st 4 = st.2.2.2 4 := rfl
  have n5 : rN st 5 = st.2.2.2 5 := rfl
  have hP : va_P D vwCl (wdX (lnC st) k h st) H := hP
  have hD : va_D (arC k0 h s.heap.size) (wdX (lnC st) k h st) := hD
  obtain ⟨z0, z1, z2, z3, z4, z5, z6, z7, z8, z9, z10, z11, z12, z13, z14, z15⟩ := id hZ
  refine lv_aload_n hx hb dX4_makeRoom_36 rfl (lv_at hl 1 rfl) ?_
  refine lv_aload_n hx hb dX4_makeRoom_37 rfl (lv_at hl 1 rfl) ?_
  refine va_get (ci := 3) (v := .ref (k 36).1) (C := RX4) (T := TX4) (N := 9) hx hb hts inlX4 hown hK hP 5 rfl rfl 1 (by decide) (hts _ lk_X4_15) (fun _ h9 => h9) rfl dX4_makeRoom_38 ?_
  refine lv_iload_n hx hb dX4_makeRoom_41 rfl (lv_at hl 0 rfl) ?_
  refine cp_step hx hb hml hown hts hl hK hP hD hS hA 36 5 27 1 (n := rN st 2) (f := rA st 23) rfl rfl rfl (by decide) z8 g1 g2 g0 rfl inlX4 tyX4 tyX4_ok nmX4 (by decide) (hts _ lk_X4_15) (fun _ h9 => h9) rfl (tyX4_ok _ (by decide)) (Nat.le_of_ble_eq_true rfl) gi_X4_55 ⟨hfr, hlo⟩ (by show _ ≤ 100000 - E 4; omega) (by show _ ≤ 1000000 - E 5; omega) dX4_makeRoom_42 dX4_makeRoom_45 (fun q0 c0 H locs hK hP hD hS => ?_)
  have hP : va_P D vwCl (wdX (upN (lnC st) 36 x.toNatClampNeg) (upK k 36 (q0, c0)) h st) H := hP
  have hD : va_D (arC k0 h s.heap.size) (wdX (upN (lnC st) 36 x.toNatClampNeg) (upK k 36 (q0, c0)) h st) := hD
  have hK : va_K D vwCl (tyC (upK k 36 (q0, c0))) s := hK
  refine lv_aload_n hx hb dX4_makeRoom_48 rfl (lv_at hl 1 rfl) ?_
  refine lv_aload_n hx hb dX4_makeRoom_49 rfl (lv_at hl 1 rfl) ?_
  refine va_get (ci := 3) (v := .ref ((upK k 36 (q0, c0)) 37).1) (C := RX4) (T := TX4) (N := 9) hx hb hts inlX4 hown hK hP 5 rfl rfl 2 (by decide) (hts _ lk_X4_18) (fun _ h9 => h9) rfl dX4_makeRoom_50 ?_
  refine lv_iload_n hx hb dX4_makeRoom_53 rfl (lv_at hl 0 rfl) ?_
  refine cp_step hx hb hml hown hts hl hK hP hD hS hA 37 5 28 2 (n := rN st 2) (f := rA st 24) rfl rfl rfl (by decide) z9 g1 g2 g0 rfl inlX4 tyX4 tyX4_ok nmX4 (by decide) (hts _ lk_X4_18) (fun _ h9 => h9) rfl (tyX4_ok _ (by decide)) (Nat.le_of_ble_eq_true rfl) gi_X4_55 ⟨hfr, hlo⟩ (by show _ ≤ 100000 - E 4; omega) (by show _ ≤ 1000000 - E 5; omega) dX4_makeRoom_54 dX4_makeRoom_57 (fun q1 c1 H locs hK hP hD hS => ?_)
  have hP : va_P D vwCl (wdX (upN (upN (lnC st) 36 x.toNatClampNeg) 37 x.toNatClampNeg) (upK (upK k 36 (q0, c0)) 37 (q1, c1)) h st) H := hP
  have hD : va_D (arC k0 h s.heap.size) (wdX (upN (upN (lnC st) 36 x.toNatClampNeg) 37 x.toNatClampNeg) (upK (upK k 36 (q0, c0)) 37 (q1, c1)) h st) := hD
  have hK : va_K D vwCl (tyC (upK (upK k 36 (q0, c0)) 37 (q1, c1))) s := hK
  refine lv_aload_n hx hb dX4_makeRoom_60 rfl (lv_at hl 1 rfl) ?_
  refine lv_aload_n hx hb dX4_makeRoom_61 rfl (lv_at hl 1 rfl) ?_
  refine va_get (ci := 3) (v := .ref ((upK (upK k 36 (q0, c0)) 37 (q1, c1)) 38).1) (C := RX4) (T := TX4) (N := 9) hx hb hts inlX4 hown hK hP 5 rfl rfl 3 (by decide) (hts _ lk_X4_21) (fun _ h9 => h9) rfl dX4_makeRoom_62 ?_
  refine lv_iload_n hx hb dX4_makeRoom_65 rfl (lv_at hl 0 rfl) ?_
  refine cp_step hx hb hml hown hts hl hK hP hD hS hA 38 5 29 3 (n := rN st 2) (f := rA st 25) rfl rfl rfl (by decide) z10 g1 g2 g0 rfl inlX4 tyX4 tyX4_ok nmX4 (by decide) (hts _ lk_X4_21) (fun _ h9 => h9) rfl (tyX4_ok _ (by decide)) (Nat.le_of_ble_eq_true rfl) gi_X4_55 ⟨hfr, hlo⟩ (by show _ ≤ 100000 - E 4; omega) (by show _ ≤ 1000000 - E 5; omega) dX4_makeRoom_66 dX4_makeRoom_69 (fun q2 c2 H locs hK hP hD hS => ?_)
  have hP : va_P D vwCl (wdX (upN (upN (upN (lnC st) 36 x.toNatClampNeg) 37 x.toNatClampNeg) 38 x.toNatClampNeg) (upK (upK (upK k 36 (q0, c0)) 37 (q1, c1)) 38 (q2, c2)) h st) H := hP
  have hD : va_D (arC k0 h s.heap.size) (wdX (upN (upN (upN (lnC st) 36 x.toNatClampNeg) 37 x.toNatClampNeg) 38 x.toNatClampNeg) (upK (upK (upK k 36 (q0, c0)) 37 (q1, c1)) 38 (q2, c2)) h st) := hD
  have hK : va_K D vwCl (tyC (upK (upK (upK k 36 (q0, c0)) 37 (q1, c1)) 38 (q2, c2))) s := hK
  refine lv_aload_n hx hb dX4_makeRoom_72 rfl (lv_at hl 1 rfl) ?_
  refine lv_aload_n hx hb dX4_makeRoom_73 rfl (lv_at hl 1 rfl) ?_
  refine va_get (ci := 3) (v := .ref ((upK (upK (upK k 36 (q0, c0)) 37 (q1, c1)) 38 (q2, c2)) 39).1) (C := RX4) (T := TX4) (N := 9) hx hb hts inlX4 hown hK hP 5 rfl rfl 4 (by decide) (hts _ lk_X4_24) (fun _ h9 => h9) rfl dX4_makeRoom_74 ?_
  refine lv_iload_n hx hb dX4_makeRoom_77 rfl (lv_at hl 0 rfl) ?_
  refine cp_step hx hb hml hown hts hl hK hP hD hS hA 39 5 30 4 (n := rN st 2) (f := rA st 26) rfl rfl rfl (by decide) z11 g1 g2 g0 rfl inlX4 tyX4 tyX4_ok nmX4 (by decide) (hts _ lk_X4_24) (fun _ h9 => h9) rfl (tyX4_ok _ (by decide)) (Nat.le_of_ble_eq_true rfl) gi_X4_55 ⟨hfr, hlo⟩ (by show _ ≤ 100000 - E 4; omega) (by show _ ≤ 1000000 - E 5; omega) dX4_makeRoom_78 dX4_makeRoom_81 (fun q3 c3 H locs hK hP hD hS => ?_)
  have hP : va_P D vwCl (wdX (upN (upN (upN (upN (lnC st) 36 x.toNatClampNeg) 37 x.toNatClampNeg) 38 x.toNatClampNeg) 39 x.toNatClampNeg) (upK (upK (upK (upK k 36 (q0, c0)) 37 (q1, c1)) 38 (q2, c2)) 39 (q3, c3)) h st) H := hP
  have hD : va_D (arC k0 h s.heap.size) (wdX (upN (upN (upN (upN (lnC st) 36 x.toNatClampNeg) 37 x.toNatClampNeg) 38 x.toNatClampNeg) 39 x.toNatClampNeg) (upK (upK (upK (upK k 36 (q0, c0)) 37 (q1, c1)) 38 (q2, c2)) 39 (q3, c3)) h st) := hD
  have hK : va_K D vwCl (tyC (upK (upK (upK (upK k 36 (q0, c0)) 37 (q1, c1)) 38 (q2, c2)) 39 (q3, c3))) s := hK
  refine lv_aload_n hx hb dX4_makeRoom_84 rfl (lv_at hl 1 rfl) ?_
  refine lv_aload_n hx hb dX4_makeRoom_85 rfl (lv_at hl 1 rfl) ?_
  refine va_get (ci := 3) (v := .ref ((upK (upK (upK (upK k 36 (q0, c0)) 37 (q1, c1)) 38 (q2, c2)) 39 (q3, c3)) 40).1) (C := RX4) (T := TX4) (N := 9) hx hb hts inlX4 hown hK hP 5 rfl rfl 5 (by decide) (hts _ lk_X4_27) (fun _ h9 => h9) rfl dX4_makeRoom_86 ?_
  refine lv_iload_n hx hb dX4_makeRoom_89 rfl (lv_at hl 0 rfl) ?_
  refine cp_step hx hb hml hown hts hl hK hP hD hS hA 40 5 31 5 (n := rN st 2) (f := rA st 27) rfl rfl rfl (by decide) z12 g1 g2 g0 rfl inlX4 tyX4 tyX4_ok nmX4 (by decide) (hts _ lk_X4_27) (fun _ h9 => h9) rfl (tyX4_ok _ (by decide)) (Nat.le_of_ble_eq_true rfl) gi_X4_55 ⟨hfr, hlo⟩ (by show _ ≤ 100000 - E 4; omega) (by show _ ≤ 1000000 - E 5; omega) dX4_makeRoom_90 dX4_makeRoom_93 (fun q4 c4 H locs hK hP hD hS => ?_)
  have hP : va_P D vwCl (wdX (upN (upN (upN (upN (upN (lnC st) 36 x.toNatClampNeg) 37 x.toNatClampNeg) 38 x.toNatClampNeg) 39 x.toNatClampNeg) 40 x.toNatClampNeg) (upK (upK (upK (upK (upK k 36 (q0, c0)) 37 (q1, c1)) 38 (q2, c2)) 39 (q3, c3)) 40 (q4, c4)) h st) H := hP
  have hD : va_D (arC k0 h s.heap.size) (wdX (upN (upN (upN (upN (upN (lnC st) 36 x.toNatClampNeg) 37 x.toNatClampNeg) 38 x.toNatClampNeg) 39 x.toNatClampNeg) 40 x.toNatClampNeg) (upK (upK (upK (upK (upK k 36 (q0, c0)) 37 (q1, c1)) 38 (q2, c2)) 39 (q3, c3)) 40 (q4, c4)) h st) := hD
  have hK : va_K D vwCl (tyC (upK (upK (upK (upK (upK k 36 (q0, c0)) 37 (q1, c1)) 38 (q2, c2)) 39 (q3, c3)) 40 (q4, c4))) s := hK
  refine lv_aload_n hx hb dX4_makeRoom_96 rfl (lv_at hl 1 rfl) ?_
  refine lv_aload_n hx hb dX4_makeRoom_97 rfl (lv_at hl 1 rfl) ?_
  refine va_get (ci := 3) (v := .ref ((upK (upK (upK (upK (upK k 36 (q0, c0)) 37 (q1, c1)) 38 (q2, c2)) 39 (q3, c3)) 40 (q4, c4)) 41).1) (C := RX4) (T := TX4) (N := 9) hx hb hts inlX4 hown hK hP 5 rfl rfl 6 (by decide) (hts _ lk_X4_30) (fun _ h9 => h9) rfl dX4_makeRoom_98 ?_
  refine lv_iload_n hx hb dX4_makeRoom_101 rfl (lv_at hl 0 rfl) ?_
  refine cp_step hx hb hml hown hts hl hK hP hD hS hA 41 5 32 6 (n := rN st 2) (f := rA st 28) rfl rfl rfl (by decide) z13 g1 g2 g0 rfl inlX4 tyX4 tyX4_ok nmX4 (by decide) (hts _ lk_X4_30) (fun _ h9 => h9) rfl (tyX4_ok _ (by decide)) (Nat.le_of_ble_eq_true rfl) gi_X4_55 ⟨hfr, hlo⟩ (by show _ ≤ 100000 - E 4; omega) (by show _ ≤ 1000000 - E 5; omega) dX4_makeRoom_102 dX4_makeRoom_105 (fun q5 c5 H locs hK hP hD hS => ?_)
  have hP : va_P D vwCl (wdX (upN (upN (upN (upN (upN (upN (lnC st) 36 x.toNatClampNeg) 37 x.toNatClampNeg) 38 x.toNatClampNeg) 39 x.toNatClampNeg) 40 x.toNatClampNeg) 41 x.toNatClampNeg) (upK (upK (upK (upK (upK (upK k 36 (q0, c0)) 37 (q1, c1)) 38 (q2, c2)) 39 (q3, c3)) 40 (q4, c4)) 41 (q5, c5)) h st) H := hP
  have hD : va_D (arC k0 h s.heap.size) (wdX (upN (upN (upN (upN (upN (upN (lnC st) 36 x.toNatClampNeg) 37 x.toNatClampNeg) 38 x.toNatClampNeg) 39 x.toNatClampNeg) 40 x.toNatClampNeg) 41 x.toNatClampNeg) (upK (upK (upK (upK (upK (upK k 36 (q0, c0)) 37 (q1, c1)) 38 (q2, c2)) 39 (q3, c3)) 40 (q4, c4)) 41 (q5, c5)) h st) := hD
  have hK : va_K D vwCl (tyC (upK (upK (upK (upK (upK (upK k 36 (q0, c0)) 37 (q1, c1)) 38 (q2, c2)) 39 (q3, c3)) 40 (q4, c4)) 41 (q5, c5))) s := hK
  have hP : va_P D vwCl (wdC (upK (upK (upK (upK (upK (upK k 36 (q0, c0)) 37 (q1, c1)) 38 (q2, c2)) 39 (q3, c3)) 40 (q4, c4)) 41 (q5, c5)) h (gN st 2 x.toNatClampNeg 6)) H := hP
  have hD : va_D (arC k0 h s.heap.size) (wdC (upK (upK (upK (upK (upK (upK k 36 (q0, c0)) 37 (q1, c1)) 38 (q2, c2)) 39 (q3, c3)) 40 (q4, c4)) 41 (q5, c5)) h (gN st 2 x.toNatClampNeg 6)) := hD
  have hZ1 : zL (gN st 2 x.toNatClampNeg 6) := ⟨z0, z1, z2, z3, z4, z5, z6, z7, fun i hi => z8 i (by have hi : x.toNatClampNeg ≤ i := hi; omega), fun i hi => z9 i (by have hi : x.toNatClampNeg ≤ i := hi; omega), fun i hi => z10 i (by have hi : x.toNatClampNeg ≤ i := hi; omega), fun i hi => z11 i (by have hi : x.toNatClampNeg ≤ i := hi; omega), fun i hi => z12 i (by have hi : x.toNatClampNeg ≤ i := hi; omega), fun i hi => z13 i (by have hi : x.toNatClampNeg ≤ i := hi; omega), z14, z15⟩
  have e1 : st.2.2.2 4 - E 4 + 1 + 1 + 1 + 1 + 1 + 1 = (gN st 2 x.toNatClampNeg 6).2.2.2 4 - E 4 := by show _ = st.2.2.2 4 + 6 - E 4; omega
  have e2 : st.2.2.2 5 - E 5 + x.toNatClampNeg + x.toNatClampNeg + x.toNatClampNeg + x.toNatClampNeg + x.toNatClampNeg + x.toNatClampNeg = (gN st 2 x.toNatClampNeg 6).2.2.2 5 - E 5 := by show _ = st.2.2.2 5 + 6 * x.toNatClampNeg - E 5; omega
  rw [e1, e2]
  exact kk _ hK H locs ls (lv_sub hl [1] rfl) ⟨hP, hD, hS, hZ1, ⟨by show E 4 ≤ st.2.2.2 4 + 6; omega, by show st.2.2.2 4 + 6 ≤ 100000; omega, by show E 5 ≤ st.2.2.2 5 + 6 * x.toNatClampNeg; omega, by show st.2.2.2 5 + 6 * x.toNatClampNeg ≤ 1000000; omega⟩⟩
set_option maxHeartbeats 4000000 in
set_option maxRecDepth 100000 in
theorem mid_Co {p : Program} {l : Launch} {e : Env} {s : State} {m : MethodId} {args : Array Value} {below : List Frame} {meth : Method} {c : Code} {H : Heap} {locs : List Loc} {Q : State → Prop} {ls : Array Slot} {D : va_G} {k k0 : Nat → Nat × ClassId} {h : Nat → Nat} {st : rs_T} {E : Nat → Nat} {fr lo : Nat}  (C : cxC D k p s m args meth c cX1_makeRoom 1 none RX1) (hl : lv_has ls 1 [(0, .ref (h 6))]) (G : gdC D k h (vA E) (arC k0 h s.heap.size) s.heap H locs st) (hg : rN st 3 < (nI (rN st 0)).toNatClampNeg ∧ 0 ≤ (nI (rN st 0)).toInt ∧ (nI (rN st 0)).toInt ≤ 4096 ∧ rN st 4 + 1 ≤ 100000 ∧ rN st 5 + 1 * (nI (rN st 0)).toNatClampNeg ≤ 1000000) (hfr : 0 ≤ fr) (hlo : 0 ≤ lo) (kk : ∀ (k1 : Nat → Nat × ClassId) (_ : va_K D vwCl (tyC k1) s) (H1 : Heap) (locs1 : List Loc) (ls1 : Array Slot), lv_has ls1 1 [(0, .ref (h 6))] → gdC D k1 h (vA E) (arC k0 h s.heap.size) s.heap H1 locs1 (gP st (nI (rN st 0)).toNatClampNeg) → W p l e (rmA fr lo E) s m args below meth c H1 locs1 ((gP st (nI (rN st 0)).toNatClampNeg).2.2.2 4 - E 4) ((gP st (nI (rN st 0)).toNatClampNeg).2.2.2 5 - E 5) Q (F0 m 64 ls1 [])) : W p l e (rmA fr lo E) s m args below meth c H locs (st.2.2.2 4 - E 4) (st.2.2.2 5 - E 5) Q (F0 m 50 ls []) := by
  obtain ⟨hx, hb, hml, hr, hown, hts, hK, hN, hlk⟩ := C
  obtain ⟨g0, g1, g2, g3, g4⟩ := hg
  obtain ⟨hP, hD, hS, hZ, hV⟩ := G
  unfold vA at hV
  have hA : ∀ q, s.heap.size ≤ q → arC k0 h s.heap.size q := fun q z => Or.inr z
  have n4 : rN st 4 = st.2.2.2 4 := rfl
  have n5 : rN st 5 = st.2.2.2 5 := rfl
  obtain ⟨z0, z1, z2, z3, z4, z5, z6, z7, z8, z9, z10, z11, z12, z13, z14, z15⟩ := id hZ
  refine lv_aload_n hx hb dX1_makeRoom_50 rfl (lv_at hl 0 rfl) ?_
  refine lv_aload_n hx hb dX1_makeRoom_51 rfl (lv_at hl 0 rfl) ?_
  refine va_get (ci := 1) (v := .ref (h 1)) (C := RX1) (T := TX1) (N := 10) hx hb hts inlX1 hown hK hP 6 rfl rfl 0 (by decide) (hts _ lk_X1_38) (fun _ h9 => h9) rfl dX1_makeRoom_52 ?_
  refine va_get (ci := 2) (v := .ref (k 17).1) (C := RX3) (T := TX3) (N := 16) hx hb hts inlX3 hown hK hP 1 rfl rfl 7 (by decide) (hts _ lk_X1_84) (fun _ h9 => h9) rfl dX1_makeRoom_55 ?_
  refine va_alen (v := nI (rN st 0)) hx hb hK hP 17 8 (waC_17 ..) rfl rfl dX1_makeRoom_58 ?_
  have h31 := cl_ti g1
  refine va_newa (atype := .int) (ty := .int) (a0 := ((nI (rN st 0)).toNatClampNeg, .inl fun _ => 0)) (N' := (nI (rN st 0)).toNatClampNeg) hx hb (hts _ ac_I) rfl hK hP hD hS hA (fun _ => rfl) (cl_nn g1) rfl (by show _ * 4 ≤ _; omega) (by show _ ≤ 100000 - E 4; omega) (by show _ ≤ 1000000 - E 5; omega) dX1_makeRoom_59 (fun q1 c1 H hK1 hP hD hS => ?_)
  have hol : 6 < (wdC k h st).length := by show 6 < 44; omega
  refine va_put (ci := 1) (v := .ref q1) (C := RX1) (T := TX1) (N := 10) hx hb hts inlX1 tyX1 tyX1_ok nmX1 hown hK hP hD hS 6 rfl rfl 3 (by decide) (hts _ lk_X1_15) (fun _ h9 => h9) rfl (tyX1_ok _ (by decide)) rfl rfl (Nat.le_of_ble_eq_true rfl) dX1_makeRoom_61 (fun H locs hP hD hS => ?_)
  obtain ⟨hP, hD⟩ := pd_new (ca := 43) hP hD hol (by show 43 < 44; omega) (by decide)
  have hK := kk_set (t0 := 34) hK (hK1.2 35 _ rfl)
  have hP : va_P D vwCl (wdC (upK k 43 (q1, c1)) h (gP st (nI (rN st 0)).toNatClampNeg)) H := hP
  have hD : va_D (arC k0 h s.heap.size) (wdC (upK k 43 (q1, c1)) h (gP st (nI (rN st 0)).toNatClampNeg)) := hD
  have hK : va_K D vwCl (tyC (upK k 43 (q1, c1))) s := hK
  have hZ1 : zL (gP st (nI (rN st 0)).toNatClampNeg) := ⟨z0, z1, z2, z3, z4, z5, z6, z7, z8, z9, z10, z11, z12, z13, fun i hi => rfl, z15⟩
  have e1 : st.2.2.2 4 - E 4 + 1 = (gP st (nI (rN st 0)).toNatClampNeg).2.2.2 4 - E 4 := by show _ = st.2.2.2 4 + 1 - E 4; omega
  have e2 : st.2.2.2 5 - E 5 + (nI (rN st 0)).toNatClampNeg = (gP st (nI (rN st 0)).toNatClampNeg).2.2.2 5 - E 5 := by show _ = st.2.2.2 5 + 1 * (nI (rN st 0)).toNatClampNeg - E 5; omega
  rw [e1, e2]
  exact kk _ hK H locs ls hl ⟨hP, hD, hS, hZ1, ⟨by show E 4 ≤ st.2.2.2 4 + 1; omega, by show st.2.2.2 4 + 1 ≤ 100000; omega, by show E 5 ≤ st.2.2.2 5 + 1 * (nI (rN st 0)).toNatClampNeg; omega, by show st.2.2.2 5 + 1 * (nI (rN st 0)).toNatClampNeg ≤ 1000000; omega⟩⟩
set_option maxHeartbeats 8000000 in
set_option maxRecDepth 100000 in
theorem mid_Wr {p : Program} {l : Launch} {e : Env} {s : State} {m : MethodId} {args : Array Value} {below : List Frame} {meth : Method} {c : Code} {H : Heap} {locs : List Loc} {Q : State → Prop} {ls : Array Slot} {D : va_G} {k k0 : Nat → Nat × ClassId} {h : Nat → Nat} {st : rs_T} {E : Nat → Nat} {fr lo : Nat} {x y : Int32} (C : cxC D k p s m args meth c cX8_makeRoom 5 (some .boolean) RX8) (hl : lv_has ls 5 [(2, .int x), (1, .int y), (0, .ref (h 2))]) (G : gdC D k h (vA E) (arC k0 h s.heap.size) s.heap H locs st) (hg : rN st 1 < x.toNatClampNeg ∧ 0 ≤ x.toInt ∧ x.toInt ≤ 4096 ∧ rN st 4 + 2 ≤ 100000 ∧ rN st 5 + 2 * x.toNatClampNeg ≤ 1000000) (hy : y = nI (rN st 1)) (hfr : 2 ≤ fr) (hlo : 72 ≤ lo) (kk : ∀ (k1 : Nat → Nat × ClassId) (_ : va_K D vwCl (tyC k1) s) (H1 : Heap) (locs1 : List Loc) (ls1 : Array Slot), lv_has ls1 5 [(0, .ref (h 2))] → gdC D k1 h (vA E) (arC k0 h s.heap.size) s.heap H1 locs1 (gN st 1 x.toNatClampNeg 2) → W p l e (rmA fr lo E) s m args below meth c H1 locs1 ((gN st 1 x.toNatClampNeg 2).2.2.2 4 - E 4) ((gN st 1 x.toNatClampNeg 2).2.2.2 5 - E 5) Q (F0 m 84 ls1 [])) : W p l e (rmA fr lo E) s m args below meth c H locs (st.2.2.2 4 - E 4) (st.2.2.2 5 - E 5) Q (F0 m 34 ls []) := by
  obtain ⟨hx, hb, hml, hr, hown, hts, hK, hN, hlk⟩ := C
  obtain ⟨g0, g1, g2, g3, g4⟩ := hg
  obtain ⟨hP, hD, hS, hZ, hV⟩ := G
  unfold vA at hV
  have hA : ∀ q, s.heap.size ≤ q → arC k0 h s.heap.size q := fun q z => Or.inr z
  have n4 : rN st 4 = st.2.2.2 4 := rfl
  have n5 : rN st 5 = st.2.2.2 5 := rfl
  obtain ⟨z0, z1, z2, z3, z4, z5, z6, z7, z8, z9, z10, z11, z12, z13, z14, z15⟩ := id hZ
  have h31 := cl_ti g1
  have hy31 : rN st 1 < 2 ^ 31 := by omega
  have hP : va_P D vwCl (wdX (lnC st) k h st) H := hP
  have hD : va_D (arC k0 h s.heap.size) (wdX (lnC st) k h st) := hD
  refine lv_aload_n hx hb dX8_makeRoom_34 rfl (lv_at hl 2 rfl) ?_
  refine va_get (ci := 7) (v := .ref (k 24).1) (C := RX8) (T := TX8) (N := 7) hx hb hts inlX8 hown hK hP 2 rfl rfl 2 (by decide) (hts _ lk_X8_15) (fun _ h9 => h9) rfl dX8_makeRoom_35 ?_
  refine lv_astore_n (lv' := [(3, .ref (k 24).1), (2, .int x), (1, .int y), (0, .ref (h 2))]) hx hb dX8_makeRoom_38 rfl hl (by decide) rfl (fun ls hl => ?_)
  refine lv_aload_n hx hb dX8_makeRoom_39 rfl (lv_at hl 3 rfl) ?_
  refine lv_aload_n hx hb dX8_makeRoom_40 rfl (lv_at hl 3 rfl) ?_
  refine va_get (ci := 7) (v := .ref (k 23).1) (C := RX8) (T := TX8) (N := 7) hx hb hts inlX8 hown hK hP 2 rfl rfl 1 (by decide) (hts _ lk_X8_9) (fun _ h9 => h9) rfl dX8_makeRoom_41 ?_
  refine lv_iload_n hx hb dX8_makeRoom_44 rfl (lv_at hl 1 rfl) ?_
  refine cp_step hx hb hml hown hts hl hK hP hD hS hA 23 2 14 1 (n := rN st 1) (f := rA st 13) rfl rfl rfl (by decide) z6 g1 g2 g0 rfl inlX8 tyX8 tyX8_ok nmX8 (by decide) (hts _ lk_X8_9) (fun _ h9 => h9) rfl (tyX8_ok _ (by decide)) (Nat.le_of_ble_eq_true rfl) gi_X8_152 ⟨hfr, hlo⟩ (by show _ ≤ 100000 - E 4; omega) (by show _ ≤ 1000000 - E 5; omega) dX8_makeRoom_45 dX8_makeRoom_48 (fun q0 c0 H locs hK hP hD hS => ?_)
  have hP : va_P D vwCl (wdX (upN (lnC st) 23 x.toNatClampNeg) (upK k 23 (q0, c0)) h st) H := hP
  have hD : va_D (arC k0 h s.heap.size) (wdX (upN (lnC st) 23 x.toNatClampNeg) (upK k 23 (q0, c0)) h st) := hD
  have hK : va_K D vwCl (tyC (upK k 23 (q0, c0))) s := hK
  refine lv_aload_n hx hb dX8_makeRoom_51 rfl (lv_at hl 3 rfl) ?_
  refine lv_iload_n hx hb dX8_makeRoom_52 rfl (lv_at hl 1 rfl) ?_
  refine va_newa (atype := .boolean) (ty := .boolean) (a0 := (x.toNatClampNeg, .inl fun _ => 0)) (N' := x.toNatClampNeg) hx hb (hts _ ac_Z) rfl hK hP hD hS hA (fun _ => rfl) (cl_nn g1) rfl (by show _ * 1 ≤ _; omega) (by show _ ≤ 100000 - E 4; omega) (by show _ ≤ 1000000 - E 5; omega) dX8_makeRoom_53 (fun q1 c1 H hK1 hP hD hS => ?_)
  refine va_put (ci := 7) (v := .ref q1) (C := RX8) (T := TX8) (N := 7) hx hb hts inlX8 tyX8 tyX8_ok nmX8 hown hK hP hD hS 2 rfl rfl 2 (by decide) (hts _ lk_X8_15) (fun _ h9 => h9) rfl (tyX8_ok _ (by decide)) rfl rfl (Nat.le_of_ble_eq_true rfl) dX8_makeRoom_55 (fun H locs hP hD hS => ?_)
  have hP : va_P D vwCl ((wdX (upN (lnC st) 23 x.toNatClampNeg) (upK k 23 (q0, c0)) h st ++ ([(q1, .inl (c1, x.toNatClampNeg, .inl fun _ => 0))] : va_W)).set 2 (h 2, .inr (7, [.ref (h 1), .ref q0, .ref q1, .int (rI st 5), .int (rI st 6), .int (rI st 7), .int (rI st 8)]))) H := hP
  have hD : va_D (arC k0 h s.heap.size) ((wdX (upN (lnC st) 23 x.toNatClampNeg) (upK k 23 (q0, c0)) h st ++ ([(q1, .inl (c1, x.toNatClampNeg, .inl fun _ => 0))] : va_W)).set 2 (h 2, .inr (7, [.ref (h 1), .ref q0, .ref q1, .int (rI st 5), .int (rI st 6), .int (rI st 7), .int (rI st 8)]))) := hD
  have hK1 : va_K D vwCl (tyC (upK k 23 (q0, c0)) ++ [(c1, .boolean)]) s := hK1
  refine lv_iconst (v := 0) hx hb dX8_makeRoom_58 (by decide) ?_
  refine lv_istore (lv' := [(4, .int 0), (3, .ref (k 24).1), (2, .int x), (1, .int y), (0, .ref (h 2))]) hx hb dX8_makeRoom_59 hl (by decide) rfl (fun ls hl => ?_)
  have hloop : ∀ (fu i : Nat) (z : Int32) (g : Nat → Int32) (H : Heap) (locs : List Loc) (ls : Array Slot), rN st 1 - i < fu → i ≤ rN st 1 → z = nI i → (∀ j, j < i → g j = rA st 14 j) → (∀ j, i ≤ j → g j = 0) → lv_has ls 5 [(4, .int z), (3, .ref (k 24).1), (2, .int x), (1, .int y), (0, .ref (h 2))] → va_P D vwCl ((wdX (upN (lnC st) 23 x.toNatClampNeg) (upK k 23 (q0, c0)) h st ++ ([(q1, .inl (c1, x.toNatClampNeg, .inl g))] : va_W)).set 2 (h 2, .inr (7, [.ref (h 1), .ref q0, .ref q1, .int (rI st 5), .int (rI st 6), .int (rI st 7), .int (rI st 8)]))) H → va_D (arC k0 h s.heap.size) ((wdX (upN (lnC st) 23 x.toNatClampNeg) (upK k 23 (q0, c0)) h st ++ ([(q1, .inl (c1, x.toNatClampNeg, .inl g))] : va_W)).set 2 (h 2, .inr (7, [.ref (h 1), .ref q0, .ref q1, .int (rI st 5), .int (rI st 6), .int (rI st 7), .int (rI st 8)]))) → va_S (arC k0 h s.heap.size) s.heap H locs → W p l e (rmA fr lo E) s m args below meth c H locs (st.2.2.2 4 - E 4 + 1 + 1) (st.2.2.2 5 - E 5 + x.toNatClampNeg + x.toNatClampNeg) Q (F0 m 61 ls []) := by
    intro fu
    induction fu with
    | zero => intro i z g H locs ls h1; omega
    | succ fu ih =>
      intro i z g H locs ls hm hi hzi hg hg0 hl hP hD hS
      refine lv_iload hx hb dX8_makeRoom_61 (lv_at hl 0 rfl) ?_
      refine lv_iload_n hx hb dX8_makeRoom_63 rfl (lv_at hl 3 rfl) ?_
      refine lv_icmp_ge (tgt := 84) hx hb dX8_makeRoom_64 (by decide) (fun hq => ?_) (fun hq => ?_)
      · have hi : i = rN st 1 := (Nat.lt_or_ge i (rN st 1)).elim (fun q => absurd (by rw [hzi, hy] at hq; exact hq) (nI_ge q hy31)) (fun q => by omega)
        have hall : ∀ j, g j = rA st 14 j := fun j => (Nat.lt_or_ge j i).elim (fun q => hg j q) (fun q => (hg0 j q).trans (z7 j (by rw [← hi]; exact q)).symm)
        have hgf : g = rA st 14 := funext hall
        subst hgf
        have hol : 2 < (wdX (upN (lnC st) 23 x.toNatClampNeg) (upK k 23 (q0, c0)) h st).length := by show 2 < 44; omega
        obtain ⟨hP, hD⟩ := pd_new (ca := 24) hP hD hol (by show 24 < 44; omega) (by decide)
        have hK := kk_set (t0 := 15) hK (hK1.2 35 _ rfl)
        have hP : va_P D vwCl (wdC (upK (upK k 23 (q0, c0)) 24 (q1, c1)) h (gN st 1 x.toNatClampNeg 2)) H := hP
        have hD : va_D (arC k0 h s.heap.size) (wdC (upK (upK k 23 (q0, c0)) 24 (q1, c1)) h (gN st 1 x.toNatClampNeg 2)) := hD
        have hK : va_K D vwCl (tyC (upK (upK k 23 (q0, c0)) 24 (q1, c1))) s := hK
        have hZ1 : zL (gN st 1 x.toNatClampNeg 2) := ⟨z0, z1, z2, z3, z4, z5, fun i hi => z6 i (by have hi : x.toNatClampNeg ≤ i := hi; omega), fun i hi => z7 i (by have hi : x.toNatClampNeg ≤ i := hi; omega), z8, z9, z10, z11, z12, z13, z14, z15⟩
        have e1 : st.2.2.2 4 - E 4 + 1 + 1 = (gN st 1 x.toNatClampNeg 2).2.2.2 4 - E 4 := by show _ = st.2.2.2 4 + 2 - E 4; omega
        have e2 : st.2.2.2 5 - E 5 + x.toNatClampNeg + x.toNatClampNeg = (gN st 1 x.toNatClampNeg 2).2.2.2 5 - E 5 := by show _ = st.2.2.2 5 + 2 * x.toNatClampNeg - E 5; omega
        rw [e1, e2]
        exact kk _ hK H locs ls (lv_sub hl [4] rfl) ⟨hP, hD, hS, hZ1, ⟨by show E 4 ≤ st.2.2.2 4 + 2; omega, by show st.2.2.2 4 + 2 ≤ 100000; omega, by show E 5 ≤ st.2.2.2 5 + 2 * x.toNatClampNeg; omega, by show st.2.2.2 5 + 2 * x.toNatClampNeg ≤ 1000000; omega⟩⟩
      · have hi : i < rN st 1 := (Nat.lt_or_ge i (rN st 1)).elim id (fun q => absurd (by rw [hzi, hy]; exact nI_le q (by omega)) hq)
        have hv : vp_in z (rN st 1) := by rw [hzi]; exact vp_in_nI hi hy31
        have hv2 : vp_in z x.toNatClampNeg := by rw [hzi]; exact vp_in_nI (by omega) (by omega)
        have hc : z.toNatClampNeg = i := by rw [hzi]; exact nI_clamp (by omega)
        refine lv_aload_n hx hb dX8_makeRoom_67 rfl (lv_at hl 4 rfl) ?_
        refine va_get (ci := 7) (v := .ref q1) (C := RX8) (T := TX8) (N := 7) hx hb hts inlX8 hown hK hP 2 rfl rfl 2 (by decide) (hts _ lk_X8_15) (fun _ h9 => h9) rfl dX8_makeRoom_68 ?_
        refine lv_iload hx hb dX8_makeRoom_71 (lv_at hl 0 rfl) ?_
        refine lv_aload_n hx hb dX8_makeRoom_73 rfl (lv_at hl 1 rfl) ?_
        refine lv_iload hx hb dX8_makeRoom_74 (lv_at hl 0 rfl) ?_
        refine va_zald (n := rN st 1) (f := rA st 14) hx hb hK hP 24 15 rfl rfl hv dX8_makeRoom_76 ?_
        refine va_zast hx hb hK1 hP hD hS 44 35 rfl rfl hv2 dX8_makeRoom_77 (fun H locs hP hD hS => ?_)
        rw [hc, z15 i] at hP hD
        have hP : va_P D vwCl ((wdX (upN (lnC st) 23 x.toNatClampNeg) (upK k 23 (q0, c0)) h st ++ ([(q1, .inl (c1, x.toNatClampNeg, .inl (upd g i (rA st 14 i))))] : va_W)).set 2 (h 2, .inr (7, [.ref (h 1), .ref q0, .ref q1, .int (rI st 5), .int (rI st 6), .int (rI st 7), .int (rI st 8)]))) H := hP
        have hD : va_D (arC k0 h s.heap.size) ((wdX (upN (lnC st) 23 x.toNatClampNeg) (upK k 23 (q0, c0)) h st ++ ([(q1, .inl (c1, x.toNatClampNeg, .inl (upd g i (rA st 14 i))))] : va_W)).set 2 (h 2, .inr (7, [.ref (h 1), .ref q0, .ref q1, .int (rI st 5), .int (rI st 6), .int (rI st 7), .int (rI st 8)]))) := hD
        obtain ⟨z2, ez2⟩ : ∃ y : Int32, y = z + 1 := ⟨_, rfl⟩
        refine lv_iinc (v := z2) (lv' := [(4, .int z2), (3, .ref (k 24).1), (2, .int x), (1, .int y), (0, .ref (h 2))]) hx hb dX8_makeRoom_78 hl (k := 0) rfl (by rw [ez2]; rfl) (by decide) rfl (fun ls hl => ?_)
        refine lv_goto (tgt := 61) hx hb dX8_makeRoom_81 (by decide) ?_
        exact ih (i + 1) z2 (upd g i (rA st 14 i)) H locs ls (by omega) (by omega) (by rw [ez2, hzi]; exact nI_1 i) (fun j hj => (Nat.lt_or_ge j i).elim (fun q => by rw [pk_un (by omega)]; exact hg j q) (fun q => by rw [show j = i by omega]; exact pk_us)) (fun j hj => by rw [pk_un (by omega)]; exact hg0 j (by omega)) hl hP hD hS
  exact hloop (rN st 1 + 1) 0 0 (fun _ => 0) H locs ls (by omega) (Nat.zero_le _) nI_0.symm (fun j hj => absurd hj (Nat.not_lt_zero j)) (fun _ _ => rfl) hl hP hD hS
