def cw_Pr (h0 : Nat) (u : (Nat → Nat) × (Nat → ClassId)) : va_W := [(h0, .inr (2, [.ref (u.1 0), .ref (u.1 1), .ref (u.1 2), .ref (u.1 3), .ref (u.1 4), .ref (u.1 5), .ref (u.1 6), .ref (u.1 7), .ref (u.1 8), .ref (u.1 9), .ref (u.1 10), .ref (u.1 11), .ref (u.1 12), .int 0, .int (-1), .int 0])), (u.1 0, .inl (u.2 0, 40, .inl fun _ => 0)), (u.1 1, .inl (u.2 1, 40, .inl fun _ => 0)), (u.1 2, .inl (u.2 2, 40, .inl fun _ => 0)), (u.1 3, .inl (u.2 3, 40, .inl fun _ => 0)), (u.1 4, .inl (u.2 4, 40, .inl fun _ => 0)), (u.1 5, .inl (u.2 5, 40, .inl fun _ => 0)), (u.1 6, .inl (u.2 6, 40, .inl fun _ => 0)), (u.1 7, .inl (u.2 7, 32, .inl fun _ => 0)), (u.1 8, .inl (u.2 8, 32, .inl fun _ => 0)), (u.1 9, .inl (u.2 9, 32, .inl fun _ => 0)), (u.1 10, .inl (u.2 10, 32, .inl fun _ => 0)), (u.1 11, .inl (u.2 11, 32, .inl fun _ => 0)), (u.1 12, .inl (u.2 12, 32, .inl fun _ => 0))]
def ct_Pr (u : (Nat → Nat) × (Nat → ClassId)) : List (ClassId × FieldType) := [(u.2 0, .int), (u.2 1, .int), (u.2 2, .int), (u.2 3, .int), (u.2 4, .int), (u.2 5, .int), (u.2 6, .int), (u.2 7, .int), (u.2 8, .int), (u.2 9, .int), (u.2 10, .int), (u.2 11, .int), (u.2 12, .int)]
def rm_kn_Pr : Room := { frames := 1, cells := 13, slots := 472, locals := 20 }
theorem nb_Pr {D : va_G} {h0 sz : Nat} : FrameBlind (va_Pc [.ref h0] (fun U => U.heap.size = sz ∧ va_P D vwCl [(h0, .inr (2, [.null, .null, .null, .null, .null, .null, .null, .null, .null, .null, .null, .null, .null, .int 0, .int 0, .int 0]))] U.heap ∧ va_K D vwCl [] U ∧ va_D (fun _ => True) [(h0, .inr (2, [.null, .null, .null, .null, .null, .null, .null, .null, .null, .null, .null, .null, .null, .int 0, .int 0, .int 0]))])) := fun a U g mk q => by
  obtain ⟨q0, q1, qP, qK, qD⟩ := q
  exact ⟨q0, q1, qP, va_K.moved (u := U) (U := U.calling g mk a) (Vm.Alike.refl U.vm) qK, qD⟩
set_option maxHeartbeats 4000000 in
set_option maxRecDepth 100000 in
theorem kn_Pr (l : Launch) (D : va_G) (h0 sz : Nat) : Met l yX3_init (.code yX3_init cX3_init 1 none :: TB) rm_kn_Pr (va_Pc [.ref h0] (fun U => U.heap.size = sz ∧ va_P D vwCl [(h0, .inr (2, [.null, .null, .null, .null, .null, .null, .null, .null, .null, .null, .null, .null, .null, .int 0, .int 0, .int 0]))] U.heap ∧ va_K D vwCl [] U ∧ va_D (fun _ => True) [(h0, .inr (2, [.null, .null, .null, .null, .null, .null, .null, .null, .null, .null, .null, .null, .null, .int 0, .int 0, .int 0]))])) (va_Qv (fun _ : (Nat → Nat) × (Nat → ClassId) => True) (fun u t => va_P D vwCl (cw_Pr h0 u) t.heap ∧ va_K D vwCl (ct_Pr u) t ∧ va_D (va_A [(h0, .inr (2, [.null, .null, .null, .null, .null, .null, .null, .null, .null, .null, .null, .null, .null, .int 0, .int 0, .int 0]))] sz) (cw_Pr h0 u)) (va_A [(h0, .inr (2, [.null, .null, .null, .null, .null, .null, .null, .null, .null, .null, .null, .null, .null, .int 0, .int 0, .int 0]))] sz)) 13 472 (va_A [(h0, .inr (2, [.null, .null, .null, .null, .null, .null, .null, .null, .null, .null, .null, .null, .null, .int 0, .int 0, .int 0]))] sz) := by
  refine Met.ofW (cc := cX3_init) (maxL := 1) (ret := none) (by decide) rfl ?_
  intro p e s m args below meth c s₁ B hml hv
  obtain ⟨rfl, hsz, hP, hK, hD0⟩ := hv
  have hx := B.exec
  have hb := B.bytes
  have hr := B.returns
  have hts0 := atoms_spec (ws := .code yX3_init cX3_init 1 none :: TB) B.pre
  have hts : ∀ w ∈ TB, w.before _ s = true := fun w hw => hts0 w (List.mem_cons_of_mem _ hw)
  have hown : s.vm.findClass RX3 = some m.cls := findClass_of_methodNamed B.named
  have hlk := B.notSynchronized
  have hin : meth.name = "<init>" := (name_of_methodNamed B.named B.method).1
  subst hsz
  have hD := hD0.self (sz := s.heap.size)
  generalize hAe : va_A [(h0, .inr (2, [.null, .null, .null, .null, .null, .null, .null, .null, .null, .null, .null, .null, .null, .int 0, .int 0, .int 0]))] s.heap.size = A at hD ⊢
  have hA : ∀ q : Nat, s.heap.size ≤ q → A q := fun q h => by rw [← hAe]; exact Or.inr h
  have hS : va_S A s.heap s.heap [] := va_S.rf
  have hP : va_P D vwCl [(h0, .inr (2, [.null, .null, .null, .null, .null, .null, .null, .null, .null, .null, .null, .null, .null, .int 0, .int 0, .int 0]))] s.heap := hP
  have hl := lv_entry ([.ref h0]) (n := 1) (Nat.le_of_ble_eq_true rfl)
  rw [lg_entry_eq]
  generalize (lg_sl ([.ref h0]) ++ List.replicate (1 - (lg_sl ([.ref h0])).length) Slot.unset).toArray = ls at hl ⊢
  have hl : lv_has ls 1 [(0, .ref h0)] := hl
  refine lv_aload_n hx hb dX3_init_0 rfl (lv_at hl 0 rfl) ?_
  refine W.objInit hx hb hown (hts _ lk_X3_3) (hts _ im_obj) (hts _ co_obj) rfl (by rw [hml]; exact hl.1) rfl dX3_init_1 (Nat.le_of_ble_eq_true rfl) (Nat.le_of_ble_eq_true rfl) ?_
  refine W.eq (g2 := F0 m 4 ls []) rfl ?_
  refine lv_aload_n hx hb dX3_init_4 rfl (lv_at hl 0 rfl) ?_
  refine lv_bipush (v := 40) hx hb dX3_init_5 (by decide) ?_
  refine va_newa (atype := .int) (ty := .int) (a0 := (40, .inl fun _ => 0)) (N' := 40) hx hb (hts _ ac_I) rfl hK hP hD hS hA (fun _ => rfl) (by decide) rfl (by decide) (Nat.le_of_ble_eq_true rfl) (Nat.le_of_ble_eq_true rfl) dX3_init_7 (fun q1 c1 H hK hP hD hS => ?_)
  have hP : va_P D vwCl [(h0, .inr (2, [.null, .null, .null, .null, .null, .null, .null, .null, .null, .null, .null, .null, .null, .int 0, .int 0, .int 0])), (q1, .inl (c1, 40, .inl fun _ => 0))] H := hP
  have hD : va_D A [(h0, .inr (2, [.null, .null, .null, .null, .null, .null, .null, .null, .null, .null, .null, .null, .null, .int 0, .int 0, .int 0])), (q1, .inl (c1, 40, .inl fun _ => 0))] := hD
  have hK : va_K D vwCl [(c1, .int)] s := hK
  refine W.widen (k := 1) (n := 40) (Nat.le_of_ble_eq_true rfl) (Nat.le_of_ble_eq_true rfl) ?_
  refine va_putF (ci := 2) (v := .ref q1) (C := RX3) (T := TX3) (N := 16) hx hb hts inlX3 tyX3 tyX3_ok nmX3 hown hK hP hD hS 0 rfl rfl 0 (by decide) (hts _ lk_X3_9) (fun _ h9 => h9) rfl hin rfl (tyX3_ok _ (by decide)) rfl rfl (Nat.le_of_ble_eq_true rfl) dX3_init_9 (fun H locs hP hD hS => ?_)
  have hP : va_P D vwCl [(h0, .inr (2, [.ref q1, .null, .null, .null, .null, .null, .null, .null, .null, .null, .null, .null, .null, .int 0, .int 0, .int 0])), (q1, .inl (c1, 40, .inl fun _ => 0))] H := hP
  have hD : va_D A [(h0, .inr (2, [.ref q1, .null, .null, .null, .null, .null, .null, .null, .null, .null, .null, .null, .null, .int 0, .int 0, .int 0])), (q1, .inl (c1, 40, .inl fun _ => 0))] := hD
  refine lv_aload_n hx hb dX3_init_12 rfl (lv_at hl 0 rfl) ?_
  refine lv_bipush (v := 40) hx hb dX3_init_13 (by decide) ?_
  refine va_newa (atype := .int) (ty := .int) (a0 := (40, .inl fun _ => 0)) (N' := 40) hx hb (hts _ ac_I) rfl hK hP hD hS hA (fun _ => rfl) (by decide) rfl (by decide) (Nat.le_of_ble_eq_true rfl) (Nat.le_of_ble_eq_true rfl) dX3_init_15 (fun q2 c2 H hK hP hD hS => ?_)
  have hP : va_P D vwCl [(h0, .inr (2, [.ref q1, .null, .null, .null, .null, .null, .null, .null, .null, .null, .null, .null, .null, .int 0, .int 0, .int 0])), (q1, .inl (c1, 40, .inl fun _ => 0)), (q2, .inl (c2, 40, .inl fun _ => 0))] H := hP
  have hD : va_D A [(h0, .inr (2, [.ref q1, .null, .null, .null, .null, .null, .null, .null, .null, .null, .null, .null, .null, .int 0, .int 0, .int 0])), (q1, .inl (c1, 40, .inl fun _ => 0)), (q2, .inl (c2, 40, .inl fun _ => 0))] := hD
  have hK : va_K D vwCl [(c1, .int), (c2, .int)] s := hK
  refine W.widen (k := 2) (n := 80) (Nat.le_of_ble_eq_true rfl) (Nat.le_of_ble_eq_true rfl) ?_
  refine va_putF (ci := 2) (v := .ref q2) (C := RX3) (T := TX3) (N := 16) hx hb hts inlX3 tyX3 tyX3_ok nmX3 hown hK hP hD hS 0 rfl rfl 1 (by decide) (hts _ lk_X3_15) (fun _ h9 => h9) rfl hin rfl (tyX3_ok _ (by decide)) rfl rfl (Nat.le_of_ble_eq_true rfl) dX3_init_17 (fun H locs hP hD hS => ?_)
  have hP : va_P D vwCl [(h0, .inr (2, [.ref q1, .ref q2, .null, .null, .null, .null, .null, .null, .null, .null, .null, .null, .null, .int 0, .int 0, .int 0])), (q1, .inl (c1, 40, .inl fun _ => 0)), (q2, .inl (c2, 40, .inl fun _ => 0))] H := hP
  have hD : va_D A [(h0, .inr (2, [.ref q1, .ref q2, .null, .null, .null, .null, .null, .null, .null, .null, .null, .null, .null, .int 0, .int 0, .int 0])), (q1, .inl (c1, 40, .inl fun _ => 0)), (q2, .inl (c2, 40, .inl fun _ => 0))] := hD
  refine lv_aload_n hx hb dX3_init_20 rfl (lv_at hl 0 rfl) ?_
  refine lv_bipush (v := 40) hx hb dX3_init_21 (by decide) ?_
  refine va_newa (atype := .int) (ty := .int) (a0 := (40, .inl fun _ => 0)) (N' := 40) hx hb (hts _ ac_I) rfl hK hP hD hS hA (fun _ => rfl) (by decide) rfl (by decide) (Nat.le_of_ble_eq_true rfl) (Nat.le_of_ble_eq_true rfl) dX3_init_23 (fun q3 c3 H hK hP hD hS => ?_)
  have hP : va_P D vwCl [(h0, .inr (2, [.ref q1, .ref q2, .null, .null, .null, .null, .null, .null, .null, .null, .null, .null, .null, .int 0, .int 0, .int 0])), (q1, .inl (c1, 40, .inl fun _ => 0)), (q2, .inl (c2, 40, .inl fun _ => 0)), (q3, .inl (c3, 40, .inl fun _ => 0))] H := hP
  have hD : va_D A [(h0, .inr (2, [.ref q1, .ref q2, .null, .null, .null, .null, .null, .null, .null, .null, .null, .null, .null, .int 0, .int 0, .int 0])), (q1, .inl (c1, 40, .inl fun _ => 0)), (q2, .inl (c2, 40, .inl fun _ => 0)), (q3, .inl (c3, 40, .inl fun _ => 0))] := hD
  have hK : va_K D vwCl [(c1, .int), (c2, .int), (c3, .int)] s := hK
  refine W.widen (k := 3) (n := 120) (Nat.le_of_ble_eq_true rfl) (Nat.le_of_ble_eq_true rfl) ?_
  refine va_putF (ci := 2) (v := .ref q3) (C := RX3) (T := TX3) (N := 16) hx hb hts inlX3 tyX3 tyX3_ok nmX3 hown hK hP hD hS 0 rfl rfl 2 (by decide) (hts _ lk_X3_18) (fun _ h9 => h9) rfl hin rfl (tyX3_ok _ (by decide)) rfl rfl (Nat.le_of_ble_eq_true rfl) dX3_init_25 (fun H locs hP hD hS => ?_)
  have hP : va_P D vwCl [(h0, .inr (2, [.ref q1, .ref q2, .ref q3, .null, .null, .null, .null, .null, .null, .null, .null, .null, .null, .int 0, .int 0, .int 0])), (q1, .inl (c1, 40, .inl fun _ => 0)), (q2, .inl (c2, 40, .inl fun _ => 0)), (q3, .inl (c3, 40, .inl fun _ => 0))] H := hP
  have hD : va_D A [(h0, .inr (2, [.ref q1, .ref q2, .ref q3, .null, .null, .null, .null, .null, .null, .null, .null, .null, .null, .int 0, .int 0, .int 0])), (q1, .inl (c1, 40, .inl fun _ => 0)), (q2, .inl (c2, 40, .inl fun _ => 0)), (q3, .inl (c3, 40, .inl fun _ => 0))] := hD
  refine lv_aload_n hx hb dX3_init_28 rfl (lv_at hl 0 rfl) ?_
  refine lv_bipush (v := 40) hx hb dX3_init_29 (by decide) ?_
  refine va_newa (atype := .int) (ty := .int) (a0 := (40, .inl fun _ => 0)) (N' := 40) hx hb (hts _ ac_I) rfl hK hP hD hS hA (fun _ => rfl) (by decide) rfl (by decide) (Nat.le_of_ble_eq_true rfl) (Nat.le_of_ble_eq_true rfl) dX3_init_31 (fun q4 c4 H hK hP hD hS => ?_)
  have hP : va_P D vwCl [(h0, .inr (2, [.ref q1, .ref q2, .ref q3, .null, .null, .null, .null, .null, .null, .null, .null, .null, .null, .int 0, .int 0, .int 0])), (q1, .inl (c1, 40, .inl fun _ => 0)), (q2, .inl (c2, 40, .inl fun _ => 0)), (q3, .inl (c3, 40, .inl fun _ => 0)), (q4, .inl (c4, 40, .inl fun _ => 0))] H := hP
  have hD : va_D A [(h0, .inr (2, [.ref q1, .ref q2, .ref q3, .null, .null, .null, .null, .null, .null, .null, .null, .null, .null, .int 0, .int 0, .int 0])), (q1, .inl (c1, 40, .inl fun _ => 0)), (q2, .inl (c2, 40, .inl fun _ => 0)), (q3, .inl (c3, 40, .inl fun _ => 0)), (q4, .inl (c4, 40, .inl fun _ => 0))] := hD
  have hK : va_K D vwCl [(c1, .int), (c2, .int), (c3, .int), (c4, .int)] s := hK
  refine W.widen (k := 4) (n := 160) (Nat.le_of_ble_eq_true rfl) (Nat.le_of_ble_eq_true rfl) ?_
  refine va_putF (ci := 2) (v := .ref q4) (C := RX3) (T := TX3) (N := 16) hx hb hts inlX3 tyX3 tyX3_ok nmX3 hown hK hP hD hS 0 rfl rfl 3 (by decide) (hts _ lk_X3_21) (fun _ h9 => h9) rfl hin rfl (tyX3_ok _ (by decide)) rfl rfl (Nat.le_of_ble_eq_true rfl) dX3_init_33 (fun H locs hP hD hS => ?_)
  have hP : va_P D vwCl [(h0, .inr (2, [.ref q1, .ref q2, .ref q3, .ref q4, .null, .null, .null, .null, .null, .null, .null, .null, .null, .int 0, .int 0, .int 0])), (q1, .inl (c1, 40, .inl fun _ => 0)), (q2, .inl (c2, 40, .inl fun _ => 0)), (q3, .inl (c3, 40, .inl fun _ => 0)), (q4, .inl (c4, 40, .inl fun _ => 0))] H := hP
  have hD : va_D A [(h0, .inr (2, [.ref q1, .ref q2, .ref q3, .ref q4, .null, .null, .null, .null, .null, .null, .null, .null, .null, .int 0, .int 0, .int 0])), (q1, .inl (c1, 40, .inl fun _ => 0)), (q2, .inl (c2, 40, .inl fun _ => 0)), (q3, .inl (c3, 40, .inl fun _ => 0)), (q4, .inl (c4, 40, .inl fun _ => 0))] := hD
  refine lv_aload_n hx hb dX3_init_36 rfl (lv_at hl 0 rfl) ?_
  refine lv_bipush (v := 40) hx hb dX3_init_37 (by decide) ?_
  refine va_newa (atype := .int) (ty := .int) (a0 := (40, .inl fun _ => 0)) (N' := 40) hx hb (hts _ ac_I) rfl hK hP hD hS hA (fun _ => rfl) (by decide) rfl (by decide) (Nat.le_of_ble_eq_true rfl) (Nat.le_of_ble_eq_true rfl) dX3_init_39 (fun q5 c5 H hK hP hD hS => ?_)
  have hP : va_P D vwCl [(h0, .inr (2, [.ref q1, .ref q2, .ref q3, .ref q4, .null, .null, .null, .null, .null, .null, .null, .null, .null, .int 0, .int 0, .int 0])), (q1, .inl (c1, 40, .inl fun _ => 0)), (q2, .inl (c2, 40, .inl fun _ => 0)), (q3, .inl (c3, 40, .inl fun _ => 0)), (q4, .inl (c4, 40, .inl fun _ => 0)), (q5, .inl (c5, 40, .inl fun _ => 0))] H := hP
  have hD : va_D A [(h0, .inr (2, [.ref q1, .ref q2, .ref q3, .ref q4, .null, .null, .null, .null, .null, .null, .null, .null, .null, .int 0, .int 0, .int 0])), (q1, .inl (c1, 40, .inl fun _ => 0)), (q2, .inl (c2, 40, .inl fun _ => 0)), (q3, .inl (c3, 40, .inl fun _ => 0)), (q4, .inl (c4, 40, .inl fun _ => 0)), (q5, .inl (c5, 40, .inl fun _ => 0))] := hD
  have hK : va_K D vwCl [(c1, .int), (c2, .int), (c3, .int), (c4, .int), (c5, .int)] s := hK
  refine W.widen (k := 5) (n := 200) (Nat.le_of_ble_eq_true rfl) (Nat.le_of_ble_eq_true rfl) ?_
  refine va_putF (ci := 2) (v := .ref q5) (C := RX3) (T := TX3) (N := 16) hx hb hts inlX3 tyX3 tyX3_ok nmX3 hown hK hP hD hS 0 rfl rfl 4 (by decide) (hts _ lk_X3_24) (fun _ h9 => h9) rfl hin rfl (tyX3_ok _ (by decide)) rfl rfl (Nat.le_of_ble_eq_true rfl) dX3_init_41 (fun H locs hP hD hS => ?_)
  have hP : va_P D vwCl [(h0, .inr (2, [.ref q1, .ref q2, .ref q3, .ref q4, .ref q5, .null, .null, .null, .null, .null, .null, .null, .null, .int 0, .int 0, .int 0])), (q1, .inl (c1, 40, .inl fun _ => 0)), (q2, .inl (c2, 40, .inl fun _ => 0)), (q3, .inl (c3, 40, .inl fun _ => 0)), (q4, .inl (c4, 40, .inl fun _ => 0)), (q5, .inl (c5, 40, .inl fun _ => 0))] H := hP
  have hD : va_D A [(h0, .inr (2, [.ref q1, .ref q2, .ref q3, .ref q4, .ref q5, .null, .null, .null, .null, .null, .null, .null, .null, .int 0, .int 0, .int 0])), (q1, .inl (c1, 40, .inl fun _ => 0)), (q2, .inl (c2, 40, .inl fun _ => 0)), (q3, .inl (c3, 40, .inl fun _ => 0)), (q4, .inl (c4, 40, .inl fun _ => 0)), (q5, .inl (c5, 40, .inl fun _ => 0))] := hD
  refine lv_aload_n hx hb dX3_init_44 rfl (lv_at hl 0 rfl) ?_
  refine lv_bipush (v := 40) hx hb dX3_init_45 (by decide) ?_
  refine va_newa (atype := .int) (ty := .int) (a0 := (40, .inl fun _ => 0)) (N' := 40) hx hb (hts _ ac_I) rfl hK hP hD hS hA (fun _ => rfl) (by decide) rfl (by decide) (Nat.le_of_ble_eq_true rfl) (Nat.le_of_ble_eq_true rfl) dX3_init_47 (fun q6 c6 H hK hP hD hS => ?_)
  have hP : va_P D vwCl [(h0, .inr (2, [.ref q1, .ref q2, .ref q3, .ref q4, .ref q5, .null, .null, .null, .null, .null, .null, .null, .null, .int 0, .int 0, .int 0])), (q1, .inl (c1, 40, .inl fun _ => 0)), (q2, .inl (c2, 40, .inl fun _ => 0)), (q3, .inl (c3, 40, .inl fun _ => 0)), (q4, .inl (c4, 40, .inl fun _ => 0)), (q5, .inl (c5, 40, .inl fun _ => 0)), (q6, .inl (c6, 40, .inl fun _ => 0))] H := hP
  have hD : va_D A [(h0, .inr (2, [.ref q1, .ref q2, .ref q3, .ref q4, .ref q5, .null, .null, .null, .null, .null, .null, .null, .null, .int 0, .int 0, .int 0])), (q1, .inl (c1, 40, .inl fun _ => 0)), (q2, .inl (c2, 40, .inl fun _ => 0)), (q3, .inl (c3, 40, .inl fun _ => 0)), (q4, .inl (c4, 40, .inl fun _ => 0)), (q5, .inl (c5, 40, .inl fun _ => 0)), (q6, .inl (c6, 40, .inl fun _ => 0))] := hD
  have hK : va_K D vwCl [(c1, .int), (c2, .int), (c3, .int), (c4, .int), (c5, .int), (c6, .int)] s := hK
  refine W.widen (k := 6) (n := 240) (Nat.le_of_ble_eq_true rfl) (Nat.le_of_ble_eq_true rfl) ?_
  refine va_putF (ci := 2) (v := .ref q6) (C := RX3) (T := TX3) (N := 16) hx hb hts inlX3 tyX3 tyX3_ok nmX3 hown hK hP hD hS 0 rfl rfl 5 (by decide) (hts _ lk_X3_27) (fun _ h9 => h9) rfl hin rfl (tyX3_ok _ (by decide)) rfl rfl (Nat.le_of_ble_eq_true rfl) dX3_init_49 (fun H locs hP hD hS => ?_)
  have hP : va_P D vwCl [(h0, .inr (2, [.ref q1, .ref q2, .ref q3, .ref q4, .ref q5, .ref q6, .null, .null, .null, .null, .null, .null, .null, .int 0, .int 0, .int 0])), (q1, .inl (c1, 40, .inl fun _ => 0)), (q2, .inl (c2, 40, .inl fun _ => 0)), (q3, .inl (c3, 40, .inl fun _ => 0)), (q4, .inl (c4, 40, .inl fun _ => 0)), (q5, .inl (c5, 40, .inl fun _ => 0)), (q6, .inl (c6, 40, .inl fun _ => 0))] H := hP
  have hD : va_D A [(h0, .inr (2, [.ref q1, .ref q2, .ref q3, .ref q4, .ref q5, .ref q6, .null, .null, .null, .null, .null, .null, .null, .int 0, .int 0, .int 0])), (q1, .inl (c1, 40, .inl fun _ => 0)), (q2, .inl (c2, 40, .inl fun _ => 0)), (q3, .inl (c3, 40, .inl fun _ => 0)), (q4, .inl (c4, 40, .inl fun _ => 0)), (q5, .inl (c5, 40, .inl fun _ => 0)), (q6, .inl (c6, 40, .inl fun _ => 0))] := hD
  refine lv_aload_n hx hb dX3_init_52 rfl (lv_at hl 0 rfl) ?_
  refine lv_bipush (v := 40) hx hb dX3_init_53 (by decide) ?_
  refine va_newa (atype := .int) (ty := .int) (a0 := (40, .inl fun _ => 0)) (N' := 40) hx hb (hts _ ac_I) rfl hK hP hD hS hA (fun _ => rfl) (by decide) rfl (by decide) (Nat.le_of_ble_eq_true rfl) (Nat.le_of_ble_eq_true rfl) dX3_init_55 (fun q7 c7 H hK hP hD hS => ?_)
  have hP : va_P D vwCl [(h0, .inr (2, [.ref q1, .ref q2, .ref q3, .ref q4, .ref q5, .ref q6, .null, .null, .null, .null, .null, .null, .null, .int 0, .int 0, .int 0])), (q1, .inl (c1, 40, .inl fun _ => 0)), (q2, .inl (c2, 40, .inl fun _ => 0)), (q3, .inl (c3, 40, .inl fun _ => 0)), (q4, .inl (c4, 40, .inl fun _ => 0)), (q5, .inl (c5, 40, .inl fun _ => 0)), (q6, .inl (c6, 40, .inl fun _ => 0)), (q7, .inl (c7, 40, .inl fun _ => 0))] H := hP
  have hD : va_D A [(h0, .inr (2, [.ref q1, .ref q2, .ref q3, .ref q4, .ref q5, .ref q6, .null, .null, .null, .null, .null, .null, .null, .int 0, .int 0, .int 0])), (q1, .inl (c1, 40, .inl fun _ => 0)), (q2, .inl (c2, 40, .inl fun _ => 0)), (q3, .inl (c3, 40, .inl fun _ => 0)), (q4, .inl (c4, 40, .inl fun _ => 0)), (q5, .inl (c5, 40, .inl fun _ => 0)), (q6, .inl (c6, 40, .inl fun _ => 0)), (q7, .inl (c7, 40, .inl fun _ => 0))] := hD
  have hK : va_K D vwCl [(c1, .int), (c2, .int), (c3, .int), (c4, .int), (c5, .int), (c6, .int), (c7, .int)] s := hK
  refine W.widen (k := 7) (n := 280) (Nat.le_of_ble_eq_true rfl) (Nat.le_of_ble_eq_true rfl) ?_
  refine va_putF (ci := 2) (v := .ref q7) (C := RX3) (T := TX3) (N := 16) hx hb hts inlX3 tyX3 tyX3_ok nmX3 hown hK hP hD hS 0 rfl rfl 6 (by decide) (hts _ lk_X3_30) (fun _ h9 => h9) rfl hin rfl (tyX3_ok _ (by decide)) rfl rfl (Nat.le_of_ble_eq_true rfl) dX3_init_57 (fun H locs hP hD hS => ?_)
  have hP : va_P D vwCl [(h0, .inr (2, [.ref q1, .ref q2, .ref q3, .ref q4, .ref q5, .ref q6, .ref q7, .null, .null, .null, .null, .null, .null, .int 0, .int 0, .int 0])), (q1, .inl (c1, 40, .inl fun _ => 0)), (q2, .inl (c2, 40, .inl fun _ => 0)), (q3, .inl (c3, 40, .inl fun _ => 0)), (q4, .inl (c4, 40, .inl fun _ => 0)), (q5, .inl (c5, 40, .inl fun _ => 0)), (q6, .inl (c6, 40, .inl fun _ => 0)), (q7, .inl (c7, 40, .inl fun _ => 0))] H := hP
  have hD : va_D A [(h0, .inr (2, [.ref q1, .ref q2, .ref q3, .ref q4, .ref q5, .ref q6, .ref q7, .null, .null, .null, .null, .null, .null, .int 0, .int 0, .int 0])), (q1, .inl (c1, 40, .inl fun _ => 0)), (q2, .inl (c2, 40, .inl fun _ => 0)), (q3, .inl (c3, 40, .inl fun _ => 0)), (q4, .inl (c4, 40, .inl fun _ => 0)), (q5, .inl (c5, 40, .inl fun _ => 0)), (q6, .inl (c6, 40, .inl fun _ => 0)), (q7, .inl (c7, 40, .inl fun _ => 0))] := hD
  refine lv_aload_n hx hb dX3_init_60 rfl (lv_at hl 0 rfl) ?_
  refine lv_bipush (v := 32) hx hb dX3_init_61 (by decide) ?_
  refine va_newa (atype := .int) (ty := .int) (a0 := (32, .inl fun _ => 0)) (N' := 32) hx hb (hts _ ac_I) rfl hK hP hD hS hA (fun _ => rfl) (by decide) rfl (by decide) (Nat.le_of_ble_eq_true rfl) (Nat.le_of_ble_eq_true rfl) dX3_init_63 (fun q8 c8 H hK hP hD hS => ?_)
  have hP : va_P D vwCl [(h0, .inr (2, [.ref q1, .ref q2, .ref q3, .ref q4, .ref q5, .ref q6, .ref q7, .null, .null, .null, .null, .null, .null, .int 0, .int 0, .int 0])), (q1, .inl (c1, 40, .inl fun _ => 0)), (q2, .inl (c2, 40, .inl fun _ => 0)), (q3, .inl (c3, 40, .inl fun _ => 0)), (q4, .inl (c4, 40, .inl fun _ => 0)), (q5, .inl (c5, 40, .inl fun _ => 0)), (q6, .inl (c6, 40, .inl fun _ => 0)), (q7, .inl (c7, 40, .inl fun _ => 0)), (q8, .inl (c8, 32, .inl fun _ => 0))] H := hP
  have hD : va_D A [(h0, .inr (2, [.ref q1, .ref q2, .ref q3, .ref q4, .ref q5, .ref q6, .ref q7, .null, .null, .null, .null, .null, .null, .int 0, .int 0, .int 0])), (q1, .inl (c1, 40, .inl fun _ => 0)), (q2, .inl (c2, 40, .inl fun _ => 0)), (q3, .inl (c3, 40, .inl fun _ => 0)), (q4, .inl (c4, 40, .inl fun _ => 0)), (q5, .inl (c5, 40, .inl fun _ => 0)), (q6, .inl (c6, 40, .inl fun _ => 0)), (q7, .inl (c7, 40, .inl fun _ => 0)), (q8, .inl (c8, 32, .inl fun _ => 0))] := hD
  have hK : va_K D vwCl [(c1, .int), (c2, .int), (c3, .int), (c4, .int), (c5, .int), (c6, .int), (c7, .int), (c8, .int)] s := hK
  refine W.widen (k := 8) (n := 312) (Nat.le_of_ble_eq_true rfl) (Nat.le_of_ble_eq_true rfl) ?_
  refine va_put (ci := 2) (v := .ref q8) (C := RX3) (T := TX3) (N := 16) hx hb hts inlX3 tyX3 tyX3_ok nmX3 hown hK hP hD hS 0 rfl rfl 7 (by decide) (hts _ lk_X3_33) (fun _ h9 => h9) rfl (tyX3_ok _ (by decide)) rfl rfl (Nat.le_of_ble_eq_true rfl) dX3_init_65 (fun H locs hP hD hS => ?_)
  have hP : va_P D vwCl [(h0, .inr (2, [.ref q1, .ref q2, .ref q3, .ref q4, .ref q5, .ref q6, .ref q7, .ref q8, .null, .null, .null, .null, .null, .int 0, .int 0, .int 0])), (q1, .inl (c1, 40, .inl fun _ => 0)), (q2, .inl (c2, 40, .inl fun _ => 0)), (q3, .inl (c3, 40, .inl fun _ => 0)), (q4, .inl (c4, 40, .inl fun _ => 0)), (q5, .inl (c5, 40, .inl fun _ => 0)), (q6, .inl (c6, 40, .inl fun _ => 0)), (q7, .inl (c7, 40, .inl fun _ => 0)), (q8, .inl (c8, 32, .inl fun _ => 0))] H := hP
  have hD : va_D A [(h0, .inr (2, [.ref q1, .ref q2, .ref q3, .ref q4, .ref q5, .ref q6, .ref q7, .ref q8, .null, .null, .null, .null, .null, .int 0, .int 0, .int 0])), (q1, .inl (c1, 40, .inl fun _ => 0)), (q2, .inl (c2, 40, .inl fun _ => 0)), (q3, .inl (c3, 40, .inl fun _ => 0)), (q4, .inl (c4, 40, .inl fun _ => 0)), (q5, .inl (c5, 40, .inl fun _ => 0)), (q6, .inl (c6, 40, .inl fun _ => 0)), (q7, .inl (c7, 40, .inl fun _ => 0)), (q8, .inl (c8, 32, .inl fun _ => 0))] := hD
  refine lv_aload_n hx hb dX3_init_68 rfl (lv_at hl 0 rfl) ?_
  refine lv_bipush (v := 32) hx hb dX3_init_69 (by decide) ?_
  refine va_newa (atype := .int) (ty := .int) (a0 := (32, .inl fun _ => 0)) (N' := 32) hx hb (hts _ ac_I) rfl hK hP hD hS hA (fun _ => rfl) (by decide) rfl (by decide) (Nat.le_of_ble_eq_true rfl) (Nat.le_of_ble_eq_true rfl) dX3_init_71 (fun q9 c9 H hK hP hD hS => ?_)
  have hP : va_P D vwCl [(h0, .inr (2, [.ref q1, .ref q2, .ref q3, .ref q4, .ref q5, .ref q6, .ref q7, .ref q8, .null, .null, .null, .null, .null, .int 0, .int 0, .int 0])), (q1, .inl (c1, 40, .inl fun _ => 0)), (q2, .inl (c2, 40, .inl fun _ => 0)), (q3, .inl (c3, 40, .inl fun _ => 0)), (q4, .inl (c4, 40, .inl fun _ => 0)), (q5, .inl (c5, 40, .inl fun _ => 0)), (q6, .inl (c6, 40, .inl fun _ => 0)), (q7, .inl (c7, 40, .inl fun _ => 0)), (q8, .inl (c8, 32, .inl fun _ => 0)), (q9, .inl (c9, 32, .inl fun _ => 0))] H := hP
  have hD : va_D A [(h0, .inr (2, [.ref q1, .ref q2, .ref q3, .ref q4, .ref q5, .ref q6, .ref q7, .ref q8, .null, .null, .null, .null, .null, .int 0, .int 0, .int 0])), (q1, .inl (c1, 40, .inl fun _ => 0)), (q2, .inl (c2, 40, .inl fun _ => 0)), (q3, .inl (c3, 40, .inl fun _ => 0)), (q4, .inl (c4, 40, .inl fun _ => 0)), (q5, .inl (c5, 40, .inl fun _ => 0)), (q6, .inl (c6, 40, .inl fun _ => 0)), (q7, .inl (c7, 40, .inl fun _ => 0)), (q8, .inl (c8, 32, .inl fun _ => 0)), (q9, .inl (c9, 32, .inl fun _ => 0))] := hD
  have hK : va_K D vwCl [(c1, .int), (c2, .int), (c3, .int), (c4, .int), (c5, .int), (c6, .int), (c7, .int), (c8, .int), (c9, .int)] s := hK
  refine W.widen (k := 9) (n := 344) (Nat.le_of_ble_eq_true rfl) (Nat.le_of_ble_eq_true rfl) ?_
  refine va_put (ci := 2) (v := .ref q9) (C := RX3) (T := TX3) (N := 16) hx hb hts inlX3 tyX3 tyX3_ok nmX3 hown hK hP hD hS 0 rfl rfl 8 (by decide) (hts _ lk_X3_36) (fun _ h9 => h9) rfl (tyX3_ok _ (by decide)) rfl rfl (Nat.le_of_ble_eq_true rfl) dX3_init_73 (fun H locs hP hD hS => ?_)
  have hP : va_P D vwCl [(h0, .inr (2, [.ref q1, .ref q2, .ref q3, .ref q4, .ref q5, .ref q6, .ref q7, .ref q8, .ref q9, .null, .null, .null, .null, .int 0, .int 0, .int 0])), (q1, .inl (c1, 40, .inl fun _ => 0)), (q2, .inl (c2, 40, .inl fun _ => 0)), (q3, .inl (c3, 40, .inl fun _ => 0)), (q4, .inl (c4, 40, .inl fun _ => 0)), (q5, .inl (c5, 40, .inl fun _ => 0)), (q6, .inl (c6, 40, .inl fun _ => 0)), (q7, .inl (c7, 40, .inl fun _ => 0)), (q8, .inl (c8, 32, .inl fun _ => 0)), (q9, .inl (c9, 32, .inl fun _ => 0))] H := hP
  have hD : va_D A [(h0, .inr (2, [.ref q1, .ref q2, .ref q3, .ref q4, .ref q5, .ref q6, .ref q7, .ref q8, .ref q9, .null, .null, .null, .null, .int 0, .int 0, .int 0])), (q1, .inl (c1, 40, .inl fun _ => 0)), (q2, .inl (c2, 40, .inl fun _ => 0)), (q3, .inl (c3, 40, .inl fun _ => 0)), (q4, .inl (c4, 40, .inl fun _ => 0)), (q5, .inl (c5, 40, .inl fun _ => 0)), (q6, .inl (c6, 40, .inl fun _ => 0)), (q7, .inl (c7, 40, .inl fun _ => 0)), (q8, .inl (c8, 32, .inl fun _ => 0)), (q9, .inl (c9, 32, .inl fun _ => 0))] := hD
  refine lv_aload_n hx hb dX3_init_76 rfl (lv_at hl 0 rfl) ?_
  refine lv_bipush (v := 32) hx hb dX3_init_77 (by decide) ?_
  refine va_newa (atype := .int) (ty := .int) (a0 := (32, .inl fun _ => 0)) (N' := 32) hx hb (hts _ ac_I) rfl hK hP hD hS hA (fun _ => rfl) (by decide) rfl (by decide) (Nat.le_of_ble_eq_true rfl) (Nat.le_of_ble_eq_true rfl) dX3_init_79 (fun q10 c10 H hK hP hD hS => ?_)
  have hP : va_P D vwCl [(h0, .inr (2, [.ref q1, .ref q2, .ref q3, .ref q4, .ref q5, .ref q6, .ref q7, .ref q8, .ref q9, .null, .null, .null, .null, .int 0, .int 0, .int 0])), (q1, .inl (c1, 40, .inl fun _ => 0)), (q2, .inl (c2, 40, .inl fun _ => 0)), (q3, .inl (c3, 40, .inl fun _ => 0)), (q4, .inl (c4, 40, .inl fun _ => 0)), (q5, .inl (c5, 40, .inl fun _ => 0)), (q6, .inl (c6, 40, .inl fun _ => 0)), (q7, .inl (c7, 40, .inl fun _ => 0)), (q8, .inl (c8, 32, .inl fun _ => 0)), (q9, .inl (c9, 32, .inl fun _ => 0)), (q10, .inl (c10, 32, .inl fun _ => 0))] H := hP
  have hD : va_D A [(h0, .inr (2, [.ref q1, .ref q2, .ref q3, .ref q4, .ref q5, .ref q6, .ref q7, .ref q8, .ref q9, .null, .null, .null, .null, .int 0, .int 0, .int 0])), (q1, .inl (c1, 40, .inl fun _ => 0)), (q2, .inl (c2, 40, .inl fun _ => 0)), (q3, .inl (c3, 40, .inl fun _ => 0)), (q4, .inl (c4, 40, .inl fun _ => 0)), (q5, .inl (c5, 40, .inl fun _ => 0)), (q6, .inl (c6, 40, .inl fun _ => 0)), (q7, .inl (c7, 40, .inl fun _ => 0)), (q8, .inl (c8, 32, .inl fun _ => 0)), (q9, .inl (c9, 32, .inl fun _ => 0)), (q10, .inl (c10, 32, .inl fun _ => 0))] := hD
  have hK : va_K D vwCl [(c1, .int), (c2, .int), (c3, .int), (c4, .int), (c5, .int), (c6, .int), (c7, .int), (c8, .int), (c9, .int), (c10, .int)] s := hK
  refine W.widen (k := 10) (n := 376) (Nat.le_of_ble_eq_true rfl) (Nat.le_of_ble_eq_true rfl) ?_
  refine va_put (ci := 2) (v := .ref q10) (C := RX3) (T := TX3) (N := 16) hx hb hts inlX3 tyX3 tyX3_ok nmX3 hown hK hP hD hS 0 rfl rfl 9 (by decide) (hts _ lk_X3_39) (fun _ h9 => h9) rfl (tyX3_ok _ (by decide)) rfl rfl (Nat.le_of_ble_eq_true rfl) dX3_init_81 (fun H locs hP hD hS => ?_)
  have hP : va_P D vwCl [(h0, .inr (2, [.ref q1, .ref q2, .ref q3, .ref q4, .ref q5, .ref q6, .ref q7, .ref q8, .ref q9, .ref q10, .null, .null, .null, .int 0, .int 0, .int 0])), (q1, .inl (c1, 40, .inl fun _ => 0)), (q2, .inl (c2, 40, .inl fun _ => 0)), (q3, .inl (c3, 40, .inl fun _ => 0)), (q4, .inl (c4, 40, .inl fun _ => 0)), (q5, .inl (c5, 40, .inl fun _ => 0)), (q6, .inl (c6, 40, .inl fun _ => 0)), (q7, .inl (c7, 40, .inl fun _ => 0)), (q8, .inl (c8, 32, .inl fun _ => 0)), (q9, .inl (c9, 32, .inl fun _ => 0)), (q10, .inl (c10, 32, .inl fun _ => 0))] H := hP
  have hD : va_D A [(h0, .inr (2, [.ref q1, .ref q2, .ref q3, .ref q4, .ref q5, .ref q6, .ref q7, .ref q8, .ref q9, .ref q10, .null, .null, .null, .int 0, .int 0, .int 0])), (q1, .inl (c1, 40, .inl fun _ => 0)), (q2, .inl (c2, 40, .inl fun _ => 0)), (q3, .inl (c3, 40, .inl fun _ => 0)), (q4, .inl (c4, 40, .inl fun _ => 0)), (q5, .inl (c5, 40, .inl fun _ => 0)), (q6, .inl (c6, 40, .inl fun _ => 0)), (q7, .inl (c7, 40, .inl fun _ => 0)), (q8, .inl (c8, 32, .inl fun _ => 0)), (q9, .inl (c9, 32, .inl fun _ => 0)), (q10, .inl (c10, 32, .inl fun _ => 0))] := hD
  refine lv_aload_n hx hb dX3_init_84 rfl (lv_at hl 0 rfl) ?_
  refine lv_bipush (v := 32) hx hb dX3_init_85 (by decide) ?_
  refine va_newa (atype := .int) (ty := .int) (a0 := (32, .inl fun _ => 0)) (N' := 32) hx hb (hts _ ac_I) rfl hK hP hD hS hA (fun _ => rfl) (by decide) rfl (by decide) (Nat.le_of_ble_eq_true rfl) (Nat.le_of_ble_eq_true rfl) dX3_init_87 (fun q11 c11 H hK hP hD hS => ?_)
  have hP : va_P D vwCl [(h0, .inr (2, [.ref q1, .ref q2, .ref q3, .ref q4, .ref q5, .ref q6, .ref q7, .ref q8, .ref q9, .ref q10, .null, .null, .null, .int 0, .int 0, .int 0])), (q1, .inl (c1, 40, .inl fun _ => 0)), (q2, .inl (c2, 40, .inl fun _ => 0)), (q3, .inl (c3, 40, .inl fun _ => 0)), (q4, .inl (c4, 40, .inl fun _ => 0)), (q5, .inl (c5, 40, .inl fun _ => 0)), (q6, .inl (c6, 40, .inl fun _ => 0)), (q7, .inl (c7, 40, .inl fun _ => 0)), (q8, .inl (c8, 32, .inl fun _ => 0)), (q9, .inl (c9, 32, .inl fun _ => 0)), (q10, .inl (c10, 32, .inl fun _ => 0)), (q11, .inl (c11, 32, .inl fun _ => 0))] H := hP
  have hD : va_D A [(h0, .inr (2, [.ref q1, .ref q2, .ref q3, .ref q4, .ref q5, .ref q6, .ref q7, .ref q8, .ref q9, .ref q10, .null, .null, .null, .int 0, .int 0, .int 0])), (q1, .inl (c1, 40, .inl fun _ => 0)), (q2, .inl (c2, 40, .inl fun _ => 0)), (q3, .inl (c3, 40, .inl fun _ => 0)), (q4, .inl (c4, 40, .inl fun _ => 0)), (q5, .inl (c5, 40, .inl fun _ => 0)), (q6, .inl (c6, 40, .inl fun _ => 0)), (q7, .inl (c7, 40, .inl fun _ => 0)), (q8, .inl (c8, 32, .inl fun _ => 0)), (q9, .inl (c9, 32, .inl fun _ => 0)), (q10, .inl (c10, 32, .inl fun _ => 0)), (q11, .inl (c11, 32, .inl fun _ => 0))] := hD
  have hK : va_K D vwCl [(c1, .int), (c2, .int), (c3, .int), (c4, .int), (c5, .int), (c6, .int), (c7, .int), (c8, .int), (c9, .int), (c10, .int), (c11, .int)] s := hK
  refine W.widen (k := 11) (n := 408) (Nat.le_of_ble_eq_true rfl) (Nat.le_of_ble_eq_true rfl) ?_
  refine va_put (ci := 2) (v := .ref q11) (C := RX3) (T := TX3) (N := 16) hx hb hts inlX3 tyX3 tyX3_ok nmX3 hown hK hP hD hS 0 rfl rfl 10 (by decide) (hts _ lk_X3_42) (fun _ h9 => h9) rfl (tyX3_ok _ (by decide)) rfl rfl (Nat.le_of_ble_eq_true rfl) dX3_init_89 (fun H locs hP hD hS => ?_)
  have hP : va_P D vwCl [(h0, .inr (2, [.ref q1, .ref q2, .ref q3, .ref q4, .ref q5, .ref q6, .ref q7, .ref q8, .ref q9, .ref q10, .ref q11, .null, .null, .int 0, .int 0, .int 0])), (q1, .inl (c1, 40, .inl fun _ => 0)), (q2, .inl (c2, 40, .inl fun _ => 0)), (q3, .inl (c3, 40, .inl fun _ => 0)), (q4, .inl (c4, 40, .inl fun _ => 0)), (q5, .inl (c5, 40, .inl fun _ => 0)), (q6, .inl (c6, 40, .inl fun _ => 0)), (q7, .inl (c7, 40, .inl fun _ => 0)), (q8, .inl (c8, 32, .inl fun _ => 0)), (q9, .inl (c9, 32, .inl fun _ => 0)), (q10, .inl (c10, 32, .inl fun _ => 0)), (q11, .inl (c11, 32, .inl fun _ => 0))] H := hP
  have hD : va_D A [(h0, .inr (2, [.ref q1, .ref q2, .ref q3, .ref q4, .ref q5, .ref q6, .ref q7, .ref q8, .ref q9, .ref q10, .ref q11, .null, .null, .int 0, .int 0, .int 0])), (q1, .inl (c1, 40, .inl fun _ => 0)), (q2, .inl (c2, 40, .inl fun _ => 0)), (q3, .inl (c3, 40, .inl fun _ => 0)), (q4, .inl (c4, 40, .inl fun _ => 0)), (q5, .inl (c5, 40, .inl fun _ => 0)), (q6, .inl (c6, 40, .inl fun _ => 0)), (q7, .inl (c7, 40, .inl fun _ => 0)), (q8, .inl (c8, 32, .inl fun _ => 0)), (q9, .inl (c9, 32, .inl fun _ => 0)), (q10, .inl (c10, 32, .inl fun _ => 0)), (q11, .inl (c11, 32, .inl fun _ => 0))] := hD
  refine lv_aload_n hx hb dX3_init_92 rfl (lv_at hl 0 rfl) ?_
  refine lv_bipush (v := 32) hx hb dX3_init_93 (by decide) ?_
  refine va_newa (atype := .int) (ty := .int) (a0 := (32, .inl fun _ => 0)) (N' := 32) hx hb (hts _ ac_I) rfl hK hP hD hS hA (fun _ => rfl) (by decide) rfl (by decide) (Nat.le_of_ble_eq_true rfl) (Nat.le_of_ble_eq_true rfl) dX3_init_95 (fun q12 c12 H hK hP hD hS => ?_)
  have hP : va_P D vwCl [(h0, .inr (2, [.ref q1, .ref q2, .ref q3, .ref q4, .ref q5, .ref q6, .ref q7, .ref q8, .ref q9, .ref q10, .ref q11, .null, .null, .int 0, .int 0, .int 0])), (q1, .inl (c1, 40, .inl fun _ => 0)), (q2, .inl (c2, 40, .inl fun _ => 0)), (q3, .inl (c3, 40, .inl fun _ => 0)), (q4, .inl (c4, 40, .inl fun _ => 0)), (q5, .inl (c5, 40, .inl fun _ => 0)), (q6, .inl (c6, 40, .inl fun _ => 0)), (q7, .inl (c7, 40, .inl fun _ => 0)), (q8, .inl (c8, 32, .inl fun _ => 0)), (q9, .inl (c9, 32, .inl fun _ => 0)), (q10, .inl (c10, 32, .inl fun _ => 0)), (q11, .inl (c11, 32, .inl fun _ => 0)), (q12, .inl (c12, 32, .inl fun _ => 0))] H := hP
  have hD : va_D A [(h0, .inr (2, [.ref q1, .ref q2, .ref q3, .ref q4, .ref q5, .ref q6, .ref q7, .ref q8, .ref q9, .ref q10, .ref q11, .null, .null, .int 0, .int 0, .int 0])), (q1, .inl (c1, 40, .inl fun _ => 0)), (q2, .inl (c2, 40, .inl fun _ => 0)), (q3, .inl (c3, 40, .inl fun _ => 0)), (q4, .inl (c4, 40, .inl fun _ => 0)), (q5, .inl (c5, 40, .inl fun _ => 0)), (q6, .inl (c6, 40, .inl fun _ => 0)), (q7, .inl (c7, 40, .inl fun _ => 0)), (q8, .inl (c8, 32, .inl fun _ => 0)), (q9, .inl (c9, 32, .inl fun _ => 0)), (q10, .inl (c10, 32, .inl fun _ => 0)), (q11, .inl (c11, 32, .inl fun _ => 0)), (q12, .inl (c12, 32, .inl fun _ => 0))] := hD
  have hK : va_K D vwCl [(c1, .int), (c2, .int), (c3, .int), (c4, .int), (c5, .int), (c6, .int), (c7, .int), (c8, .int), (c9, .int), (c10, .int), (c11, .int), (c12, .int)] s := hK
  refine W.widen (k := 12) (n := 440) (Nat.le_of_ble_eq_true rfl) (Nat.le_of_ble_eq_true rfl) ?_
  refine va_put (ci := 2) (v := .ref q12) (C := RX3) (T := TX3) (N := 16) hx hb hts inlX3 tyX3 tyX3_ok nmX3 hown hK hP hD hS 0 rfl rfl 11 (by decide) (hts _ lk_X3_45) (fun _ h9 => h9) rfl (tyX3_ok _ (by decide)) rfl rfl (Nat.le_of_ble_eq_true rfl) dX3_init_97 (fun H locs hP hD hS => ?_)
  have hP : va_P D vwCl [(h0, .inr (2, [.ref q1, .ref q2, .ref q3, .ref q4, .ref q5, .ref q6, .ref q7, .ref q8, .ref q9, .ref q10, .ref q11, .ref q12, .null, .int 0, .int 0, .int 0])), (q1, .inl (c1, 40, .inl fun _ => 0)), (q2, .inl (c2, 40, .inl fun _ => 0)), (q3, .inl (c3, 40, .inl fun _ => 0)), (q4, .inl (c4, 40, .inl fun _ => 0)), (q5, .inl (c5, 40, .inl fun _ => 0)), (q6, .inl (c6, 40, .inl fun _ => 0)), (q7, .inl (c7, 40, .inl fun _ => 0)), (q8, .inl (c8, 32, .inl fun _ => 0)), (q9, .inl (c9, 32, .inl fun _ => 0)), (q10, .inl (c10, 32, .inl fun _ => 0)), (q11, .inl (c11, 32, .inl fun _ => 0)), (q12, .inl (c12, 32, .inl fun _ => 0))] H := hP
  have hD : va_D A [(h0, .inr (2, [.ref q1, .ref q2, .ref q3, .ref q4, .ref q5, .ref q6, .ref q7, .ref q8, .ref q9, .ref q10, .ref q11, .ref q12, .null, .int 0, .int 0, .int 0])), (q1, .inl (c1, 40, .inl fun _ => 0)), (q2, .inl (c2, 40, .inl fun _ => 0)), (q3, .inl (c3, 40, .inl fun _ => 0)), (q4, .inl (c4, 40, .inl fun _ => 0)), (q5, .inl (c5, 40, .inl fun _ => 0)), (q6, .inl (c6, 40, .inl fun _ => 0)), (q7, .inl (c7, 40, .inl fun _ => 0)), (q8, .inl (c8, 32, .inl fun _ => 0)), (q9, .inl (c9, 32, .inl fun _ => 0)), (q10, .inl (c10, 32, .inl fun _ => 0)), (q11, .inl (c11, 32, .inl fun _ => 0)), (q12, .inl (c12, 32, .inl fun _ => 0))] := hD
  refine lv_aload_n hx hb dX3_init_100 rfl (lv_at hl 0 rfl) ?_
  refine lv_bipush (v := 32) hx hb dX3_init_101 (by decide) ?_
  refine va_newa (atype := .int) (ty := .int) (a0 := (32, .inl fun _ => 0)) (N' := 32) hx hb (hts _ ac_I) rfl hK hP hD hS hA (fun _ => rfl) (by decide) rfl (by decide) (Nat.le_of_ble_eq_true rfl) (Nat.le_of_ble_eq_true rfl) dX3_init_103 (fun q13 c13 H hK hP hD hS => ?_)
  have hP : va_P D vwCl [(h0, .inr (2, [.ref q1, .ref q2, .ref q3, .ref q4, .ref q5, .ref q6, .ref q7, .ref q8, .ref q9, .ref q10, .ref q11, .ref q12, .null, .int 0, .int 0, .int 0])), (q1, .inl (c1, 40, .inl fun _ => 0)), (q2, .inl (c2, 40, .inl fun _ => 0)), (q3, .inl (c3, 40, .inl fun _ => 0)), (q4, .inl (c4, 40, .inl fun _ => 0)), (q5, .inl (c5, 40, .inl fun _ => 0)), (q6, .inl (c6, 40, .inl fun _ => 0)), (q7, .inl (c7, 40, .inl fun _ => 0)), (q8, .inl (c8, 32, .inl fun _ => 0)), (q9, .inl (c9, 32, .inl fun _ => 0)), (q10, .inl (c10, 32, .inl fun _ => 0)), (q11, .inl (c11, 32, .inl fun _ => 0)), (q12, .inl (c12, 32, .inl fun _ => 0)), (q13, .inl (c13, 32, .inl fun _ => 0))] H := hP
  have hD : va_D A [(h0, .inr (2, [.ref q1, .ref q2, .ref q3, .ref q4, .ref q5, .ref q6, .ref q7, .ref q8, .ref q9, .ref q10, .ref q11, .ref q12, .null, .int 0, .int 0, .int 0])), (q1, .inl (c1, 40, .inl fun _ => 0)), (q2, .inl (c2, 40, .inl fun _ => 0)), (q3, .inl (c3, 40, .inl fun _ => 0)), (q4, .inl (c4, 40, .inl fun _ => 0)), (q5, .inl (c5, 40, .inl fun _ => 0)), (q6, .inl (c6, 40, .inl fun _ => 0)), (q7, .inl (c7, 40, .inl fun _ => 0)), (q8, .inl (c8, 32, .inl fun _ => 0)), (q9, .inl (c9, 32, .inl fun _ => 0)), (q10, .inl (c10, 32, .inl fun _ => 0)), (q11, .inl (c11, 32, .inl fun _ => 0)), (q12, .inl (c12, 32, .inl fun _ => 0)), (q13, .inl (c13, 32, .inl fun _ => 0))] := hD
  have hK : va_K D vwCl [(c1, .int), (c2, .int), (c3, .int), (c4, .int), (c5, .int), (c6, .int), (c7, .int), (c8, .int), (c9, .int), (c10, .int), (c11, .int), (c12, .int), (c13, .int)] s := hK
  refine W.widen (k := 13) (n := 472) (Nat.le_of_ble_eq_true rfl) (Nat.le_of_ble_eq_true rfl) ?_
  refine va_put (ci := 2) (v := .ref q13) (C := RX3) (T := TX3) (N := 16) hx hb hts inlX3 tyX3 tyX3_ok nmX3 hown hK hP hD hS 0 rfl rfl 12 (by decide) (hts _ lk_X3_48) (fun _ h9 => h9) rfl (tyX3_ok _ (by decide)) rfl rfl (Nat.le_of_ble_eq_true rfl) dX3_init_105 (fun H locs hP hD hS => ?_)
  have hP : va_P D vwCl [(h0, .inr (2, [.ref q1, .ref q2, .ref q3, .ref q4, .ref q5, .ref q6, .ref q7, .ref q8, .ref q9, .ref q10, .ref q11, .ref q12, .ref q13, .int 0, .int 0, .int 0])), (q1, .inl (c1, 40, .inl fun _ => 0)), (q2, .inl (c2, 40, .inl fun _ => 0)), (q3, .inl (c3, 40, .inl fun _ => 0)), (q4, .inl (c4, 40, .inl fun _ => 0)), (q5, .inl (c5, 40, .inl fun _ => 0)), (q6, .inl (c6, 40, .inl fun _ => 0)), (q7, .inl (c7, 40, .inl fun _ => 0)), (q8, .inl (c8, 32, .inl fun _ => 0)), (q9, .inl (c9, 32, .inl fun _ => 0)), (q10, .inl (c10, 32, .inl fun _ => 0)), (q11, .inl (c11, 32, .inl fun _ => 0)), (q12, .inl (c12, 32, .inl fun _ => 0)), (q13, .inl (c13, 32, .inl fun _ => 0))] H := hP
  have hD : va_D A [(h0, .inr (2, [.ref q1, .ref q2, .ref q3, .ref q4, .ref q5, .ref q6, .ref q7, .ref q8, .ref q9, .ref q10, .ref q11, .ref q12, .ref q13, .int 0, .int 0, .int 0])), (q1, .inl (c1, 40, .inl fun _ => 0)), (q2, .inl (c2, 40, .inl fun _ => 0)), (q3, .inl (c3, 40, .inl fun _ => 0)), (q4, .inl (c4, 40, .inl fun _ => 0)), (q5, .inl (c5, 40, .inl fun _ => 0)), (q6, .inl (c6, 40, .inl fun _ => 0)), (q7, .inl (c7, 40, .inl fun _ => 0)), (q8, .inl (c8, 32, .inl fun _ => 0)), (q9, .inl (c9, 32, .inl fun _ => 0)), (q10, .inl (c10, 32, .inl fun _ => 0)), (q11, .inl (c11, 32, .inl fun _ => 0)), (q12, .inl (c12, 32, .inl fun _ => 0)), (q13, .inl (c13, 32, .inl fun _ => 0))] := hD
  refine lv_aload_n hx hb dX3_init_108 rfl (lv_at hl 0 rfl) ?_
  refine lv_iconst (v := 0) hx hb dX3_init_109 (by decide) ?_
  refine va_put (ci := 2) (v := .int 0) (C := RX3) (T := TX3) (N := 16) hx hb hts inlX3 tyX3 tyX3_ok nmX3 hown hK hP hD hS 0 rfl rfl 13 (by decide) (hts _ lk_X3_51) (fun _ h9 => h9) rfl (tyX3_ok _ (by decide)) rfl rfl (Nat.le_of_ble_eq_true rfl) dX3_init_110 (fun H locs hP hD hS => ?_)
  have hP : va_P D vwCl [(h0, .inr (2, [.ref q1, .ref q2, .ref q3, .ref q4, .ref q5, .ref q6, .ref q7, .ref q8, .ref q9, .ref q10, .ref q11, .ref q12, .ref q13, .int 0, .int 0, .int 0])), (q1, .inl (c1, 40, .inl fun _ => 0)), (q2, .inl (c2, 40, .inl fun _ => 0)), (q3, .inl (c3, 40, .inl fun _ => 0)), (q4, .inl (c4, 40, .inl fun _ => 0)), (q5, .inl (c5, 40, .inl fun _ => 0)), (q6, .inl (c6, 40, .inl fun _ => 0)), (q7, .inl (c7, 40, .inl fun _ => 0)), (q8, .inl (c8, 32, .inl fun _ => 0)), (q9, .inl (c9, 32, .inl fun _ => 0)), (q10, .inl (c10, 32, .inl fun _ => 0)), (q11, .inl (c11, 32, .inl fun _ => 0)), (q12, .inl (c12, 32, .inl fun _ => 0)), (q13, .inl (c13, 32, .inl fun _ => 0))] H := hP
  have hD : va_D A [(h0, .inr (2, [.ref q1, .ref q2, .ref q3, .ref q4, .ref q5, .ref q6, .ref q7, .ref q8, .ref q9, .ref q10, .ref q11, .ref q12, .ref q13, .int 0, .int 0, .int 0])), (q1, .inl (c1, 40, .inl fun _ => 0)), (q2, .inl (c2, 40, .inl fun _ => 0)), (q3, .inl (c3, 40, .inl fun _ => 0)), (q4, .inl (c4, 40, .inl fun _ => 0)), (q5, .inl (c5, 40, .inl fun _ => 0)), (q6, .inl (c6, 40, .inl fun _ => 0)), (q7, .inl (c7, 40, .inl fun _ => 0)), (q8, .inl (c8, 32, .inl fun _ => 0)), (q9, .inl (c9, 32, .inl fun _ => 0)), (q10, .inl (c10, 32, .inl fun _ => 0)), (q11, .inl (c11, 32, .inl fun _ => 0)), (q12, .inl (c12, 32, .inl fun _ => 0)), (q13, .inl (c13, 32, .inl fun _ => 0))] := hD
  refine lv_aload_n hx hb dX3_init_113 rfl (lv_at hl 0 rfl) ?_
  refine lv_iconst (v := (-1)) hx hb dX3_init_114 (by decide) ?_
  refine va_put (ci := 2) (v := .int (-1)) (C := RX3) (T := TX3) (N := 16) hx hb hts inlX3 tyX3 tyX3_ok nmX3 hown hK hP hD hS 0 rfl rfl 14 (by decide) (hts _ lk_X3_55) (fun _ h9 => h9) rfl (tyX3_ok _ (by decide)) rfl rfl (Nat.le_of_ble_eq_true rfl) dX3_init_115 (fun H locs hP hD hS => ?_)
  have hP : va_P D vwCl [(h0, .inr (2, [.ref q1, .ref q2, .ref q3, .ref q4, .ref q5, .ref q6, .ref q7, .ref q8, .ref q9, .ref q10, .ref q11, .ref q12, .ref q13, .int 0, .int (-1), .int 0])), (q1, .inl (c1, 40, .inl fun _ => 0)), (q2, .inl (c2, 40, .inl fun _ => 0)), (q3, .inl (c3, 40, .inl fun _ => 0)), (q4, .inl (c4, 40, .inl fun _ => 0)), (q5, .inl (c5, 40, .inl fun _ => 0)), (q6, .inl (c6, 40, .inl fun _ => 0)), (q7, .inl (c7, 40, .inl fun _ => 0)), (q8, .inl (c8, 32, .inl fun _ => 0)), (q9, .inl (c9, 32, .inl fun _ => 0)), (q10, .inl (c10, 32, .inl fun _ => 0)), (q11, .inl (c11, 32, .inl fun _ => 0)), (q12, .inl (c12, 32, .inl fun _ => 0)), (q13, .inl (c13, 32, .inl fun _ => 0))] H := hP
  have hD : va_D A [(h0, .inr (2, [.ref q1, .ref q2, .ref q3, .ref q4, .ref q5, .ref q6, .ref q7, .ref q8, .ref q9, .ref q10, .ref q11, .ref q12, .ref q13, .int 0, .int (-1), .int 0])), (q1, .inl (c1, 40, .inl fun _ => 0)), (q2, .inl (c2, 40, .inl fun _ => 0)), (q3, .inl (c3, 40, .inl fun _ => 0)), (q4, .inl (c4, 40, .inl fun _ => 0)), (q5, .inl (c5, 40, .inl fun _ => 0)), (q6, .inl (c6, 40, .inl fun _ => 0)), (q7, .inl (c7, 40, .inl fun _ => 0)), (q8, .inl (c8, 32, .inl fun _ => 0)), (q9, .inl (c9, 32, .inl fun _ => 0)), (q10, .inl (c10, 32, .inl fun _ => 0)), (q11, .inl (c11, 32, .inl fun _ => 0)), (q12, .inl (c12, 32, .inl fun _ => 0)), (q13, .inl (c13, 32, .inl fun _ => 0))] := hD
  refine lv_aload_n hx hb dX3_init_118 rfl (lv_at hl 0 rfl) ?_
  refine lv_iconst (v := 0) hx hb dX3_init_119 (by decide) ?_
  refine va_put (ci := 2) (v := .int 0) (C := RX3) (T := TX3) (N := 16) hx hb hts inlX3 tyX3 tyX3_ok nmX3 hown hK hP hD hS 0 rfl rfl 15 (by decide) (hts _ lk_X3_58) (fun _ h9 => h9) rfl (tyX3_ok _ (by decide)) rfl rfl (Nat.le_of_ble_eq_true rfl) dX3_init_120 (fun H locs hP hD hS => ?_)
  have hP : va_P D vwCl [(h0, .inr (2, [.ref q1, .ref q2, .ref q3, .ref q4, .ref q5, .ref q6, .ref q7, .ref q8, .ref q9, .ref q10, .ref q11, .ref q12, .ref q13, .int 0, .int (-1), .int 0])), (q1, .inl (c1, 40, .inl fun _ => 0)), (q2, .inl (c2, 40, .inl fun _ => 0)), (q3, .inl (c3, 40, .inl fun _ => 0)), (q4, .inl (c4, 40, .inl fun _ => 0)), (q5, .inl (c5, 40, .inl fun _ => 0)), (q6, .inl (c6, 40, .inl fun _ => 0)), (q7, .inl (c7, 40, .inl fun _ => 0)), (q8, .inl (c8, 32, .inl fun _ => 0)), (q9, .inl (c9, 32, .inl fun _ => 0)), (q10, .inl (c10, 32, .inl fun _ => 0)), (q11, .inl (c11, 32, .inl fun _ => 0)), (q12, .inl (c12, 32, .inl fun _ => 0)), (q13, .inl (c13, 32, .inl fun _ => 0))] H := hP
  have hD : va_D A [(h0, .inr (2, [.ref q1, .ref q2, .ref q3, .ref q4, .ref q5, .ref q6, .ref q7, .ref q8, .ref q9, .ref q10, .ref q11, .ref q12, .ref q13, .int 0, .int (-1), .int 0])), (q1, .inl (c1, 40, .inl fun _ => 0)), (q2, .inl (c2, 40, .inl fun _ => 0)), (q3, .inl (c3, 40, .inl fun _ => 0)), (q4, .inl (c4, 40, .inl fun _ => 0)), (q5, .inl (c5, 40, .inl fun _ => 0)), (q6, .inl (c6, 40, .inl fun _ => 0)), (q7, .inl (c7, 40, .inl fun _ => 0)), (q8, .inl (c8, 32, .inl fun _ => 0)), (q9, .inl (c9, 32, .inl fun _ => 0)), (q10, .inl (c10, 32, .inl fun _ => 0)), (q11, .inl (c11, 32, .inl fun _ => 0)), (q12, .inl (c12, 32, .inl fun _ => 0)), (q13, .inl (c13, 32, .inl fun _ => 0))] := hD
  exact W.vret hx hb hr (fun t ht hW => ⟨⟨(fun i => [q1, q2, q3, q4, q5, q6, q7, q8, q9, q10, q11, q12, q13].getD i 0, fun i => [c1, c2, c3, c4, c5, c6, c7, c8, c9, c10, c11, c12, c13].getD i 0), rfl, trivial, by rw [ht]; exact hP, va_K.moved hW.alike hK, hD⟩, hS.F ht⟩) hS.2.2 dX3_init_123 hlk
def cw_Wr (h0 : Nat) (a1 : Nat) (u : (Nat → Nat) × (Nat → ClassId)) : va_W := [(h0, .inr (7, [.ref a1, .ref (u.1 0), .ref (u.1 1), .int 0, .int 0, .int 0, .int (-1)])), (u.1 0, .inl (u.2 0, 32, .inl fun _ => 0)), (u.1 1, .inl (u.2 1, 32, .inl fun _ => 0))]
def ct_Wr (u : (Nat → Nat) × (Nat → ClassId)) : List (ClassId × FieldType) := [(u.2 0, .int), (u.2 1, .boolean)]
def rm_kn_Wr : Room := { frames := 1, cells := 2, slots := 64, locals := 20 }
theorem nb_Wr {D : va_G} {h0 sz a1 : Nat} : FrameBlind (va_Pc [.ref h0, .ref a1] (fun U => U.heap.size = sz ∧ va_P D vwCl [(h0, .inr (7, [.null, .null, .null, .int 0, .int 0, .int 0, .int 0]))] U.heap ∧ va_K D vwCl [] U ∧ va_D (fun _ => True) [(h0, .inr (7, [.null, .null, .null, .int 0, .int 0, .int 0, .int 0]))])) := fun a U g mk q => by
  obtain ⟨q0, q1, qP, qK, qD⟩ := q
  exact ⟨q0, q1, qP, va_K.moved (u := U) (U := U.calling g mk a) (Vm.Alike.refl U.vm) qK, qD⟩
set_option maxHeartbeats 4000000 in
set_option maxRecDepth 100000 in
theorem kn_Wr (l : Launch) (D : va_G) (h0 sz : Nat) (a1 : Nat) : Met l yX8_init (.code yX8_init cX8_init 2 none :: TB) rm_kn_Wr (va_Pc [.ref h0, .ref a1] (fun U => U.heap.size = sz ∧ va_P D vwCl [(h0, .inr (7, [.null, .null, .null, .int 0, .int 0, .int 0, .int 0]))] U.heap ∧ va_K D vwCl [] U ∧ va_D (fun _ => True) [(h0, .inr (7, [.null, .null, .null, .int 0, .int 0, .int 0, .int 0]))])) (va_Qv (fun _ : (Nat → Nat) × (Nat → ClassId) => True) (fun u t => va_P D vwCl (cw_Wr h0 a1 u) t.heap ∧ va_K D vwCl (ct_Wr u) t ∧ va_D (va_A [(h0, .inr (7, [.null, .null, .null, .int 0, .int 0, .int 0, .int 0]))] sz) (cw_Wr h0 a1 u)) (va_A [(h0, .inr (7, [.null, .null, .null, .int 0, .int 0, .int 0, .int 0]))] sz)) 2 64 (va_A [(h0, .inr (7, [.null, .null, .null, .int 0, .int 0, .int 0, .int 0]))] sz) := by
  refine Met.ofW (cc := cX8_init) (maxL := 2) (ret := none) (by decide) rfl ?_
  intro p e s m args below meth c s₁ B hml hv
  obtain ⟨rfl, hsz, hP, hK, hD0⟩ := hv
  have hx := B.exec
  have hb := B.bytes
  have hr := B.returns
  have hts0 := atoms_spec (ws := .code yX8_init cX8_init 2 none :: TB) B.pre
  have hts : ∀ w ∈ TB, w.before _ s = true := fun w hw => hts0 w (List.mem_cons_of_mem _ hw)
  have hown : s.vm.findClass RX8 = some m.cls := findClass_of_methodNamed B.named
  have hlk := B.notSynchronized
  have hin : meth.name = "<init>" := (name_of_methodNamed B.named B.method).1
  subst hsz
  have hD := hD0.self (sz := s.heap.size)
  generalize hAe : va_A [(h0, .inr (7, [.null, .null, .null, .int 0, .int 0, .int 0, .int 0]))] s.heap.size = A at hD ⊢
  have hA : ∀ q : Nat, s.heap.size ≤ q → A q := fun q h => by rw [← hAe]; exact Or.inr h
  have hS : va_S A s.heap s.heap [] := va_S.rf
  have hP : va_P D vwCl [(h0, .inr (7, [.null, .null, .null, .int 0, .int 0, .int 0, .int 0]))] s.heap := hP
  have hl := lv_entry ([.ref h0, .ref a1]) (n := 2) (Nat.le_of_ble_eq_true rfl)
  rw [lg_entry_eq]
  generalize (lg_sl ([.ref h0, .ref a1]) ++ List.replicate (2 - (lg_sl ([.ref h0, .ref a1])).length) Slot.unset).toArray = ls at hl ⊢
  have hl : lv_has ls 2 [(0, .ref h0), (1, .ref a1)] := hl
  refine lv_aload_n hx hb dX8_init_0 rfl (lv_at hl 0 rfl) ?_
  refine W.objInit hx hb hown (hts _ lk_X8_3) (hts _ im_obj) (hts _ co_obj) rfl (by rw [hml]; exact hl.1) rfl dX8_init_1 (Nat.le_of_ble_eq_true rfl) (Nat.le_of_ble_eq_true rfl) ?_
  refine W.eq (g2 := F0 m 4 ls []) rfl ?_
  refine lv_aload_n hx hb dX8_init_4 rfl (lv_at hl 0 rfl) ?_
  refine lv_bipush (v := 32) hx hb dX8_init_5 (by decide) ?_
  refine va_newa (atype := .int) (ty := .int) (a0 := (32, .inl fun _ => 0)) (N' := 32) hx hb (hts _ ac_I) rfl hK hP hD hS hA (fun _ => rfl) (by decide) rfl (by decide) (Nat.le_of_ble_eq_true rfl) (Nat.le_of_ble_eq_true rfl) dX8_init_7 (fun q1 c1 H hK hP hD hS => ?_)
  have hP : va_P D vwCl [(h0, .inr (7, [.null, .null, .null, .int 0, .int 0, .int 0, .int 0])), (q1, .inl (c1, 32, .inl fun _ => 0))] H := hP
  have hD : va_D A [(h0, .inr (7, [.null, .null, .null, .int 0, .int 0, .int 0, .int 0])), (q1, .inl (c1, 32, .inl fun _ => 0))] := hD
  have hK : va_K D vwCl [(c1, .int)] s := hK
  refine W.widen (k := 1) (n := 32) (Nat.le_of_ble_eq_true rfl) (Nat.le_of_ble_eq_true rfl) ?_
  refine va_put (ci := 7) (v := .ref q1) (C := RX8) (T := TX8) (N := 7) hx hb hts inlX8 tyX8 tyX8_ok nmX8 hown hK hP hD hS 0 rfl rfl 1 (by decide) (hts _ lk_X8_9) (fun _ h9 => h9) rfl (tyX8_ok _ (by decide)) rfl rfl (Nat.le_of_ble_eq_true rfl) dX8_init_9 (fun H locs hP hD hS => ?_)
  have hP : va_P D vwCl [(h0, .inr (7, [.null, .ref q1, .null, .int 0, .int 0, .int 0, .int 0])), (q1, .inl (c1, 32, .inl fun _ => 0))] H := hP
  have hD : va_D A [(h0, .inr (7, [.null, .ref q1, .null, .int 0, .int 0, .int 0, .int 0])), (q1, .inl (c1, 32, .inl fun _ => 0))] := hD
  refine lv_aload_n hx hb dX8_init_12 rfl (lv_at hl 0 rfl) ?_
  refine lv_bipush (v := 32) hx hb dX8_init_13 (by decide) ?_
  refine va_newa (atype := .boolean) (ty := .boolean) (a0 := (32, .inl fun _ => 0)) (N' := 32) hx hb (hts _ ac_Z) rfl hK hP hD hS hA (fun _ => rfl) (by decide) rfl (by decide) (Nat.le_of_ble_eq_true rfl) (Nat.le_of_ble_eq_true rfl) dX8_init_15 (fun q2 c2 H hK hP hD hS => ?_)
  have hP : va_P D vwCl [(h0, .inr (7, [.null, .ref q1, .null, .int 0, .int 0, .int 0, .int 0])), (q1, .inl (c1, 32, .inl fun _ => 0)), (q2, .inl (c2, 32, .inl fun _ => 0))] H := hP
  have hD : va_D A [(h0, .inr (7, [.null, .ref q1, .null, .int 0, .int 0, .int 0, .int 0])), (q1, .inl (c1, 32, .inl fun _ => 0)), (q2, .inl (c2, 32, .inl fun _ => 0))] := hD
  have hK : va_K D vwCl [(c1, .int), (c2, .boolean)] s := hK
  refine W.widen (k := 2) (n := 64) (Nat.le_of_ble_eq_true rfl) (Nat.le_of_ble_eq_true rfl) ?_
  refine va_put (ci := 7) (v := .ref q2) (C := RX8) (T := TX8) (N := 7) hx hb hts inlX8 tyX8 tyX8_ok nmX8 hown hK hP hD hS 0 rfl rfl 2 (by decide) (hts _ lk_X8_15) (fun _ h9 => h9) rfl (tyX8_ok _ (by decide)) rfl rfl (Nat.le_of_ble_eq_true rfl) dX8_init_17 (fun H locs hP hD hS => ?_)
  have hP : va_P D vwCl [(h0, .inr (7, [.null, .ref q1, .ref q2, .int 0, .int 0, .int 0, .int 0])), (q1, .inl (c1, 32, .inl fun _ => 0)), (q2, .inl (c2, 32, .inl fun _ => 0))] H := hP
  have hD : va_D A [(h0, .inr (7, [.null, .ref q1, .ref q2, .int 0, .int 0, .int 0, .int 0])), (q1, .inl (c1, 32, .inl fun _ => 0)), (q2, .inl (c2, 32, .inl fun _ => 0))] := hD
  refine lv_aload_n hx hb dX8_init_20 rfl (lv_at hl 0 rfl) ?_
  refine lv_iconst (v := 0) hx hb dX8_init_21 (by decide) ?_
  refine va_put (ci := 7) (v := .int 0) (C := RX8) (T := TX8) (N := 7) hx hb hts inlX8 tyX8 tyX8_ok nmX8 hown hK hP hD hS 0 rfl rfl 3 (by decide) (hts _ lk_X8_19) (fun _ h9 => h9) rfl (tyX8_ok _ (by decide)) rfl rfl (Nat.le_of_ble_eq_true rfl) dX8_init_22 (fun H locs hP hD hS => ?_)
  have hP : va_P D vwCl [(h0, .inr (7, [.null, .ref q1, .ref q2, .int 0, .int 0, .int 0, .int 0])), (q1, .inl (c1, 32, .inl fun _ => 0)), (q2, .inl (c2, 32, .inl fun _ => 0))] H := hP
  have hD : va_D A [(h0, .inr (7, [.null, .ref q1, .ref q2, .int 0, .int 0, .int 0, .int 0])), (q1, .inl (c1, 32, .inl fun _ => 0)), (q2, .inl (c2, 32, .inl fun _ => 0))] := hD
  refine lv_aload_n hx hb dX8_init_25 rfl (lv_at hl 0 rfl) ?_
  refine lv_iconst (v := 0) hx hb dX8_init_26 (by decide) ?_
  refine va_put (ci := 7) (v := .int 0) (C := RX8) (T := TX8) (N := 7) hx hb hts inlX8 tyX8 tyX8_ok nmX8 hown hK hP hD hS 0 rfl rfl 4 (by decide) (hts _ lk_X8_23) (fun _ h9 => h9) rfl (tyX8_ok _ (by decide)) rfl rfl (Nat.le_of_ble_eq_true rfl) dX8_init_27 (fun H locs hP hD hS => ?_)
  have hP : va_P D vwCl [(h0, .inr (7, [.null, .ref q1, .ref q2, .int 0, .int 0, .int 0, .int 0])), (q1, .inl (c1, 32, .inl fun _ => 0)), (q2, .inl (c2, 32, .inl fun _ => 0))] H := hP
  have hD : va_D A [(h0, .inr (7, [.null, .ref q1, .ref q2, .int 0, .int 0, .int 0, .int 0])), (q1, .inl (c1, 32, .inl fun _ => 0)), (q2, .inl (c2, 32, .inl fun _ => 0))] := hD
  refine lv_aload_n hx hb dX8_init_30 rfl (lv_at hl 0 rfl) ?_
  refine lv_iconst (v := 0) hx hb dX8_init_31 (by decide) ?_
  refine va_put (ci := 7) (v := .int 0) (C := RX8) (T := TX8) (N := 7) hx hb hts inlX8 tyX8 tyX8_ok nmX8 hown hK hP hD hS 0 rfl rfl 5 (by decide) (hts _ lk_X8_26) (fun _ h9 => h9) rfl (tyX8_ok _ (by decide)) rfl rfl (Nat.le_of_ble_eq_true rfl) dX8_init_32 (fun H locs hP hD hS => ?_)
  have hP : va_P D vwCl [(h0, .inr (7, [.null, .ref q1, .ref q2, .int 0, .int 0, .int 0, .int 0])), (q1, .inl (c1, 32, .inl fun _ => 0)), (q2, .inl (c2, 32, .inl fun _ => 0))] H := hP
  have hD : va_D A [(h0, .inr (7, [.null, .ref q1, .ref q2, .int 0, .int 0, .int 0, .int 0])), (q1, .inl (c1, 32, .inl fun _ => 0)), (q2, .inl (c2, 32, .inl fun _ => 0))] := hD
  refine lv_aload_n hx hb dX8_init_35 rfl (lv_at hl 0 rfl) ?_
  refine lv_iconst (v := (-1)) hx hb dX8_init_36 (by decide) ?_
  refine va_put (ci := 7) (v := .int (-1)) (C := RX8) (T := TX8) (N := 7) hx hb hts inlX8 tyX8 tyX8_ok nmX8 hown hK hP hD hS 0 rfl rfl 6 (by decide) (hts _ lk_X8_29) (fun _ h9 => h9) rfl (tyX8_ok _ (by decide)) rfl rfl (Nat.le_of_ble_eq_true rfl) dX8_init_37 (fun H locs hP hD hS => ?_)
  have hP : va_P D vwCl [(h0, .inr (7, [.null, .ref q1, .ref q2, .int 0, .int 0, .int 0, .int (-1)])), (q1, .inl (c1, 32, .inl fun _ => 0)), (q2, .inl (c2, 32, .inl fun _ => 0))] H := hP
  have hD : va_D A [(h0, .inr (7, [.null, .ref q1, .ref q2, .int 0, .int 0, .int 0, .int (-1)])), (q1, .inl (c1, 32, .inl fun _ => 0)), (q2, .inl (c2, 32, .inl fun _ => 0))] := hD
  refine lv_aload_n hx hb dX8_init_40 rfl (lv_at hl 0 rfl) ?_
  refine lv_aload_n hx hb dX8_init_41 rfl (lv_at hl 1 rfl) ?_
  refine va_putF (ci := 7) (v := .ref a1) (C := RX8) (T := TX8) (N := 7) hx hb hts inlX8 tyX8 tyX8_ok nmX8 hown hK hP hD hS 0 rfl rfl 0 (by decide) (hts _ lk_X8_32) (fun _ h9 => h9) rfl hin rfl (tyX8_ok _ (by decide)) rfl rfl (Nat.le_of_ble_eq_true rfl) dX8_init_42 (fun H locs hP hD hS => ?_)
  have hP : va_P D vwCl [(h0, .inr (7, [.ref a1, .ref q1, .ref q2, .int 0, .int 0, .int 0, .int (-1)])), (q1, .inl (c1, 32, .inl fun _ => 0)), (q2, .inl (c2, 32, .inl fun _ => 0))] H := hP
  have hD : va_D A [(h0, .inr (7, [.ref a1, .ref q1, .ref q2, .int 0, .int 0, .int 0, .int (-1)])), (q1, .inl (c1, 32, .inl fun _ => 0)), (q2, .inl (c2, 32, .inl fun _ => 0))] := hD
  exact W.vret hx hb hr (fun t ht hW => ⟨⟨(fun i => [q1, q2].getD i 0, fun i => [c1, c2].getD i 0), rfl, trivial, by rw [ht]; exact hP, va_K.moved hW.alike hK, hD⟩, hS.F ht⟩) hS.2.2 dX8_init_45 hlk
def cw_Wo (h0 : Nat) (u : (Nat → Nat) × (Nat → ClassId)) : va_W := [(h0, .inr (6, [.ref (u.1 0), .ref (u.1 1), .ref (u.1 2), .int 1])), (u.1 0, .inl (u.2 0, 30, .inl fun _ => (-1))), (u.1 1, .inl (u.2 1, 8, .inr (.inl fun _ => 0))), (u.1 2, .inl (u.2 2, 384, .inl fun _ => 0))]
def ct_Wo (u : (Nat → Nat) × (Nat → ClassId)) : List (ClassId × FieldType) := [(u.2 0, .int), (u.2 1, .long), (u.2 2, .byte)]
def rm_kn_Wo : Room := { frames := 1, cells := 3, slots := 422, locals := 23 }
theorem nb_Wo {D : va_G} {h0 sz : Nat} : FrameBlind (va_Pc [.ref h0] (fun U => U.heap.size = sz ∧ va_P D vwCl [(h0, .inr (6, [.null, .null, .null, .int 0]))] U.heap ∧ va_K D vwCl [] U ∧ va_D (fun _ => True) [(h0, .inr (6, [.null, .null, .null, .int 0]))])) := fun a U g mk q => by
  obtain ⟨q0, q1, qP, qK, qD⟩ := q
  exact ⟨q0, q1, qP, va_K.moved (u := U) (U := U.calling g mk a) (Vm.Alike.refl U.vm) qK, qD⟩
set_option maxHeartbeats 4000000 in
set_option maxRecDepth 100000 in
theorem kn_Wo (l : Launch) (D : va_G) (h0 sz : Nat) : Met l yX7_init (.code yX7_init cX7_init 1 none :: TB) rm_kn_Wo (va_Pc [.ref h0] (fun U => U.heap.size = sz ∧ va_P D vwCl [(h0, .inr (6, [.null, .null, .null, .int 0]))] U.heap ∧ va_K D vwCl [] U ∧ va_D (fun _ => True) [(h0, .inr (6, [.null, .null, .null, .int 0]))])) (va_Qv (fun _ : (Nat → Nat) × (Nat → ClassId) => True) (fun u t => va_P D vwCl (cw_Wo h0 u) t.heap ∧ va_K D vwCl (ct_Wo u) t ∧ va_D (va_A [(h0, .inr (6, [.null, .null, .null, .int 0]))] sz) (cw_Wo h0 u)) (va_A [(h0, .inr (6, [.null, .null, .null, .int 0]))] sz)) 3 422 (va_A [(h0, .inr (6, [.null, .null, .null, .int 0]))] sz) := by
  refine Met.ofW (cc := cX7_init) (maxL := 1) (ret := none) (by decide) rfl ?_
  intro p e s m args below meth c s₁ B hml hv
  obtain ⟨rfl, hsz, hP, hK, hD0⟩ := hv
  have hx := B.exec
  have hb := B.bytes
  have hr := B.returns
  have hts0 := atoms_spec (ws := .code yX7_init cX7_init 1 none :: TB) B.pre
  have hts : ∀ w ∈ TB, w.before _ s = true := fun w hw => hts0 w (List.mem_cons_of_mem _ hw)
  have hown : s.vm.findClass RX7 = some m.cls := findClass_of_methodNamed B.named
  have hlk := B.notSynchronized
  have hin : meth.name = "<init>" := (name_of_methodNamed B.named B.method).1
  subst hsz
  have hD := hD0.self (sz := s.heap.size)
  generalize hAe : va_A [(h0, .inr (6, [.null, .null, .null, .int 0]))] s.heap.size = A at hD ⊢
  have hA : ∀ q : Nat, s.heap.size ≤ q → A q := fun q h => by rw [← hAe]; exact Or.inr h
  have hS : va_S A s.heap s.heap [] := va_S.rf
  have hP : va_P D vwCl [(h0, .inr (6, [.null, .null, .null, .int 0]))] s.heap := hP
  have hl := lv_entry ([.ref h0]) (n := 1) (Nat.le_of_ble_eq_true rfl)
  rw [lg_entry_eq]
  generalize (lg_sl ([.ref h0]) ++ List.replicate (1 - (lg_sl ([.ref h0])).length) Slot.unset).toArray = ls at hl ⊢
  have hl : lv_has ls 1 [(0, .ref h0)] := hl
  refine lv_aload_n hx hb dX7_init_0 rfl (lv_at hl 0 rfl) ?_
  refine W.objInit hx hb hown (hts _ lk_X7_3) (hts _ im_obj) (hts _ co_obj) rfl (by rw [hml]; exact hl.1) rfl dX7_init_1 (Nat.le_of_ble_eq_true rfl) (Nat.le_of_ble_eq_true rfl) ?_
  refine W.eq (g2 := F0 m 4 ls []) rfl ?_
  refine lv_aload_n hx hb dX7_init_4 rfl (lv_at hl 0 rfl) ?_
  refine lv_bipush (v := 30) hx hb dX7_init_5 (by decide) ?_
  refine va_newa (atype := .int) (ty := .int) (a0 := (30, .inl fun _ => 0)) (N' := 30) hx hb (hts _ ac_I) rfl hK hP hD hS hA (fun _ => rfl) (by decide) rfl (by decide) (Nat.le_of_ble_eq_true rfl) (Nat.le_of_ble_eq_true rfl) dX7_init_7 (fun q1 c1 H hK hP hD hS => ?_)
  have hP : va_P D vwCl [(h0, .inr (6, [.null, .null, .null, .int 0])), (q1, .inl (c1, 30, .inl fun _ => 0))] H := hP
  have hD : va_D A [(h0, .inr (6, [.null, .null, .null, .int 0])), (q1, .inl (c1, 30, .inl fun _ => 0))] := hD
  have hK : va_K D vwCl [(c1, .int)] s := hK
  refine W.widen (k := 1) (n := 30) (Nat.le_of_ble_eq_true rfl) (Nat.le_of_ble_eq_true rfl) ?_
  refine va_putF (ci := 6) (v := .ref q1) (C := RX7) (T := TX7) (N := 4) hx hb hts inlX7 tyX7 tyX7_ok nmX7 hown hK hP hD hS 0 rfl rfl 0 (by decide) (hts _ lk_X7_9) (fun _ h9 => h9) rfl hin rfl (tyX7_ok _ (by decide)) rfl rfl (Nat.le_of_ble_eq_true rfl) dX7_init_9 (fun H locs hP hD hS => ?_)
  have hP : va_P D vwCl [(h0, .inr (6, [.ref q1, .null, .null, .int 0])), (q1, .inl (c1, 30, .inl fun _ => 0))] H := hP
  have hD : va_D A [(h0, .inr (6, [.ref q1, .null, .null, .int 0])), (q1, .inl (c1, 30, .inl fun _ => 0))] := hD
  refine lv_aload_n hx hb dX7_init_12 rfl (lv_at hl 0 rfl) ?_
  refine lv_bipush (v := 8) hx hb dX7_init_13 (by decide) ?_
  refine va_newa (atype := .long) (ty := .long) (a0 := (8, .inr (.inl fun _ => 0))) (N' := 8) hx hb (hts _ ac_J) rfl hK hP hD hS hA (fun _ => rfl) (by decide) rfl (by decide) (Nat.le_of_ble_eq_true rfl) (Nat.le_of_ble_eq_true rfl) dX7_init_15 (fun q2 c2 H hK hP hD hS => ?_)
  have hP : va_P D vwCl [(h0, .inr (6, [.ref q1, .null, .null, .int 0])), (q1, .inl (c1, 30, .inl fun _ => 0)), (q2, .inl (c2, 8, .inr (.inl fun _ => 0)))] H := hP
  have hD : va_D A [(h0, .inr (6, [.ref q1, .null, .null, .int 0])), (q1, .inl (c1, 30, .inl fun _ => 0)), (q2, .inl (c2, 8, .inr (.inl fun _ => 0)))] := hD
  have hK : va_K D vwCl [(c1, .int), (c2, .long)] s := hK
  refine W.widen (k := 2) (n := 38) (Nat.le_of_ble_eq_true rfl) (Nat.le_of_ble_eq_true rfl) ?_
  refine va_putF (ci := 6) (v := .ref q2) (C := RX7) (T := TX7) (N := 4) hx hb hts inlX7 tyX7 tyX7_ok nmX7 hown hK hP hD hS 0 rfl rfl 1 (by decide) (hts _ lk_X7_15) (fun _ h9 => h9) rfl hin rfl (tyX7_ok _ (by decide)) rfl rfl (Nat.le_of_ble_eq_true rfl) dX7_init_17 (fun H locs hP hD hS => ?_)
  have hP : va_P D vwCl [(h0, .inr (6, [.ref q1, .ref q2, .null, .int 0])), (q1, .inl (c1, 30, .inl fun _ => 0)), (q2, .inl (c2, 8, .inr (.inl fun _ => 0)))] H := hP
  have hD : va_D A [(h0, .inr (6, [.ref q1, .ref q2, .null, .int 0])), (q1, .inl (c1, 30, .inl fun _ => 0)), (q2, .inl (c2, 8, .inr (.inl fun _ => 0)))] := hD
  refine lv_aload_n hx hb dX7_init_20 rfl (lv_at hl 0 rfl) ?_
  refine lv_sipush (v := 384) hx hb dX7_init_21 (by decide) ?_
  refine va_newa (atype := .byte) (ty := .byte) (a0 := (384, .inl fun _ => 0)) (N' := 384) hx hb (hts _ ac_B) rfl hK hP hD hS hA (fun _ => rfl) (by decide) rfl (by decide) (Nat.le_of_ble_eq_true rfl) (Nat.le_of_ble_eq_true rfl) dX7_init_24 (fun q3 c3 H hK hP hD hS => ?_)
  have hP : va_P D vwCl [(h0, .inr (6, [.ref q1, .ref q2, .null, .int 0])), (q1, .inl (c1, 30, .inl fun _ => 0)), (q2, .inl (c2, 8, .inr (.inl fun _ => 0))), (q3, .inl (c3, 384, .inl fun _ => 0))] H := hP
  have hD : va_D A [(h0, .inr (6, [.ref q1, .ref q2, .null, .int 0])), (q1, .inl (c1, 30, .inl fun _ => 0)), (q2, .inl (c2, 8, .inr (.inl fun _ => 0))), (q3, .inl (c3, 384, .inl fun _ => 0))] := hD
  have hK : va_K D vwCl [(c1, .int), (c2, .long), (c3, .byte)] s := hK
  refine W.widen (k := 3) (n := 422) (Nat.le_of_ble_eq_true rfl) (Nat.le_of_ble_eq_true rfl) ?_
  refine va_putF (ci := 6) (v := .ref q3) (C := RX7) (T := TX7) (N := 4) hx hb hts inlX7 tyX7 tyX7_ok nmX7 hown hK hP hD hS 0 rfl rfl 2 (by decide) (hts _ lk_X7_19) (fun _ h9 => h9) rfl hin rfl (tyX7_ok _ (by decide)) rfl rfl (Nat.le_of_ble_eq_true rfl) dX7_init_26 (fun H locs hP hD hS => ?_)
  have hP : va_P D vwCl [(h0, .inr (6, [.ref q1, .ref q2, .ref q3, .int 0])), (q1, .inl (c1, 30, .inl fun _ => 0)), (q2, .inl (c2, 8, .inr (.inl fun _ => 0))), (q3, .inl (c3, 384, .inl fun _ => 0))] H := hP
  have hD : va_D A [(h0, .inr (6, [.ref q1, .ref q2, .ref q3, .int 0])), (q1, .inl (c1, 30, .inl fun _ => 0)), (q2, .inl (c2, 8, .inr (.inl fun _ => 0))), (q3, .inl (c3, 384, .inl fun _ => 0))] := hD
  refine lv_aload_n hx hb dX7_init_29 rfl (lv_at hl 0 rfl) ?_
  refine lv_iconst (v := 1) hx hb dX7_init_30 (by decide) ?_
  refine va_put (ci := 6) (v := .int 1) (C := RX7) (T := TX7) (N := 4) hx hb hts inlX7 tyX7 tyX7_ok nmX7 hown hK hP hD hS 0 rfl rfl 3 (by decide) (hts _ lk_X7_23) (fun _ h9 => h9) rfl (tyX7_ok _ (by decide)) rfl rfl (Nat.le_of_ble_eq_true rfl) dX7_init_31 (fun H locs hP hD hS => ?_)
  have hP : va_P D vwCl [(h0, .inr (6, [.ref q1, .ref q2, .ref q3, .int 1])), (q1, .inl (c1, 30, .inl fun _ => 0)), (q2, .inl (c2, 8, .inr (.inl fun _ => 0))), (q3, .inl (c3, 384, .inl fun _ => 0))] H := hP
  have hD : va_D A [(h0, .inr (6, [.ref q1, .ref q2, .ref q3, .int 1])), (q1, .inl (c1, 30, .inl fun _ => 0)), (q2, .inl (c2, 8, .inr (.inl fun _ => 0))), (q3, .inl (c3, 384, .inl fun _ => 0))] := hD
  refine lv_aload_n hx hb dX7_init_34 rfl (lv_at hl 0 rfl) ?_
  refine va_get (ci := 6) (v := .ref q1) (C := RX7) (T := TX7) (N := 4) hx hb hts inlX7 hown hK hP 0 rfl rfl 0 (by decide) (hts _ lk_X7_9) (fun _ h9 => h9) rfl dX7_init_35 ?_
  refine lv_iconst (v := (-1)) hx hb dX7_init_38 (by decide) ?_
  have hPc := hP.sub (ws' := [(q1, .inl (c1, 30, .inl fun _ => 0))]) [1] rfl
  have hDc := hD.sub (ws' := [(q1, .inl (c1, 30, .inl fun _ => 0))]) [1] (by decide) rfl
  have hKc := hK.sub (tys' := [(c1, .int)]) [0] rfl
  have hFc := va_free (wc := [(q1, .inl (c1, 30, .inl fun _ => 0))]) hD hS hA [1] rfl
  refine va_callv (va_runS (As := [.ref q1, .int (-1)]) (rest := []) ⟨hx, hb, hml, hown, hts⟩ (kn_fill l D q1 H.size c1 30 (fun _ => 0) (-1) (by decide)) (va_cwS 2 hts gi_X7_27 rfl rfl rfl hd_fill ⟨Nat.le_of_ble_eq_true rfl, Nat.le_of_ble_eq_true rfl⟩) ⟨nb_fill, fun U hU hW => ⟨rfl, by rw [hU], by rw [hU]; exact hPc, va_K.moved hW.alike hKc, hDc.weaken (fun _ _ _ _ => trivial)⟩⟩ rfl rfl hl.1 rfl (lv_room (Nat.le_of_ble_eq_true rfl)) dX7_init_39 ⟨Nat.le_of_ble_eq_true rfl, Nat.le_of_ble_eq_true rfl⟩) hS (fun q _ h => hFc q h) hFc (fun u4 t H1 locs ht hvm hw hB hz1 hk1 hS => ?_)
  obtain ⟨hP1, hK1, hD1⟩ := hB
  rw [ht] at hP1
  have hK1 := va_K.moved hvm.symm hK1
  obtain ⟨hP, hD⟩ := va_join (wr := [(h0, .inr (6, [.ref q1, .ref q2, .ref q3, .int 1])), (q2, .inl (c2, 8, .inr (.inl fun _ => 0))), (q3, .inl (c3, 384, .inl fun _ => 0))]) (w1 := [(q1, .inl (c1, 30, .inl fun _ => (-1)))]) hP hD [1] [0, 2, 3] rfl rfl (by decide) (by decide) hk1 hFc hP1 hD1
  generalize H1 = H at hP hS ⊢
  have hP : va_P D vwCl [(h0, .inr (6, [.ref q1, .ref q2, .ref q3, .int 1])), (q1, .inl (c1, 30, .inl fun _ => (-1))), (q2, .inl (c2, 8, .inr (.inl fun _ => 0))), (q3, .inl (c3, 384, .inl fun _ => 0))] H := hP.sub [0, 3, 1, 2] rfl
  have hD : va_D A [(h0, .inr (6, [.ref q1, .ref q2, .ref q3, .int 1])), (q1, .inl (c1, 30, .inl fun _ => (-1))), (q2, .inl (c2, 8, .inr (.inl fun _ => 0))), (q3, .inl (c3, 384, .inl fun _ => 0))] := hD.sub [0, 3, 1, 2] (by decide) rfl
  refine W.widen (k := 3) (n := 422) (Nat.le_of_ble_eq_true rfl) (Nat.le_of_ble_eq_true rfl) ?_
  exact W.vret hx hb hr (fun t ht hW => ⟨⟨(fun i => [q1, q2, q3].getD i 0, fun i => [c1, c2, c3].getD i 0), rfl, trivial, by rw [ht]; exact hP, va_K.moved hW.alike hK, hD⟩, hS.F ht⟩) hS.2.2 dX7_init_42 hlk
def cw_Ac (h0 : Nat) (a1 : Nat) (u : (Nat → Nat) × (Nat → ClassId)) : va_W := [(h0, .inr (0, [.ref a1, .ref (u.1 0), .ref (u.1 1), .ref (u.1 2), .ref (u.1 3), .ref (u.1 4), .ref (u.1 5), .ref (u.1 6), .int 0, .int 0, .int 0, .int 0, .int 0, .int (-1), .int 0, .int 0, .int 0])), (u.1 0, .inl (u.2 0, 30, .inl fun _ => 0)), (u.1 1, .inl (u.2 1, 30, .inl fun _ => 0)), (u.1 2, .inl (u.2 2, 30, .inl fun _ => 0)), (u.1 3, .inl (u.2 3, 30, .inl fun _ => 0)), (u.1 4, .inl (u.2 4, 30, .inl fun _ => 0)), (u.1 5, .inl (u.2 5, 220, .inr (.inl fun _ => 0))), (u.1 6, .inl (u.2 6, 8, .inr (.inl fun _ => 0)))]
def ct_Ac (u : (Nat → Nat) × (Nat → ClassId)) : List (ClassId × FieldType) := [(u.2 0, .int), (u.2 1, .int), (u.2 2, .int), (u.2 3, .int), (u.2 4, .boolean), (u.2 5, .long), (u.2 6, .long)]
def rm_kn_Ac : Room := { frames := 1, cells := 7, slots := 378, locals := 20 }
theorem nb_Ac {D : va_G} {h0 sz a1 : Nat} : FrameBlind (va_Pc [.ref h0, .ref a1] (fun U => U.heap.size = sz ∧ va_P D vwCl [(h0, .inr (0, [.null, .null, .null, .null, .null, .null, .null, .null, .int 0, .int 0, .int 0, .int 0, .int 0, .int 0, .int 0, .int 0, .int 0]))] U.heap ∧ va_K D vwCl [] U ∧ va_D (fun _ => True) [(h0, .inr (0, [.null, .null, .null, .null, .null, .null, .null, .null, .int 0, .int 0, .int 0, .int 0, .int 0, .int 0, .int 0, .int 0, .int 0]))])) := fun a U g mk q => by
  obtain ⟨q0, q1, qP, qK, qD⟩ := q
  exact ⟨q0, q1, qP, va_K.moved (u := U) (U := U.calling g mk a) (Vm.Alike.refl U.vm) qK, qD⟩
set_option maxHeartbeats 4000000 in
set_option maxRecDepth 100000 in
theorem kn_Ac (l : Launch) (D : va_G) (h0 sz : Nat) (a1 : Nat) : Met l yX0_init (.code yX0_init cX0_init 2 none :: TB) rm_kn_Ac (va_Pc [.ref h0, .ref a1] (fun U => U.heap.size = sz ∧ va_P D vwCl [(h0, .inr (0, [.null, .null, .null, .null, .null, .null, .null, .null, .int 0, .int 0, .int 0, .int 0, .int 0, .int 0, .int 0, .int 0, .int 0]))] U.heap ∧ va_K D vwCl [] U ∧ va_D (fun _ => True) [(h0, .inr (0, [.null, .null, .null, .null, .null, .null, .null, .null, .int 0, .int 0, .int 0, .int 0, .int 0, .int 0, .int 0, .int 0, .int 0]))])) (va_Qv (fun _ : (Nat → Nat) × (Nat → ClassId) => True) (fun u t => va_P D vwCl (cw_Ac h0 a1 u) t.heap ∧ va_K D vwCl (ct_Ac u) t ∧ va_D (va_A [(h0, .inr (0, [.null, .null, .null, .null, .null, .null, .null, .null, .int 0, .int 0, .int 0, .int 0, .int 0, .int 0, .int 0, .int 0, .int 0]))] sz) (cw_Ac h0 a1 u)) (va_A [(h0, .inr (0, [.null, .null, .null, .null, .null, .null, .null, .null, .int 0, .int 0, .int 0, .int 0, .int 0, .int 0, .int 0, .int 0, .int 0]))] sz)) 7 378 (va_A [(h0, .inr (0, [.null, .null, .null, .null, .null, .null, .null, .null, .int 0, .int 0, .int 0, .int 0, .int 0, .int 0, .int 0, .int 0, .int 0]))] sz) := by
  refine Met.ofW (cc := cX0_init) (maxL := 2) (ret := none) (by decide) rfl ?_
  intro p e s m args below meth c s₁ B hml hv
  obtain ⟨rfl, hsz, hP, hK, hD0⟩ := hv
  have hx := B.exec
  have hb := B.bytes
  have hr := B.returns
  have hts0 := atoms_spec (ws := .code yX0_init cX0_init 2 none :: TB) B.pre
  have hts : ∀ w ∈ TB, w.before _ s = true := fun w hw => hts0 w (List.mem_cons_of_mem _ hw)
  have hown : s.vm.findClass RX0 = some m.cls := findClass_of_methodNamed B.named
  have hlk := B.notSynchronized
  have hin : meth.name = "<init>" := (name_of_methodNamed B.named B.method).1
  subst hsz
  have hD := hD0.self (sz := s.heap.size)
  generalize hAe : va_A [(h0, .inr (0, [.null, .null, .null, .null, .null, .null, .null, .null, .int 0, .int 0, .int 0, .int 0, .int 0, .int 0, .int 0, .int 0, .int 0]))] s.heap.size = A at hD ⊢
  have hA : ∀ q : Nat, s.heap.size ≤ q → A q := fun q h => by rw [← hAe]; exact Or.inr h
  have hS : va_S A s.heap s.heap [] := va_S.rf
  have hP : va_P D vwCl [(h0, .inr (0, [.null, .null, .null, .null, .null, .null, .null, .null, .int 0, .int 0, .int 0, .int 0, .int 0, .int 0, .int 0, .int 0, .int 0]))] s.heap := hP
  have hl := lv_entry ([.ref h0, .ref a1]) (n := 2) (Nat.le_of_ble_eq_true rfl)
  rw [lg_entry_eq]
  generalize (lg_sl ([.ref h0, .ref a1]) ++ List.replicate (2 - (lg_sl ([.ref h0, .ref a1])).length) Slot.unset).toArray = ls at hl ⊢
  have hl : lv_has ls 2 [(0, .ref h0), (1, .ref a1)] := hl
  refine lv_aload_n hx hb dX0_init_0 rfl (lv_at hl 0 rfl) ?_
  refine W.objInit hx hb hown (hts _ lk_X0_3) (hts _ im_obj) (hts _ co_obj) rfl (by rw [hml]; exact hl.1) rfl dX0_init_1 (Nat.le_of_ble_eq_true rfl) (Nat.le_of_ble_eq_true rfl) ?_
  refine W.eq (g2 := F0 m 4 ls []) rfl ?_
  refine lv_aload_n hx hb dX0_init_4 rfl (lv_at hl 0 rfl) ?_
  refine lv_bipush (v := 30) hx hb dX0_init_5 (by decide) ?_
  refine va_newa (atype := .int) (ty := .int) (a0 := (30, .inl fun _ => 0)) (N' := 30) hx hb (hts _ ac_I) rfl hK hP hD hS hA (fun _ => rfl) (by decide) rfl (by decide) (Nat.le_of_ble_eq_true rfl) (Nat.le_of_ble_eq_true rfl) dX0_init_7 (fun q1 c1 H hK hP hD hS => ?_)
  have hP : va_P D vwCl [(h0, .inr (0, [.null, .null, .null, .null, .null, .null, .null, .null, .int 0, .int 0, .int 0, .int 0, .int 0, .int 0, .int 0, .int 0, .int 0])), (q1, .inl (c1, 30, .inl fun _ => 0))] H := hP
  have hD : va_D A [(h0, .inr (0, [.null, .null, .null, .null, .null, .null, .null, .null, .int 0, .int 0, .int 0, .int 0, .int 0, .int 0, .int 0, .int 0, .int 0])), (q1, .inl (c1, 30, .inl fun _ => 0))] := hD
  have hK : va_K D vwCl [(c1, .int)] s := hK
  refine W.widen (k := 1) (n := 30) (Nat.le_of_ble_eq_true rfl) (Nat.le_of_ble_eq_true rfl) ?_
  refine va_putF (ci := 0) (v := .ref q1) (C := RX0) (T := TX0) (N := 17) hx hb hts inlX0 tyX0 tyX0_ok nmX0 hown hK hP hD hS 0 rfl rfl 1 (by decide) (hts _ lk_X0_9) (fun _ h9 => h9) rfl hin rfl (tyX0_ok _ (by decide)) rfl rfl (Nat.le_of_ble_eq_true rfl) dX0_init_9 (fun H locs hP hD hS => ?_)
  have hP : va_P D vwCl [(h0, .inr (0, [.null, .ref q1, .null, .null, .null, .null, .null, .null, .int 0, .int 0, .int 0, .int 0, .int 0, .int 0, .int 0, .int 0, .int 0])), (q1, .inl (c1, 30, .inl fun _ => 0))] H := hP
  have hD : va_D A [(h0, .inr (0, [.null, .ref q1, .null, .null, .null, .null, .null, .null, .int 0, .int 0, .int 0, .int 0, .int 0, .int 0, .int 0, .int 0, .int 0])), (q1, .inl (c1, 30, .inl fun _ => 0))] := hD
  refine lv_aload_n hx hb dX0_init_12 rfl (lv_at hl 0 rfl) ?_
  refine lv_bipush (v := 30) hx hb dX0_init_13 (by decide) ?_
  refine va_newa (atype := .int) (ty := .int) (a0 := (30, .inl fun _ => 0)) (N' := 30) hx hb (hts _ ac_I) rfl hK hP hD hS hA (fun _ => rfl) (by decide) rfl (by decide) (Nat.le_of_ble_eq_true rfl) (Nat.le_of_ble_eq_true rfl) dX0_init_15 (fun q2 c2 H hK hP hD hS => ?_)
  have hP : va_P D vwCl [(h0, .inr (0, [.null, .ref q1, .null, .null, .null, .null, .null, .null, .int 0, .int 0, .int 0, .int 0, .int 0, .int 0, .int 0, .int 0, .int 0])), (q1, .inl (c1, 30, .inl fun _ => 0)), (q2, .inl (c2, 30, .inl fun _ => 0))] H := hP
  have hD : va_D A [(h0, .inr (0, [.null, .ref q1, .null, .null, .null, .null, .null, .null, .int 0, .int 0, .int 0, .int 0, .int 0, .int 0, .int 0, .int 0, .int 0])), (q1, .inl (c1, 30, .inl fun _ => 0)), (q2, .inl (c2, 30, .inl fun _ => 0))] := hD
  have hK : va_K D vwCl [(c1, .int), (c2, .int)] s := hK
  refine W.widen (k := 2) (n := 60) (Nat.le_of_ble_eq_true rfl) (Nat.le_of_ble_eq_true rfl) ?_
  refine va_putF (ci := 0) (v := .ref q2) (C := RX0) (T := TX0) (N := 17) hx hb hts inlX0 tyX0 tyX0_ok nmX0 hown hK hP hD hS 0 rfl rfl 2 (by decide) (hts _ lk_X0_15) (fun _ h9 => h9) rfl hin rfl (tyX0_ok _ (by decide)) rfl rfl (Nat.le_of_ble_eq_true rfl) dX0_init_17 (fun H locs hP hD hS => ?_)
  have hP : va_P D vwCl [(h0, .inr (0, [.null, .ref q1, .ref q2, .null, .null, .null, .null, .null, .int 0, .int 0, .int 0, .int 0, .int 0, .int 0, .int 0, .int 0, .int 0])), (q1, .inl (c1, 30, .inl fun _ => 0)), (q2, .inl (c2, 30, .inl fun _ => 0))] H := hP
  have hD : va_D A [(h0, .inr (0, [.null, .ref q1, .ref q2, .null, .null, .null, .null, .null, .int 0, .int 0, .int 0, .int 0, .int 0, .int 0, .int 0, .int 0, .int 0])), (q1, .inl (c1, 30, .inl fun _ => 0)), (q2, .inl (c2, 30, .inl fun _ => 0))] := hD
  refine lv_aload_n hx hb dX0_init_20 rfl (lv_at hl 0 rfl) ?_
  refine lv_bipush (v := 30) hx hb dX0_init_21 (by decide) ?_
  refine va_newa (atype := .int) (ty := .int) (a0 := (30, .inl fun _ => 0)) (N' := 30) hx hb (hts _ ac_I) rfl hK hP hD hS hA (fun _ => rfl) (by decide) rfl (by decide) (Nat.le_of_ble_eq_true rfl) (Nat.le_of_ble_eq_true rfl) dX0_init_23 (fun q3 c3 H hK hP hD hS => ?_)
  have hP : va_P D vwCl [(h0, .inr (0, [.null, .ref q1, .ref q2, .null, .null, .null, .null, .null, .int 0, .int 0, .int 0, .int 0, .int 0, .int 0, .int 0, .int 0, .int 0])), (q1, .inl (c1, 30, .inl fun _ => 0)), (q2, .inl (c2, 30, .inl fun _ => 0)), (q3, .inl (c3, 30, .inl fun _ => 0))] H := hP
  have hD : va_D A [(h0, .inr (0, [.null, .ref q1, .ref q2, .null, .null, .null, .null, .null, .int 0, .int 0, .int 0, .int 0, .int 0, .int 0, .int 0, .int 0, .int 0])), (q1, .inl (c1, 30, .inl fun _ => 0)), (q2, .inl (c2, 30, .inl fun _ => 0)), (q3, .inl (c3, 30, .inl fun _ => 0))] := hD
  have hK : va_K D vwCl [(c1, .int), (c2, .int), (c3, .int)] s := hK
  refine W.widen (k := 3) (n := 90) (Nat.le_of_ble_eq_true rfl) (Nat.le_of_ble_eq_true rfl) ?_
  refine va_putF (ci := 0) (v := .ref q3) (C := RX0) (T := TX0) (N := 17) hx hb hts inlX0 tyX0 tyX0_ok nmX0 hown hK hP hD hS 0 rfl rfl 3 (by decide) (hts _ lk_X0_18) (fun _ h9 => h9) rfl hin rfl (tyX0_ok _ (by decide)) rfl rfl (Nat.le_of_ble_eq_true rfl) dX0_init_25 (fun H locs hP hD hS => ?_)
  have hP : va_P D vwCl [(h0, .inr (0, [.null, .ref q1, .ref q2, .ref q3, .null, .null, .null, .null, .int 0, .int 0, .int 0, .int 0, .int 0, .int 0, .int 0, .int 0, .int 0])), (q1, .inl (c1, 30, .inl fun _ => 0)), (q2, .inl (c2, 30, .inl fun _ => 0)), (q3, .inl (c3, 30, .inl fun _ => 0))] H := hP
  have hD : va_D A [(h0, .inr (0, [.null, .ref q1, .ref q2, .ref q3, .null, .null, .null, .null, .int 0, .int 0, .int 0, .int 0, .int 0, .int 0, .int 0, .int 0, .int 0])), (q1, .inl (c1, 30, .inl fun _ => 0)), (q2, .inl (c2, 30, .inl fun _ => 0)), (q3, .inl (c3, 30, .inl fun _ => 0))] := hD
  refine lv_aload_n hx hb dX0_init_28 rfl (lv_at hl 0 rfl) ?_
  refine lv_bipush (v := 30) hx hb dX0_init_29 (by decide) ?_
  refine va_newa (atype := .int) (ty := .int) (a0 := (30, .inl fun _ => 0)) (N' := 30) hx hb (hts _ ac_I) rfl hK hP hD hS hA (fun _ => rfl) (by decide) rfl (by decide) (Nat.le_of_ble_eq_true rfl) (Nat.le_of_ble_eq_true rfl) dX0_init_31 (fun q4 c4 H hK hP hD hS => ?_)
  have hP : va_P D vwCl [(h0, .inr (0, [.null, .ref q1, .ref q2, .ref q3, .null, .null, .null, .null, .int 0, .int 0, .int 0, .int 0, .int 0, .int 0, .int 0, .int 0, .int 0])), (q1, .inl (c1, 30, .inl fun _ => 0)), (q2, .inl (c2, 30, .inl fun _ => 0)), (q3, .inl (c3, 30, .inl fun _ => 0)), (q4, .inl (c4, 30, .inl fun _ => 0))] H := hP
  have hD : va_D A [(h0, .inr (0, [.null, .ref q1, .ref q2, .ref q3, .null, .null, .null, .null, .int 0, .int 0, .int 0, .int 0, .int 0, .int 0, .int 0, .int 0, .int 0])), (q1, .inl (c1, 30, .inl fun _ => 0)), (q2, .inl (c2, 30, .inl fun _ => 0)), (q3, .inl (c3, 30, .inl fun _ => 0)), (q4, .inl (c4, 30, .inl fun _ => 0))] := hD
  have hK : va_K D vwCl [(c1, .int), (c2, .int), (c3, .int), (c4, .int)] s := hK
  refine W.widen (k := 4) (n := 120) (Nat.le_of_ble_eq_true rfl) (Nat.le_of_ble_eq_true rfl) ?_
  refine va_putF (ci := 0) (v := .ref q4) (C := RX0) (T := TX0) (N := 17) hx hb hts inlX0 tyX0 tyX0_ok nmX0 hown hK hP hD hS 0 rfl rfl 4 (by decide) (hts _ lk_X0_21) (fun _ h9 => h9) rfl hin rfl (tyX0_ok _ (by decide)) rfl rfl (Nat.le_of_ble_eq_true rfl) dX0_init_33 (fun H locs hP hD hS => ?_)
  have hP : va_P D vwCl [(h0, .inr (0, [.null, .ref q1, .ref q2, .ref q3, .ref q4, .null, .null, .null, .int 0, .int 0, .int 0, .int 0, .int 0, .int 0, .int 0, .int 0, .int 0])), (q1, .inl (c1, 30, .inl fun _ => 0)), (q2, .inl (c2, 30, .inl fun _ => 0)), (q3, .inl (c3, 30, .inl fun _ => 0)), (q4, .inl (c4, 30, .inl fun _ => 0))] H := hP
  have hD : va_D A [(h0, .inr (0, [.null, .ref q1, .ref q2, .ref q3, .ref q4, .null, .null, .null, .int 0, .int 0, .int 0, .int 0, .int 0, .int 0, .int 0, .int 0, .int 0])), (q1, .inl (c1, 30, .inl fun _ => 0)), (q2, .inl (c2, 30, .inl fun _ => 0)), (q3, .inl (c3, 30, .inl fun _ => 0)), (q4, .inl (c4, 30, .inl fun _ => 0))] := hD
  refine lv_aload_n hx hb dX0_init_36 rfl (lv_at hl 0 rfl) ?_
  refine lv_bipush (v := 30) hx hb dX0_init_37 (by decide) ?_
  refine va_newa (atype := .boolean) (ty := .boolean) (a0 := (30, .inl fun _ => 0)) (N' := 30) hx hb (hts _ ac_Z) rfl hK hP hD hS hA (fun _ => rfl) (by decide) rfl (by decide) (Nat.le_of_ble_eq_true rfl) (Nat.le_of_ble_eq_true rfl) dX0_init_39 (fun q5 c5 H hK hP hD hS => ?_)
  have hP : va_P D vwCl [(h0, .inr (0, [.null, .ref q1, .ref q2, .ref q3, .ref q4, .null, .null, .null, .int 0, .int 0, .int 0, .int 0, .int 0, .int 0, .int 0, .int 0, .int 0])), (q1, .inl (c1, 30, .inl fun _ => 0)), (q2, .inl (c2, 30, .inl fun _ => 0)), (q3, .inl (c3, 30, .inl fun _ => 0)), (q4, .inl (c4, 30, .inl fun _ => 0)), (q5, .inl (c5, 30, .inl fun _ => 0))] H := hP
  have hD : va_D A [(h0, .inr (0, [.null, .ref q1, .ref q2, .ref q3, .ref q4, .null, .null, .null, .int 0, .int 0, .int 0, .int 0, .int 0, .int 0, .int 0, .int 0, .int 0])), (q1, .inl (c1, 30, .inl fun _ => 0)), (q2, .inl (c2, 30, .inl fun _ => 0)), (q3, .inl (c3, 30, .inl fun _ => 0)), (q4, .inl (c4, 30, .inl fun _ => 0)), (q5, .inl (c5, 30, .inl fun _ => 0))] := hD
  have hK : va_K D vwCl [(c1, .int), (c2, .int), (c3, .int), (c4, .int), (c5, .boolean)] s := hK
  refine W.widen (k := 5) (n := 150) (Nat.le_of_ble_eq_true rfl) (Nat.le_of_ble_eq_true rfl) ?_
  refine va_putF (ci := 0) (v := .ref q5) (C := RX0) (T := TX0) (N := 17) hx hb hts inlX0 tyX0 tyX0_ok nmX0 hown hK hP hD hS 0 rfl rfl 5 (by decide) (hts _ lk_X0_24) (fun _ h9 => h9) rfl hin rfl (tyX0_ok _ (by decide)) rfl rfl (Nat.le_of_ble_eq_true rfl) dX0_init_41 (fun H locs hP hD hS => ?_)
  have hP : va_P D vwCl [(h0, .inr (0, [.null, .ref q1, .ref q2, .ref q3, .ref q4, .ref q5, .null, .null, .int 0, .int 0, .int 0, .int 0, .int 0, .int 0, .int 0, .int 0, .int 0])), (q1, .inl (c1, 30, .inl fun _ => 0)), (q2, .inl (c2, 30, .inl fun _ => 0)), (q3, .inl (c3, 30, .inl fun _ => 0)), (q4, .inl (c4, 30, .inl fun _ => 0)), (q5, .inl (c5, 30, .inl fun _ => 0))] H := hP
  have hD : va_D A [(h0, .inr (0, [.null, .ref q1, .ref q2, .ref q3, .ref q4, .ref q5, .null, .null, .int 0, .int 0, .int 0, .int 0, .int 0, .int 0, .int 0, .int 0, .int 0])), (q1, .inl (c1, 30, .inl fun _ => 0)), (q2, .inl (c2, 30, .inl fun _ => 0)), (q3, .inl (c3, 30, .inl fun _ => 0)), (q4, .inl (c4, 30, .inl fun _ => 0)), (q5, .inl (c5, 30, .inl fun _ => 0))] := hD
  refine lv_aload_n hx hb dX0_init_44 rfl (lv_at hl 0 rfl) ?_
  refine lv_sipush (v := 220) hx hb dX0_init_45 (by decide) ?_
  refine va_newa (atype := .long) (ty := .long) (a0 := (220, .inr (.inl fun _ => 0))) (N' := 220) hx hb (hts _ ac_J) rfl hK hP hD hS hA (fun _ => rfl) (by decide) rfl (by decide) (Nat.le_of_ble_eq_true rfl) (Nat.le_of_ble_eq_true rfl) dX0_init_48 (fun q6 c6 H hK hP hD hS => ?_)
  have hP : va_P D vwCl [(h0, .inr (0, [.null, .ref q1, .ref q2, .ref q3, .ref q4, .ref q5, .null, .null, .int 0, .int 0, .int 0, .int 0, .int 0, .int 0, .int 0, .int 0, .int 0])), (q1, .inl (c1, 30, .inl fun _ => 0)), (q2, .inl (c2, 30, .inl fun _ => 0)), (q3, .inl (c3, 30, .inl fun _ => 0)), (q4, .inl (c4, 30, .inl fun _ => 0)), (q5, .inl (c5, 30, .inl fun _ => 0)), (q6, .inl (c6, 220, .inr (.inl fun _ => 0)))] H := hP
  have hD : va_D A [(h0, .inr (0, [.null, .ref q1, .ref q2, .ref q3, .ref q4, .ref q5, .null, .null, .int 0, .int 0, .int 0, .int 0, .int 0, .int 0, .int 0, .int 0, .int 0])), (q1, .inl (c1, 30, .inl fun _ => 0)), (q2, .inl (c2, 30, .inl fun _ => 0)), (q3, .inl (c3, 30, .inl fun _ => 0)), (q4, .inl (c4, 30, .inl fun _ => 0)), (q5, .inl (c5, 30, .inl fun _ => 0)), (q6, .inl (c6, 220, .inr (.inl fun _ => 0)))] := hD
  have hK : va_K D vwCl [(c1, .int), (c2, .int), (c3, .int), (c4, .int), (c5, .boolean), (c6, .long)] s := hK
  refine W.widen (k := 6) (n := 370) (Nat.le_of_ble_eq_true rfl) (Nat.le_of_ble_eq_true rfl) ?_
  refine va_putF (ci := 0) (v := .ref q6) (C := RX0) (T := TX0) (N := 17) hx hb hts inlX0 tyX0 tyX0_ok nmX0 hown hK hP hD hS 0 rfl rfl 6 (by decide) (hts _ lk_X0_28) (fun _ h9 => h9) rfl hin rfl (tyX0_ok _ (by decide)) rfl rfl (Nat.le_of_ble_eq_true rfl) dX0_init_50 (fun H locs hP hD hS => ?_)
  have hP : va_P D vwCl [(h0, .inr (0, [.null, .ref q1, .ref q2, .ref q3, .ref q4, .ref q5, .ref q6, .null, .int 0, .int 0, .int 0, .int 0, .int 0, .int 0, .int 0, .int 0, .int 0])), (q1, .inl (c1, 30, .inl fun _ => 0)), (q2, .inl (c2, 30, .inl fun _ => 0)), (q3, .inl (c3, 30, .inl fun _ => 0)), (q4, .inl (c4, 30, .inl fun _ => 0)), (q5, .inl (c5, 30, .inl fun _ => 0)), (q6, .inl (c6, 220, .inr (.inl fun _ => 0)))] H := hP
  have hD : va_D A [(h0, .inr (0, [.null, .ref q1, .ref q2, .ref q3, .ref q4, .ref q5, .ref q6, .null, .int 0, .int 0, .int 0, .int 0, .int 0, .int 0, .int 0, .int 0, .int 0])), (q1, .inl (c1, 30, .inl fun _ => 0)), (q2, .inl (c2, 30, .inl fun _ => 0)), (q3, .inl (c3, 30, .inl fun _ => 0)), (q4, .inl (c4, 30, .inl fun _ => 0)), (q5, .inl (c5, 30, .inl fun _ => 0)), (q6, .inl (c6, 220, .inr (.inl fun _ => 0)))] := hD
  refine lv_aload_n hx hb dX0_init_53 rfl (lv_at hl 0 rfl) ?_
  refine lv_bipush (v := 8) hx hb dX0_init_54 (by decide) ?_
  refine va_newa (atype := .long) (ty := .long) (a0 := (8, .inr (.inl fun _ => 0))) (N' := 8) hx hb (hts _ ac_J) rfl hK hP hD hS hA (fun _ => rfl) (by decide) rfl (by decide) (Nat.le_of_ble_eq_true rfl) (Nat.le_of_ble_eq_true rfl) dX0_init_56 (fun q7 c7 H hK hP hD hS => ?_)
  have hP : va_P D vwCl [(h0, .inr (0, [.null, .ref q1, .ref q2, .ref q3, .ref q4, .ref q5, .ref q6, .null, .int 0, .int 0, .int 0, .int 0, .int 0, .int 0, .int 0, .int 0, .int 0])), (q1, .inl (c1, 30, .inl fun _ => 0)), (q2, .inl (c2, 30, .inl fun _ => 0)), (q3, .inl (c3, 30, .inl fun _ => 0)), (q4, .inl (c4, 30, .inl fun _ => 0)), (q5, .inl (c5, 30, .inl fun _ => 0)), (q6, .inl (c6, 220, .inr (.inl fun _ => 0))), (q7, .inl (c7, 8, .inr (.inl fun _ => 0)))] H := hP
  have hD : va_D A [(h0, .inr (0, [.null, .ref q1, .ref q2, .ref q3, .ref q4, .ref q5, .ref q6, .null, .int 0, .int 0, .int 0, .int 0, .int 0, .int 0, .int 0, .int 0, .int 0])), (q1, .inl (c1, 30, .inl fun _ => 0)), (q2, .inl (c2, 30, .inl fun _ => 0)), (q3, .inl (c3, 30, .inl fun _ => 0)), (q4, .inl (c4, 30, .inl fun _ => 0)), (q5, .inl (c5, 30, .inl fun _ => 0)), (q6, .inl (c6, 220, .inr (.inl fun _ => 0))), (q7, .inl (c7, 8, .inr (.inl fun _ => 0)))] := hD
  have hK : va_K D vwCl [(c1, .int), (c2, .int), (c3, .int), (c4, .int), (c5, .boolean), (c6, .long), (c7, .long)] s := hK
  refine W.widen (k := 7) (n := 378) (Nat.le_of_ble_eq_true rfl) (Nat.le_of_ble_eq_true rfl) ?_
  refine va_putF (ci := 0) (v := .ref q7) (C := RX0) (T := TX0) (N := 17) hx hb hts inlX0 tyX0 tyX0_ok nmX0 hown hK hP hD hS 0 rfl rfl 7 (by decide) (hts _ lk_X0_32) (fun _ h9 => h9) rfl hin rfl (tyX0_ok _ (by decide)) rfl rfl (Nat.le_of_ble_eq_true rfl) dX0_init_58 (fun H locs hP hD hS => ?_)
  have hP : va_P D vwCl [(h0, .inr (0, [.null, .ref q1, .ref q2, .ref q3, .ref q4, .ref q5, .ref q6, .ref q7, .int 0, .int 0, .int 0, .int 0, .int 0, .int 0, .int 0, .int 0, .int 0])), (q1, .inl (c1, 30, .inl fun _ => 0)), (q2, .inl (c2, 30, .inl fun _ => 0)), (q3, .inl (c3, 30, .inl fun _ => 0)), (q4, .inl (c4, 30, .inl fun _ => 0)), (q5, .inl (c5, 30, .inl fun _ => 0)), (q6, .inl (c6, 220, .inr (.inl fun _ => 0))), (q7, .inl (c7, 8, .inr (.inl fun _ => 0)))] H := hP
  have hD : va_D A [(h0, .inr (0, [.null, .ref q1, .ref q2, .ref q3, .ref q4, .ref q5, .ref q6, .ref q7, .int 0, .int 0, .int 0, .int 0, .int 0, .int 0, .int 0, .int 0, .int 0])), (q1, .inl (c1, 30, .inl fun _ => 0)), (q2, .inl (c2, 30, .inl fun _ => 0)), (q3, .inl (c3, 30, .inl fun _ => 0)), (q4, .inl (c4, 30, .inl fun _ => 0)), (q5, .inl (c5, 30, .inl fun _ => 0)), (q6, .inl (c6, 220, .inr (.inl fun _ => 0))), (q7, .inl (c7, 8, .inr (.inl fun _ => 0)))] := hD
  refine lv_aload_n hx hb dX0_init_61 rfl (lv_at hl 0 rfl) ?_
  refine lv_iconst (v := 0) hx hb dX0_init_62 (by decide) ?_
  refine va_put (ci := 0) (v := .int 0) (C := RX0) (T := TX0) (N := 17) hx hb hts inlX0 tyX0 tyX0_ok nmX0 hown hK hP hD hS 0 rfl rfl 8 (by decide) (hts _ lk_X0_35) (fun _ h9 => h9) rfl (tyX0_ok _ (by decide)) rfl rfl (Nat.le_of_ble_eq_true rfl) dX0_init_63 (fun H locs hP hD hS => ?_)
  have hP : va_P D vwCl [(h0, .inr (0, [.null, .ref q1, .ref q2, .ref q3, .ref q4, .ref q5, .ref q6, .ref q7, .int 0, .int 0, .int 0, .int 0, .int 0, .int 0, .int 0, .int 0, .int 0])), (q1, .inl (c1, 30, .inl fun _ => 0)), (q2, .inl (c2, 30, .inl fun _ => 0)), (q3, .inl (c3, 30, .inl fun _ => 0)), (q4, .inl (c4, 30, .inl fun _ => 0)), (q5, .inl (c5, 30, .inl fun _ => 0)), (q6, .inl (c6, 220, .inr (.inl fun _ => 0))), (q7, .inl (c7, 8, .inr (.inl fun _ => 0)))] H := hP
  have hD : va_D A [(h0, .inr (0, [.null, .ref q1, .ref q2, .ref q3, .ref q4, .ref q5, .ref q6, .ref q7, .int 0, .int 0, .int 0, .int 0, .int 0, .int 0, .int 0, .int 0, .int 0])), (q1, .inl (c1, 30, .inl fun _ => 0)), (q2, .inl (c2, 30, .inl fun _ => 0)), (q3, .inl (c3, 30, .inl fun _ => 0)), (q4, .inl (c4, 30, .inl fun _ => 0)), (q5, .inl (c5, 30, .inl fun _ => 0)), (q6, .inl (c6, 220, .inr (.inl fun _ => 0))), (q7, .inl (c7, 8, .inr (.inl fun _ => 0)))] := hD
  refine lv_aload_n hx hb dX0_init_66 rfl (lv_at hl 0 rfl) ?_
  refine lv_iconst (v := 0) hx hb dX0_init_67 (by decide) ?_
  refine va_put (ci := 0) (v := .int 0) (C := RX0) (T := TX0) (N := 17) hx hb hts inlX0 tyX0 tyX0_ok nmX0 hown hK hP hD hS 0 rfl rfl 9 (by decide) (hts _ lk_X0_39) (fun _ h9 => h9) rfl (tyX0_ok _ (by decide)) rfl rfl (Nat.le_of_ble_eq_true rfl) dX0_init_68 (fun H locs hP hD hS => ?_)
  have hP : va_P D vwCl [(h0, .inr (0, [.null, .ref q1, .ref q2, .ref q3, .ref q4, .ref q5, .ref q6, .ref q7, .int 0, .int 0, .int 0, .int 0, .int 0, .int 0, .int 0, .int 0, .int 0])), (q1, .inl (c1, 30, .inl fun _ => 0)), (q2, .inl (c2, 30, .inl fun _ => 0)), (q3, .inl (c3, 30, .inl fun _ => 0)), (q4, .inl (c4, 30, .inl fun _ => 0)), (q5, .inl (c5, 30, .inl fun _ => 0)), (q6, .inl (c6, 220, .inr (.inl fun _ => 0))), (q7, .inl (c7, 8, .inr (.inl fun _ => 0)))] H := hP
  have hD : va_D A [(h0, .inr (0, [.null, .ref q1, .ref q2, .ref q3, .ref q4, .ref q5, .ref q6, .ref q7, .int 0, .int 0, .int 0, .int 0, .int 0, .int 0, .int 0, .int 0, .int 0])), (q1, .inl (c1, 30, .inl fun _ => 0)), (q2, .inl (c2, 30, .inl fun _ => 0)), (q3, .inl (c3, 30, .inl fun _ => 0)), (q4, .inl (c4, 30, .inl fun _ => 0)), (q5, .inl (c5, 30, .inl fun _ => 0)), (q6, .inl (c6, 220, .inr (.inl fun _ => 0))), (q7, .inl (c7, 8, .inr (.inl fun _ => 0)))] := hD
  refine lv_aload_n hx hb dX0_init_71 rfl (lv_at hl 0 rfl) ?_
  refine lv_iconst (v := 0) hx hb dX0_init_72 (by decide) ?_
  refine va_put (ci := 0) (v := .int 0) (C := RX0) (T := TX0) (N := 17) hx hb hts inlX0 tyX0 tyX0_ok nmX0 hown hK hP hD hS 0 rfl rfl 10 (by decide) (hts _ lk_X0_42) (fun _ h9 => h9) rfl (tyX0_ok _ (by decide)) rfl rfl (Nat.le_of_ble_eq_true rfl) dX0_init_73 (fun H locs hP hD hS => ?_)
  have hP : va_P D vwCl [(h0, .inr (0, [.null, .ref q1, .ref q2, .ref q3, .ref q4, .ref q5, .ref q6, .ref q7, .int 0, .int 0, .int 0, .int 0, .int 0, .int 0, .int 0, .int 0, .int 0])), (q1, .inl (c1, 30, .inl fun _ => 0)), (q2, .inl (c2, 30, .inl fun _ => 0)), (q3, .inl (c3, 30, .inl fun _ => 0)), (q4, .inl (c4, 30, .inl fun _ => 0)), (q5, .inl (c5, 30, .inl fun _ => 0)), (q6, .inl (c6, 220, .inr (.inl fun _ => 0))), (q7, .inl (c7, 8, .inr (.inl fun _ => 0)))] H := hP
  have hD : va_D A [(h0, .inr (0, [.null, .ref q1, .ref q2, .ref q3, .ref q4, .ref q5, .ref q6, .ref q7, .int 0, .int 0, .int 0, .int 0, .int 0, .int 0, .int 0, .int 0, .int 0])), (q1, .inl (c1, 30, .inl fun _ => 0)), (q2, .inl (c2, 30, .inl fun _ => 0)), (q3, .inl (c3, 30, .inl fun _ => 0)), (q4, .inl (c4, 30, .inl fun _ => 0)), (q5, .inl (c5, 30, .inl fun _ => 0)), (q6, .inl (c6, 220, .inr (.inl fun _ => 0))), (q7, .inl (c7, 8, .inr (.inl fun _ => 0)))] := hD
  refine lv_aload_n hx hb dX0_init_76 rfl (lv_at hl 0 rfl) ?_
  refine lv_iconst (v := 0) hx hb dX0_init_77 (by decide) ?_
  refine va_put (ci := 0) (v := .int 0) (C := RX0) (T := TX0) (N := 17) hx hb hts inlX0 tyX0 tyX0_ok nmX0 hown hK hP hD hS 0 rfl rfl 11 (by decide) (hts _ lk_X0_45) (fun _ h9 => h9) rfl (tyX0_ok _ (by decide)) rfl rfl (Nat.le_of_ble_eq_true rfl) dX0_init_78 (fun H locs hP hD hS => ?_)
  have hP : va_P D vwCl [(h0, .inr (0, [.null, .ref q1, .ref q2, .ref q3, .ref q4, .ref q5, .ref q6, .ref q7, .int 0, .int 0, .int 0, .int 0, .int 0, .int 0, .int 0, .int 0, .int 0])), (q1, .inl (c1, 30, .inl fun _ => 0)), (q2, .inl (c2, 30, .inl fun _ => 0)), (q3, .inl (c3, 30, .inl fun _ => 0)), (q4, .inl (c4, 30, .inl fun _ => 0)), (q5, .inl (c5, 30, .inl fun _ => 0)), (q6, .inl (c6, 220, .inr (.inl fun _ => 0))), (q7, .inl (c7, 8, .inr (.inl fun _ => 0)))] H := hP
  have hD : va_D A [(h0, .inr (0, [.null, .ref q1, .ref q2, .ref q3, .ref q4, .ref q5, .ref q6, .ref q7, .int 0, .int 0, .int 0, .int 0, .int 0, .int 0, .int 0, .int 0, .int 0])), (q1, .inl (c1, 30, .inl fun _ => 0)), (q2, .inl (c2, 30, .inl fun _ => 0)), (q3, .inl (c3, 30, .inl fun _ => 0)), (q4, .inl (c4, 30, .inl fun _ => 0)), (q5, .inl (c5, 30, .inl fun _ => 0)), (q6, .inl (c6, 220, .inr (.inl fun _ => 0))), (q7, .inl (c7, 8, .inr (.inl fun _ => 0)))] := hD
  refine lv_aload_n hx hb dX0_init_81 rfl (lv_at hl 0 rfl) ?_
  refine lv_iconst (v := 0) hx hb dX0_init_82 (by decide) ?_
  refine va_put (ci := 0) (v := .int 0) (C := RX0) (T := TX0) (N := 17) hx hb hts inlX0 tyX0 tyX0_ok nmX0 hown hK hP hD hS 0 rfl rfl 12 (by decide) (hts _ lk_X0_48) (fun _ h9 => h9) rfl (tyX0_ok _ (by decide)) rfl rfl (Nat.le_of_ble_eq_true rfl) dX0_init_83 (fun H locs hP hD hS => ?_)
  have hP : va_P D vwCl [(h0, .inr (0, [.null, .ref q1, .ref q2, .ref q3, .ref q4, .ref q5, .ref q6, .ref q7, .int 0, .int 0, .int 0, .int 0, .int 0, .int 0, .int 0, .int 0, .int 0])), (q1, .inl (c1, 30, .inl fun _ => 0)), (q2, .inl (c2, 30, .inl fun _ => 0)), (q3, .inl (c3, 30, .inl fun _ => 0)), (q4, .inl (c4, 30, .inl fun _ => 0)), (q5, .inl (c5, 30, .inl fun _ => 0)), (q6, .inl (c6, 220, .inr (.inl fun _ => 0))), (q7, .inl (c7, 8, .inr (.inl fun _ => 0)))] H := hP
  have hD : va_D A [(h0, .inr (0, [.null, .ref q1, .ref q2, .ref q3, .ref q4, .ref q5, .ref q6, .ref q7, .int 0, .int 0, .int 0, .int 0, .int 0, .int 0, .int 0, .int 0, .int 0])), (q1, .inl (c1, 30, .inl fun _ => 0)), (q2, .inl (c2, 30, .inl fun _ => 0)), (q3, .inl (c3, 30, .inl fun _ => 0)), (q4, .inl (c4, 30, .inl fun _ => 0)), (q5, .inl (c5, 30, .inl fun _ => 0)), (q6, .inl (c6, 220, .inr (.inl fun _ => 0))), (q7, .inl (c7, 8, .inr (.inl fun _ => 0)))] := hD
  refine lv_aload_n hx hb dX0_init_86 rfl (lv_at hl 0 rfl) ?_
  refine lv_iconst (v := (-1)) hx hb dX0_init_87 (by decide) ?_
  refine va_put (ci := 0) (v := .int (-1)) (C := RX0) (T := TX0) (N := 17) hx hb hts inlX0 tyX0 tyX0_ok nmX0 hown hK hP hD hS 0 rfl rfl 13 (by decide) (hts _ lk_X0_51) (fun _ h9 => h9) rfl (tyX0_ok _ (by decide)) rfl rfl (Nat.le_of_ble_eq_true rfl) dX0_init_88 (fun H locs hP hD hS => ?_)
  have hP : va_P D vwCl [(h0, .inr (0, [.null, .ref q1, .ref q2, .ref q3, .ref q4, .ref q5, .ref q6, .ref q7, .int 0, .int 0, .int 0, .int 0, .int 0, .int (-1), .int 0, .int 0, .int 0])), (q1, .inl (c1, 30, .inl fun _ => 0)), (q2, .inl (c2, 30, .inl fun _ => 0)), (q3, .inl (c3, 30, .inl fun _ => 0)), (q4, .inl (c4, 30, .inl fun _ => 0)), (q5, .inl (c5, 30, .inl fun _ => 0)), (q6, .inl (c6, 220, .inr (.inl fun _ => 0))), (q7, .inl (c7, 8, .inr (.inl fun _ => 0)))] H := hP
  have hD : va_D A [(h0, .inr (0, [.null, .ref q1, .ref q2, .ref q3, .ref q4, .ref q5, .ref q6, .ref q7, .int 0, .int 0, .int 0, .int 0, .int 0, .int (-1), .int 0, .int 0, .int 0])), (q1, .inl (c1, 30, .inl fun _ => 0)), (q2, .inl (c2, 30, .inl fun _ => 0)), (q3, .inl (c3, 30, .inl fun _ => 0)), (q4, .inl (c4, 30, .inl fun _ => 0)), (q5, .inl (c5, 30, .inl fun _ => 0)), (q6, .inl (c6, 220, .inr (.inl fun _ => 0))), (q7, .inl (c7, 8, .inr (.inl fun _ => 0)))] := hD
  refine lv_aload_n hx hb dX0_init_91 rfl (lv_at hl 0 rfl) ?_
  refine lv_iconst (v := 0) hx hb dX0_init_92 (by decide) ?_
  refine va_put (ci := 0) (v := .int 0) (C := RX0) (T := TX0) (N := 17) hx hb hts inlX0 tyX0 tyX0_ok nmX0 hown hK hP hD hS 0 rfl rfl 14 (by decide) (hts _ lk_X0_54) (fun _ h9 => h9) rfl (tyX0_ok _ (by decide)) rfl rfl (Nat.le_of_ble_eq_true rfl) dX0_init_93 (fun H locs hP hD hS => ?_)
  have hP : va_P D vwCl [(h0, .inr (0, [.null, .ref q1, .ref q2, .ref q3, .ref q4, .ref q5, .ref q6, .ref q7, .int 0, .int 0, .int 0, .int 0, .int 0, .int (-1), .int 0, .int 0, .int 0])), (q1, .inl (c1, 30, .inl fun _ => 0)), (q2, .inl (c2, 30, .inl fun _ => 0)), (q3, .inl (c3, 30, .inl fun _ => 0)), (q4, .inl (c4, 30, .inl fun _ => 0)), (q5, .inl (c5, 30, .inl fun _ => 0)), (q6, .inl (c6, 220, .inr (.inl fun _ => 0))), (q7, .inl (c7, 8, .inr (.inl fun _ => 0)))] H := hP
  have hD : va_D A [(h0, .inr (0, [.null, .ref q1, .ref q2, .ref q3, .ref q4, .ref q5, .ref q6, .ref q7, .int 0, .int 0, .int 0, .int 0, .int 0, .int (-1), .int 0, .int 0, .int 0])), (q1, .inl (c1, 30, .inl fun _ => 0)), (q2, .inl (c2, 30, .inl fun _ => 0)), (q3, .inl (c3, 30, .inl fun _ => 0)), (q4, .inl (c4, 30, .inl fun _ => 0)), (q5, .inl (c5, 30, .inl fun _ => 0)), (q6, .inl (c6, 220, .inr (.inl fun _ => 0))), (q7, .inl (c7, 8, .inr (.inl fun _ => 0)))] := hD
  refine lv_aload_n hx hb dX0_init_96 rfl (lv_at hl 0 rfl) ?_
  refine lv_iconst (v := 0) hx hb dX0_init_97 (by decide) ?_
  refine va_put (ci := 0) (v := .int 0) (C := RX0) (T := TX0) (N := 17) hx hb hts inlX0 tyX0 tyX0_ok nmX0 hown hK hP hD hS 0 rfl rfl 15 (by decide) (hts _ lk_X0_58) (fun _ h9 => h9) rfl (tyX0_ok _ (by decide)) rfl rfl (Nat.le_of_ble_eq_true rfl) dX0_init_98 (fun H locs hP hD hS => ?_)
  have hP : va_P D vwCl [(h0, .inr (0, [.null, .ref q1, .ref q2, .ref q3, .ref q4, .ref q5, .ref q6, .ref q7, .int 0, .int 0, .int 0, .int 0, .int 0, .int (-1), .int 0, .int 0, .int 0])), (q1, .inl (c1, 30, .inl fun _ => 0)), (q2, .inl (c2, 30, .inl fun _ => 0)), (q3, .inl (c3, 30, .inl fun _ => 0)), (q4, .inl (c4, 30, .inl fun _ => 0)), (q5, .inl (c5, 30, .inl fun _ => 0)), (q6, .inl (c6, 220, .inr (.inl fun _ => 0))), (q7, .inl (c7, 8, .inr (.inl fun _ => 0)))] H := hP
  have hD : va_D A [(h0, .inr (0, [.null, .ref q1, .ref q2, .ref q3, .ref q4, .ref q5, .ref q6, .ref q7, .int 0, .int 0, .int 0, .int 0, .int 0, .int (-1), .int 0, .int 0, .int 0])), (q1, .inl (c1, 30, .inl fun _ => 0)), (q2, .inl (c2, 30, .inl fun _ => 0)), (q3, .inl (c3, 30, .inl fun _ => 0)), (q4, .inl (c4, 30, .inl fun _ => 0)), (q5, .inl (c5, 30, .inl fun _ => 0)), (q6, .inl (c6, 220, .inr (.inl fun _ => 0))), (q7, .inl (c7, 8, .inr (.inl fun _ => 0)))] := hD
  refine lv_aload_n hx hb dX0_init_101 rfl (lv_at hl 0 rfl) ?_
  refine lv_iconst (v := 0) hx hb dX0_init_102 (by decide) ?_
  refine va_put (ci := 0) (v := .int 0) (C := RX0) (T := TX0) (N := 17) hx hb hts inlX0 tyX0 tyX0_ok nmX0 hown hK hP hD hS 0 rfl rfl 16 (by decide) (hts _ lk_X0_61) (fun _ h9 => h9) rfl (tyX0_ok _ (by decide)) rfl rfl (Nat.le_of_ble_eq_true rfl) dX0_init_103 (fun H locs hP hD hS => ?_)
  have hP : va_P D vwCl [(h0, .inr (0, [.null, .ref q1, .ref q2, .ref q3, .ref q4, .ref q5, .ref q6, .ref q7, .int 0, .int 0, .int 0, .int 0, .int 0, .int (-1), .int 0, .int 0, .int 0])), (q1, .inl (c1, 30, .inl fun _ => 0)), (q2, .inl (c2, 30, .inl fun _ => 0)), (q3, .inl (c3, 30, .inl fun _ => 0)), (q4, .inl (c4, 30, .inl fun _ => 0)), (q5, .inl (c5, 30, .inl fun _ => 0)), (q6, .inl (c6, 220, .inr (.inl fun _ => 0))), (q7, .inl (c7, 8, .inr (.inl fun _ => 0)))] H := hP
  have hD : va_D A [(h0, .inr (0, [.null, .ref q1, .ref q2, .ref q3, .ref q4, .ref q5, .ref q6, .ref q7, .int 0, .int 0, .int 0, .int 0, .int 0, .int (-1), .int 0, .int 0, .int 0])), (q1, .inl (c1, 30, .inl fun _ => 0)), (q2, .inl (c2, 30, .inl fun _ => 0)), (q3, .inl (c3, 30, .inl fun _ => 0)), (q4, .inl (c4, 30, .inl fun _ => 0)), (q5, .inl (c5, 30, .inl fun _ => 0)), (q6, .inl (c6, 220, .inr (.inl fun _ => 0))), (q7, .inl (c7, 8, .inr (.inl fun _ => 0)))] := hD
  refine lv_aload_n hx hb dX0_init_106 rfl (lv_at hl 0 rfl) ?_
  refine lv_aload_n hx hb dX0_init_107 rfl (lv_at hl 1 rfl) ?_
  refine va_putF (ci := 0) (v := .ref a1) (C := RX0) (T := TX0) (N := 17) hx hb hts inlX0 tyX0 tyX0_ok nmX0 hown hK hP hD hS 0 rfl rfl 0 (by decide) (hts _ lk_X0_64) (fun _ h9 => h9) rfl hin rfl (tyX0_ok _ (by decide)) rfl rfl (Nat.le_of_ble_eq_true rfl) dX0_init_108 (fun H locs hP hD hS => ?_)
  have hP : va_P D vwCl [(h0, .inr (0, [.ref a1, .ref q1, .ref q2, .ref q3, .ref q4, .ref q5, .ref q6, .ref q7, .int 0, .int 0, .int 0, .int 0, .int 0, .int (-1), .int 0, .int 0, .int 0])), (q1, .inl (c1, 30, .inl fun _ => 0)), (q2, .inl (c2, 30, .inl fun _ => 0)), (q3, .inl (c3, 30, .inl fun _ => 0)), (q4, .inl (c4, 30, .inl fun _ => 0)), (q5, .inl (c5, 30, .inl fun _ => 0)), (q6, .inl (c6, 220, .inr (.inl fun _ => 0))), (q7, .inl (c7, 8, .inr (.inl fun _ => 0)))] H := hP
  have hD : va_D A [(h0, .inr (0, [.ref a1, .ref q1, .ref q2, .ref q3, .ref q4, .ref q5, .ref q6, .ref q7, .int 0, .int 0, .int 0, .int 0, .int 0, .int (-1), .int 0, .int 0, .int 0])), (q1, .inl (c1, 30, .inl fun _ => 0)), (q2, .inl (c2, 30, .inl fun _ => 0)), (q3, .inl (c3, 30, .inl fun _ => 0)), (q4, .inl (c4, 30, .inl fun _ => 0)), (q5, .inl (c5, 30, .inl fun _ => 0)), (q6, .inl (c6, 220, .inr (.inl fun _ => 0))), (q7, .inl (c7, 8, .inr (.inl fun _ => 0)))] := hD
  exact W.vret hx hb hr (fun t ht hW => ⟨⟨(fun i => [q1, q2, q3, q4, q5, q6, q7].getD i 0, fun i => [c1, c2, c3, c4, c5, c6, c7].getD i 0), rfl, trivial, by rw [ht]; exact hP, va_K.moved hW.alike hK, hD⟩, hS.F ht⟩) hS.2.2 dX0_init_111 hlk
def cw_Rc (h0 : Nat) (u : (Nat → Nat) × (Nat → ClassId)) : va_W := [(h0, .inr (3, [.ref (u.1 0), .ref (u.1 1), .ref (u.1 2), .ref (u.1 3), .ref (u.1 4), .ref (u.1 5), .ref (u.1 6), .int 0, .int 0])), (u.1 0, .inl (u.2 0, 40, .inl fun _ => (-1))), (u.1 1, .inl (u.2 1, 64, .inl fun _ => 0)), (u.1 2, .inl (u.2 2, 64, .inl fun _ => 0)), (u.1 3, .inl (u.2 3, 64, .inl fun _ => 0)), (u.1 4, .inl (u.2 4, 64, .inl fun _ => 0)), (u.1 5, .inl (u.2 5, 64, .inl fun _ => 0)), (u.1 6, .inl (u.2 6, 64, .inl fun _ => 0))]
def ct_Rc (u : (Nat → Nat) × (Nat → ClassId)) : List (ClassId × FieldType) := [(u.2 0, .int), (u.2 1, .int), (u.2 2, .int), (u.2 3, .int), (u.2 4, .int), (u.2 5, .int), (u.2 6, .int)]
def rm_kn_Rc : Room := { frames := 1, cells := 7, slots := 424, locals := 23 }
theorem nb_Rc {D : va_G} {h0 sz : Nat} : FrameBlind (va_Pc [.ref h0] (fun U => U.heap.size = sz ∧ va_P D vwCl [(h0, .inr (3, [.null, .null, .null, .null, .null, .null, .null, .int 0, .int 0]))] U.heap ∧ va_K D vwCl [] U ∧ va_D (fun _ => True) [(h0, .inr (3, [.null, .null, .null, .null, .null, .null, .null, .int 0, .int 0]))])) := fun a U g mk q => by
  obtain ⟨q0, q1, qP, qK, qD⟩ := q
  exact ⟨q0, q1, qP, va_K.moved (u := U) (U := U.calling g mk a) (Vm.Alike.refl U.vm) qK, qD⟩
set_option maxHeartbeats 4000000 in
set_option maxRecDepth 100000 in
theorem kn_Rc (l : Launch) (D : va_G) (h0 sz : Nat) : Met l yX4_init (.code yX4_init cX4_init 1 none :: TB) rm_kn_Rc (va_Pc [.ref h0] (fun U => U.heap.size = sz ∧ va_P D vwCl [(h0, .inr (3, [.null, .null, .null, .null, .null, .null, .null, .int 0, .int 0]))] U.heap ∧ va_K D vwCl [] U ∧ va_D (fun _ => True) [(h0, .inr (3, [.null, .null, .null, .null, .null, .null, .null, .int 0, .int 0]))])) (va_Qv (fun _ : (Nat → Nat) × (Nat → ClassId) => True) (fun u t => va_P D vwCl (cw_Rc h0 u) t.heap ∧ va_K D vwCl (ct_Rc u) t ∧ va_D (va_A [(h0, .inr (3, [.null, .null, .null, .null, .null, .null, .null, .int 0, .int 0]))] sz) (cw_Rc h0 u)) (va_A [(h0, .inr (3, [.null, .null, .null, .null, .null, .null, .null, .int 0, .int 0]))] sz)) 7 424 (va_A [(h0, .inr (3, [.null, .null, .null, .null, .null, .null, .null, .int 0, .int 0]))] sz) := by
  refine Met.ofW (cc := cX4_init) (maxL := 1) (ret := none) (by decide) rfl ?_
  intro p e s m args below meth c s₁ B hml hv
  obtain ⟨rfl, hsz, hP, hK, hD0⟩ := hv
  have hx := B.exec
  have hb := B.bytes
  have hr := B.returns
  have hts0 := atoms_spec (ws := .code yX4_init cX4_init 1 none :: TB) B.pre
  have hts : ∀ w ∈ TB, w.before _ s = true := fun w hw => hts0 w (List.mem_cons_of_mem _ hw)
  have hown : s.vm.findClass RX4 = some m.cls := findClass_of_methodNamed B.named
  have hlk := B.notSynchronized
  have hin : meth.name = "<init>" := (name_of_methodNamed B.named B.method).1
  subst hsz
  have hD := hD0.self (sz := s.heap.size)
  generalize hAe : va_A [(h0, .inr (3, [.null, .null, .null, .null, .null, .null, .null, .int 0, .int 0]))] s.heap.size = A at hD ⊢
  have hA : ∀ q : Nat, s.heap.size ≤ q → A q := fun q h => by rw [← hAe]; exact Or.inr h
  have hS : va_S A s.heap s.heap [] := va_S.rf
  have hP : va_P D vwCl [(h0, .inr (3, [.null, .null, .null, .null, .null, .null, .null, .int 0, .int 0]))] s.heap := hP
  have hl := lv_entry ([.ref h0]) (n := 1) (Nat.le_of_ble_eq_true rfl)
  rw [lg_entry_eq]
  generalize (lg_sl ([.ref h0]) ++ List.replicate (1 - (lg_sl ([.ref h0])).length) Slot.unset).toArray = ls at hl ⊢
  have hl : lv_has ls 1 [(0, .ref h0)] := hl
  refine lv_aload_n hx hb dX4_init_0 rfl (lv_at hl 0 rfl) ?_
  refine W.objInit hx hb hown (hts _ lk_X4_3) (hts _ im_obj) (hts _ co_obj) rfl (by rw [hml]; exact hl.1) rfl dX4_init_1 (Nat.le_of_ble_eq_true rfl) (Nat.le_of_ble_eq_true rfl) ?_
  refine W.eq (g2 := F0 m 4 ls []) rfl ?_
  refine lv_aload_n hx hb dX4_init_4 rfl (lv_at hl 0 rfl) ?_
  refine lv_bipush (v := 40) hx hb dX4_init_5 (by decide) ?_
  refine va_newa (atype := .int) (ty := .int) (a0 := (40, .inl fun _ => 0)) (N' := 40) hx hb (hts _ ac_I) rfl hK hP hD hS hA (fun _ => rfl) (by decide) rfl (by decide) (Nat.le_of_ble_eq_true rfl) (Nat.le_of_ble_eq_true rfl) dX4_init_7 (fun q1 c1 H hK hP hD hS => ?_)
  have hP : va_P D vwCl [(h0, .inr (3, [.null, .null, .null, .null, .null, .null, .null, .int 0, .int 0])), (q1, .inl (c1, 40, .inl fun _ => 0))] H := hP
  have hD : va_D A [(h0, .inr (3, [.null, .null, .null, .null, .null, .null, .null, .int 0, .int 0])), (q1, .inl (c1, 40, .inl fun _ => 0))] := hD
  have hK : va_K D vwCl [(c1, .int)] s := hK
  refine W.widen (k := 1) (n := 40) (Nat.le_of_ble_eq_true rfl) (Nat.le_of_ble_eq_true rfl) ?_
  refine va_putF (ci := 3) (v := .ref q1) (C := RX4) (T := TX4) (N := 9) hx hb hts inlX4 tyX4 tyX4_ok nmX4 hown hK hP hD hS 0 rfl rfl 0 (by decide) (hts _ lk_X4_9) (fun _ h9 => h9) rfl hin rfl (tyX4_ok _ (by decide)) rfl rfl (Nat.le_of_ble_eq_true rfl) dX4_init_9 (fun H locs hP hD hS => ?_)
  have hP : va_P D vwCl [(h0, .inr (3, [.ref q1, .null, .null, .null, .null, .null, .null, .int 0, .int 0])), (q1, .inl (c1, 40, .inl fun _ => 0))] H := hP
  have hD : va_D A [(h0, .inr (3, [.ref q1, .null, .null, .null, .null, .null, .null, .int 0, .int 0])), (q1, .inl (c1, 40, .inl fun _ => 0))] := hD
  refine lv_aload_n hx hb dX4_init_12 rfl (lv_at hl 0 rfl) ?_
  refine lv_bipush (v := 64) hx hb dX4_init_13 (by decide) ?_
  refine va_newa (atype := .int) (ty := .int) (a0 := (64, .inl fun _ => 0)) (N' := 64) hx hb (hts _ ac_I) rfl hK hP hD hS hA (fun _ => rfl) (by decide) rfl (by decide) (Nat.le_of_ble_eq_true rfl) (Nat.le_of_ble_eq_true rfl) dX4_init_15 (fun q2 c2 H hK hP hD hS => ?_)
  have hP : va_P D vwCl [(h0, .inr (3, [.ref q1, .null, .null, .null, .null, .null, .null, .int 0, .int 0])), (q1, .inl (c1, 40, .inl fun _ => 0)), (q2, .inl (c2, 64, .inl fun _ => 0))] H := hP
  have hD : va_D A [(h0, .inr (3, [.ref q1, .null, .null, .null, .null, .null, .null, .int 0, .int 0])), (q1, .inl (c1, 40, .inl fun _ => 0)), (q2, .inl (c2, 64, .inl fun _ => 0))] := hD
  have hK : va_K D vwCl [(c1, .int), (c2, .int)] s := hK
  refine W.widen (k := 2) (n := 104) (Nat.le_of_ble_eq_true rfl) (Nat.le_of_ble_eq_true rfl) ?_
  refine va_put (ci := 3) (v := .ref q2) (C := RX4) (T := TX4) (N := 9) hx hb hts inlX4 tyX4 tyX4_ok nmX4 hown hK hP hD hS 0 rfl rfl 1 (by decide) (hts _ lk_X4_15) (fun _ h9 => h9) rfl (tyX4_ok _ (by decide)) rfl rfl (Nat.le_of_ble_eq_true rfl) dX4_init_17 (fun H locs hP hD hS => ?_)
  have hP : va_P D vwCl [(h0, .inr (3, [.ref q1, .ref q2, .null, .null, .null, .null, .null, .int 0, .int 0])), (q1, .inl (c1, 40, .inl fun _ => 0)), (q2, .inl (c2, 64, .inl fun _ => 0))] H := hP
  have hD : va_D A [(h0, .inr (3, [.ref q1, .ref q2, .null, .null, .null, .null, .null, .int 0, .int 0])), (q1, .inl (c1, 40, .inl fun _ => 0)), (q2, .inl (c2, 64, .inl fun _ => 0))] := hD
  refine lv_aload_n hx hb dX4_init_20 rfl (lv_at hl 0 rfl) ?_
  refine lv_bipush (v := 64) hx hb dX4_init_21 (by decide) ?_
  refine va_newa (atype := .int) (ty := .int) (a0 := (64, .inl fun _ => 0)) (N' := 64) hx hb (hts _ ac_I) rfl hK hP hD hS hA (fun _ => rfl) (by decide) rfl (by decide) (Nat.le_of_ble_eq_true rfl) (Nat.le_of_ble_eq_true rfl) dX4_init_23 (fun q3 c3 H hK hP hD hS => ?_)
  have hP : va_P D vwCl [(h0, .inr (3, [.ref q1, .ref q2, .null, .null, .null, .null, .null, .int 0, .int 0])), (q1, .inl (c1, 40, .inl fun _ => 0)), (q2, .inl (c2, 64, .inl fun _ => 0)), (q3, .inl (c3, 64, .inl fun _ => 0))] H := hP
  have hD : va_D A [(h0, .inr (3, [.ref q1, .ref q2, .null, .null, .null, .null, .null, .int 0, .int 0])), (q1, .inl (c1, 40, .inl fun _ => 0)), (q2, .inl (c2, 64, .inl fun _ => 0)), (q3, .inl (c3, 64, .inl fun _ => 0))] := hD
  have hK : va_K D vwCl [(c1, .int), (c2, .int), (c3, .int)] s := hK
  refine W.widen (k := 3) (n := 168) (Nat.le_of_ble_eq_true rfl) (Nat.le_of_ble_eq_true rfl) ?_
  refine va_put (ci := 3) (v := .ref q3) (C := RX4) (T := TX4) (N := 9) hx hb hts inlX4 tyX4 tyX4_ok nmX4 hown hK hP hD hS 0 rfl rfl 2 (by decide) (hts _ lk_X4_18) (fun _ h9 => h9) rfl (tyX4_ok _ (by decide)) rfl rfl (Nat.le_of_ble_eq_true rfl) dX4_init_25 (fun H locs hP hD hS => ?_)
  have hP : va_P D vwCl [(h0, .inr (3, [.ref q1, .ref q2, .ref q3, .null, .null, .null, .null, .int 0, .int 0])), (q1, .inl (c1, 40, .inl fun _ => 0)), (q2, .inl (c2, 64, .inl fun _ => 0)), (q3, .inl (c3, 64, .inl fun _ => 0))] H := hP
  have hD : va_D A [(h0, .inr (3, [.ref q1, .ref q2, .ref q3, .null, .null, .null, .null, .int 0, .int 0])), (q1, .inl (c1, 40, .inl fun _ => 0)), (q2, .inl (c2, 64, .inl fun _ => 0)), (q3, .inl (c3, 64, .inl fun _ => 0))] := hD
  refine lv_aload_n hx hb dX4_init_28 rfl (lv_at hl 0 rfl) ?_
  refine lv_bipush (v := 64) hx hb dX4_init_29 (by decide) ?_
  refine va_newa (atype := .int) (ty := .int) (a0 := (64, .inl fun _ => 0)) (N' := 64) hx hb (hts _ ac_I) rfl hK hP hD hS hA (fun _ => rfl) (by decide) rfl (by decide) (Nat.le_of_ble_eq_true rfl) (Nat.le_of_ble_eq_true rfl) dX4_init_31 (fun q4 c4 H hK hP hD hS => ?_)
  have hP : va_P D vwCl [(h0, .inr (3, [.ref q1, .ref q2, .ref q3, .null, .null, .null, .null, .int 0, .int 0])), (q1, .inl (c1, 40, .inl fun _ => 0)), (q2, .inl (c2, 64, .inl fun _ => 0)), (q3, .inl (c3, 64, .inl fun _ => 0)), (q4, .inl (c4, 64, .inl fun _ => 0))] H := hP
  have hD : va_D A [(h0, .inr (3, [.ref q1, .ref q2, .ref q3, .null, .null, .null, .null, .int 0, .int 0])), (q1, .inl (c1, 40, .inl fun _ => 0)), (q2, .inl (c2, 64, .inl fun _ => 0)), (q3, .inl (c3, 64, .inl fun _ => 0)), (q4, .inl (c4, 64, .inl fun _ => 0))] := hD
  have hK : va_K D vwCl [(c1, .int), (c2, .int), (c3, .int), (c4, .int)] s := hK
  refine W.widen (k := 4) (n := 232) (Nat.le_of_ble_eq_true rfl) (Nat.le_of_ble_eq_true rfl) ?_
  refine va_put (ci := 3) (v := .ref q4) (C := RX4) (T := TX4) (N := 9) hx hb hts inlX4 tyX4 tyX4_ok nmX4 hown hK hP hD hS 0 rfl rfl 3 (by decide) (hts _ lk_X4_21) (fun _ h9 => h9) rfl (tyX4_ok _ (by decide)) rfl rfl (Nat.le_of_ble_eq_true rfl) dX4_init_33 (fun H locs hP hD hS => ?_)
  have hP : va_P D vwCl [(h0, .inr (3, [.ref q1, .ref q2, .ref q3, .ref q4, .null, .null, .null, .int 0, .int 0])), (q1, .inl (c1, 40, .inl fun _ => 0)), (q2, .inl (c2, 64, .inl fun _ => 0)), (q3, .inl (c3, 64, .inl fun _ => 0)), (q4, .inl (c4, 64, .inl fun _ => 0))] H := hP
  have hD : va_D A [(h0, .inr (3, [.ref q1, .ref q2, .ref q3, .ref q4, .null, .null, .null, .int 0, .int 0])), (q1, .inl (c1, 40, .inl fun _ => 0)), (q2, .inl (c2, 64, .inl fun _ => 0)), (q3, .inl (c3, 64, .inl fun _ => 0)), (q4, .inl (c4, 64, .inl fun _ => 0))] := hD
  refine lv_aload_n hx hb dX4_init_36 rfl (lv_at hl 0 rfl) ?_
  refine lv_bipush (v := 64) hx hb dX4_init_37 (by decide) ?_
  refine va_newa (atype := .int) (ty := .int) (a0 := (64, .inl fun _ => 0)) (N' := 64) hx hb (hts _ ac_I) rfl hK hP hD hS hA (fun _ => rfl) (by decide) rfl (by decide) (Nat.le_of_ble_eq_true rfl) (Nat.le_of_ble_eq_true rfl) dX4_init_39 (fun q5 c5 H hK hP hD hS => ?_)
  have hP : va_P D vwCl [(h0, .inr (3, [.ref q1, .ref q2, .ref q3, .ref q4, .null, .null, .null, .int 0, .int 0])), (q1, .inl (c1, 40, .inl fun _ => 0)), (q2, .inl (c2, 64, .inl fun _ => 0)), (q3, .inl (c3, 64, .inl fun _ => 0)), (q4, .inl (c4, 64, .inl fun _ => 0)), (q5, .inl (c5, 64, .inl fun _ => 0))] H := hP
  have hD : va_D A [(h0, .inr (3, [.ref q1, .ref q2, .ref q3, .ref q4, .null, .null, .null, .int 0, .int 0])), (q1, .inl (c1, 40, .inl fun _ => 0)), (q2, .inl (c2, 64, .inl fun _ => 0)), (q3, .inl (c3, 64, .inl fun _ => 0)), (q4, .inl (c4, 64, .inl fun _ => 0)), (q5, .inl (c5, 64, .inl fun _ => 0))] := hD
  have hK : va_K D vwCl [(c1, .int), (c2, .int), (c3, .int), (c4, .int), (c5, .int)] s := hK
  refine W.widen (k := 5) (n := 296) (Nat.le_of_ble_eq_true rfl) (Nat.le_of_ble_eq_true rfl) ?_
  refine va_put (ci := 3) (v := .ref q5) (C := RX4) (T := TX4) (N := 9) hx hb hts inlX4 tyX4 tyX4_ok nmX4 hown hK hP hD hS 0 rfl rfl 4 (by decide) (hts _ lk_X4_24) (fun _ h9 => h9) rfl (tyX4_ok _ (by decide)) rfl rfl (Nat.le_of_ble_eq_true rfl) dX4_init_41 (fun H locs hP hD hS => ?_)
  have hP : va_P D vwCl [(h0, .inr (3, [.ref q1, .ref q2, .ref q3, .ref q4, .ref q5, .null, .null, .int 0, .int 0])), (q1, .inl (c1, 40, .inl fun _ => 0)), (q2, .inl (c2, 64, .inl fun _ => 0)), (q3, .inl (c3, 64, .inl fun _ => 0)), (q4, .inl (c4, 64, .inl fun _ => 0)), (q5, .inl (c5, 64, .inl fun _ => 0))] H := hP
  have hD : va_D A [(h0, .inr (3, [.ref q1, .ref q2, .ref q3, .ref q4, .ref q5, .null, .null, .int 0, .int 0])), (q1, .inl (c1, 40, .inl fun _ => 0)), (q2, .inl (c2, 64, .inl fun _ => 0)), (q3, .inl (c3, 64, .inl fun _ => 0)), (q4, .inl (c4, 64, .inl fun _ => 0)), (q5, .inl (c5, 64, .inl fun _ => 0))] := hD
  refine lv_aload_n hx hb dX4_init_44 rfl (lv_at hl 0 rfl) ?_
  refine lv_bipush (v := 64) hx hb dX4_init_45 (by decide) ?_
  refine va_newa (atype := .int) (ty := .int) (a0 := (64, .inl fun _ => 0)) (N' := 64) hx hb (hts _ ac_I) rfl hK hP hD hS hA (fun _ => rfl) (by decide) rfl (by decide) (Nat.le_of_ble_eq_true rfl) (Nat.le_of_ble_eq_true rfl) dX4_init_47 (fun q6 c6 H hK hP hD hS => ?_)
  have hP : va_P D vwCl [(h0, .inr (3, [.ref q1, .ref q2, .ref q3, .ref q4, .ref q5, .null, .null, .int 0, .int 0])), (q1, .inl (c1, 40, .inl fun _ => 0)), (q2, .inl (c2, 64, .inl fun _ => 0)), (q3, .inl (c3, 64, .inl fun _ => 0)), (q4, .inl (c4, 64, .inl fun _ => 0)), (q5, .inl (c5, 64, .inl fun _ => 0)), (q6, .inl (c6, 64, .inl fun _ => 0))] H := hP
  have hD : va_D A [(h0, .inr (3, [.ref q1, .ref q2, .ref q3, .ref q4, .ref q5, .null, .null, .int 0, .int 0])), (q1, .inl (c1, 40, .inl fun _ => 0)), (q2, .inl (c2, 64, .inl fun _ => 0)), (q3, .inl (c3, 64, .inl fun _ => 0)), (q4, .inl (c4, 64, .inl fun _ => 0)), (q5, .inl (c5, 64, .inl fun _ => 0)), (q6, .inl (c6, 64, .inl fun _ => 0))] := hD
  have hK : va_K D vwCl [(c1, .int), (c2, .int), (c3, .int), (c4, .int), (c5, .int), (c6, .int)] s := hK
  refine W.widen (k := 6) (n := 360) (Nat.le_of_ble_eq_true rfl) (Nat.le_of_ble_eq_true rfl) ?_
  refine va_put (ci := 3) (v := .ref q6) (C := RX4) (T := TX4) (N := 9) hx hb hts inlX4 tyX4 tyX4_ok nmX4 hown hK hP hD hS 0 rfl rfl 5 (by decide) (hts _ lk_X4_27) (fun _ h9 => h9) rfl (tyX4_ok _ (by decide)) rfl rfl (Nat.le_of_ble_eq_true rfl) dX4_init_49 (fun H locs hP hD hS => ?_)
  have hP : va_P D vwCl [(h0, .inr (3, [.ref q1, .ref q2, .ref q3, .ref q4, .ref q5, .ref q6, .null, .int 0, .int 0])), (q1, .inl (c1, 40, .inl fun _ => 0)), (q2, .inl (c2, 64, .inl fun _ => 0)), (q3, .inl (c3, 64, .inl fun _ => 0)), (q4, .inl (c4, 64, .inl fun _ => 0)), (q5, .inl (c5, 64, .inl fun _ => 0)), (q6, .inl (c6, 64, .inl fun _ => 0))] H := hP
  have hD : va_D A [(h0, .inr (3, [.ref q1, .ref q2, .ref q3, .ref q4, .ref q5, .ref q6, .null, .int 0, .int 0])), (q1, .inl (c1, 40, .inl fun _ => 0)), (q2, .inl (c2, 64, .inl fun _ => 0)), (q3, .inl (c3, 64, .inl fun _ => 0)), (q4, .inl (c4, 64, .inl fun _ => 0)), (q5, .inl (c5, 64, .inl fun _ => 0)), (q6, .inl (c6, 64, .inl fun _ => 0))] := hD
  refine lv_aload_n hx hb dX4_init_52 rfl (lv_at hl 0 rfl) ?_
  refine lv_bipush (v := 64) hx hb dX4_init_53 (by decide) ?_
  refine va_newa (atype := .int) (ty := .int) (a0 := (64, .inl fun _ => 0)) (N' := 64) hx hb (hts _ ac_I) rfl hK hP hD hS hA (fun _ => rfl) (by decide) rfl (by decide) (Nat.le_of_ble_eq_true rfl) (Nat.le_of_ble_eq_true rfl) dX4_init_55 (fun q7 c7 H hK hP hD hS => ?_)
  have hP : va_P D vwCl [(h0, .inr (3, [.ref q1, .ref q2, .ref q3, .ref q4, .ref q5, .ref q6, .null, .int 0, .int 0])), (q1, .inl (c1, 40, .inl fun _ => 0)), (q2, .inl (c2, 64, .inl fun _ => 0)), (q3, .inl (c3, 64, .inl fun _ => 0)), (q4, .inl (c4, 64, .inl fun _ => 0)), (q5, .inl (c5, 64, .inl fun _ => 0)), (q6, .inl (c6, 64, .inl fun _ => 0)), (q7, .inl (c7, 64, .inl fun _ => 0))] H := hP
  have hD : va_D A [(h0, .inr (3, [.ref q1, .ref q2, .ref q3, .ref q4, .ref q5, .ref q6, .null, .int 0, .int 0])), (q1, .inl (c1, 40, .inl fun _ => 0)), (q2, .inl (c2, 64, .inl fun _ => 0)), (q3, .inl (c3, 64, .inl fun _ => 0)), (q4, .inl (c4, 64, .inl fun _ => 0)), (q5, .inl (c5, 64, .inl fun _ => 0)), (q6, .inl (c6, 64, .inl fun _ => 0)), (q7, .inl (c7, 64, .inl fun _ => 0))] := hD
  have hK : va_K D vwCl [(c1, .int), (c2, .int), (c3, .int), (c4, .int), (c5, .int), (c6, .int), (c7, .int)] s := hK
  refine W.widen (k := 7) (n := 424) (Nat.le_of_ble_eq_true rfl) (Nat.le_of_ble_eq_true rfl) ?_
  refine va_put (ci := 3) (v := .ref q7) (C := RX4) (T := TX4) (N := 9) hx hb hts inlX4 tyX4 tyX4_ok nmX4 hown hK hP hD hS 0 rfl rfl 6 (by decide) (hts _ lk_X4_30) (fun _ h9 => h9) rfl (tyX4_ok _ (by decide)) rfl rfl (Nat.le_of_ble_eq_true rfl) dX4_init_57 (fun H locs hP hD hS => ?_)
  have hP : va_P D vwCl [(h0, .inr (3, [.ref q1, .ref q2, .ref q3, .ref q4, .ref q5, .ref q6, .ref q7, .int 0, .int 0])), (q1, .inl (c1, 40, .inl fun _ => 0)), (q2, .inl (c2, 64, .inl fun _ => 0)), (q3, .inl (c3, 64, .inl fun _ => 0)), (q4, .inl (c4, 64, .inl fun _ => 0)), (q5, .inl (c5, 64, .inl fun _ => 0)), (q6, .inl (c6, 64, .inl fun _ => 0)), (q7, .inl (c7, 64, .inl fun _ => 0))] H := hP
  have hD : va_D A [(h0, .inr (3, [.ref q1, .ref q2, .ref q3, .ref q4, .ref q5, .ref q6, .ref q7, .int 0, .int 0])), (q1, .inl (c1, 40, .inl fun _ => 0)), (q2, .inl (c2, 64, .inl fun _ => 0)), (q3, .inl (c3, 64, .inl fun _ => 0)), (q4, .inl (c4, 64, .inl fun _ => 0)), (q5, .inl (c5, 64, .inl fun _ => 0)), (q6, .inl (c6, 64, .inl fun _ => 0)), (q7, .inl (c7, 64, .inl fun _ => 0))] := hD
  refine lv_aload_n hx hb dX4_init_60 rfl (lv_at hl 0 rfl) ?_
  refine lv_iconst (v := 0) hx hb dX4_init_61 (by decide) ?_
  refine va_put (ci := 3) (v := .int 0) (C := RX4) (T := TX4) (N := 9) hx hb hts inlX4 tyX4 tyX4_ok nmX4 hown hK hP hD hS 0 rfl rfl 7 (by decide) (hts _ lk_X4_33) (fun _ h9 => h9) rfl (tyX4_ok _ (by decide)) rfl rfl (Nat.le_of_ble_eq_true rfl) dX4_init_62 (fun H locs hP hD hS => ?_)
  have hP : va_P D vwCl [(h0, .inr (3, [.ref q1, .ref q2, .ref q3, .ref q4, .ref q5, .ref q6, .ref q7, .int 0, .int 0])), (q1, .inl (c1, 40, .inl fun _ => 0)), (q2, .inl (c2, 64, .inl fun _ => 0)), (q3, .inl (c3, 64, .inl fun _ => 0)), (q4, .inl (c4, 64, .inl fun _ => 0)), (q5, .inl (c5, 64, .inl fun _ => 0)), (q6, .inl (c6, 64, .inl fun _ => 0)), (q7, .inl (c7, 64, .inl fun _ => 0))] H := hP
  have hD : va_D A [(h0, .inr (3, [.ref q1, .ref q2, .ref q3, .ref q4, .ref q5, .ref q6, .ref q7, .int 0, .int 0])), (q1, .inl (c1, 40, .inl fun _ => 0)), (q2, .inl (c2, 64, .inl fun _ => 0)), (q3, .inl (c3, 64, .inl fun _ => 0)), (q4, .inl (c4, 64, .inl fun _ => 0)), (q5, .inl (c5, 64, .inl fun _ => 0)), (q6, .inl (c6, 64, .inl fun _ => 0)), (q7, .inl (c7, 64, .inl fun _ => 0))] := hD
  refine lv_aload_n hx hb dX4_init_65 rfl (lv_at hl 0 rfl) ?_
  refine lv_iconst (v := 0) hx hb dX4_init_66 (by decide) ?_
  refine va_put (ci := 3) (v := .int 0) (C := RX4) (T := TX4) (N := 9) hx hb hts inlX4 tyX4 tyX4_ok nmX4 hown hK hP hD hS 0 rfl rfl 8 (by decide) (hts _ lk_X4_37) (fun _ h9 => h9) rfl (tyX4_ok _ (by decide)) rfl rfl (Nat.le_of_ble_eq_true rfl) dX4_init_67 (fun H locs hP hD hS => ?_)
  have hP : va_P D vwCl [(h0, .inr (3, [.ref q1, .ref q2, .ref q3, .ref q4, .ref q5, .ref q6, .ref q7, .int 0, .int 0])), (q1, .inl (c1, 40, .inl fun _ => 0)), (q2, .inl (c2, 64, .inl fun _ => 0)), (q3, .inl (c3, 64, .inl fun _ => 0)), (q4, .inl (c4, 64, .inl fun _ => 0)), (q5, .inl (c5, 64, .inl fun _ => 0)), (q6, .inl (c6, 64, .inl fun _ => 0)), (q7, .inl (c7, 64, .inl fun _ => 0))] H := hP
  have hD : va_D A [(h0, .inr (3, [.ref q1, .ref q2, .ref q3, .ref q4, .ref q5, .ref q6, .ref q7, .int 0, .int 0])), (q1, .inl (c1, 40, .inl fun _ => 0)), (q2, .inl (c2, 64, .inl fun _ => 0)), (q3, .inl (c3, 64, .inl fun _ => 0)), (q4, .inl (c4, 64, .inl fun _ => 0)), (q5, .inl (c5, 64, .inl fun _ => 0)), (q6, .inl (c6, 64, .inl fun _ => 0)), (q7, .inl (c7, 64, .inl fun _ => 0))] := hD
  refine lv_aload_n hx hb dX4_init_70 rfl (lv_at hl 0 rfl) ?_
  refine va_get (ci := 3) (v := .ref q1) (C := RX4) (T := TX4) (N := 9) hx hb hts inlX4 hown hK hP 0 rfl rfl 0 (by decide) (hts _ lk_X4_9) (fun _ h9 => h9) rfl dX4_init_71 ?_
  refine lv_iconst (v := (-1)) hx hb dX4_init_74 (by decide) ?_
  have hPc := hP.sub (ws' := [(q1, .inl (c1, 40, .inl fun _ => 0))]) [1] rfl
  have hDc := hD.sub (ws' := [(q1, .inl (c1, 40, .inl fun _ => 0))]) [1] (by decide) rfl
  have hKc := hK.sub (tys' := [(c1, .int)]) [0] rfl
  have hFc := va_free (wc := [(q1, .inl (c1, 40, .inl fun _ => 0))]) hD hS hA [1] rfl
  refine va_callv (va_runS (As := [.ref q1, .int (-1)]) (rest := []) ⟨hx, hb, hml, hown, hts⟩ (kn_fill l D q1 H.size c1 40 (fun _ => 0) (-1) (by decide)) (va_cwS 2 hts gi_X4_40 rfl rfl rfl hd_fill ⟨Nat.le_of_ble_eq_true rfl, Nat.le_of_ble_eq_true rfl⟩) ⟨nb_fill, fun U hU hW => ⟨rfl, by rw [hU], by rw [hU]; exact hPc, va_K.moved hW.alike hKc, hDc.weaken (fun _ _ _ _ => trivial)⟩⟩ rfl rfl hl.1 rfl (lv_room (Nat.le_of_ble_eq_true rfl)) dX4_init_75 ⟨Nat.le_of_ble_eq_true rfl, Nat.le_of_ble_eq_true rfl⟩) hS (fun q _ h => hFc q h) hFc (fun u8 t H1 locs ht hvm hw hB hz1 hk1 hS => ?_)
  obtain ⟨hP1, hK1, hD1⟩ := hB
  rw [ht] at hP1
  have hK1 := va_K.moved hvm.symm hK1
  obtain ⟨hP, hD⟩ := va_join (wr := [(h0, .inr (3, [.ref q1, .ref q2, .ref q3, .ref q4, .ref q5, .ref q6, .ref q7, .int 0, .int 0])), (q2, .inl (c2, 64, .inl fun _ => 0)), (q3, .inl (c3, 64, .inl fun _ => 0)), (q4, .inl (c4, 64, .inl fun _ => 0)), (q5, .inl (c5, 64, .inl fun _ => 0)), (q6, .inl (c6, 64, .inl fun _ => 0)), (q7, .inl (c7, 64, .inl fun _ => 0))]) (w1 := [(q1, .inl (c1, 40, .inl fun _ => (-1)))]) hP hD [1] [0, 2, 3, 4, 5, 6, 7] rfl rfl (by decide) (by decide) hk1 hFc hP1 hD1
  generalize H1 = H at hP hS ⊢
  have hP : va_P D vwCl [(h0, .inr (3, [.ref q1, .ref q2, .ref q3, .ref q4, .ref q5, .ref q6, .ref q7, .int 0, .int 0])), (q1, .inl (c1, 40, .inl fun _ => (-1))), (q2, .inl (c2, 64, .inl fun _ => 0)), (q3, .inl (c3, 64, .inl fun _ => 0)), (q4, .inl (c4, 64, .inl fun _ => 0)), (q5, .inl (c5, 64, .inl fun _ => 0)), (q6, .inl (c6, 64, .inl fun _ => 0)), (q7, .inl (c7, 64, .inl fun _ => 0))] H := hP.sub [0, 7, 1, 2, 3, 4, 5, 6] rfl
  have hD : va_D A [(h0, .inr (3, [.ref q1, .ref q2, .ref q3, .ref q4, .ref q5, .ref q6, .ref q7, .int 0, .int 0])), (q1, .inl (c1, 40, .inl fun _ => (-1))), (q2, .inl (c2, 64, .inl fun _ => 0)), (q3, .inl (c3, 64, .inl fun _ => 0)), (q4, .inl (c4, 64, .inl fun _ => 0)), (q5, .inl (c5, 64, .inl fun _ => 0)), (q6, .inl (c6, 64, .inl fun _ => 0)), (q7, .inl (c7, 64, .inl fun _ => 0))] := hD.sub [0, 7, 1, 2, 3, 4, 5, 6] (by decide) rfl
  refine W.widen (k := 7) (n := 424) (Nat.le_of_ble_eq_true rfl) (Nat.le_of_ble_eq_true rfl) ?_
  exact W.vret hx hb hr (fun t ht hW => ⟨⟨(fun i => [q1, q2, q3, q4, q5, q6, q7].getD i 0, fun i => [c1, c2, c3, c4, c5, c6, c7].getD i 0), rfl, trivial, by rw [ht]; exact hP, va_K.moved hW.alike hK, hD⟩, hS.F ht⟩) hS.2.2 dX4_init_78 hlk
def cw_Co (h0 : Nat) (a1 a2 : Nat) (u : (Nat → Nat) × (Nat → ClassId)) : va_W := [(h0, .inr (1, [.ref a1, .ref a2, .ref (u.1 0), .ref (u.1 1), .int 0, .int 0, .int 0, .int 0, .int 1, .int 0])), (u.1 0, .inl (u.2 0, 220, .inl fun _ => 0)), (u.1 1, .inl (u.2 1, 32, .inl fun _ => 0))]
def ct_Co (u : (Nat → Nat) × (Nat → ClassId)) : List (ClassId × FieldType) := [(u.2 0, .int), (u.2 1, .int)]
def rm_kn_Co : Room := { frames := 1, cells := 2, slots := 252, locals := 20 }
theorem nb_Co {D : va_G} {h0 sz a1 a2 : Nat} : FrameBlind (va_Pc [.ref h0, .ref a1, .ref a2] (fun U => U.heap.size = sz ∧ va_P D vwCl [(h0, .inr (1, [.null, .null, .null, .null, .int 0, .int 0, .int 0, .int 0, .int 0, .int 0]))] U.heap ∧ va_K D vwCl [] U ∧ va_D (fun _ => True) [(h0, .inr (1, [.null, .null, .null, .null, .int 0, .int 0, .int 0, .int 0, .int 0, .int 0]))])) := fun a U g mk q => by
  obtain ⟨q0, q1, qP, qK, qD⟩ := q
  exact ⟨q0, q1, qP, va_K.moved (u := U) (U := U.calling g mk a) (Vm.Alike.refl U.vm) qK, qD⟩
set_option maxHeartbeats 4000000 in
set_option maxRecDepth 100000 in
theorem kn_Co (l : Launch) (D : va_G) (h0 sz : Nat) (a1 a2 : Nat) : Met l yX1_init (.code yX1_init cX1_init 3 none :: TB) rm_kn_Co (va_Pc [.ref h0, .ref a1, .ref a2] (fun U => U.heap.size = sz ∧ va_P D vwCl [(h0, .inr (1, [.null, .null, .null, .null, .int 0, .int 0, .int 0, .int 0, .int 0, .int 0]))] U.heap ∧ va_K D vwCl [] U ∧ va_D (fun _ => True) [(h0, .inr (1, [.null, .null, .null, .null, .int 0, .int 0, .int 0, .int 0, .int 0, .int 0]))])) (va_Qv (fun _ : (Nat → Nat) × (Nat → ClassId) => True) (fun u t => va_P D vwCl (cw_Co h0 a1 a2 u) t.heap ∧ va_K D vwCl (ct_Co u) t ∧ va_D (va_A [(h0, .inr (1, [.null, .null, .null, .null, .int 0, .int 0, .int 0, .int 0, .int 0, .int 0]))] sz) (cw_Co h0 a1 a2 u)) (va_A [(h0, .inr (1, [.null, .null, .null, .null, .int 0, .int 0, .int 0, .int 0, .int 0, .int 0]))] sz)) 2 252 (va_A [(h0, .inr (1, [.null, .null, .null, .null, .int 0, .int 0, .int 0, .int 0, .int 0, .int 0]))] sz) := by
  refine Met.ofW (cc := cX1_init) (maxL := 3) (ret := none) (by decide) rfl ?_
  intro p e s m args below meth c s₁ B hml hv
  obtain ⟨rfl, hsz, hP, hK, hD0⟩ := hv
  have hx := B.exec
  have hb := B.bytes
  have hr := B.returns
  have hts0 := atoms_spec (ws := .code yX1_init cX1_init 3 none :: TB) B.pre
  have hts : ∀ w ∈ TB, w.before _ s = true := fun w hw => hts0 w (List.mem_cons_of_mem _ hw)
  have hown : s.vm.findClass RX1 = some m.cls := findClass_of_methodNamed B.named
  have hlk := B.notSynchronized
  have hin : meth.name = "<init>" := (name_of_methodNamed B.named B.method).1
  subst hsz
  have hD := hD0.self (sz := s.heap.size)
  generalize hAe : va_A [(h0, .inr (1, [.null, .null, .null, .null, .int 0, .int 0, .int 0, .int 0, .int 0, .int 0]))] s.heap.size = A at hD ⊢
  have hA : ∀ q : Nat, s.heap.size ≤ q → A q := fun q h => by rw [← hAe]; exact Or.inr h
  have hS : va_S A s.heap s.heap [] := va_S.rf
  have hP : va_P D vwCl [(h0, .inr (1, [.null, .null, .null, .null, .int 0, .int 0, .int 0, .int 0, .int 0, .int 0]))] s.heap := hP
  have hl := lv_entry ([.ref h0, .ref a1, .ref a2]) (n := 3) (Nat.le_of_ble_eq_true rfl)
  rw [lg_entry_eq]
  generalize (lg_sl ([.ref h0, .ref a1, .ref a2]) ++ List.replicate (3 - (lg_sl ([.ref h0, .ref a1, .ref a2])).length) Slot.unset).toArray = ls at hl ⊢
  have hl : lv_has ls 3 [(0, .ref h0), (1, .ref a1), (2, .ref a2)] := hl
  refine lv_aload_n hx hb dX1_init_0 rfl (lv_at hl 0 rfl) ?_
  refine W.objInit hx hb hown (hts _ lk_X1_3) (hts _ im_obj) (hts _ co_obj) rfl (by rw [hml]; exact hl.1) rfl dX1_init_1 (Nat.le_of_ble_eq_true rfl) (Nat.le_of_ble_eq_true rfl) ?_
  refine W.eq (g2 := F0 m 4 ls []) rfl ?_
  refine lv_aload_n hx hb dX1_init_4 rfl (lv_at hl 0 rfl) ?_
  refine lv_sipush (v := 220) hx hb dX1_init_5 (by decide) ?_
  refine va_newa (atype := .int) (ty := .int) (a0 := (220, .inl fun _ => 0)) (N' := 220) hx hb (hts _ ac_I) rfl hK hP hD hS hA (fun _ => rfl) (by decide) rfl (by decide) (Nat.le_of_ble_eq_true rfl) (Nat.le_of_ble_eq_true rfl) dX1_init_8 (fun q1 c1 H hK hP hD hS => ?_)
  have hP : va_P D vwCl [(h0, .inr (1, [.null, .null, .null, .null, .int 0, .int 0, .int 0, .int 0, .int 0, .int 0])), (q1, .inl (c1, 220, .inl fun _ => 0))] H := hP
  have hD : va_D A [(h0, .inr (1, [.null, .null, .null, .null, .int 0, .int 0, .int 0, .int 0, .int 0, .int 0])), (q1, .inl (c1, 220, .inl fun _ => 0))] := hD
  have hK : va_K D vwCl [(c1, .int)] s := hK
  refine W.widen (k := 1) (n := 220) (Nat.le_of_ble_eq_true rfl) (Nat.le_of_ble_eq_true rfl) ?_
  refine va_putF (ci := 1) (v := .ref q1) (C := RX1) (T := TX1) (N := 10) hx hb hts inlX1 tyX1 tyX1_ok nmX1 hown hK hP hD hS 0 rfl rfl 2 (by decide) (hts _ lk_X1_9) (fun _ h9 => h9) rfl hin rfl (tyX1_ok _ (by decide)) rfl rfl (Nat.le_of_ble_eq_true rfl) dX1_init_10 (fun H locs hP hD hS => ?_)
  have hP : va_P D vwCl [(h0, .inr (1, [.null, .null, .ref q1, .null, .int 0, .int 0, .int 0, .int 0, .int 0, .int 0])), (q1, .inl (c1, 220, .inl fun _ => 0))] H := hP
  have hD : va_D A [(h0, .inr (1, [.null, .null, .ref q1, .null, .int 0, .int 0, .int 0, .int 0, .int 0, .int 0])), (q1, .inl (c1, 220, .inl fun _ => 0))] := hD
  refine lv_aload_n hx hb dX1_init_13 rfl (lv_at hl 0 rfl) ?_
  refine lv_bipush (v := 32) hx hb dX1_init_14 (by decide) ?_
  refine va_newa (atype := .int) (ty := .int) (a0 := (32, .inl fun _ => 0)) (N' := 32) hx hb (hts _ ac_I) rfl hK hP hD hS hA (fun _ => rfl) (by decide) rfl (by decide) (Nat.le_of_ble_eq_true rfl) (Nat.le_of_ble_eq_true rfl) dX1_init_16 (fun q2 c2 H hK hP hD hS => ?_)
  have hP : va_P D vwCl [(h0, .inr (1, [.null, .null, .ref q1, .null, .int 0, .int 0, .int 0, .int 0, .int 0, .int 0])), (q1, .inl (c1, 220, .inl fun _ => 0)), (q2, .inl (c2, 32, .inl fun _ => 0))] H := hP
  have hD : va_D A [(h0, .inr (1, [.null, .null, .ref q1, .null, .int 0, .int 0, .int 0, .int 0, .int 0, .int 0])), (q1, .inl (c1, 220, .inl fun _ => 0)), (q2, .inl (c2, 32, .inl fun _ => 0))] := hD
  have hK : va_K D vwCl [(c1, .int), (c2, .int)] s := hK
  refine W.widen (k := 2) (n := 252) (Nat.le_of_ble_eq_true rfl) (Nat.le_of_ble_eq_true rfl) ?_
  refine va_put (ci := 1) (v := .ref q2) (C := RX1) (T := TX1) (N := 10) hx hb hts inlX1 tyX1 tyX1_ok nmX1 hown hK hP hD hS 0 rfl rfl 3 (by decide) (hts _ lk_X1_15) (fun _ h9 => h9) rfl (tyX1_ok _ (by decide)) rfl rfl (Nat.le_of_ble_eq_true rfl) dX1_init_18 (fun H locs hP hD hS => ?_)
  have hP : va_P D vwCl [(h0, .inr (1, [.null, .null, .ref q1, .ref q2, .int 0, .int 0, .int 0, .int 0, .int 0, .int 0])), (q1, .inl (c1, 220, .inl fun _ => 0)), (q2, .inl (c2, 32, .inl fun _ => 0))] H := hP
  have hD : va_D A [(h0, .inr (1, [.null, .null, .ref q1, .ref q2, .int 0, .int 0, .int 0, .int 0, .int 0, .int 0])), (q1, .inl (c1, 220, .inl fun _ => 0)), (q2, .inl (c2, 32, .inl fun _ => 0))] := hD
  refine lv_aload_n hx hb dX1_init_21 rfl (lv_at hl 0 rfl) ?_
  refine lv_iconst (v := 0) hx hb dX1_init_22 (by decide) ?_
  refine va_put (ci := 1) (v := .int 0) (C := RX1) (T := TX1) (N := 10) hx hb hts inlX1 tyX1 tyX1_ok nmX1 hown hK hP hD hS 0 rfl rfl 4 (by decide) (hts _ lk_X1_18) (fun _ h9 => h9) rfl (tyX1_ok _ (by decide)) rfl rfl (Nat.le_of_ble_eq_true rfl) dX1_init_23 (fun H locs hP hD hS => ?_)
  have hP : va_P D vwCl [(h0, .inr (1, [.null, .null, .ref q1, .ref q2, .int 0, .int 0, .int 0, .int 0, .int 0, .int 0])), (q1, .inl (c1, 220, .inl fun _ => 0)), (q2, .inl (c2, 32, .inl fun _ => 0))] H := hP
  have hD : va_D A [(h0, .inr (1, [.null, .null, .ref q1, .ref q2, .int 0, .int 0, .int 0, .int 0, .int 0, .int 0])), (q1, .inl (c1, 220, .inl fun _ => 0)), (q2, .inl (c2, 32, .inl fun _ => 0))] := hD
  refine lv_aload_n hx hb dX1_init_26 rfl (lv_at hl 0 rfl) ?_
  refine lv_iconst (v := 0) hx hb dX1_init_27 (by decide) ?_
  refine va_put (ci := 1) (v := .int 0) (C := RX1) (T := TX1) (N := 10) hx hb hts inlX1 tyX1 tyX1_ok nmX1 hown hK hP hD hS 0 rfl rfl 5 (by decide) (hts _ lk_X1_22) (fun _ h9 => h9) rfl (tyX1_ok _ (by decide)) rfl rfl (Nat.le_of_ble_eq_true rfl) dX1_init_28 (fun H locs hP hD hS => ?_)
  have hP : va_P D vwCl [(h0, .inr (1, [.null, .null, .ref q1, .ref q2, .int 0, .int 0, .int 0, .int 0, .int 0, .int 0])), (q1, .inl (c1, 220, .inl fun _ => 0)), (q2, .inl (c2, 32, .inl fun _ => 0))] H := hP
  have hD : va_D A [(h0, .inr (1, [.null, .null, .ref q1, .ref q2, .int 0, .int 0, .int 0, .int 0, .int 0, .int 0])), (q1, .inl (c1, 220, .inl fun _ => 0)), (q2, .inl (c2, 32, .inl fun _ => 0))] := hD
  refine lv_aload_n hx hb dX1_init_31 rfl (lv_at hl 0 rfl) ?_
  refine lv_iconst (v := 0) hx hb dX1_init_32 (by decide) ?_
  refine va_put (ci := 1) (v := .int 0) (C := RX1) (T := TX1) (N := 10) hx hb hts inlX1 tyX1 tyX1_ok nmX1 hown hK hP hD hS 0 rfl rfl 6 (by decide) (hts _ lk_X1_25) (fun _ h9 => h9) rfl (tyX1_ok _ (by decide)) rfl rfl (Nat.le_of_ble_eq_true rfl) dX1_init_33 (fun H locs hP hD hS => ?_)
  have hP : va_P D vwCl [(h0, .inr (1, [.null, .null, .ref q1, .ref q2, .int 0, .int 0, .int 0, .int 0, .int 0, .int 0])), (q1, .inl (c1, 220, .inl fun _ => 0)), (q2, .inl (c2, 32, .inl fun _ => 0))] H := hP
  have hD : va_D A [(h0, .inr (1, [.null, .null, .ref q1, .ref q2, .int 0, .int 0, .int 0, .int 0, .int 0, .int 0])), (q1, .inl (c1, 220, .inl fun _ => 0)), (q2, .inl (c2, 32, .inl fun _ => 0))] := hD
  refine lv_aload_n hx hb dX1_init_36 rfl (lv_at hl 0 rfl) ?_
  refine lv_iconst (v := 0) hx hb dX1_init_37 (by decide) ?_
  refine va_put (ci := 1) (v := .int 0) (C := RX1) (T := TX1) (N := 10) hx hb hts inlX1 tyX1 tyX1_ok nmX1 hown hK hP hD hS 0 rfl rfl 7 (by decide) (hts _ lk_X1_28) (fun _ h9 => h9) rfl (tyX1_ok _ (by decide)) rfl rfl (Nat.le_of_ble_eq_true rfl) dX1_init_38 (fun H locs hP hD hS => ?_)
  have hP : va_P D vwCl [(h0, .inr (1, [.null, .null, .ref q1, .ref q2, .int 0, .int 0, .int 0, .int 0, .int 0, .int 0])), (q1, .inl (c1, 220, .inl fun _ => 0)), (q2, .inl (c2, 32, .inl fun _ => 0))] H := hP
  have hD : va_D A [(h0, .inr (1, [.null, .null, .ref q1, .ref q2, .int 0, .int 0, .int 0, .int 0, .int 0, .int 0])), (q1, .inl (c1, 220, .inl fun _ => 0)), (q2, .inl (c2, 32, .inl fun _ => 0))] := hD
  refine lv_aload_n hx hb dX1_init_41 rfl (lv_at hl 0 rfl) ?_
  refine lv_iconst (v := 1) hx hb dX1_init_42 (by decide) ?_
  refine va_put (ci := 1) (v := .int 1) (C := RX1) (T := TX1) (N := 10) hx hb hts inlX1 tyX1 tyX1_ok nmX1 hown hK hP hD hS 0 rfl rfl 8 (by decide) (hts _ lk_X1_31) (fun _ h9 => h9) rfl (tyX1_ok _ (by decide)) rfl rfl (Nat.le_of_ble_eq_true rfl) dX1_init_43 (fun H locs hP hD hS => ?_)
  have hP : va_P D vwCl [(h0, .inr (1, [.null, .null, .ref q1, .ref q2, .int 0, .int 0, .int 0, .int 0, .int 1, .int 0])), (q1, .inl (c1, 220, .inl fun _ => 0)), (q2, .inl (c2, 32, .inl fun _ => 0))] H := hP
  have hD : va_D A [(h0, .inr (1, [.null, .null, .ref q1, .ref q2, .int 0, .int 0, .int 0, .int 0, .int 1, .int 0])), (q1, .inl (c1, 220, .inl fun _ => 0)), (q2, .inl (c2, 32, .inl fun _ => 0))] := hD
  refine lv_aload_n hx hb dX1_init_46 rfl (lv_at hl 0 rfl) ?_
  refine lv_iconst (v := 0) hx hb dX1_init_47 (by decide) ?_
  refine va_put (ci := 1) (v := .int 0) (C := RX1) (T := TX1) (N := 10) hx hb hts inlX1 tyX1 tyX1_ok nmX1 hown hK hP hD hS 0 rfl rfl 9 (by decide) (hts _ lk_X1_35) (fun _ h9 => h9) rfl (tyX1_ok _ (by decide)) rfl rfl (Nat.le_of_ble_eq_true rfl) dX1_init_48 (fun H locs hP hD hS => ?_)
  have hP : va_P D vwCl [(h0, .inr (1, [.null, .null, .ref q1, .ref q2, .int 0, .int 0, .int 0, .int 0, .int 1, .int 0])), (q1, .inl (c1, 220, .inl fun _ => 0)), (q2, .inl (c2, 32, .inl fun _ => 0))] H := hP
  have hD : va_D A [(h0, .inr (1, [.null, .null, .ref q1, .ref q2, .int 0, .int 0, .int 0, .int 0, .int 1, .int 0])), (q1, .inl (c1, 220, .inl fun _ => 0)), (q2, .inl (c2, 32, .inl fun _ => 0))] := hD
  refine lv_aload_n hx hb dX1_init_51 rfl (lv_at hl 0 rfl) ?_
  refine lv_aload_n hx hb dX1_init_52 rfl (lv_at hl 1 rfl) ?_
  refine va_putF (ci := 1) (v := .ref a1) (C := RX1) (T := TX1) (N := 10) hx hb hts inlX1 tyX1 tyX1_ok nmX1 hown hK hP hD hS 0 rfl rfl 0 (by decide) (hts _ lk_X1_38) (fun _ h9 => h9) rfl hin rfl (tyX1_ok _ (by decide)) rfl rfl (Nat.le_of_ble_eq_true rfl) dX1_init_53 (fun H locs hP hD hS => ?_)
  have hP : va_P D vwCl [(h0, .inr (1, [.ref a1, .null, .ref q1, .ref q2, .int 0, .int 0, .int 0, .int 0, .int 1, .int 0])), (q1, .inl (c1, 220, .inl fun _ => 0)), (q2, .inl (c2, 32, .inl fun _ => 0))] H := hP
  have hD : va_D A [(h0, .inr (1, [.ref a1, .null, .ref q1, .ref q2, .int 0, .int 0, .int 0, .int 0, .int 1, .int 0])), (q1, .inl (c1, 220, .inl fun _ => 0)), (q2, .inl (c2, 32, .inl fun _ => 0))] := hD
  refine lv_aload_n hx hb dX1_init_56 rfl (lv_at hl 0 rfl) ?_
  refine lv_aload_n hx hb dX1_init_57 rfl (lv_at hl 2 rfl) ?_
  refine va_putF (ci := 1) (v := .ref a2) (C := RX1) (T := TX1) (N := 10) hx hb hts inlX1 tyX1 tyX1_ok nmX1 hown hK hP hD hS 0 rfl rfl 1 (by decide) (hts _ lk_X1_42) (fun _ h9 => h9) rfl hin rfl (tyX1_ok _ (by decide)) rfl rfl (Nat.le_of_ble_eq_true rfl) dX1_init_58 (fun H locs hP hD hS => ?_)
  have hP : va_P D vwCl [(h0, .inr (1, [.ref a1, .ref a2, .ref q1, .ref q2, .int 0, .int 0, .int 0, .int 0, .int 1, .int 0])), (q1, .inl (c1, 220, .inl fun _ => 0)), (q2, .inl (c2, 32, .inl fun _ => 0))] H := hP
  have hD : va_D A [(h0, .inr (1, [.ref a1, .ref a2, .ref q1, .ref q2, .int 0, .int 0, .int 0, .int 0, .int 1, .int 0])), (q1, .inl (c1, 220, .inl fun _ => 0)), (q2, .inl (c2, 32, .inl fun _ => 0))] := hD
  exact W.vret hx hb hr (fun t ht hW => ⟨⟨(fun i => [q1, q2].getD i 0, fun i => [c1, c2].getD i 0), rfl, trivial, by rw [ht]; exact hP, va_K.moved hW.alike hK, hD⟩, hS.F ht⟩) hS.2.2 dX1_init_61 hlk
def cw_Sr (h0 : Nat) (a1 a2 a3 : Nat) (u : (Nat → Nat) × (Nat → ClassId)) : va_W := [(h0, .inr (5, [.ref a1, .ref a2, .ref a3]))]
def ct_Sr (u : (Nat → Nat) × (Nat → ClassId)) : List (ClassId × FieldType) := []
def rm_kn_Sr : Room := { frames := 1, cells := 0, slots := 0, locals := 20 }
theorem nb_Sr {D : va_G} {h0 sz a1 a2 a3 : Nat} : FrameBlind (va_Pc [.ref h0, .ref a1, .ref a2, .ref a3] (fun U => U.heap.size = sz ∧ va_P D vwCl [(h0, .inr (5, [.null, .null, .null]))] U.heap ∧ va_K D vwCl [] U ∧ va_D (fun _ => True) [(h0, .inr (5, [.null, .null, .null]))])) := fun a U g mk q => by
  obtain ⟨q0, q1, qP, qK, qD⟩ := q
  exact ⟨q0, q1, qP, va_K.moved (u := U) (U := U.calling g mk a) (Vm.Alike.refl U.vm) qK, qD⟩
set_option maxHeartbeats 4000000 in
set_option maxRecDepth 100000 in
theorem kn_Sr (l : Launch) (D : va_G) (h0 sz : Nat) (a1 a2 a3 : Nat) : Met l yX6_init (.code yX6_init cX6_init 4 none :: TB) rm_kn_Sr (va_Pc [.ref h0, .ref a1, .ref a2, .ref a3] (fun U => U.heap.size = sz ∧ va_P D vwCl [(h0, .inr (5, [.null, .null, .null]))] U.heap ∧ va_K D vwCl [] U ∧ va_D (fun _ => True) [(h0, .inr (5, [.null, .null, .null]))])) (va_Qv (fun _ : (Nat → Nat) × (Nat → ClassId) => True) (fun u t => va_P D vwCl (cw_Sr h0 a1 a2 a3 u) t.heap ∧ va_K D vwCl (ct_Sr u) t ∧ va_D (va_A [(h0, .inr (5, [.null, .null, .null]))] sz) (cw_Sr h0 a1 a2 a3 u)) (va_A [(h0, .inr (5, [.null, .null, .null]))] sz)) 0 0 (va_A [(h0, .inr (5, [.null, .null, .null]))] sz) := by
  refine Met.ofW (cc := cX6_init) (maxL := 4) (ret := none) (by decide) rfl ?_
  intro p e s m args below meth c s₁ B hml hv
  obtain ⟨rfl, hsz, hP, hK, hD0⟩ := hv
  have hx := B.exec
  have hb := B.bytes
  have hr := B.returns
  have hts0 := atoms_spec (ws := .code yX6_init cX6_init 4 none :: TB) B.pre
  have hts : ∀ w ∈ TB, w.before _ s = true := fun w hw => hts0 w (List.mem_cons_of_mem _ hw)
  have hown : s.vm.findClass RX6 = some m.cls := findClass_of_methodNamed B.named
  have hlk := B.notSynchronized
  have hin : meth.name = "<init>" := (name_of_methodNamed B.named B.method).1
  subst hsz
  have hD := hD0.self (sz := s.heap.size)
  generalize hAe : va_A [(h0, .inr (5, [.null, .null, .null]))] s.heap.size = A at hD ⊢
  have hA : ∀ q : Nat, s.heap.size ≤ q → A q := fun q h => by rw [← hAe]; exact Or.inr h
  have hS : va_S A s.heap s.heap [] := va_S.rf
  have hP : va_P D vwCl [(h0, .inr (5, [.null, .null, .null]))] s.heap := hP
  have hl := lv_entry ([.ref h0, .ref a1, .ref a2, .ref a3]) (n := 4) (Nat.le_of_ble_eq_true rfl)
  rw [lg_entry_eq]
  generalize (lg_sl ([.ref h0, .ref a1, .ref a2, .ref a3]) ++ List.replicate (4 - (lg_sl ([.ref h0, .ref a1, .ref a2, .ref a3])).length) Slot.unset).toArray = ls at hl ⊢
  have hl : lv_has ls 4 [(0, .ref h0), (1, .ref a1), (2, .ref a2), (3, .ref a3)] := hl
  refine lv_aload_n hx hb dX6_init_0 rfl (lv_at hl 0 rfl) ?_
  refine W.objInit hx hb hown (hts _ lk_X6_3) (hts _ im_obj) (hts _ co_obj) rfl (by rw [hml]; exact hl.1) rfl dX6_init_1 (Nat.le_of_ble_eq_true rfl) (Nat.le_of_ble_eq_true rfl) ?_
  refine W.eq (g2 := F0 m 4 ls []) rfl ?_
  refine lv_aload_n hx hb dX6_init_4 rfl (lv_at hl 0 rfl) ?_
  refine lv_aload_n hx hb dX6_init_5 rfl (lv_at hl 1 rfl) ?_
  refine va_putF (ci := 5) (v := .ref a1) (C := RX6) (T := TX6) (N := 3) hx hb hts inlX6 tyX6 tyX6_ok nmX6 hown hK hP hD hS 0 rfl rfl 0 (by decide) (hts _ lk_X6_9) (fun _ h9 => h9) rfl hin rfl (tyX6_ok _ (by decide)) rfl rfl (Nat.le_of_ble_eq_true rfl) dX6_init_6 (fun H locs hP hD hS => ?_)
  have hP : va_P D vwCl [(h0, .inr (5, [.ref a1, .null, .null]))] H := hP
  have hD : va_D A [(h0, .inr (5, [.ref a1, .null, .null]))] := hD
  refine lv_aload_n hx hb dX6_init_9 rfl (lv_at hl 0 rfl) ?_
  refine lv_aload_n hx hb dX6_init_10 rfl (lv_at hl 2 rfl) ?_
  refine va_putF (ci := 5) (v := .ref a2) (C := RX6) (T := TX6) (N := 3) hx hb hts inlX6 tyX6 tyX6_ok nmX6 hown hK hP hD hS 0 rfl rfl 1 (by decide) (hts _ lk_X6_15) (fun _ h9 => h9) rfl hin rfl (tyX6_ok _ (by decide)) rfl rfl (Nat.le_of_ble_eq_true rfl) dX6_init_11 (fun H locs hP hD hS => ?_)
  have hP : va_P D vwCl [(h0, .inr (5, [.ref a1, .ref a2, .null]))] H := hP
  have hD : va_D A [(h0, .inr (5, [.ref a1, .ref a2, .null]))] := hD
  refine lv_aload_n hx hb dX6_init_14 rfl (lv_at hl 0 rfl) ?_
  refine lv_aload_n hx hb dX6_init_15 rfl (lv_at hl 3 rfl) ?_
  refine va_putF (ci := 5) (v := .ref a3) (C := RX6) (T := TX6) (N := 3) hx hb hts inlX6 tyX6 tyX6_ok nmX6 hown hK hP hD hS 0 rfl rfl 2 (by decide) (hts _ lk_X6_19) (fun _ h9 => h9) rfl hin rfl (tyX6_ok _ (by decide)) rfl rfl (Nat.le_of_ble_eq_true rfl) dX6_init_16 (fun H locs hP hD hS => ?_)
  have hP : va_P D vwCl [(h0, .inr (5, [.ref a1, .ref a2, .ref a3]))] H := hP
  have hD : va_D A [(h0, .inr (5, [.ref a1, .ref a2, .ref a3]))] := hD
  exact W.vret hx hb hr (fun t ht hW => ⟨⟨(fun i => [].getD i 0, fun i => [].getD i 0), rfl, trivial, by rw [ht]; exact hP, va_K.moved hW.alike hK, hD⟩, hS.F ht⟩) hS.2.2 dX6_init_19 hlk
def cw_Rr (h0 : Nat) (a1 a2 a3 a4 : Nat) (u : (Nat → Nat) × (Nat → ClassId)) : va_W := [(h0, .inr (4, [.ref a1, .ref a2, .ref a3, .ref a4]))]
def ct_Rr (u : (Nat → Nat) × (Nat → ClassId)) : List (ClassId × FieldType) := []
def rm_kn_Rr : Room := { frames := 1, cells := 0, slots := 0, locals := 20 }
theorem nb_Rr {D : va_G} {h0 sz a1 a2 a3 a4 : Nat} : FrameBlind (va_Pc [.ref h0, .ref a1, .ref a2, .ref a3, .ref a4] (fun U => U.heap.size = sz ∧ va_P D vwCl [(h0, .inr (4, [.null, .null, .null, .null]))] U.heap ∧ va_K D vwCl [] U ∧ va_D (fun _ => True) [(h0, .inr (4, [.null, .null, .null, .null]))])) := fun a U g mk q => by
  obtain ⟨q0, q1, qP, qK, qD⟩ := q
  exact ⟨q0, q1, qP, va_K.moved (u := U) (U := U.calling g mk a) (Vm.Alike.refl U.vm) qK, qD⟩
set_option maxHeartbeats 4000000 in
set_option maxRecDepth 100000 in
theorem kn_Rr (l : Launch) (D : va_G) (h0 sz : Nat) (a1 a2 a3 a4 : Nat) : Met l yX5_init (.code yX5_init cX5_init 5 none :: TB) rm_kn_Rr (va_Pc [.ref h0, .ref a1, .ref a2, .ref a3, .ref a4] (fun U => U.heap.size = sz ∧ va_P D vwCl [(h0, .inr (4, [.null, .null, .null, .null]))] U.heap ∧ va_K D vwCl [] U ∧ va_D (fun _ => True) [(h0, .inr (4, [.null, .null, .null, .null]))])) (va_Qv (fun _ : (Nat → Nat) × (Nat → ClassId) => True) (fun u t => va_P D vwCl (cw_Rr h0 a1 a2 a3 a4 u) t.heap ∧ va_K D vwCl (ct_Rr u) t ∧ va_D (va_A [(h0, .inr (4, [.null, .null, .null, .null]))] sz) (cw_Rr h0 a1 a2 a3 a4 u)) (va_A [(h0, .inr (4, [.null, .null, .null, .null]))] sz)) 0 0 (va_A [(h0, .inr (4, [.null, .null, .null, .null]))] sz) := by
  refine Met.ofW (cc := cX5_init) (maxL := 5) (ret := none) (by decide) rfl ?_
  intro p e s m args below meth c s₁ B hml hv
  obtain ⟨rfl, hsz, hP, hK, hD0⟩ := hv
  have hx := B.exec
  have hb := B.bytes
  have hr := B.returns
  have hts0 := atoms_spec (ws := .code yX5_init cX5_init 5 none :: TB) B.pre
  have hts : ∀ w ∈ TB, w.before _ s = true := fun w hw => hts0 w (List.mem_cons_of_mem _ hw)
  have hown : s.vm.findClass RX5 = some m.cls := findClass_of_methodNamed B.named
  have hlk := B.notSynchronized
  have hin : meth.name = "<init>" := (name_of_methodNamed B.named B.method).1
  subst hsz
  have hD := hD0.self (sz := s.heap.size)
  generalize hAe : va_A [(h0, .inr (4, [.null, .null, .null, .null]))] s.heap.size = A at hD ⊢
  have hA : ∀ q : Nat, s.heap.size ≤ q → A q := fun q h => by rw [← hAe]; exact Or.inr h
  have hS : va_S A s.heap s.heap [] := va_S.rf
  have hP : va_P D vwCl [(h0, .inr (4, [.null, .null, .null, .null]))] s.heap := hP
  have hl := lv_entry ([.ref h0, .ref a1, .ref a2, .ref a3, .ref a4]) (n := 5) (Nat.le_of_ble_eq_true rfl)
  rw [lg_entry_eq]
  generalize (lg_sl ([.ref h0, .ref a1, .ref a2, .ref a3, .ref a4]) ++ List.replicate (5 - (lg_sl ([.ref h0, .ref a1, .ref a2, .ref a3, .ref a4])).length) Slot.unset).toArray = ls at hl ⊢
  have hl : lv_has ls 5 [(0, .ref h0), (1, .ref a1), (2, .ref a2), (3, .ref a3), (4, .ref a4)] := hl
  refine lv_aload_n hx hb dX5_init_0 rfl (lv_at hl 0 rfl) ?_
  refine W.objInit hx hb hown (hts _ lk_X5_3) (hts _ im_obj) (hts _ co_obj) rfl (by rw [hml]; exact hl.1) rfl dX5_init_1 (Nat.le_of_ble_eq_true rfl) (Nat.le_of_ble_eq_true rfl) ?_
  refine W.eq (g2 := F0 m 4 ls []) rfl ?_
  refine lv_aload_n hx hb dX5_init_4 rfl (lv_at hl 0 rfl) ?_
  refine lv_aload_n hx hb dX5_init_5 rfl (lv_at hl 1 rfl) ?_
  refine va_putF (ci := 4) (v := .ref a1) (C := RX5) (T := TX5) (N := 4) hx hb hts inlX5 tyX5 tyX5_ok nmX5 hown hK hP hD hS 0 rfl rfl 0 (by decide) (hts _ lk_X5_9) (fun _ h9 => h9) rfl hin rfl (tyX5_ok _ (by decide)) rfl rfl (Nat.le_of_ble_eq_true rfl) dX5_init_6 (fun H locs hP hD hS => ?_)
  have hP : va_P D vwCl [(h0, .inr (4, [.ref a1, .null, .null, .null]))] H := hP
  have hD : va_D A [(h0, .inr (4, [.ref a1, .null, .null, .null]))] := hD
  refine lv_aload_n hx hb dX5_init_9 rfl (lv_at hl 0 rfl) ?_
  refine lv_aload_n hx hb dX5_init_10 rfl (lv_at hl 2 rfl) ?_
  refine va_putF (ci := 4) (v := .ref a2) (C := RX5) (T := TX5) (N := 4) hx hb hts inlX5 tyX5 tyX5_ok nmX5 hown hK hP hD hS 0 rfl rfl 1 (by decide) (hts _ lk_X5_15) (fun _ h9 => h9) rfl hin rfl (tyX5_ok _ (by decide)) rfl rfl (Nat.le_of_ble_eq_true rfl) dX5_init_11 (fun H locs hP hD hS => ?_)
  have hP : va_P D vwCl [(h0, .inr (4, [.ref a1, .ref a2, .null, .null]))] H := hP
  have hD : va_D A [(h0, .inr (4, [.ref a1, .ref a2, .null, .null]))] := hD
  refine lv_aload_n hx hb dX5_init_14 rfl (lv_at hl 0 rfl) ?_
  refine lv_aload_n hx hb dX5_init_15 rfl (lv_at hl 3 rfl) ?_
  refine va_putF (ci := 4) (v := .ref a3) (C := RX5) (T := TX5) (N := 4) hx hb hts inlX5 tyX5 tyX5_ok nmX5 hown hK hP hD hS 0 rfl rfl 2 (by decide) (hts _ lk_X5_19) (fun _ h9 => h9) rfl hin rfl (tyX5_ok _ (by decide)) rfl rfl (Nat.le_of_ble_eq_true rfl) dX5_init_16 (fun H locs hP hD hS => ?_)
  have hP : va_P D vwCl [(h0, .inr (4, [.ref a1, .ref a2, .ref a3, .null]))] H := hP
  have hD : va_D A [(h0, .inr (4, [.ref a1, .ref a2, .ref a3, .null]))] := hD
  refine lv_aload_n hx hb dX5_init_19 rfl (lv_at hl 0 rfl) ?_
  refine lv_aload hx hb dX5_init_20 (lv_at hl 4 rfl) ?_
  refine va_putF (ci := 4) (v := .ref a4) (C := RX5) (T := TX5) (N := 4) hx hb hts inlX5 tyX5 tyX5_ok nmX5 hown hK hP hD hS 0 rfl rfl 3 (by decide) (hts _ lk_X5_23) (fun _ h9 => h9) rfl hin rfl (tyX5_ok _ (by decide)) rfl rfl (Nat.le_of_ble_eq_true rfl) dX5_init_22 (fun H locs hP hD hS => ?_)
  have hP : va_P D vwCl [(h0, .inr (4, [.ref a1, .ref a2, .ref a3, .ref a4]))] H := hP
  have hD : va_D A [(h0, .inr (4, [.ref a1, .ref a2, .ref a3, .ref a4]))] := hD
  exact W.vret hx hb hr (fun t ht hW => ⟨⟨(fun i => [].getD i 0, fun i => [].getD i 0), rfl, trivial, by rw [ht]; exact hP, va_K.moved hW.alike hK, hD⟩, hS.F ht⟩) hS.2.2 dX5_init_25 hlk
