def rm_Wo_find : Room := { frames := 1, cells := 0, slots := 0, locals := 21 }
set_option maxHeartbeats 4000000 in
set_option maxRecDepth 100000 in
theorem kx_Wo_find_b72 {p : Program} {l : Launch} {e : Env} {s : State} {m : MethodId} {args : Array Value} {below : List Frame} {meth : Method} {c : Code} {D : va_G} {h : Nat → Nat} {E : Nat → Nat} {k : Nat → Nat × ClassId} (C : cxC D k p s m args meth c cX7_find 10 (some .int) RX7) (x8 : Int32) (y0 : Int32) (st : rs_T) (r : Int32) (s' : rs_T) (hf : fx_Wo_find_b72 x8 y0 st = some (r, s')) : ∀ (H : Heap) (locs : List Loc) (ls : Array Slot), lv_has ls 10 [(8, .int x8)] → gdC D k h (vE E) (arC k h s.heap.size) s.heap H locs st → W p l e rm_Wo_find s m args below meth c H locs 0 0 (MQ below (qIC D k h E s.heap.size r s') args s 0 0 (arC k h s.heap.size)) (F0 m 72 ls [.int y0]) := by
  obtain ⟨hx, hb, hml, hr, hown, hts, hK, hN, hlk⟩ := id C
  intro H locs ls hl G
  unfold fx_Wo_find_b72 at hf
  refine lv_istore (lv' := [(9, .int y0), (8, .int x8)]) hx hb dX7_find_72 hl (by decide) rfl (fun ls hl => ?_)
  refine lv_iload hx hb dX7_find_74 (lv_at hl 0 rfl) ?_
  refine lv_if_eq (tgt := 84) hx hb dX7_find_76 (by decide) (fun c10 => ?_) (fun c10 => ?_)
  · replace hf := if_p hf c10
    refine lv_bipush (v := (-8)) hx hb dX7_find_84 (by decide) ?_
    exact rt_iC C G hf dX7_find_86
  · replace hf := if_n hf c10
    refine lv_iload hx hb dX7_find_79 (lv_at hl 1 rfl) ?_
    refine lv_goto (tgt := 86) hx hb dX7_find_81 (by decide) ?_
    exact rt_iC C G hf dX7_find_86
set_option maxHeartbeats 4000000 in
set_option maxRecDepth 100000 in
theorem kx_Wo_find_b71 {p : Program} {l : Launch} {e : Env} {s : State} {m : MethodId} {args : Array Value} {below : List Frame} {meth : Method} {c : Code} {D : va_G} {h : Nat → Nat} {E : Nat → Nat} {k : Nat → Nat × ClassId} (C : cxC D k p s m args meth c cX7_find 10 (some .int) RX7) (x8 : Int32) (st : rs_T) (r : Int32) (s' : rs_T) (hf : fx_Wo_find_b71 x8 st = some (r, s')) : ∀ (H : Heap) (locs : List Loc) (ls : Array Slot), lv_has ls 10 [(8, .int x8)] → gdC D k h (vE E) (arC k h s.heap.size) s.heap H locs st → W p l e rm_Wo_find s m args below meth c H locs 0 0 (MQ below (qIC D k h E s.heap.size r s') args s 0 0 (arC k h s.heap.size)) (F0 m 71 ls []) := by
  obtain ⟨hx, hb, hml, hr, hown, hts, hK, hN, hlk⟩ := id C
  intro H locs ls hl G
  unfold fx_Wo_find_b71 at hf
  refine lv_iconst (v := 0) hx hb dX7_find_71 (by decide) ?_
  exact kx_Wo_find_b72 C x8 0 st _ _ hf _ _ _ (lv_sub hl [0] rfl) G
set_option maxHeartbeats 4000000 in
set_option maxRecDepth 100000 in
theorem kx_Wo_find (l : Launch) (D : va_G) (k : Nat → Nat × ClassId) (h : Nat → Nat) (p1 : Int64) (p3 : Int32) (p4 : Int32) (st : rs_T) (r : Int32) (s' : rs_T) (hf : fx_Wo_find p1 p3 p4 st = some (r, s')) : mIC l D k h yX7_find cX7_find 10 .int rm_Wo_find [.ref (h 3), .long p1, .int p3, .int p4, .ref (h 1)] st r s' := by
  refine mIC_of (by decide) ⟨rfl, rfl⟩ (Nat.le_of_ble_eq_true rfl) ?_
  intro p e s m below meth c ls C hl G
  obtain ⟨hx, hb, hml, hr, hown, hts, hK, hN, hlk⟩ := id C
  have hown : s.vm.findClass RX7 = some m.cls := hown
  have hl : lv_has ls 10 [(0, .ref (h 3)), (1, .long p1), (3, .int p3), (4, .int p4), (5, .ref (h 1))] := hl
  unfold fx_Wo_find at hf
  refine lv_lload_n hx hb dX7_find_0 rfl (lv_at hl 1 rfl) ?_
  refine lv_ldc2 (v := 4294967295) hx hb hown (hts _ lk_X7_35) dX7_find_1 ?_
  refine lv_land hx hb dX7_find_4 ?_
  refine lv_topl (fun v1 e_v1 => ?_)
  replace hf := bd_some hf v1 e_v1
  refine lv_lstore (lv' := [(6, .long v1), (0, .ref (h 3)), (1, .long p1), (3, .int p3), (4, .int p4), (5, .ref (h 1))]) hx hb dX7_find_5 hl (by decide) rfl (fun ls hl => ?_)
  refine lv_lload hx hb dX7_find_7 (lv_at hl 0 rfl) ?_
  refine lv_ldc2 (v := 30) hx hb hown (hts _ lk_X7_37) dX7_find_9 ?_
  refine W.lcmp hx hb dX7_find_12 ?_
  refine lv_if_lt (tgt := 19) hx hb dX7_find_13 (by decide) (fun c2 => ?_) (fun c2 => ?_)
  · replace hf := if_p hf c2
    refine lv_aload_n hx hb dX7_find_19 rfl (lv_at hl 1 rfl) ?_
    refine fg_Wo_table hx hb hts hown hK G (hts _ lk_X7_9) dX7_find_20 ?_
    refine lv_lload hx hb dX7_find_23 (lv_at hl 0 rfl) ?_
    refine lv_l2i (v := v1.toInt32) hx hb dX7_find_25 rfl ?_
    obtain ⟨h_g3, hf⟩ := gd_some hf
    refine ra_IC (v := rA st 15 v1.toInt32.toNatClampNeg) hx hb hK G (waC_25 ..) (t0 := 16) rfl rfl h_g3 dX7_find_26 ?_
    refine lv_topi (fun v4 e_v4 => ?_)
    replace hf := bd_some hf v4 e_v4
    refine lv_istore (lv' := [(8, .int v4), (6, .long v1), (0, .ref (h 3)), (1, .long p1), (3, .int p3), (4, .int p4), (5, .ref (h 1))]) hx hb dX7_find_27 hl (by decide) rfl (fun ls hl => ?_)
    refine lv_aload hx hb dX7_find_29 (lv_at hl 6 rfl) ?_
    refine lv_iload hx hb dX7_find_31 (lv_at hl 0 rfl) ?_
    obtain ⟨r6, st5, hst5, hf⟩ := bn_some hf
    refine cl_viC C hl G (As := [.int v4]) (rest := []) (kx_Pr_isWhole l D k h v4 st _ _ hst5) gi_X7_39 (hwC_1 ..) rfl hd_X3_isWhole ⟨Nat.le_of_ble_eq_true rfl, Nat.le_of_ble_eq_true rfl⟩ rfl rfl (Nat.le_of_ble_eq_true rfl) dX7_find_33 ⟨Nat.zero_le _, Nat.zero_le _⟩ (fun H locs e0 G => ?_)
    refine lv_if_ne (tgt := 42) hx hb dX7_find_36 (by decide) (fun c7 => ?_) (fun c7 => ?_)
    · replace hf := if_n hf c7
      refine lv_aload hx hb dX7_find_42 (lv_at hl 6 rfl) ?_
      refine fg_Pr_parameters hx hb hts hown hK G (hts _ lk_X7_45) dX7_find_44 ?_
      refine lv_iload hx hb dX7_find_47 (lv_at hl 0 rfl) ?_
      obtain ⟨h_g8, hf⟩ := gd_some hf
      refine ra_IC (v := rA st5 0 v4.toNatClampNeg) hx hb hK G (waC_10 ..) (t0 := 1) rfl rfl h_g8 dX7_find_49 ?_
      refine lv_iload_n hx hb dX7_find_50 rfl (lv_at hl 4 rfl) ?_
      refine lv_icmp_ne (tgt := 71) hx hb dX7_find_51 (by decide) (fun c9 => ?_) (fun c9 => ?_)
      · replace hf := if_n hf c9
        exact kx_Wo_find_b71 C v4 st5 _ _ hf _ _ _ (lv_sub hl [0] rfl) G
      · replace hf := if_p hf c9
        refine lv_aload hx hb dX7_find_54 (lv_at hl 6 rfl) ?_
        refine fg_Pr_results hx hb hts hown hK G (hts _ lk_X7_48) dX7_find_56 ?_
        refine lv_iload hx hb dX7_find_59 (lv_at hl 0 rfl) ?_
        obtain ⟨h_g11, hf⟩ := gd_some hf
        refine ra_IC (v := rA st5 1 v4.toNatClampNeg) hx hb hK G (waC_11 ..) (t0 := 2) rfl rfl h_g11 dX7_find_61 ?_
        refine lv_iload hx hb dX7_find_62 (lv_at hl 5 rfl) ?_
        refine lv_icmp_ne (tgt := 71) hx hb dX7_find_64 (by decide) (fun c12 => ?_) (fun c12 => ?_)
        · replace hf := if_n hf c12
          exact kx_Wo_find_b71 C v4 st5 _ _ hf _ _ _ (lv_sub hl [0] rfl) G
        · replace hf := if_p hf c12
          refine lv_iconst (v := 1) hx hb dX7_find_67 (by decide) ?_
          refine lv_goto (tgt := 72) hx hb dX7_find_68 (by decide) ?_
          exact kx_Wo_find_b72 C v4 1 st5 _ _ hf _ _ _ (lv_sub hl [0] rfl) G
    · replace hf := if_p hf c7
      refine lv_bipush (v := (-7)) hx hb dX7_find_39 (by decide) ?_
      exact rt_iC C G hf dX7_find_41
  · replace hf := if_n hf c2
    refine lv_bipush (v := (-6)) hx hb dX7_find_16 (by decide) ?_
    exact rt_iC C G hf dX7_find_18
def rm_Rr_invokeEntry : Room := { frames := 2, cells := 0, slots := 0, locals := 50 }
set_option maxHeartbeats 4000000 in
set_option maxRecDepth 100000 in
theorem kx_Rr_invokeEntry (l : Launch) (D : va_G) (k : Nat → Nat × ClassId) (h : Nat → Nat) (N : Nat) (p1 : Int32) (p2 : Int32) (st : rs_T) (s' : rs_T) (hf : fx_Rr_invokeEntry N p1 p2 st = some s') : mVC l D k h yX5_invokeEntry cX5_invokeEntry 4 rm_Rr_invokeEntry [.ref (h 8), .int p1, .int p2] st s' := by
  refine mVC_of (by decide) ⟨rfl, rfl⟩ (Nat.le_of_ble_eq_true rfl) ?_
  intro p e s m below meth c ls C hl G
  obtain ⟨hx, hb, hml, hr, hown, hts, hK, hN, hlk⟩ := id C
  have hown : s.vm.findClass RX5 = some m.cls := hown
  have hl : lv_has ls 4 [(0, .ref (h 8)), (1, .int p1), (2, .int p2)] := hl
  unfold fx_Rr_invokeEntry at hf
  refine lv_aload_n hx hb dX5_invokeEntry_0 rfl (lv_at hl 0 rfl) ?_
  refine fg_Rr_world hx hb hts hown hK G (hts _ lk_X5_19) dX5_invokeEntry_1 ?_
  refine lv_aload_n hx hb dX5_invokeEntry_4 rfl (lv_at hl 0 rfl) ?_
  refine lv_iload_n hx hb dX5_invokeEntry_5 rfl (lv_at hl 1 rfl) ?_
  refine lv_aload_n hx hb dX5_invokeEntry_6 rfl (lv_at hl 0 rfl) ?_
  refine fg_Rr_code hx hb hts hown hK G (hts _ lk_X5_15) dX5_invokeEntry_7 ?_
  refine fg_Rc_y hx hb hts hown hK G (hts _ lk_X5_86) dX5_invokeEntry_10 ?_
  refine lv_iload_n hx hb dX5_invokeEntry_13 rfl (lv_at hl 2 rfl) ?_
  obtain ⟨h_g1, hf⟩ := gd_some hf
  refine ra_IC (v := rA st 27 p2.toNatClampNeg) hx hb hK G (waC_40 ..) (t0 := 31) rfl rfl h_g1 dX5_invokeEntry_14 ?_
  obtain ⟨r3, st2, hst2, hf⟩ := bn_some hf
  refine cl_vlC C hl G (As := [.int p1, .int (rA st 27 p2.toNatClampNeg)]) (rest := [.ref (h 3)]) (kx_Rr_read l D k h p1 (rA st 27 p2.toNatClampNeg) st _ _ hst2) gi_X5_65 (hwC_8 ..) rfl hd_X5_read ⟨Nat.le_of_ble_eq_true rfl, Nat.le_of_ble_eq_true rfl⟩ rfl rfl (Nat.le_of_ble_eq_true rfl) dX5_invokeEntry_15 ⟨Nat.zero_le _, Nat.zero_le _⟩ (fun H locs e0 G => ?_)
  refine lv_aload_n hx hb dX5_invokeEntry_18 rfl (lv_at hl 0 rfl) ?_
  refine fg_Rr_code hx hb hts hown hK G (hts _ lk_X5_15) dX5_invokeEntry_19 ?_
  refine fg_Rc_to hx hb hts hown hK G (hts _ lk_X5_59) dX5_invokeEntry_22 ?_
  refine lv_iload_n hx hb dX5_invokeEntry_25 rfl (lv_at hl 2 rfl) ?_
  obtain ⟨h_g4, hf⟩ := gd_some hf
  refine ra_IC (v := rA st2 25 p2.toNatClampNeg) hx hb hK G (waC_38 ..) (t0 := 29) rfl rfl h_g4 dX5_invokeEntry_26 ?_
  refine lv_aload_n hx hb dX5_invokeEntry_27 rfl (lv_at hl 0 rfl) ?_
  refine fg_Rr_code hx hb hts hown hK G (hts _ lk_X5_15) dX5_invokeEntry_28 ?_
  refine fg_Rc_z hx hb hts hown hK G (hts _ lk_X5_111) dX5_invokeEntry_31 ?_
  refine lv_iload_n hx hb dX5_invokeEntry_34 rfl (lv_at hl 2 rfl) ?_
  obtain ⟨h_g5, hf⟩ := gd_some hf
  refine ra_IC (v := rA st2 28 p2.toNatClampNeg) hx hb hK G (waC_41 ..) (t0 := 32) rfl rfl h_g5 dX5_invokeEntry_35 ?_
  refine lv_aload_n hx hb dX5_invokeEntry_36 rfl (lv_at hl 0 rfl) ?_
  refine fg_Rr_program hx hb hts hown hK G (hts _ lk_X5_9) dX5_invokeEntry_37 ?_
  obtain ⟨r7, st6, hst6, hf⟩ := bn_some hf
  refine cl_viC C hl G (As := [.long r3, .int (rA st2 25 p2.toNatClampNeg), .int (rA st2 28 p2.toNatClampNeg), .ref (h 1)]) (rest := []) (kx_Wo_find l D k h r3 (rA st2 25 p2.toNatClampNeg) (rA st2 28 p2.toNatClampNeg) st2 _ _ hst6) gi_X5_174 (hwC_3 ..) rfl hd_X7_find ⟨Nat.le_of_ble_eq_true rfl, Nat.le_of_ble_eq_true rfl⟩ rfl rfl (Nat.le_of_ble_eq_true rfl) dX5_invokeEntry_40 ⟨Nat.zero_le _, Nat.zero_le _⟩ (fun H locs e0 G => ?_)
  refine lv_istore_n (lv' := [(3, .int r7), (0, .ref (h 8)), (1, .int p1), (2, .int p2)]) hx hb dX5_invokeEntry_43 rfl hl (by decide) rfl (fun ls hl => ?_)
  refine lv_iload_n hx hb dX5_invokeEntry_44 rfl (lv_at hl 0 rfl) ?_
  refine lv_if_ge (tgt := 60) hx hb dX5_invokeEntry_45 (by decide) (fun c8 => ?_) (fun c8 => ?_)
  · replace hf := if_p hf c8
    refine lv_aload_n hx hb dX5_invokeEntry_60 rfl (lv_at hl 1 rfl) ?_
    refine fg_Rr_activity hx hb hts hown hK G (hts _ lk_X5_23) dX5_invokeEntry_61 ?_
    refine lv_iload_n hx hb dX5_invokeEntry_64 rfl (lv_at hl 0 rfl) ?_
    refine lv_aload_n hx hb dX5_invokeEntry_65 rfl (lv_at hl 1 rfl) ?_
    refine fg_Rr_activity hx hb hts hown hK G (hts _ lk_X5_23) dX5_invokeEntry_66 ?_
    refine fg_Ac_values hx hb hts hown hK G (hts _ lk_X5_153) dX5_invokeEntry_69 ?_
    refine lv_aload_n hx hb dX5_invokeEntry_72 rfl (lv_at hl 1 rfl) ?_
    refine fg_Rr_activity hx hb hts hown hK G (hts _ lk_X5_23) dX5_invokeEntry_73 ?_
    refine fg_Ac_base hx hb hts hown hK G (hts _ lk_X5_147) dX5_invokeEntry_76 ?_
    refine lv_iload_n hx hb dX5_invokeEntry_79 rfl (lv_at hl 2 rfl) ?_
    obtain ⟨h_g9, hf⟩ := gd_some hf
    refine ra_IC (v := rA st6 19 p1.toNatClampNeg) hx hb hK G (waC_30 ..) (t0 := 21) rfl rfl h_g9 dX5_invokeEntry_80 ?_
    refine lv_aload_n hx hb dX5_invokeEntry_81 rfl (lv_at hl 1 rfl) ?_
    refine fg_Rr_code hx hb hts hown hK G (hts _ lk_X5_15) dX5_invokeEntry_82 ?_
    refine fg_Rc_x hx hb hts hown hK G (hts _ lk_X5_62) dX5_invokeEntry_85 ?_
    refine lv_iload_n hx hb dX5_invokeEntry_88 rfl (lv_at hl 3 rfl) ?_
    obtain ⟨h_g10, hf⟩ := gd_some hf
    refine ra_IC (v := rA st6 26 p2.toNatClampNeg) hx hb hK G (waC_39 ..) (t0 := 30) rfl rfl h_g10 dX5_invokeEntry_89 ?_
    refine lv_iadd hx hb dX5_invokeEntry_90 ?_
    obtain ⟨st11, hst11, hf⟩ := bv_some hf
    refine cl_vvC C hl G (As := [.int r7, .ref (k 33).1, .int ((rA st6 19 p1.toNatClampNeg) + (rA st6 26 p2.toNatClampNeg))]) (rest := []) (kx_Ac_enter_v l D k h N r7 ((rA st6 19 p1.toNatClampNeg) + (rA st6 26 p2.toNatClampNeg)) st6 _ hst11) gi_X5_156 (hwC_4 ..) rfl hd_X0_enter ⟨Nat.le_of_ble_eq_true rfl, Nat.le_of_ble_eq_true rfl⟩ rfl rfl (Nat.le_of_ble_eq_true rfl) dX5_invokeEntry_91 ⟨Nat.zero_le _, Nat.zero_le _⟩ (fun H locs e0 G => ?_)
    exact rt_vC C G hf dX5_invokeEntry_94
  · replace hf := if_n hf c8
    refine lv_aload_n hx hb dX5_invokeEntry_48 rfl (lv_at hl 1 rfl) ?_
    refine fg_Rr_activity hx hb hts hown hK G (hts _ lk_X5_23) dX5_invokeEntry_49 ?_
    refine lv_iload_n hx hb dX5_invokeEntry_52 rfl (lv_at hl 0 rfl) ?_
    refine lv_ineg hx hb dX5_invokeEntry_53 ?_
    obtain ⟨st12, hst12, hf⟩ := bv_some hf
    refine cl_vvC C hl G (As := [.int (-r7)]) (rest := []) (kx_Ac_fail l D k h (-r7) st6 _ hst12) gi_X5_95 (hwC_4 ..) rfl hd_X0_fail ⟨Nat.le_of_ble_eq_true rfl, Nat.le_of_ble_eq_true rfl⟩ rfl rfl (Nat.le_of_ble_eq_true rfl) dX5_invokeEntry_54 ⟨Nat.zero_le _, Nat.zero_le _⟩ (fun H locs e0 G => ?_)
    refine lv_goto (tgt := 94) hx hb dX5_invokeEntry_57 (by decide) ?_
    exact rt_vC C G hf dX5_invokeEntry_94
def rm_Rr_control : Room := { frames := 3, cells := 0, slots := 0, locals := 73 }
set_option maxHeartbeats 4000000 in
set_option maxRecDepth 100000 in
theorem kx_Rr_control (l : Launch) (D : va_G) (k : Nat → Nat × ClassId) (h : Nat → Nat) (N : Nat) (p1 : Int32) (p2 : Int32) (p3 : Int32) (st : rs_T) (s' : rs_T) (hf : fx_Rr_control N p1 p2 p3 st = some s') : mVC l D k h yX5_control cX5_control 4 rm_Rr_control [.ref (h 8), .int p1, .int p2, .int p3] st s' := by
  refine mVC_of (by decide) ⟨rfl, rfl⟩ (Nat.le_of_ble_eq_true rfl) ?_
  intro p e s m below meth c ls C hl G
  obtain ⟨hx, hb, hml, hr, hown, hts, hK, hN, hlk⟩ := id C
  have hown : s.vm.findClass RX5 = some m.cls := hown
  have hl : lv_has ls 4 [(0, .ref (h 8)), (1, .int p1), (2, .int p2), (3, .int p3)] := hl
  unfold fx_Rr_control at hf
  refine lv_iload_n hx hb dX5_control_0 rfl (lv_at hl 2 rfl) ?_
  by_cases s1_0 : p2 ∈ ([0] : List Int32)
  · replace hf := if_p hf s1_0
    refine sw_tb (tgt := 88) (off := 87) hx hb dX5_control_1 (sw_tbt s1_0 (by decide)) (by decide) (by decide) ?_
    refine lv_aload_n hx hb dX5_control_88 rfl (lv_at hl 0 rfl) ?_
    refine fg_Rr_activity hx hb hts hown hK G (hts _ lk_X5_23) dX5_control_89 ?_
    refine lv_iconst (v := 1) hx hb dX5_control_92 (by decide) ?_
    obtain ⟨st2, hst2, hf⟩ := bv_some hf
    refine cl_vvC C hl G (As := [.int 1]) (rest := []) (kx_Ac_fail l D k h 1 st _ hst2) gi_X5_95 (hwC_4 ..) rfl hd_X0_fail ⟨Nat.le_of_ble_eq_true rfl, Nat.le_of_ble_eq_true rfl⟩ rfl rfl (Nat.le_of_ble_eq_true rfl) dX5_control_93 ⟨Nat.zero_le _, Nat.zero_le _⟩ (fun H locs e0 G => ?_)
    refine lv_goto (tgt := 263) hx hb dX5_control_96 (by decide) ?_
    exact rt_vC C G hf dX5_control_263
  replace hf := if_n hf s1_0
  by_cases s1_1 : p2 ∈ ([4] : List Int32)
  · replace hf := if_p hf s1_1
    refine sw_tb (tgt := 99) (off := 98) hx hb dX5_control_1 (sw_tbt s1_1 (by decide)) (by decide) (by decide) ?_
    refine lv_aload_n hx hb dX5_control_99 rfl (lv_at hl 0 rfl) ?_
    refine lv_iload_n hx hb dX5_control_100 rfl (lv_at hl 1 rfl) ?_
    refine lv_iload_n hx hb dX5_control_101 rfl (lv_at hl 3 rfl) ?_
    obtain ⟨r4, st3, hst3, hf⟩ := bn_some hf
    refine cl_viC C hl G (As := [.int p1, .int p3]) (rest := []) (kx_Rr_isZero l D k h p1 p3 st _ _ hst3) gi_X5_135 (hwC_8 ..) rfl hd_X5_isZero ⟨Nat.le_of_ble_eq_true rfl, Nat.le_of_ble_eq_true rfl⟩ rfl rfl (Nat.le_of_ble_eq_true rfl) dX5_control_102 ⟨Nat.zero_le _, Nat.zero_le _⟩ (fun H locs e0 G => ?_)
    refine lv_if_eq (tgt := 263) hx hb dX5_control_105 (by decide) (fun c5 => ?_) (fun c5 => ?_)
    · replace hf := if_p hf c5
      exact rt_vC C G hf dX5_control_263
    · replace hf := if_n hf c5
      refine lv_aload_n hx hb dX5_control_108 rfl (lv_at hl 0 rfl) ?_
      refine fg_Rr_activity hx hb hts hown hK G (hts _ lk_X5_23) dX5_control_109 ?_
      refine fg_Ac_next hx hb hts hown hK G (hts _ lk_X5_56) dX5_control_112 ?_
      refine lv_iload_n hx hb dX5_control_115 rfl (lv_at hl 1 rfl) ?_
      refine lv_aload_n hx hb dX5_control_116 rfl (lv_at hl 0 rfl) ?_
      refine fg_Rr_code hx hb hts hown hK G (hts _ lk_X5_15) dX5_control_117 ?_
      refine fg_Rc_z hx hb hts hown hK G (hts _ lk_X5_111) dX5_control_120 ?_
      refine lv_iload_n hx hb dX5_control_123 rfl (lv_at hl 3 rfl) ?_
      obtain ⟨h_g6, hf⟩ := gd_some hf
      refine ra_IC (v := rA st3 28 p3.toNatClampNeg) hx hb hK G (waC_41 ..) (t0 := 32) rfl rfl h_g6 dX5_control_124 ?_
      obtain ⟨h_g7, hf⟩ := gd_some hf
      refine rw_IC hx hb hK G (waC_29 ..) (t0 := 20) rfl (wsC_29 ..) (zw_29 h_g7) rfl h_g7 dX5_control_125 (fun H locs G => ?_)
      refine lv_goto (tgt := 263) hx hb dX5_control_126 (by decide) ?_
      exact rt_vC C G hf dX5_control_263
  replace hf := if_n hf s1_1
  by_cases s1_2 : p2 ∈ ([12] : List Int32)
  · replace hf := if_p hf s1_2
    refine sw_tb (tgt := 129) (off := 128) hx hb dX5_control_1 (sw_tbt s1_2 (by decide)) (by decide) (by decide) ?_
    refine lv_aload_n hx hb dX5_control_129 rfl (lv_at hl 0 rfl) ?_
    refine lv_iload_n hx hb dX5_control_130 rfl (lv_at hl 1 rfl) ?_
    refine lv_iload_n hx hb dX5_control_131 rfl (lv_at hl 3 rfl) ?_
    obtain ⟨st8, hst8, hf⟩ := bv_some hf
    refine cl_vvC C hl G (As := [.int p1, .int p3]) (rest := []) (kx_Rr_branch l D k h N p1 p3 st _ hst8) gi_X5_139 (hwC_8 ..) rfl hd_X5_branch ⟨Nat.le_of_ble_eq_true rfl, Nat.le_of_ble_eq_true rfl⟩ rfl rfl (Nat.le_of_ble_eq_true rfl) dX5_control_132 ⟨Nat.zero_le _, Nat.zero_le _⟩ (fun H locs e0 G => ?_)
    refine lv_goto (tgt := 263) hx hb dX5_control_135 (by decide) ?_
    exact rt_vC C G hf dX5_control_263
  replace hf := if_n hf s1_2
  by_cases s1_3 : p2 ∈ ([13] : List Int32)
  · replace hf := if_p hf s1_3
    refine sw_tb (tgt := 138) (off := 137) hx hb dX5_control_1 (sw_tbt s1_3 (by decide)) (by decide) (by decide) ?_
    refine lv_aload_n hx hb dX5_control_138 rfl (lv_at hl 0 rfl) ?_
    refine lv_iload_n hx hb dX5_control_139 rfl (lv_at hl 1 rfl) ?_
    refine lv_iload_n hx hb dX5_control_140 rfl (lv_at hl 3 rfl) ?_
    obtain ⟨r10, st9, hst9, hf⟩ := bn_some hf
    refine cl_viC C hl G (As := [.int p1, .int p3]) (rest := []) (kx_Rr_isZero l D k h p1 p3 st _ _ hst9) gi_X5_135 (hwC_8 ..) rfl hd_X5_isZero ⟨Nat.le_of_ble_eq_true rfl, Nat.le_of_ble_eq_true rfl⟩ rfl rfl (Nat.le_of_ble_eq_true rfl) dX5_control_141 ⟨Nat.zero_le _, Nat.zero_le _⟩ (fun H locs e0 G => ?_)
    refine lv_if_eq (tgt := 263) hx hb dX5_control_144 (by decide) (fun c11 => ?_) (fun c11 => ?_)
    · replace hf := if_p hf c11
      exact rt_vC C G hf dX5_control_263
    · replace hf := if_n hf c11
      refine lv_aload_n hx hb dX5_control_147 rfl (lv_at hl 0 rfl) ?_
      refine fg_Rr_activity hx hb hts hown hK G (hts _ lk_X5_23) dX5_control_148 ?_
      refine fg_Ac_next hx hb hts hown hK G (hts _ lk_X5_56) dX5_control_151 ?_
      refine lv_iload_n hx hb dX5_control_154 rfl (lv_at hl 1 rfl) ?_
      refine lv_iload_n hx hb dX5_control_155 rfl (lv_at hl 3 rfl) ?_
      refine lv_iconst (v := 2) hx hb dX5_control_156 (by decide) ?_
      refine lv_iadd hx hb dX5_control_157 ?_
      obtain ⟨h_g12, hf⟩ := gd_some hf
      refine rw_IC hx hb hK G (waC_29 ..) (t0 := 20) rfl (wsC_29 ..) (zw_29 h_g12) rfl h_g12 dX5_control_158 (fun H locs G => ?_)
      refine lv_goto (tgt := 263) hx hb dX5_control_159 (by decide) ?_
      exact rt_vC C G hf dX5_control_263
  replace hf := if_n hf s1_3
  by_cases s1_4 : p2 ∈ ([14] : List Int32)
  · replace hf := if_p hf s1_4
    refine sw_tb (tgt := 162) (off := 161) hx hb dX5_control_1 (sw_tbt s1_4 (by decide)) (by decide) (by decide) ?_
    refine lv_aload_n hx hb dX5_control_162 rfl (lv_at hl 0 rfl) ?_
    refine fg_Rr_activity hx hb hts hown hK G (hts _ lk_X5_23) dX5_control_163 ?_
    refine fg_Ac_next hx hb hts hown hK G (hts _ lk_X5_56) dX5_control_166 ?_
    refine lv_iload_n hx hb dX5_control_169 rfl (lv_at hl 1 rfl) ?_
    refine lv_aload_n hx hb dX5_control_170 rfl (lv_at hl 0 rfl) ?_
    refine lv_iload_n hx hb dX5_control_171 rfl (lv_at hl 1 rfl) ?_
    refine lv_iload_n hx hb dX5_control_172 rfl (lv_at hl 3 rfl) ?_
    obtain ⟨r14, st13, hst13, hf⟩ := bn_some hf
    refine cl_viC C hl G (As := [.int p1, .int p3]) (rest := [.int p1, .ref (k 29).1]) (kx_Rr_tableEntry l D k h p1 p3 st _ _ hst13) gi_X5_143 (hwC_8 ..) rfl hd_X5_tableEntry ⟨Nat.le_of_ble_eq_true rfl, Nat.le_of_ble_eq_true rfl⟩ rfl rfl (Nat.le_of_ble_eq_true rfl) dX5_control_173 ⟨Nat.zero_le _, Nat.zero_le _⟩ (fun H locs e0 G => ?_)
    obtain ⟨h_g15, hf⟩ := gd_some hf
    refine rw_IC hx hb hK G (waC_29 ..) (t0 := 20) rfl (wsC_29 ..) (zw_29 h_g15) rfl h_g15 dX5_control_176 (fun H locs G => ?_)
    refine lv_goto (tgt := 263) hx hb dX5_control_177 (by decide) ?_
    exact rt_vC C G hf dX5_control_263
  replace hf := if_n hf s1_4
  by_cases s1_5 : p2 ∈ ([15] : List Int32)
  · replace hf := if_p hf s1_5
    refine sw_tb (tgt := 180) (off := 179) hx hb dX5_control_1 (sw_tbt s1_5 (by decide)) (by decide) (by decide) ?_
    refine lv_aload_n hx hb dX5_control_180 rfl (lv_at hl 0 rfl) ?_
    refine fg_Rr_activity hx hb hts hown hK G (hts _ lk_X5_23) dX5_control_181 ?_
    refine lv_aload_n hx hb dX5_control_184 rfl (lv_at hl 0 rfl) ?_
    refine fg_Rr_activity hx hb hts hown hK G (hts _ lk_X5_23) dX5_control_185 ?_
    refine fg_Ac_base hx hb hts hown hK G (hts _ lk_X5_147) dX5_control_188 ?_
    refine lv_iload_n hx hb dX5_control_191 rfl (lv_at hl 1 rfl) ?_
    obtain ⟨h_g16, hf⟩ := gd_some hf
    refine ra_IC (v := rA st 19 p1.toNatClampNeg) hx hb hK G (waC_30 ..) (t0 := 21) rfl rfl h_g16 dX5_control_192 ?_
    refine lv_aload_n hx hb dX5_control_193 rfl (lv_at hl 0 rfl) ?_
    refine fg_Rr_code hx hb hts hown hK G (hts _ lk_X5_15) dX5_control_194 ?_
    refine fg_Rc_x hx hb hts hown hK G (hts _ lk_X5_62) dX5_control_197 ?_
    refine lv_iload_n hx hb dX5_control_200 rfl (lv_at hl 3 rfl) ?_
    obtain ⟨h_g17, hf⟩ := gd_some hf
    refine ra_IC (v := rA st 26 p3.toNatClampNeg) hx hb hK G (waC_39 ..) (t0 := 30) rfl rfl h_g17 dX5_control_201 ?_
    refine lv_iadd hx hb dX5_control_202 ?_
    obtain ⟨st18, hst18, hf⟩ := bv_some hf
    refine cl_vvC C hl G (As := [.int ((rA st 19 p1.toNatClampNeg) + (rA st 26 p3.toNatClampNeg))]) (rest := []) (kx_Ac_leave l D k h N ((rA st 19 p1.toNatClampNeg) + (rA st 26 p3.toNatClampNeg)) st _ hst18) gi_X5_150 (hwC_4 ..) rfl hd_X0_leave ⟨Nat.le_of_ble_eq_true rfl, Nat.le_of_ble_eq_true rfl⟩ rfl rfl (Nat.le_of_ble_eq_true rfl) dX5_control_203 ⟨Nat.zero_le _, Nat.zero_le _⟩ (fun H locs e0 G => ?_)
    refine lv_goto (tgt := 263) hx hb dX5_control_206 (by decide) ?_
    exact rt_vC C G hf dX5_control_263
  replace hf := if_n hf s1_5
  by_cases s1_6 : p2 ∈ ([16] : List Int32)
  · replace hf := if_p hf s1_6
    refine sw_tb (tgt := 209) (off := 208) hx hb dX5_control_1 (sw_tbt s1_6 (by decide)) (by decide) (by decide) ?_
    refine lv_aload_n hx hb dX5_control_209 rfl (lv_at hl 0 rfl) ?_
    refine fg_Rr_activity hx hb hts hown hK G (hts _ lk_X5_23) dX5_control_210 ?_
    refine lv_aload_n hx hb dX5_control_213 rfl (lv_at hl 0 rfl) ?_
    refine fg_Rr_code hx hb hts hown hK G (hts _ lk_X5_15) dX5_control_214 ?_
    refine fg_Rc_y hx hb hts hown hK G (hts _ lk_X5_86) dX5_control_217 ?_
    refine lv_iload_n hx hb dX5_control_220 rfl (lv_at hl 3 rfl) ?_
    obtain ⟨h_g19, hf⟩ := gd_some hf
    refine ra_IC (v := rA st 27 p3.toNatClampNeg) hx hb hK G (waC_40 ..) (t0 := 31) rfl rfl h_g19 dX5_control_221 ?_
    refine lv_aload_n hx hb dX5_control_222 rfl (lv_at hl 0 rfl) ?_
    refine fg_Rr_activity hx hb hts hown hK G (hts _ lk_X5_23) dX5_control_223 ?_
    refine fg_Ac_values hx hb hts hown hK G (hts _ lk_X5_153) dX5_control_226 ?_
    refine lv_aload_n hx hb dX5_control_229 rfl (lv_at hl 0 rfl) ?_
    refine fg_Rr_activity hx hb hts hown hK G (hts _ lk_X5_23) dX5_control_230 ?_
    refine fg_Ac_base hx hb hts hown hK G (hts _ lk_X5_147) dX5_control_233 ?_
    refine lv_iload_n hx hb dX5_control_236 rfl (lv_at hl 1 rfl) ?_
    obtain ⟨h_g20, hf⟩ := gd_some hf
    refine ra_IC (v := rA st 19 p1.toNatClampNeg) hx hb hK G (waC_30 ..) (t0 := 21) rfl rfl h_g20 dX5_control_237 ?_
    refine lv_aload_n hx hb dX5_control_238 rfl (lv_at hl 0 rfl) ?_
    refine fg_Rr_code hx hb hts hown hK G (hts _ lk_X5_15) dX5_control_239 ?_
    refine fg_Rc_x hx hb hts hown hK G (hts _ lk_X5_62) dX5_control_242 ?_
    refine lv_iload_n hx hb dX5_control_245 rfl (lv_at hl 3 rfl) ?_
    obtain ⟨h_g21, hf⟩ := gd_some hf
    refine ra_IC (v := rA st 26 p3.toNatClampNeg) hx hb hK G (waC_39 ..) (t0 := 30) rfl rfl h_g21 dX5_control_246 ?_
    refine lv_iadd hx hb dX5_control_247 ?_
    obtain ⟨st22, hst22, hf⟩ := bv_some hf
    refine cl_vvC C hl G (As := [.int (rA st 27 p3.toNatClampNeg), .ref (k 33).1, .int ((rA st 19 p1.toNatClampNeg) + (rA st 26 p3.toNatClampNeg))]) (rest := []) (kx_Ac_enter_v l D k h N (rA st 27 p3.toNatClampNeg) ((rA st 19 p1.toNatClampNeg) + (rA st 26 p3.toNatClampNeg)) st _ hst22) gi_X5_156 (hwC_4 ..) rfl hd_X0_enter ⟨Nat.le_of_ble_eq_true rfl, Nat.le_of_ble_eq_true rfl⟩ rfl rfl (Nat.le_of_ble_eq_true rfl) dX5_control_248 ⟨Nat.zero_le _, Nat.zero_le _⟩ (fun H locs e0 G => ?_)
    refine lv_goto (tgt := 263) hx hb dX5_control_251 (by decide) ?_
    exact rt_vC C G hf dX5_control_263
  replace hf := if_n hf s1_6
  by_cases s1_7 : p2 ∈ ([17] : List Int32)
  · replace hf := if_p hf s1_7
    refine sw_tb (tgt := 254) (off := 253) hx hb dX5_control_1 (sw_tbt s1_7 (by decide)) (by decide) (by decide) ?_
    refine lv_aload_n hx hb dX5_control_254 rfl (lv_at hl 0 rfl) ?_
    refine lv_iload_n hx hb dX5_control_255 rfl (lv_at hl 1 rfl) ?_
    refine lv_iload_n hx hb dX5_control_256 rfl (lv_at hl 3 rfl) ?_
    obtain ⟨st23, hst23, hf⟩ := bv_some hf
    refine cl_vvC C hl G (As := [.int p1, .int p3]) (rest := []) (kx_Rr_invokeEntry l D k h N p1 p3 st _ hst23) gi_X5_160 (hwC_8 ..) rfl hd_X5_invokeEntry ⟨Nat.le_of_ble_eq_true rfl, Nat.le_of_ble_eq_true rfl⟩ rfl rfl (Nat.le_of_ble_eq_true rfl) dX5_control_257 ⟨Nat.zero_le _, Nat.zero_le _⟩ (fun H locs e0 G => ?_)
    refine lv_goto (tgt := 263) hx hb dX5_control_260 (by decide) ?_
    exact rt_vC C G hf dX5_control_263
  replace hf := if_n hf s1_7
  refine sw_tb (tgt := 263) (off := 262) hx hb dX5_control_1 (sw_tbd (sw_cons s1_0 (sw_cons s1_1 (sw_cons s1_2 (sw_cons s1_3 (sw_cons s1_4 (sw_cons s1_5 (sw_cons s1_6 (sw_cons s1_7 sw_nil)))))))) (by decide)) (by decide) (by decide) ?_
  exact rt_vC C G hf dX5_control_263
def rm_Ac_setValue : Room := { frames := 0, cells := 0, slots := 0, locals := 0 }
set_option maxHeartbeats 4000000 in
set_option maxRecDepth 100000 in
theorem kx_Ac_setValue (l : Launch) (D : va_G) (k : Nat → Nat × ClassId) (h : Nat → Nat) (p1 : Int32) (p2 : Int64) (st : rs_T) (s' : rs_T) (hf : fx_Ac_setValue p1 p2 st = some s') : mVC l D k h yX0_setValue cX0_setValue 4 rm_Ac_setValue [.ref (h 4), .int p1, .long p2] st s' := by
  refine mVC_of (by decide) ⟨rfl, rfl⟩ (Nat.le_of_ble_eq_true rfl) ?_
  intro p e s m below meth c ls C hl G
  obtain ⟨hx, hb, hml, hr, hown, hts, hK, hN, hlk⟩ := id C
  have hown : s.vm.findClass RX0 = some m.cls := hown
  have hl : lv_has ls 4 [(0, .ref (h 4)), (1, .int p1), (2, .long p2)] := hl
  unfold fx_Ac_setValue at hf
  refine lv_iload_n hx hb dX0_setValue_0 rfl (lv_at hl 1 rfl) ?_
  refine lv_if_lt (tgt := 18) hx hb dX0_setValue_1 (by decide) (fun c1 => ?_) (fun c1 => ?_)
  · replace hf := if_p hf c1
    exact rt_vC C G hf dX0_setValue_18
  · replace hf := if_n hf c1
    refine lv_iload_n hx hb dX0_setValue_4 rfl (lv_at hl 1 rfl) ?_
    refine lv_sipush (v := 220) hx hb dX0_setValue_5 (by decide) ?_
    refine lv_icmp_ge (tgt := 18) hx hb dX0_setValue_8 (by decide) (fun c2 => ?_) (fun c2 => ?_)
    · replace hf := if_p hf c2
      exact rt_vC C G hf dX0_setValue_18
    · replace hf := if_n hf c2
      refine lv_aload_n hx hb dX0_setValue_11 rfl (lv_at hl 0 rfl) ?_
      refine fg_Ac_values hx hb hts hown hK G (hts _ lk_X0_28) dX0_setValue_12 ?_
      refine lv_iload_n hx hb dX0_setValue_15 rfl (lv_at hl 1 rfl) ?_
      refine lv_lload_n hx hb dX0_setValue_16 rfl (lv_at hl 2 rfl) ?_
      obtain ⟨h_g3, hf⟩ := gd_some hf
      refine rw_JC hx hb hK G (waC_33 ..) (t0 := 24) rfl (wsC_33 ..) (zw_33 h_g3) rfl h_g3 dX0_setValue_17 (fun H locs G => ?_)
      exact rt_vC C G hf dX0_setValue_18
def rm_Rr_setRegister : Room := { frames := 1, cells := 0, slots := 0, locals := 23 }
set_option maxHeartbeats 4000000 in
set_option maxRecDepth 100000 in
theorem kx_Rr_setRegister (l : Launch) (D : va_G) (k : Nat → Nat × ClassId) (h : Nat → Nat) (p1 : Int32) (p2 : Int32) (p3 : Int64) (st : rs_T) (s' : rs_T) (hf : fx_Rr_setRegister p1 p2 p3 st = some s') : mVC l D k h yX5_setRegister cX5_setRegister 5 rm_Rr_setRegister [.ref (h 8), .int p1, .int p2, .long p3] st s' := by
  refine mVC_of (by decide) ⟨rfl, rfl⟩ (Nat.le_of_ble_eq_true rfl) ?_
  intro p e s m below meth c ls C hl G
  obtain ⟨hx, hb, hml, hr, hown, hts, hK, hN, hlk⟩ := id C
  have hown : s.vm.findClass RX5 = some m.cls := hown
  have hl : lv_has ls 5 [(0, .ref (h 8)), (1, .int p1), (2, .int p2), (3, .long p3)] := hl
  unfold fx_Rr_setRegister at hf
  refine lv_aload_n hx hb dX5_setRegister_0 rfl (lv_at hl 0 rfl) ?_
  refine fg_Rr_activity hx hb hts hown hK G (hts _ lk_X5_23) dX5_setRegister_1 ?_
  refine lv_aload_n hx hb dX5_setRegister_4 rfl (lv_at hl 0 rfl) ?_
  refine fg_Rr_activity hx hb hts hown hK G (hts _ lk_X5_23) dX5_setRegister_5 ?_
  refine fg_Ac_base hx hb hts hown hK G (hts _ lk_X5_147) dX5_setRegister_8 ?_
  refine lv_iload_n hx hb dX5_setRegister_11 rfl (lv_at hl 1 rfl) ?_
  obtain ⟨h_g1, hf⟩ := gd_some hf
  refine ra_IC (v := rA st 19 p1.toNatClampNeg) hx hb hK G (waC_30 ..) (t0 := 21) rfl rfl h_g1 dX5_setRegister_12 ?_
  refine lv_iload_n hx hb dX5_setRegister_13 rfl (lv_at hl 2 rfl) ?_
  refine lv_iadd hx hb dX5_setRegister_14 ?_
  refine lv_lload_n hx hb dX5_setRegister_15 rfl (lv_at hl 3 rfl) ?_
  obtain ⟨st2, hst2, hf⟩ := bv_some hf
  refine cl_vvC C hl G (As := [.int ((rA st 19 p1.toNatClampNeg) + p2), .long p3]) (rest := []) (kx_Ac_setValue l D k h ((rA st 19 p1.toNatClampNeg) + p2) p3 st _ hst2) gi_X5_187 (hwC_4 ..) rfl hd_X0_setValue ⟨Nat.le_of_ble_eq_true rfl, Nat.le_of_ble_eq_true rfl⟩ rfl rfl (Nat.le_of_ble_eq_true rfl) dX5_setRegister_16 ⟨Nat.zero_le _, Nat.zero_le _⟩ (fun H locs e0 G => ?_)
  exact rt_vC C G hf dX5_setRegister_19
def rm_Rr_useVariable : Room := { frames := 2, cells := 0, slots := 0, locals := 47 }
set_option maxHeartbeats 4000000 in
set_option maxRecDepth 100000 in
theorem kx_Rr_useVariable_b75 {p : Program} {l : Launch} {e : Env} {s : State} {m : MethodId} {args : Array Value} {below : List Frame} {meth : Method} {c : Code} {D : va_G} {h : Nat → Nat} {E : Nat → Nat} {k : Nat → Nat × ClassId} (C : cxC D k p s m args meth c cX5_useVariable 5 none RX5) (x1 : Int32) (x3 : Int32) (y0 : Int32) (st : rs_T) (s' : rs_T) (hf : fx_Rr_useVariable_b75 x1 x3 y0 st = some s') : ∀ (H : Heap) (locs : List Loc) (ls : Array Slot), lv_has ls 5 [(0, .ref (h 8)), (1, .int x1), (3, .int x3)] → gdC D k h (vE E) (arC k h s.heap.size) s.heap H locs st → W p l e rm_Rr_useVariable s m args below meth c H locs 0 0 (MQ below (qVC D k h E s.heap.size s') args s 0 0 (arC k h s.heap.size)) (F0 m 75 ls [.int y0]) := by
  obtain ⟨hx, hb, hml, hr, hown, hts, hK, hN, hlk⟩ := id C
  intro H locs ls hl G
  unfold fx_Rr_useVariable_b75 at hf
  refine lv_istore (lv' := [(4, .int y0), (0, .ref (h 8)), (1, .int x1), (3, .int x3)]) hx hb dX5_useVariable_75 hl (by decide) rfl (fun ls hl => ?_)
  refine lv_aload_n hx hb dX5_useVariable_77 rfl (lv_at hl 1 rfl) ?_
  refine lv_iload_n hx hb dX5_useVariable_78 rfl (lv_at hl 2 rfl) ?_
  refine lv_aload_n hx hb dX5_useVariable_79 rfl (lv_at hl 1 rfl) ?_
  refine fg_Rr_code hx hb hts hown hK G (hts _ lk_X5_15) dX5_useVariable_80 ?_
  refine fg_Rc_to hx hb hts hown hK G (hts _ lk_X5_59) dX5_useVariable_83 ?_
  refine lv_iload_n hx hb dX5_useVariable_86 rfl (lv_at hl 3 rfl) ?_
  obtain ⟨h_g7, hf⟩ := gd_some hf
  refine ra_IC (v := rA st 25 x3.toNatClampNeg) hx hb hK G (waC_38 ..) (t0 := 29) rfl rfl h_g7 dX5_useVariable_87 ?_
  refine lv_aload_n hx hb dX5_useVariable_88 rfl (lv_at hl 1 rfl) ?_
  refine lv_iload_n hx hb dX5_useVariable_89 rfl (lv_at hl 2 rfl) ?_
  refine lv_iload hx hb dX5_useVariable_90 (lv_at hl 0 rfl) ?_
  obtain ⟨r9, st8, hst8, hf⟩ := bn_some hf
  refine cl_vlC C hl G (As := [.int x1, .int y0]) (rest := [.int (rA st 25 x3.toNatClampNeg), .int x1, .ref (h 8)]) (kx_Rr_read l D k h x1 y0 st _ _ hst8) gi_X5_65 (hwC_8 ..) rfl hd_X5_read ⟨Nat.le_of_ble_eq_true rfl, Nat.le_of_ble_eq_true rfl⟩ rfl rfl (Nat.le_of_ble_eq_true rfl) dX5_useVariable_92 ⟨Nat.zero_le _, Nat.zero_le _⟩ (fun H locs e0 G => ?_)
  obtain ⟨st10, hst10, hf⟩ := bv_some hf
  refine cl_vvC C hl G (As := [.int x1, .int (rA st 25 x3.toNatClampNeg), .long r9]) (rest := []) (kx_Rr_setRegister l D k h x1 (rA st 25 x3.toNatClampNeg) r9 st8 _ hst10) gi_X5_69 (hwC_8 ..) rfl hd_X5_setRegister ⟨Nat.le_of_ble_eq_true rfl, Nat.le_of_ble_eq_true rfl⟩ rfl rfl (Nat.le_of_ble_eq_true rfl) dX5_useVariable_95 ⟨Nat.zero_le _, Nat.zero_le _⟩ (fun H locs e0 G => ?_)
  refine lv_goto (tgt := 169) hx hb dX5_useVariable_98 (by decide) ?_
  exact rt_vC C G hf dX5_useVariable_169
set_option maxHeartbeats 4000000 in
set_option maxRecDepth 100000 in
theorem kx_Rr_useVariable (l : Launch) (D : va_G) (k : Nat → Nat × ClassId) (h : Nat → Nat) (p1 : Int32) (p2 : Int32) (p3 : Int32) (st : rs_T) (s' : rs_T) (hf : fx_Rr_useVariable p1 p2 p3 st = some s') : mVC l D k h yX5_useVariable cX5_useVariable 5 rm_Rr_useVariable [.ref (h 8), .int p1, .int p2, .int p3] st s' := by
  refine mVC_of (by decide) ⟨rfl, rfl⟩ (Nat.le_of_ble_eq_true rfl) ?_
  intro p e s m below meth c ls C hl G
  obtain ⟨hx, hb, hml, hr, hown, hts, hK, hN, hlk⟩ := id C
  have hown : s.vm.findClass RX5 = some m.cls := hown
  have hl : lv_has ls 5 [(0, .ref (h 8)), (1, .int p1), (2, .int p2), (3, .int p3)] := hl
  unfold fx_Rr_useVariable at hf
  refine lv_iload_n hx hb dX5_useVariable_0 rfl (lv_at hl 2 rfl) ?_
  by_cases s1_0 : p2 ∈ ([27] : List Int32)
  · replace hf := if_p hf s1_0
    refine sw_lu (tgt := 36) (off := 35) hx hb dX5_useVariable_1 (by decide) (sw_lut s1_0 (by decide)) (by decide) ?_
    refine lv_aload_n hx hb dX5_useVariable_36 rfl (lv_at hl 0 rfl) ?_
    refine lv_iload_n hx hb dX5_useVariable_37 rfl (lv_at hl 1 rfl) ?_
    refine lv_aload_n hx hb dX5_useVariable_38 rfl (lv_at hl 0 rfl) ?_
    refine fg_Rr_code hx hb hts hown hK G (hts _ lk_X5_15) dX5_useVariable_39 ?_
    refine fg_Rc_z hx hb hts hown hK G (hts _ lk_X5_111) dX5_useVariable_42 ?_
    refine lv_iload_n hx hb dX5_useVariable_45 rfl (lv_at hl 3 rfl) ?_
    obtain ⟨h_g2, hf⟩ := gd_some hf
    refine ra_IC (v := rA st 28 p3.toNatClampNeg) hx hb hK G (waC_41 ..) (t0 := 32) rfl rfl h_g2 dX5_useVariable_46 ?_
    obtain ⟨r4, st3, hst3, hf⟩ := bn_some hf
    refine cl_vlC C hl G (As := [.int p1, .int (rA st 28 p3.toNatClampNeg)]) (rest := []) (kx_Rr_read l D k h p1 (rA st 28 p3.toNatClampNeg) st _ _ hst3) gi_X5_65 (hwC_8 ..) rfl hd_X5_read ⟨Nat.le_of_ble_eq_true rfl, Nat.le_of_ble_eq_true rfl⟩ rfl rfl (Nat.le_of_ble_eq_true rfl) dX5_useVariable_47 ⟨Nat.zero_le _, Nat.zero_le _⟩ (fun H locs e0 G => ?_)
    refine lv_l2i (v := r4.toInt32) hx hb dX5_useVariable_50 rfl ?_
    refine lv_if_eq (tgt := 66) hx hb dX5_useVariable_51 (by decide) (fun c5 => ?_) (fun c5 => ?_)
    · replace hf := if_p hf c5
      refine lv_aload_n hx hb dX5_useVariable_66 rfl (lv_at hl 0 rfl) ?_
      refine fg_Rr_code hx hb hts hown hK G (hts _ lk_X5_15) dX5_useVariable_67 ?_
      refine fg_Rc_y hx hb hts hown hK G (hts _ lk_X5_86) dX5_useVariable_70 ?_
      refine lv_iload_n hx hb dX5_useVariable_73 rfl (lv_at hl 3 rfl) ?_
      obtain ⟨h_g6, hf⟩ := gd_some hf
      refine ra_IC (v := rA st3 27 p3.toNatClampNeg) hx hb hK G (waC_40 ..) (t0 := 31) rfl rfl h_g6 dX5_useVariable_74 ?_
      exact kx_Rr_useVariable_b75 C p1 p3 (rA st3 27 p3.toNatClampNeg) st3 _ hf _ _ _ (lv_sub hl [0, 1, 3] rfl) G
    · replace hf := if_n hf c5
      refine lv_aload_n hx hb dX5_useVariable_54 rfl (lv_at hl 0 rfl) ?_
      refine fg_Rr_code hx hb hts hown hK G (hts _ lk_X5_15) dX5_useVariable_55 ?_
      refine fg_Rc_x hx hb hts hown hK G (hts _ lk_X5_62) dX5_useVariable_58 ?_
      refine lv_iload_n hx hb dX5_useVariable_61 rfl (lv_at hl 3 rfl) ?_
      obtain ⟨h_g11, hf⟩ := gd_some hf
      refine ra_IC (v := rA st3 26 p3.toNatClampNeg) hx hb hK G (waC_39 ..) (t0 := 30) rfl rfl h_g11 dX5_useVariable_62 ?_
      refine lv_goto (tgt := 75) hx hb dX5_useVariable_63 (by decide) ?_
      exact kx_Rr_useVariable_b75 C p1 p3 (rA st3 26 p3.toNatClampNeg) st3 _ hf _ _ _ (lv_sub hl [0, 1, 3] rfl) G
  replace hf := if_n hf s1_0
  by_cases s1_1 : p2 ∈ ([35] : List Int32)
  · replace hf := if_p hf s1_1
    refine sw_lu (tgt := 101) (off := 100) hx hb dX5_useVariable_1 (by decide) (sw_lut s1_1 (by decide)) (by decide) ?_
    refine lv_aload_n hx hb dX5_useVariable_101 rfl (lv_at hl 0 rfl) ?_
    refine lv_iload_n hx hb dX5_useVariable_102 rfl (lv_at hl 1 rfl) ?_
    refine lv_aload_n hx hb dX5_useVariable_103 rfl (lv_at hl 0 rfl) ?_
    refine fg_Rr_code hx hb hts hown hK G (hts _ lk_X5_15) dX5_useVariable_104 ?_
    refine fg_Rc_to hx hb hts hown hK G (hts _ lk_X5_59) dX5_useVariable_107 ?_
    refine lv_iload_n hx hb dX5_useVariable_110 rfl (lv_at hl 3 rfl) ?_
    obtain ⟨h_g12, hf⟩ := gd_some hf
    refine ra_IC (v := rA st 25 p3.toNatClampNeg) hx hb hK G (waC_38 ..) (t0 := 29) rfl rfl h_g12 dX5_useVariable_111 ?_
    refine lv_aload_n hx hb dX5_useVariable_112 rfl (lv_at hl 0 rfl) ?_
    refine fg_Rr_world hx hb hts hown hK G (hts _ lk_X5_19) dX5_useVariable_113 ?_
    refine fg_Wo_globals hx hb hts hown hK G (hts _ lk_X5_131) dX5_useVariable_116 ?_
    refine lv_aload_n hx hb dX5_useVariable_119 rfl (lv_at hl 0 rfl) ?_
    refine fg_Rr_code hx hb hts hown hK G (hts _ lk_X5_15) dX5_useVariable_120 ?_
    refine fg_Rc_z hx hb hts hown hK G (hts _ lk_X5_111) dX5_useVariable_123 ?_
    refine lv_iload_n hx hb dX5_useVariable_126 rfl (lv_at hl 3 rfl) ?_
    obtain ⟨h_g13, hf⟩ := gd_some hf
    refine ra_IC (v := rA st 28 p3.toNatClampNeg) hx hb hK G (waC_41 ..) (t0 := 32) rfl rfl h_g13 dX5_useVariable_127 ?_
    obtain ⟨h_g14, hf⟩ := gd_some hf
    refine ra_JC (v := rL st 1 ((rA st 28 p3.toNatClampNeg).toNatClampNeg)) hx hb hK G (waC_26 ..) (t0 := 17) rfl rfl h_g14 dX5_useVariable_128 ?_
    obtain ⟨st15, hst15, hf⟩ := bv_some hf
    refine cl_vvC C hl G (As := [.int p1, .int (rA st 25 p3.toNatClampNeg), .long (rL st 1 ((rA st 28 p3.toNatClampNeg).toNatClampNeg))]) (rest := []) (kx_Rr_setRegister l D k h p1 (rA st 25 p3.toNatClampNeg) (rL st 1 ((rA st 28 p3.toNatClampNeg).toNatClampNeg)) st _ hst15) gi_X5_69 (hwC_8 ..) rfl hd_X5_setRegister ⟨Nat.le_of_ble_eq_true rfl, Nat.le_of_ble_eq_true rfl⟩ rfl rfl (Nat.le_of_ble_eq_true rfl) dX5_useVariable_129 ⟨Nat.zero_le _, Nat.zero_le _⟩ (fun H locs e0 G => ?_)
    refine lv_goto (tgt := 169) hx hb dX5_useVariable_132 (by decide) ?_
    exact rt_vC C G hf dX5_useVariable_169
  replace hf := if_n hf s1_1
  by_cases s1_2 : p2 ∈ ([36] : List Int32)
  · replace hf := if_p hf s1_2
    refine sw_lu (tgt := 135) (off := 134) hx hb dX5_useVariable_1 (by decide) (sw_lut s1_2 (by decide)) (by decide) ?_
    refine lv_aload_n hx hb dX5_useVariable_135 rfl (lv_at hl 0 rfl) ?_
    refine fg_Rr_world hx hb hts hown hK G (hts _ lk_X5_19) dX5_useVariable_136 ?_
    refine fg_Wo_globals hx hb hts hown hK G (hts _ lk_X5_131) dX5_useVariable_139 ?_
    refine lv_aload_n hx hb dX5_useVariable_142 rfl (lv_at hl 0 rfl) ?_
    refine fg_Rr_code hx hb hts hown hK G (hts _ lk_X5_15) dX5_useVariable_143 ?_
    refine fg_Rc_z hx hb hts hown hK G (hts _ lk_X5_111) dX5_useVariable_146 ?_
    refine lv_iload_n hx hb dX5_useVariable_149 rfl (lv_at hl 3 rfl) ?_
    obtain ⟨h_g16, hf⟩ := gd_some hf
    refine ra_IC (v := rA st 28 p3.toNatClampNeg) hx hb hK G (waC_41 ..) (t0 := 32) rfl rfl h_g16 dX5_useVariable_150 ?_
    refine lv_aload_n hx hb dX5_useVariable_151 rfl (lv_at hl 0 rfl) ?_
    refine lv_iload_n hx hb dX5_useVariable_152 rfl (lv_at hl 1 rfl) ?_
    refine lv_aload_n hx hb dX5_useVariable_153 rfl (lv_at hl 0 rfl) ?_
    refine fg_Rr_code hx hb hts hown hK G (hts _ lk_X5_15) dX5_useVariable_154 ?_
    refine fg_Rc_x hx hb hts hown hK G (hts _ lk_X5_62) dX5_useVariable_157 ?_
    refine lv_iload_n hx hb dX5_useVariable_160 rfl (lv_at hl 3 rfl) ?_
    obtain ⟨h_g17, hf⟩ := gd_some hf
    refine ra_IC (v := rA st 26 p3.toNatClampNeg) hx hb hK G (waC_39 ..) (t0 := 30) rfl rfl h_g17 dX5_useVariable_161 ?_
    obtain ⟨r19, st18, hst18, hf⟩ := bn_some hf
    refine cl_vlC C hl G (As := [.int p1, .int (rA st 26 p3.toNatClampNeg)]) (rest := [.int (rA st 28 p3.toNatClampNeg), .ref (k 26).1]) (kx_Rr_read l D k h p1 (rA st 26 p3.toNatClampNeg) st _ _ hst18) gi_X5_65 (hwC_8 ..) rfl hd_X5_read ⟨Nat.le_of_ble_eq_true rfl, Nat.le_of_ble_eq_true rfl⟩ rfl rfl (Nat.le_of_ble_eq_true rfl) dX5_useVariable_162 ⟨Nat.zero_le _, Nat.zero_le _⟩ (fun H locs e0 G => ?_)
    obtain ⟨h_g20, hf⟩ := gd_some hf
    refine rw_JC hx hb hK G (waC_26 ..) (t0 := 17) rfl (wsC_26 ..) (zw_26 h_g20) rfl h_g20 dX5_useVariable_165 (fun H locs G => ?_)
    refine lv_goto (tgt := 169) hx hb dX5_useVariable_166 (by decide) ?_
    exact rt_vC C G hf dX5_useVariable_169
  replace hf := if_n hf s1_2
  refine sw_lu (tgt := 169) (off := 168) hx hb dX5_useVariable_1 (by decide) (sw_lud (sw_cons s1_0 (sw_cons s1_1 (sw_cons s1_2 sw_nil))) (by decide)) (by decide) ?_
  exact rt_vC C G hf dX5_useVariable_169
def rm_Wo_place : Room := { frames := 0, cells := 0, slots := 0, locals := 0 }
set_option maxHeartbeats 4000000 in
set_option maxRecDepth 100000 in
theorem kx_Wo_place (l : Launch) (D : va_G) (k : Nat → Nat × ClassId) (h : Nat → Nat) (p0 : Int64) (p2 : Int32) (st : rs_T) (r : Int64) (s' : rs_T) (hf : fx_Wo_place p0 p2 st = some (r, s')) : mLC l D k h yX7_place cX7_place 3 rm_Wo_place [.long p0, .int p2] st r s' := by
  refine mLC_of (by decide) ⟨rfl, rfl⟩ (Nat.le_of_ble_eq_true rfl) ?_
  intro p e s m below meth c ls C hl G
  obtain ⟨hx, hb, hml, hr, hown, hts, hK, hN, hlk⟩ := id C
  have hown : s.vm.findClass RX7 = some m.cls := hown
  have hl : lv_has ls 3 [(0, .long p0), (2, .int p2)] := hl
  unfold fx_Wo_place at hf
  refine lv_lload_n hx hb dX7_place_0 rfl (lv_at hl 0 rfl) ?_
  refine lv_ldc2 (v := 4294967295) hx hb hown (hts _ lk_X7_35) dX7_place_1 ?_
  refine lv_land hx hb dX7_place_4 ?_
  refine lv_iload_n hx hb dX7_place_5 rfl (lv_at hl 1 rfl) ?_
  refine lv_i2l (v := p2.toInt64) hx hb dX7_place_6 rfl ?_
  refine lv_ldc2 (v := 4294967295) hx hb hown (hts _ lk_X7_35) dX7_place_7 ?_
  refine lv_land hx hb dX7_place_10 ?_
  refine lv_ladd hx hb dX7_place_11 ?_
  exact rt_lC C G hf dX7_place_12
def rm_Wo_width : Room := { frames := 0, cells := 0, slots := 0, locals := 0 }
set_option maxHeartbeats 4000000 in
set_option maxRecDepth 100000 in
theorem kx_Wo_width (l : Launch) (D : va_G) (k : Nat → Nat × ClassId) (h : Nat → Nat) (p0 : Int32) (st : rs_T) (r : Int32) (s' : rs_T) (hf : fx_Wo_width p0 st = some (r, s')) : mIC l D k h yX7_width cX7_width 1 .int rm_Wo_width [.int p0] st r s' := by
  refine mIC_of (by decide) ⟨rfl, rfl⟩ (Nat.le_of_ble_eq_true rfl) ?_
  intro p e s m below meth c ls C hl G
  obtain ⟨hx, hb, hml, hr, hown, hts, hK, hN, hlk⟩ := id C
  have hown : s.vm.findClass RX7 = some m.cls := hown
  have hl : lv_has ls 1 [(0, .int p0)] := hl
  unfold fx_Wo_width at hf
  refine lv_iload_n hx hb dX7_width_0 rfl (lv_at hl 0 rfl) ?_
  by_cases s1_0 : p0 ∈ ([41, 43, 55, 57] : List Int32)
  · replace hf := if_p hf s1_0
    refine sw_tb (tgt := 104) (off := 103) hx hb dX7_width_1 (sw_tbt s1_0 (by decide)) (by decide) (by decide) ?_
    refine lv_bipush (v := 8) hx hb dX7_width_104 (by decide) ?_
    exact rt_iC C G hf dX7_width_106
  replace hf := if_n hf s1_0
  by_cases s1_1 : p0 ∈ ([44, 45, 48, 49, 58, 60] : List Int32)
  · replace hf := if_p hf s1_1
    refine sw_tb (tgt := 100) (off := 99) hx hb dX7_width_1 (sw_tbt s1_1 (by decide)) (by decide) (by decide) ?_
    refine lv_iconst (v := 1) hx hb dX7_width_100 (by decide) ?_
    exact rt_iC C G hf dX7_width_101
  replace hf := if_n hf s1_1
  by_cases s1_2 : p0 ∈ ([46, 47, 50, 51, 59, 61] : List Int32)
  · replace hf := if_p hf s1_2
    refine sw_tb (tgt := 102) (off := 101) hx hb dX7_width_1 (sw_tbt s1_2 (by decide)) (by decide) (by decide) ?_
    refine lv_iconst (v := 2) hx hb dX7_width_102 (by decide) ?_
    exact rt_iC C G hf dX7_width_103
  replace hf := if_n hf s1_2
  refine sw_tb (tgt := 107) (off := 106) hx hb dX7_width_1 (sw_tbd (sw_cons s1_0 (sw_cons s1_1 (sw_cons s1_2 sw_nil))) (by decide)) (by decide) (by decide) ?_
  refine lv_iconst (v := 4) hx hb dX7_width_107 (by decide) ?_
  exact rt_iC C G hf dX7_width_108
def rm_Wo_holds : Room := { frames := 0, cells := 0, slots := 0, locals := 0 }
set_option maxHeartbeats 4000000 in
set_option maxRecDepth 100000 in
theorem kx_Wo_holds (l : Launch) (D : va_G) (k : Nat → Nat × ClassId) (h : Nat → Nat) (p1 : Int64) (p3 : Int32) (st : rs_T) (r : Int32) (s' : rs_T) (hf : fx_Wo_holds p1 p3 st = some (r, s')) : mIC l D k h yX7_holds cX7_holds 4 .boolean rm_Wo_holds [.ref (h 3), .long p1, .int p3] st r s' := by
  refine mIC_of (by decide) ⟨rfl, rfl⟩ (Nat.le_of_ble_eq_true rfl) ?_
  intro p e s m below meth c ls C hl G
  obtain ⟨hx, hb, hml, hr, hown, hts, hK, hN, hlk⟩ := id C
  have hown : s.vm.findClass RX7 = some m.cls := hown
  have hl : lv_has ls 4 [(0, .ref (h 3)), (1, .long p1), (3, .int p3)] := hl
  unfold fx_Wo_holds at hf
  refine lv_lload_n hx hb dX7_holds_0 rfl (lv_at hl 1 rfl) ?_
  refine lv_iload_n hx hb dX7_holds_1 rfl (lv_at hl 2 rfl) ?_
  refine lv_i2l (v := p3.toInt64) hx hb dX7_holds_2 rfl ?_
  refine lv_ladd hx hb dX7_holds_3 ?_
  refine lv_aload_n hx hb dX7_holds_4 rfl (lv_at hl 0 rfl) ?_
  refine fg_Wo_pages (v := rI st 9) hx hb hts hown hK G (hts _ lk_X7_23) rfl dX7_holds_5 ?_
  refine lv_i2l (v := (rI st 9).toInt64) hx hb dX7_holds_8 rfl ?_
  refine lv_ldc2 (v := 64) hx hb hown (hts _ lk_X7_33) dX7_holds_9 ?_
  refine lv_lmul hx hb dX7_holds_12 ?_
  refine W.lcmp hx hb dX7_holds_13 ?_
  refine lv_if_gt (tgt := 21) hx hb dX7_holds_14 (by decide) (fun c1 => ?_) (fun c1 => ?_)
  · replace hf := if_p hf c1
    refine lv_iconst (v := 0) hx hb dX7_holds_21 (by decide) ?_
    exact rt_zC C rfl G hf dX7_holds_22
  · replace hf := if_n hf c1
    refine lv_iconst (v := 1) hx hb dX7_holds_17 (by decide) ?_
    refine lv_goto (tgt := 22) hx hb dX7_holds_18 (by decide) ?_
    exact rt_zC C rfl G hf dX7_holds_22
def rm_Wo_load : Room := { frames := 1, cells := 0, slots := 0, locals := 20 }
set_option maxHeartbeats 4000000 in
set_option maxRecDepth 100000 in
theorem kx_Wo_load_b10 {p : Program} {l : Launch} {e : Env} {s : State} {m : MethodId} {args : Array Value} {below : List Frame} {meth : Method} {c : Code} {D : va_G} {h : Nat → Nat} {E : Nat → Nat} {k : Nat → Nat × ClassId} (C : cxC D k p s m args meth c cX7_load 6 (some .long) RX7) (N : Nat) : ∀ (n : Nat) (x1 : Int32) (x2 : Int32) (x3 : Int64) (x5 : Int32) (st : rs_T) (r : Int64) (s' : rs_T), fx_Wo_load_b10 N n x1 x2 x3 x5 st = some (r, s') → ∀ (H : Heap) (locs : List Loc) (ls : Array Slot), lv_has ls 6 [(0, .ref (h 3)), (1, .int x1), (2, .int x2), (3, .long x3), (5, .int x5)] → gdC D k h (vE E) (arC k h s.heap.size) s.heap H locs st → W p l e rm_Wo_load s m args below meth c H locs 0 0 (MQ below (qLC D k h E s.heap.size r s') args s 0 0 (arC k h s.heap.size)) (F0 m 10 ls []) := by
  obtain ⟨hx, hb, hml, hr, hown, hts, hK, hN, hlk⟩ := id C
  intro n
  induction n with
  | zero => intro x1 x2 x3 x5 st r s' hf; cases hf
  | succ n ih =>
    intro x1 x2 x3 x5 st r s' hf H locs ls hl G
    rw [fx_Wo_load_b10] at hf
    refine lv_iload hx hb dX7_load_10 (lv_at hl 4 rfl) ?_
    refine lv_if_lt (tgt := 41) hx hb dX7_load_12 (by decide) (fun c4 => ?_) (fun c4 => ?_)
    · replace hf := if_p hf c4
      refine lv_iload_n hx hb dX7_load_41 rfl (lv_at hl 1 rfl) ?_
      by_cases s5_0 : x1 ∈ ([44] : List Int32)
      · replace hf := if_p hf s5_0
        refine sw_tb (tgt := 92) (off := 50) hx hb dX7_load_42 (sw_tbt s5_0 (by decide)) (by decide) (by decide) ?_
        refine lv_lload_n hx hb dX7_load_92 rfl (lv_at hl 3 rfl) ?_
        refine lv_l2i (v := x3.toInt32) hx hb dX7_load_93 rfl ?_
        refine lv_i2b (v := x3.toInt32.toInt8.toInt32) hx hb dX7_load_94 rfl ?_
        refine lv_i2l (v := x3.toInt32.toInt8.toInt32.toInt64) hx hb dX7_load_95 rfl ?_
        refine lv_ldc2 (v := 4294967295) hx hb hown (hts _ lk_X7_35) dX7_load_96 ?_
        refine lv_land hx hb dX7_load_99 ?_
        exact rt_lC C G hf dX7_load_100
      replace hf := if_n hf s5_0
      by_cases s5_1 : x1 ∈ ([46] : List Int32)
      · replace hf := if_p hf s5_1
        refine sw_tb (tgt := 101) (off := 59) hx hb dX7_load_42 (sw_tbt s5_1 (by decide)) (by decide) (by decide) ?_
        refine lv_lload_n hx hb dX7_load_101 rfl (lv_at hl 3 rfl) ?_
        refine lv_l2i (v := x3.toInt32) hx hb dX7_load_102 rfl ?_
        refine lv_i2s (v := x3.toInt32.toInt16.toInt32) hx hb dX7_load_103 rfl ?_
        refine lv_i2l (v := x3.toInt32.toInt16.toInt32.toInt64) hx hb dX7_load_104 rfl ?_
        refine lv_ldc2 (v := 4294967295) hx hb hown (hts _ lk_X7_35) dX7_load_105 ?_
        refine lv_land hx hb dX7_load_108 ?_
        exact rt_lC C G hf dX7_load_109
      replace hf := if_n hf s5_1
      by_cases s5_2 : x1 ∈ ([48] : List Int32)
      · replace hf := if_p hf s5_2
        refine sw_tb (tgt := 110) (off := 68) hx hb dX7_load_42 (sw_tbt s5_2 (by decide)) (by decide) (by decide) ?_
        refine lv_lload_n hx hb dX7_load_110 rfl (lv_at hl 3 rfl) ?_
        refine lv_l2i (v := x3.toInt32) hx hb dX7_load_111 rfl ?_
        refine lv_i2b (v := x3.toInt32.toInt8.toInt32) hx hb dX7_load_112 rfl ?_
        refine lv_i2l (v := x3.toInt32.toInt8.toInt32.toInt64) hx hb dX7_load_113 rfl ?_
        exact rt_lC C G hf dX7_load_114
      replace hf := if_n hf s5_2
      by_cases s5_3 : x1 ∈ ([50] : List Int32)
      · replace hf := if_p hf s5_3
        refine sw_tb (tgt := 115) (off := 73) hx hb dX7_load_42 (sw_tbt s5_3 (by decide)) (by decide) (by decide) ?_
        refine lv_lload_n hx hb dX7_load_115 rfl (lv_at hl 3 rfl) ?_
        refine lv_l2i (v := x3.toInt32) hx hb dX7_load_116 rfl ?_
        refine lv_i2s (v := x3.toInt32.toInt16.toInt32) hx hb dX7_load_117 rfl ?_
        refine lv_i2l (v := x3.toInt32.toInt16.toInt32.toInt64) hx hb dX7_load_118 rfl ?_
        exact rt_lC C G hf dX7_load_119
      replace hf := if_n hf s5_3
      by_cases s5_4 : x1 ∈ ([52] : List Int32)
      · replace hf := if_p hf s5_4
        refine sw_tb (tgt := 120) (off := 78) hx hb dX7_load_42 (sw_tbt s5_4 (by decide)) (by decide) (by decide) ?_
        refine lv_lload_n hx hb dX7_load_120 rfl (lv_at hl 3 rfl) ?_
        refine lv_l2i (v := x3.toInt32) hx hb dX7_load_121 rfl ?_
        refine lv_i2l (v := x3.toInt32.toInt64) hx hb dX7_load_122 rfl ?_
        exact rt_lC C G hf dX7_load_123
      replace hf := if_n hf s5_4
      refine sw_tb (tgt := 124) (off := 82) hx hb dX7_load_42 (sw_tbd (sw_cons s5_0 (sw_cons s5_1 (sw_cons s5_2 (sw_cons s5_3 (sw_cons s5_4 sw_nil))))) (by decide)) (by decide) (by decide) ?_
      refine lv_lload_n hx hb dX7_load_124 rfl (lv_at hl 3 rfl) ?_
      exact rt_lC C G hf dX7_load_125
    · replace hf := if_n hf c4
      refine lv_lload_n hx hb dX7_load_15 rfl (lv_at hl 3 rfl) ?_
      refine lv_bipush (v := 8) hx hb dX7_load_16 (by decide) ?_
      refine lv_lshl (v := x3 <<< ((8 : Int32).toInt64 &&& 63)) hx hb dX7_load_18 rfl ?_
      refine lv_aload_n hx hb dX7_load_19 rfl (lv_at hl 0 rfl) ?_
      refine fg_Wo_bytes hx hb hts hown hK G (hts _ lk_X7_19) dX7_load_20 ?_
      refine lv_iload_n hx hb dX7_load_23 rfl (lv_at hl 2 rfl) ?_
      refine lv_iload hx hb dX7_load_24 (lv_at hl 4 rfl) ?_
      refine lv_iadd hx hb dX7_load_26 ?_
      obtain ⟨h_g6, hf⟩ := gd_some hf
      refine ra_BC (v := rA st 16 ((x2 + x5).toNatClampNeg)) hx hb hK G (waC_27 ..) (t0 := 18) rfl rfl h_g6 dX7_load_27 ?_
      refine lv_sipush (v := 255) hx hb dX7_load_28 (by decide) ?_
      refine lv_iand hx hb dX7_load_31 ?_
      refine lv_i2l (v := ((rA st 16 ((x2 + x5).toNatClampNeg)) &&& 255).toInt64) hx hb dX7_load_32 rfl ?_
      refine lv_lor hx hb dX7_load_33 ?_
      refine lv_topl (fun v7 e_v7 => ?_)
      replace hf := bd_some hf v7 e_v7
      refine lv_lstore_n (lv' := [(3, .long v7), (0, .ref (h 3)), (1, .int x1), (2, .int x2), (5, .int x5)]) hx hb dX7_load_34 rfl hl (by decide) rfl (fun ls hl => ?_)
      obtain ⟨v8, e_v8⟩ : ∃ z : Int32, z = x5 + (-1) := ⟨_, rfl⟩
      replace hf := bd_some hf v8 e_v8
      refine lv_iinc (v := v8) (lv' := [(5, .int v8), (3, .long v7), (0, .ref (h 3)), (1, .int x1), (2, .int x2)]) hx hb dX7_load_35 hl (k := 4) rfl (by rw [e_v8]; rfl) (by decide) rfl (fun ls hl => ?_)
      refine lv_goto (tgt := 10) hx hb dX7_load_38 (by decide) ?_
      exact ih x1 x2 v7 v8 st _ _ hf _ _ _ (lv_sub hl [2, 3, 4, 1, 0] rfl) G
set_option maxHeartbeats 4000000 in
set_option maxRecDepth 100000 in
theorem kx_Wo_load (l : Launch) (D : va_G) (k : Nat → Nat × ClassId) (h : Nat → Nat) (N : Nat) (p1 : Int32) (p2 : Int32) (st : rs_T) (r : Int64) (s' : rs_T) (hf : fx_Wo_load N p1 p2 st = some (r, s')) : mLC l D k h yX7_load cX7_load 6 rm_Wo_load [.ref (h 3), .int p1, .int p2] st r s' := by
  refine mLC_of (by decide) ⟨rfl, rfl⟩ (Nat.le_of_ble_eq_true rfl) ?_
  intro p e s m below meth c ls C hl G
  obtain ⟨hx, hb, hml, hr, hown, hts, hK, hN, hlk⟩ := id C
  have hown : s.vm.findClass RX7 = some m.cls := hown
  have hl : lv_has ls 6 [(0, .ref (h 3)), (1, .int p1), (2, .int p2)] := hl
  unfold fx_Wo_load at hf
  refine lv_lconst (v := 0) hx hb dX7_load_0 (by decide) ?_
  refine lv_lstore_n (lv' := [(3, .long 0), (0, .ref (h 3)), (1, .int p1), (2, .int p2)]) hx hb dX7_load_1 rfl hl (by decide) rfl (fun ls hl => ?_)
  refine lv_iload_n hx hb dX7_load_2 rfl (lv_at hl 2 rfl) ?_
  obtain ⟨r2, st1, hst1, hf⟩ := bn_some hf
  refine cl_siC C hl G (As := [.int p1]) (rest := []) (kx_Wo_width l D k h p1 st _ _ hst1) gi_X7_51 hd_X7_width ⟨Nat.le_of_ble_eq_true rfl, Nat.le_of_ble_eq_true rfl⟩ rfl rfl (Nat.le_of_ble_eq_true rfl) dX7_load_3 ⟨Nat.zero_le _, Nat.zero_le _⟩ (fun H locs e0 G => ?_)
  refine lv_iconst (v := 1) hx hb dX7_load_6 (by decide) ?_
  refine lv_isub hx hb dX7_load_7 ?_
  refine lv_topi (fun v3 e_v3 => ?_)
  replace hf := bd_some hf v3 e_v3
  refine lv_istore (lv' := [(5, .int v3), (3, .long 0), (0, .ref (h 3)), (1, .int p1), (2, .int p2)]) hx hb dX7_load_8 hl (by decide) rfl (fun ls hl => ?_)
  exact kx_Wo_load_b10 C N N p1 p2 0 v3 st1 _ _ hf _ _ _ (lv_sub hl [2, 3, 4, 1, 0] rfl) G
def rm_Wo_store : Room := { frames := 1, cells := 0, slots := 0, locals := 20 }
set_option maxHeartbeats 4000000 in
set_option maxRecDepth 100000 in
theorem kx_Wo_store_b3 {p : Program} {l : Launch} {e : Env} {s : State} {m : MethodId} {args : Array Value} {below : List Frame} {meth : Method} {c : Code} {D : va_G} {h : Nat → Nat} {E : Nat → Nat} {k : Nat → Nat × ClassId} (C : cxC D k p s m args meth c cX7_store 6 none RX7) (N : Nat) : ∀ (n : Nat) (x1 : Int32) (x2 : Int32) (x3 : Int64) (x5 : Int32) (st : rs_T) (s' : rs_T), fx_Wo_store_b3 N n x1 x2 x3 x5 st = some s' → ∀ (H : Heap) (locs : List Loc) (ls : Array Slot), lv_has ls 6 [(0, .ref (h 3)), (1, .int x1), (2, .int x2), (3, .long x3), (5, .int x5)] → gdC D k h (vE E) (arC k h s.heap.size) s.heap H locs st → W p l e rm_Wo_store s m args below meth c H locs 0 0 (MQ below (qVC D k h E s.heap.size s') args s 0 0 (arC k h s.heap.size)) (F0 m 3 ls []) := by
  obtain ⟨hx, hb, hml, hr, hown, hts, hK, hN, hlk⟩ := id C
  intro n
  induction n with
  | zero => intro x1 x2 x3 x5 st s' hf; cases hf
  | succ n ih =>
    intro x1 x2 x3 x5 st s' hf H locs ls hl G
    rw [fx_Wo_store_b3] at hf
    refine lv_iload hx hb dX7_store_3 (lv_at hl 4 rfl) ?_
    refine lv_iload_n hx hb dX7_store_5 rfl (lv_at hl 1 rfl) ?_
    obtain ⟨r2, st1, hst1, hf⟩ := bn_some hf
    refine cl_siC C hl G (As := [.int x1]) (rest := [.int x5]) (kx_Wo_width l D k h x1 st _ _ hst1) gi_X7_51 hd_X7_width ⟨Nat.le_of_ble_eq_true rfl, Nat.le_of_ble_eq_true rfl⟩ rfl rfl (Nat.le_of_ble_eq_true rfl) dX7_store_6 ⟨Nat.zero_le _, Nat.zero_le _⟩ (fun H locs e0 G => ?_)
    refine lv_icmp_ge (tgt := 36) hx hb dX7_store_9 (by decide) (fun c3 => ?_) (fun c3 => ?_)
    · replace hf := if_p hf c3
      exact rt_vC C G hf dX7_store_36
    · replace hf := if_n hf c3
      refine lv_aload_n hx hb dX7_store_12 rfl (lv_at hl 0 rfl) ?_
      refine fg_Wo_bytes hx hb hts hown hK G (hts _ lk_X7_19) dX7_store_13 ?_
      refine lv_iload_n hx hb dX7_store_16 rfl (lv_at hl 2 rfl) ?_
      refine lv_iload hx hb dX7_store_17 (lv_at hl 4 rfl) ?_
      refine lv_iadd hx hb dX7_store_19 ?_
      refine lv_lload_n hx hb dX7_store_20 rfl (lv_at hl 3 rfl) ?_
      refine lv_bipush (v := 8) hx hb dX7_store_21 (by decide) ?_
      refine lv_iload hx hb dX7_store_23 (lv_at hl 4 rfl) ?_
      refine lv_imul hx hb dX7_store_25 ?_
      refine lv_lushr (v := (x3.toUInt64 >>> (((8 : Int32) * x5).toInt64.toUInt64 &&& Int64.toUInt64 63)).toInt64) hx hb dX7_store_26 rfl ?_
      refine lv_l2i (v := ((x3.toUInt64 >>> (((8 : Int32) * x5).toInt64.toUInt64 &&& Int64.toUInt64 63)).toInt64).toInt32) hx hb dX7_store_27 rfl ?_
      refine lv_i2b (v := (((x3.toUInt64 >>> (((8 : Int32) * x5).toInt64.toUInt64 &&& Int64.toUInt64 63)).toInt64).toInt32).toInt8.toInt32) hx hb dX7_store_28 rfl ?_
      obtain ⟨h_g4, hf⟩ := gd_some hf
      refine rw_BC hx hb hK G (waC_27 ..) (t0 := 18) rfl (wsC_27 ..) (zw_27 h_g4) rfl h_g4 dX7_store_29 (fun H locs G => ?_)
      obtain ⟨v5, e_v5⟩ : ∃ z : Int32, z = x5 + 1 := ⟨_, rfl⟩
      replace hf := bd_some hf v5 e_v5
      refine lv_iinc (v := v5) (lv' := [(5, .int v5), (0, .ref (h 3)), (1, .int x1), (2, .int x2), (3, .long x3)]) hx hb dX7_store_30 hl (k := 4) rfl (by rw [e_v5]; rfl) (by decide) rfl (fun ls hl => ?_)
      refine lv_goto (tgt := 3) hx hb dX7_store_33 (by decide) ?_
      exact ih x1 x2 x3 v5 (wA st1 16 ((x2 + x5).toNatClampNeg) (vp_nar .byte ((((x3.toUInt64 >>> (((8 : Int32) * x5).toInt64.toUInt64 &&& Int64.toUInt64 63)).toInt64).toInt32).toInt8.toInt32))) _ hf _ _ _ (lv_sub hl [1, 2, 3, 4, 0] rfl) G
set_option maxHeartbeats 4000000 in
set_option maxRecDepth 100000 in
theorem kx_Wo_store (l : Launch) (D : va_G) (k : Nat → Nat × ClassId) (h : Nat → Nat) (N : Nat) (p1 : Int32) (p2 : Int32) (p3 : Int64) (st : rs_T) (s' : rs_T) (hf : fx_Wo_store N p1 p2 p3 st = some s') : mVC l D k h yX7_store cX7_store 6 rm_Wo_store [.ref (h 3), .int p1, .int p2, .long p3] st s' := by
  refine mVC_of (by decide) ⟨rfl, rfl⟩ (Nat.le_of_ble_eq_true rfl) ?_
  intro p e s m below meth c ls C hl G
  obtain ⟨hx, hb, hml, hr, hown, hts, hK, hN, hlk⟩ := id C
  have hown : s.vm.findClass RX7 = some m.cls := hown
  have hl : lv_has ls 6 [(0, .ref (h 3)), (1, .int p1), (2, .int p2), (3, .long p3)] := hl
  unfold fx_Wo_store at hf
  refine lv_iconst (v := 0) hx hb dX7_store_0 (by decide) ?_
  refine lv_istore (lv' := [(5, .int 0), (0, .ref (h 3)), (1, .int p1), (2, .int p2), (3, .long p3)]) hx hb dX7_store_1 hl (by decide) rfl (fun ls hl => ?_)
  exact kx_Wo_store_b3 C N N p1 p2 p3 0 st _ hf _ _ _ (lv_sub hl [1, 2, 3, 4, 0] rfl) G
def rm_Wo_grow : Room := { frames := 0, cells := 0, slots := 0, locals := 0 }
set_option maxHeartbeats 4000000 in
set_option maxRecDepth 100000 in
theorem kx_Wo_grow (l : Launch) (D : va_G) (k : Nat → Nat × ClassId) (h : Nat → Nat) (p1 : Int64) (st : rs_T) (r : Int64) (s' : rs_T) (hf : fx_Wo_grow p1 st = some (r, s')) : mLC l D k h yX7_grow cX7_grow 6 rm_Wo_grow [.ref (h 3), .long p1] st r s' := by
  refine mLC_of (by decide) ⟨rfl, rfl⟩ (Nat.le_of_ble_eq_true rfl) ?_
  intro p e s m below meth c ls C hl G
  obtain ⟨hx, hb, hml, hr, hown, hts, hK, hN, hlk⟩ := id C
  have hown : s.vm.findClass RX7 = some m.cls := hown
  have hl : lv_has ls 6 [(0, .ref (h 3)), (1, .long p1)] := hl
  unfold fx_Wo_grow at hf
  refine lv_lload_n hx hb dX7_grow_0 rfl (lv_at hl 1 rfl) ?_
  refine lv_ldc2 (v := 4294967295) hx hb hown (hts _ lk_X7_35) dX7_grow_1 ?_
  refine lv_land hx hb dX7_grow_4 ?_
  refine lv_topl (fun v1 e_v1 => ?_)
  replace hf := bd_some hf v1 e_v1
  refine lv_lstore_n (lv' := [(3, .long v1), (0, .ref (h 3)), (1, .long p1)]) hx hb dX7_grow_5 rfl hl (by decide) rfl (fun ls hl => ?_)
  refine lv_aload_n hx hb dX7_grow_6 rfl (lv_at hl 1 rfl) ?_
  refine fg_Wo_pages (v := rI st 9) hx hb hts hown hK G (hts _ lk_X7_23) rfl dX7_grow_7 ?_
  refine lv_topi (fun v2 e_v2 => ?_)
  replace hf := bd_some hf v2 e_v2
  refine lv_istore (lv' := [(5, .int v2), (3, .long v1), (0, .ref (h 3)), (1, .long p1)]) hx hb dX7_grow_10 hl (by decide) rfl (fun ls hl => ?_)
  refine lv_lload_n hx hb dX7_grow_12 rfl (lv_at hl 1 rfl) ?_
  refine lv_bipush (v := 6) hx hb dX7_grow_13 (by decide) ?_
  refine lv_iload hx hb dX7_grow_15 (lv_at hl 0 rfl) ?_
  refine lv_isub hx hb dX7_grow_17 ?_
  refine lv_i2l (v := ((6 : Int32) - v2).toInt64) hx hb dX7_grow_18 rfl ?_
  refine W.lcmp hx hb dX7_grow_19 ?_
  refine lv_if_le (tgt := 27) hx hb dX7_grow_20 (by decide) (fun c3 => ?_) (fun c3 => ?_)
  · replace hf := if_p hf c3
    refine lv_aload_n hx hb dX7_grow_27 rfl (lv_at hl 2 rfl) ?_
    refine lv_iload hx hb dX7_grow_28 (lv_at hl 0 rfl) ?_
    refine lv_lload_n hx hb dX7_grow_30 rfl (lv_at hl 1 rfl) ?_
    refine lv_l2i (v := v1.toInt32) hx hb dX7_grow_31 rfl ?_
    refine lv_iadd hx hb dX7_grow_32 ?_
    refine fp_Wo_pages hx hb hts hown hK G (hts _ lk_X7_23) dX7_grow_33 (fun H locs G => ?_)
    refine lv_iload hx hb dX7_grow_36 (lv_at hl 0 rfl) ?_
    refine lv_i2l (v := v2.toInt64) hx hb dX7_grow_38 rfl ?_
    exact rt_lC C G hf dX7_grow_39
  · replace hf := if_n hf c3
    refine lv_ldc2 (v := 4294967295) hx hb hown (hts _ lk_X7_35) dX7_grow_23 ?_
    exact rt_lC C G hf dX7_grow_26
