set_option maxHeartbeats 4000000 in
set_option maxRecDepth 100000 in
theorem kx_Rc_makeRoom (l : Launch) (D : va_G) (k : Nat → Nat × ClassId) (h : Nat → Nat) (p1 : Int32) (st : rs_T) (s' : rs_T) (hf : fx_Rc_makeRoom p1 st = some s') : nVC l D k h yX4_makeRoom cX4_makeRoom 4 2 90 [.ref (h 5), .int p1] st s' := by
  refine nVC_of (by decide) (Nat.le_of_ble_eq_true rfl) ?_
  intro p e s m below meth c ls C hl G
  obtain ⟨hx, hb, hml, hr, hown, hts, hK, hN, hlk⟩ := id C
  have hown : s.vm.findClass RX4 = some m.cls := hown
  have hl : lv_has ls 4 [(0, .ref (h 5)), (1, .int p1)] := hl
  unfold fx_Rc_makeRoom at hf
  refine lv_aload_n hx hb dX4_makeRoom_0 rfl (lv_at hl 0 rfl) ?_
  refine fg_Rc_size (v := rI st 19) hx hb hts hown hK G (hts _ lk_X4_33) rfl dX4_makeRoom_1 ?_
  refine lv_iconst (v := 2) hx hb dX4_makeRoom_4 (by decide) ?_
  refine lv_iload_n hx hb dX4_makeRoom_5 rfl (lv_at hl 1 rfl) ?_
  refine lv_imul hx hb dX4_makeRoom_6 ?_
  refine lv_iadd hx hb dX4_makeRoom_7 ?_
  refine lv_topi (fun v1 e_v1 => ?_)
  replace hf := bd_some hf v1 e_v1
  refine lv_istore_n (lv' := [(2, .int v1), (0, .ref (h 5)), (1, .int p1)]) hx hb dX4_makeRoom_8 rfl hl (by decide) rfl (fun ls hl => ?_)
  refine lv_iload_n hx hb dX4_makeRoom_9 rfl (lv_at hl 0 rfl) ?_
  refine lv_aload_n hx hb dX4_makeRoom_10 rfl (lv_at hl 1 rfl) ?_
  refine fg_Rc_operation hx hb hts hown hK G (hts _ lk_X4_15) dX4_makeRoom_11 ?_
  refine va_alen (v := nI (rN st 2)) hx hb hK G.1 36 27 (waC_36 ..) rfl rfl dX4_makeRoom_14 ?_
  refine lv_icmp_le (tgt := 108) hx hb dX4_makeRoom_15 (by decide) (fun c2 => ?_) (fun c2 => ?_)
  · replace hf := if_p hf c2
    exact rt_vCA C G hf dX4_makeRoom_108
  · replace hf := if_n hf c2
    refine lv_iload_n hx hb dX4_makeRoom_18 rfl (lv_at hl 0 rfl) ?_
    refine lv_iconst (v := 2) hx hb dX4_makeRoom_19 (by decide) ?_
    refine lv_aload_n hx hb dX4_makeRoom_20 rfl (lv_at hl 1 rfl) ?_
    refine fg_Rc_operation hx hb hts hown hK G (hts _ lk_X4_15) dX4_makeRoom_21 ?_
    refine va_alen (v := nI (rN st 2)) hx hb hK G.1 36 27 (waC_36 ..) rfl rfl dX4_makeRoom_24 ?_
    refine lv_imul hx hb dX4_makeRoom_25 ?_
    have hc9 := hcA G
    refine cm_mmaxC C hl lk_X4_46 (Nat.le_of_ble_eq_true rfl) (Nat.le_of_ble_eq_true rfl) dX4_makeRoom_26 hc9 ?_
    refine lv_sipush (v := 3000) hx hb dX4_makeRoom_29 (by decide) ?_
    have hc9 := hcA G
    refine cm_mminC C hl lk_X4_52 (Nat.le_of_ble_eq_true rfl) (Nat.le_of_ble_eq_true rfl) dX4_makeRoom_32 hc9 ?_
    refine lv_topi (fun v3 e_v3 => ?_)
    replace hf := bd_some hf v3 e_v3
    refine lv_istore_n (lv' := [(3, .int v3), (2, .int v1), (0, .ref (h 5)), (1, .int p1)]) hx hb dX4_makeRoom_35 rfl hl (by decide) rfl (fun ls hl => ?_)
    obtain ⟨h_gm, hf⟩ := gm_some hf
    refine mid_Rc C (lv_sub hl [0, 2] rfl) G h_gm (Nat.le_of_ble_eq_true rfl) (Nat.le_of_ble_eq_true rfl) (fun k hK H locs ls hl G => ?_)
    have C := cxk C hK
    exact rt_vCA C G hf dX4_makeRoom_108
set_option maxHeartbeats 4000000 in
set_option maxRecDepth 100000 in
theorem kx_Co_makeRoom (l : Launch) (D : va_G) (k : Nat → Nat × ClassId) (h : Nat → Nat) (st : rs_T) (s' : rs_T) (hf : fx_Co_makeRoom st = some s') : nVC l D k h yX1_makeRoom cX1_makeRoom 1 3 113 [.ref (h 6)] st s' := by
  refine nVC_of (by decide) (Nat.le_of_ble_eq_true rfl) ?_
  intro p e s m below meth c ls C hl G
  obtain ⟨hx, hb, hml, hr, hown, hts, hK, hN, hlk⟩ := id C
  have hown : s.vm.findClass RX1 = some m.cls := hown
  have hl : lv_has ls 1 [(0, .ref (h 6))] := hl
  unfold fx_Co_makeRoom at hf
  refine lv_aload_n hx hb dX1_makeRoom_0 rfl (lv_at hl 0 rfl) ?_
  refine fg_Co_code hx hb hts hown hK G (hts _ lk_X1_42) dX1_makeRoom_1 ?_
  refine lv_aload_n hx hb dX1_makeRoom_4 rfl (lv_at hl 0 rfl) ?_
  refine fg_Co_program hx hb hts hown hK G (hts _ lk_X1_38) dX1_makeRoom_5 ?_
  refine fg_Pr_last hx hb hts hown hK G (hts _ lk_X1_63) dX1_makeRoom_8 ?_
  refine lv_aload_n hx hb dX1_makeRoom_11 rfl (lv_at hl 0 rfl) ?_
  refine fg_Co_function (v := rI st 21) hx hb hts hown hK G (hts _ lk_X1_18) rfl dX1_makeRoom_12 ?_
  obtain ⟨h_g1, hf⟩ := gd_some hf
  refine ra_IC (v := rA st 5 ((rI st 21).toNatClampNeg)) hx hb hK G (waC_15 ..) (t0 := 6) rfl rfl h_g1 dX1_makeRoom_15 ?_
  refine lv_aload_n hx hb dX1_makeRoom_16 rfl (lv_at hl 0 rfl) ?_
  refine fg_Co_program hx hb hts hown hK G (hts _ lk_X1_38) dX1_makeRoom_17 ?_
  refine fg_Pr_first hx hb hts hown hK G (hts _ lk_X1_60) dX1_makeRoom_20 ?_
  refine lv_aload_n hx hb dX1_makeRoom_23 rfl (lv_at hl 0 rfl) ?_
  refine fg_Co_function (v := rI st 21) hx hb hts hown hK G (hts _ lk_X1_18) rfl dX1_makeRoom_24 ?_
  obtain ⟨h_g2, hf⟩ := gd_some hf
  refine ra_IC (v := rA st 4 ((rI st 21).toNatClampNeg)) hx hb hK G (waC_14 ..) (t0 := 5) rfl rfl h_g2 dX1_makeRoom_27 ?_
  refine lv_isub hx hb dX1_makeRoom_28 ?_
  refine lv_iconst (v := 1) hx hb dX1_makeRoom_29 (by decide) ?_
  refine lv_iadd hx hb dX1_makeRoom_30 ?_
  have hc9 := hcA G
  obtain ⟨st3, hst3, hf⟩ := bv_some hf
  refine cb_vvC C hl G (As := [.int (((rA st 5 ((rI st 21).toNatClampNeg)) - (rA st 4 ((rI st 21).toNatClampNeg))) + 1)]) (rest := []) (kx_Rc_makeRoom l D k h (((rA st 5 ((rI st 21).toNatClampNeg)) - (rA st 4 ((rI st 21).toNatClampNeg))) + 1) st _ hst3) gi_X1_82 (hwC_5 ..) rfl hd_X4_makeRoom ⟨Nat.le_of_ble_eq_true rfl, Nat.le_of_ble_eq_true rfl⟩ rfl rfl (Nat.le_of_ble_eq_true rfl) dX1_makeRoom_31 (fun k hK H locs G => ?_)
  have C := cxk C hK
  refine lv_aload_n hx hb dX1_makeRoom_34 rfl (lv_at hl 0 rfl) ?_
  refine fg_Co_places hx hb hts hown hK G (hts _ lk_X1_15) dX1_makeRoom_35 ?_
  refine va_alen (v := nI (rN st3 3)) hx hb hK G.1 43 34 (waC_43 ..) rfl rfl dX1_makeRoom_38 ?_
  refine lv_aload_n hx hb dX1_makeRoom_39 rfl (lv_at hl 0 rfl) ?_
  refine fg_Co_program hx hb hts hown hK G (hts _ lk_X1_38) dX1_makeRoom_40 ?_
  refine fg_Pr_operation hx hb hts hown hK G (hts _ lk_X1_84) dX1_makeRoom_43 ?_
  refine va_alen (v := nI (rN st3 0)) hx hb hK G.1 17 8 (waC_17 ..) rfl rfl dX1_makeRoom_46 ?_
  refine lv_icmp_ge (tgt := 64) hx hb dX1_makeRoom_47 (by decide) (fun c4 => ?_) (fun c4 => ?_)
  · replace hf := if_p hf c4
    exact rt_vCA C G hf dX1_makeRoom_64
  · replace hf := if_n hf c4
    obtain ⟨h_gm, hf⟩ := gm_some hf
    refine mid_Co C (lv_sub hl [0] rfl) G h_gm (Nat.le_of_ble_eq_true rfl) (Nat.le_of_ble_eq_true rfl) (fun k hK H locs ls hl G => ?_)
    have C := cxk C hK
    exact rt_vCA C G hf dX1_makeRoom_64
def rm_Co_emit : Room := { frames := 0, cells := 0, slots := 0, locals := 0 }
set_option maxHeartbeats 4000000 in
set_option maxRecDepth 100000 in
theorem kx_Co_emit (l : Launch) (D : va_G) (k : Nat → Nat × ClassId) (h : Nat → Nat) (p1 : Int32) (p2 : Int32) (p3 : Int32) (p4 : Int32) (p5 : Int32) (st : rs_T) (s' : rs_T) (hf : fx_Co_emit p1 p2 p3 p4 p5 st = some s') : mVC l D k h yX1_emit cX1_emit 7 rm_Co_emit [.ref (h 6), .int p1, .int p2, .int p3, .int p4, .int p5] st s' := by
  refine mVC_of (by decide) ⟨rfl, rfl⟩ (Nat.le_of_ble_eq_true rfl) ?_
  intro p e s m below meth c ls C hl G
  obtain ⟨hx, hb, hml, hr, hown, hts, hK, hN, hlk⟩ := id C
  have hown : s.vm.findClass RX1 = some m.cls := hown
  have hl : lv_has ls 7 [(0, .ref (h 6)), (1, .int p1), (2, .int p2), (3, .int p3), (4, .int p4), (5, .int p5)] := hl
  unfold fx_Co_emit at hf
  refine lv_aload_n hx hb dX1_emit_0 rfl (lv_at hl 0 rfl) ?_
  refine fg_Co_code hx hb hts hown hK G (hts _ lk_X1_42) dX1_emit_1 ?_
  refine fg_Rc_size (v := rI st 19) hx hb hts hown hK G (hts _ lk_X1_46) rfl dX1_emit_4 ?_
  refine lv_topi (fun v1 e_v1 => ?_)
  replace hf := bd_some hf v1 e_v1
  refine lv_istore (lv' := [(6, .int v1), (0, .ref (h 6)), (1, .int p1), (2, .int p2), (3, .int p3), (4, .int p4), (5, .int p5)]) hx hb dX1_emit_7 hl (by decide) rfl (fun ls hl => ?_)
  refine lv_iload hx hb dX1_emit_9 (lv_at hl 0 rfl) ?_
  refine lv_aload_n hx hb dX1_emit_11 rfl (lv_at hl 1 rfl) ?_
  refine fg_Co_code hx hb hts hown hK G (hts _ lk_X1_42) dX1_emit_12 ?_
  refine fg_Rc_operation hx hb hts hown hK G (hts _ lk_X1_70) dX1_emit_15 ?_
  refine va_alen (v := nI (rN st 2)) hx hb hK G.1 36 27 (waC_36 ..) rfl rfl dX1_emit_18 ?_
  refine lv_icmp_lt (tgt := 23) hx hb dX1_emit_19 (by decide) (fun c2 => ?_) (fun c2 => ?_)
  · replace hf := if_p hf c2
    refine lv_aload_n hx hb dX1_emit_23 rfl (lv_at hl 1 rfl) ?_
    refine fg_Co_code hx hb hts hown hK G (hts _ lk_X1_42) dX1_emit_24 ?_
    refine fg_Rc_operation hx hb hts hown hK G (hts _ lk_X1_70) dX1_emit_27 ?_
    refine lv_iload hx hb dX1_emit_30 (lv_at hl 0 rfl) ?_
    refine lv_iload_n hx hb dX1_emit_32 rfl (lv_at hl 2 rfl) ?_
    obtain ⟨h_g3, hf⟩ := gd_some hf
    refine rw_IC hx hb hK G (waC_36 ..) (t0 := 27) rfl (wsC_36 ..) (zw_36 h_g3) rfl h_g3 dX1_emit_33 (fun H locs G => ?_)
    refine lv_aload_n hx hb dX1_emit_34 rfl (lv_at hl 1 rfl) ?_
    refine fg_Co_code hx hb hts hown hK G (hts _ lk_X1_42) dX1_emit_35 ?_
    refine fg_Rc_weight hx hb hts hown hK G (hts _ lk_X1_185) dX1_emit_38 ?_
    refine lv_iload hx hb dX1_emit_41 (lv_at hl 0 rfl) ?_
    refine lv_aload_n hx hb dX1_emit_43 rfl (lv_at hl 1 rfl) ?_
    refine fg_Co_pending (v := rI st 24) hx hb hts hown hK G (hts _ lk_X1_28) rfl dX1_emit_44 ?_
    obtain ⟨h_g4, hf⟩ := gd_some hf
    refine rw_IC hx hb hK G (waC_37 ..) (t0 := 28) rfl (wsC_37 ..) (zw_37 h_g4) rfl h_g4 dX1_emit_47 (fun H locs G => ?_)
    refine lv_aload_n hx hb dX1_emit_48 rfl (lv_at hl 1 rfl) ?_
    refine fg_Co_code hx hb hts hown hK G (hts _ lk_X1_42) dX1_emit_49 ?_
    refine fg_Rc_to hx hb hts hown hK G (hts _ lk_X1_188) dX1_emit_52 ?_
    refine lv_iload hx hb dX1_emit_55 (lv_at hl 0 rfl) ?_
    refine lv_iload_n hx hb dX1_emit_57 rfl (lv_at hl 3 rfl) ?_
    obtain ⟨h_g5, hf⟩ := gd_some hf
    refine rw_IC hx hb hK G (waC_38 ..) (t0 := 29) rfl (wsC_38 ..) (zw_38 h_g5) rfl h_g5 dX1_emit_58 (fun H locs G => ?_)
    refine lv_aload_n hx hb dX1_emit_59 rfl (lv_at hl 1 rfl) ?_
    refine fg_Co_code hx hb hts hown hK G (hts _ lk_X1_42) dX1_emit_60 ?_
    refine fg_Rc_x hx hb hts hown hK G (hts _ lk_X1_191) dX1_emit_63 ?_
    refine lv_iload hx hb dX1_emit_66 (lv_at hl 0 rfl) ?_
    refine lv_iload_n hx hb dX1_emit_68 rfl (lv_at hl 4 rfl) ?_
    obtain ⟨h_g6, hf⟩ := gd_some hf
    refine rw_IC hx hb hK G (waC_39 ..) (t0 := 30) rfl (wsC_39 ..) (zw_39 h_g6) rfl h_g6 dX1_emit_69 (fun H locs G => ?_)
    refine lv_aload_n hx hb dX1_emit_70 rfl (lv_at hl 1 rfl) ?_
    refine fg_Co_code hx hb hts hown hK G (hts _ lk_X1_42) dX1_emit_71 ?_
    refine fg_Rc_y hx hb hts hown hK G (hts _ lk_X1_194) dX1_emit_74 ?_
    refine lv_iload hx hb dX1_emit_77 (lv_at hl 0 rfl) ?_
    refine lv_iload hx hb dX1_emit_79 (lv_at hl 5 rfl) ?_
    obtain ⟨h_g7, hf⟩ := gd_some hf
    refine rw_IC hx hb hK G (waC_40 ..) (t0 := 31) rfl (wsC_40 ..) (zw_40 h_g7) rfl h_g7 dX1_emit_81 (fun H locs G => ?_)
    refine lv_aload_n hx hb dX1_emit_82 rfl (lv_at hl 1 rfl) ?_
    refine fg_Co_code hx hb hts hown hK G (hts _ lk_X1_42) dX1_emit_83 ?_
    refine fg_Rc_z hx hb hts hown hK G (hts _ lk_X1_73) dX1_emit_86 ?_
    refine lv_iload hx hb dX1_emit_89 (lv_at hl 0 rfl) ?_
    refine lv_iload hx hb dX1_emit_91 (lv_at hl 6 rfl) ?_
    obtain ⟨h_g8, hf⟩ := gd_some hf
    refine rw_IC hx hb hK G (waC_41 ..) (t0 := 32) rfl (wsC_41 ..) (zw_41 h_g8) rfl h_g8 dX1_emit_93 (fun H locs G => ?_)
    refine lv_aload_n hx hb dX1_emit_94 rfl (lv_at hl 1 rfl) ?_
    refine fg_Co_code hx hb hts hown hK G (hts _ lk_X1_42) dX1_emit_95 ?_
    refine lv_iload hx hb dX1_emit_98 (lv_at hl 0 rfl) ?_
    refine lv_iconst (v := 1) hx hb dX1_emit_100 (by decide) ?_
    refine lv_iadd hx hb dX1_emit_101 ?_
    refine fp_Rc_size hx hb hts hown hK G (hts _ lk_X1_46) dX1_emit_102 (fun H locs G => ?_)
    refine lv_aload_n hx hb dX1_emit_105 rfl (lv_at hl 1 rfl) ?_
    refine lv_iconst (v := 0) hx hb dX1_emit_106 (by decide) ?_
    refine fp_Co_pending hx hb hts hown hK G (hts _ lk_X1_28) dX1_emit_107 (fun H locs G => ?_)
    exact rt_vC C G hf dX1_emit_110
  · replace hf := if_n hf c2
    exact rt_vC C G hf dX1_emit_22
def rm_Co_fillSlots : Room := { frames := 1, cells := 0, slots := 0, locals := 26 }
set_option maxHeartbeats 4000000 in
set_option maxRecDepth 100000 in
theorem kx_Co_fillSlots_b62 {p : Program} {l : Launch} {e : Env} {s : State} {m : MethodId} {args : Array Value} {below : List Frame} {meth : Method} {c : Code} {D : va_G} {h : Nat → Nat} {E : Nat → Nat} {k : Nat → Nat × ClassId} (C : cxC D k p s m args meth c cX1_fillSlots 3 none RX1) (N : Nat) (rec6 : Int32 → rs_T → Option (rs_T)) (ih6 : ∀ (x2 : Int32) (st : rs_T) (s' : rs_T), rec6 x2 st = some s' → ∀ (H : Heap) (locs : List Loc) (ls : Array Slot), lv_has ls 3 [(0, .ref (h 6)), (2, .int x2)] → gdC D k h (vE E) (arC k h s.heap.size) s.heap H locs st → W p l e rm_Co_fillSlots s m args below meth c H locs 0 0 (MQ below (qVC D k h E s.heap.size s') args s 0 0 (arC k h s.heap.size)) (F0 m 6 ls [])) (x2 : Int32) (st : rs_T) (s' : rs_T) (hf : fx_Co_fillSlots_b62 N rec6 x2 st = some s') : ∀ (H : Heap) (locs : List Loc) (ls : Array Slot), lv_has ls 3 [(0, .ref (h 6)), (2, .int x2)] → gdC D k h (vE E) (arC k h s.heap.size) s.heap H locs st → W p l e rm_Co_fillSlots s m args below meth c H locs 0 0 (MQ below (qVC D k h E s.heap.size s') args s 0 0 (arC k h s.heap.size)) (F0 m 62 ls []) := by
  obtain ⟨hx, hb, hml, hr, hown, hts, hK, hN, hlk⟩ := id C
  intro H locs ls hl G
  unfold fx_Co_fillSlots_b62 at hf
  obtain ⟨v5, e_v5⟩ : ∃ z : Int32, z = x2 + 1 := ⟨_, rfl⟩
  replace hf := bd_some hf v5 e_v5
  refine lv_iinc (v := v5) (lv' := [(2, .int v5), (0, .ref (h 6))]) hx hb dX1_fillSlots_62 hl (k := 1) rfl (by rw [e_v5]; rfl) (by decide) rfl (fun ls hl => ?_)
  refine lv_goto (tgt := 6) hx hb dX1_fillSlots_65 (by decide) ?_
  exact ih6 v5 st _ hf _ _ _ (lv_sub hl [1, 0] rfl) G
set_option maxHeartbeats 4000000 in
set_option maxRecDepth 100000 in
theorem kx_Co_fillSlots_b6 {p : Program} {l : Launch} {e : Env} {s : State} {m : MethodId} {args : Array Value} {below : List Frame} {meth : Method} {c : Code} {D : va_G} {h : Nat → Nat} {E : Nat → Nat} {k : Nat → Nat × ClassId} (C : cxC D k p s m args meth c cX1_fillSlots 3 none RX1) (N : Nat) : ∀ (n : Nat) (x2 : Int32) (st : rs_T) (s' : rs_T), fx_Co_fillSlots_b6 N n x2 st = some s' → ∀ (H : Heap) (locs : List Loc) (ls : Array Slot), lv_has ls 3 [(0, .ref (h 6)), (2, .int x2)] → gdC D k h (vE E) (arC k h s.heap.size) s.heap H locs st → W p l e rm_Co_fillSlots s m args below meth c H locs 0 0 (MQ below (qVC D k h E s.heap.size s') args s 0 0 (arC k h s.heap.size)) (F0 m 6 ls []) := by
  obtain ⟨hx, hb, hml, hr, hown, hts, hK, hN, hlk⟩ := id C
  intro n
  induction n with
  | zero => intro x2 st s' hf; cases hf
  | succ n ih =>
    intro x2 st s' hf H locs ls hl G
    rw [fx_Co_fillSlots_b6] at hf
    refine lv_iload_n hx hb dX1_fillSlots_6 rfl (lv_at hl 1 rfl) ?_
    refine lv_aload_n hx hb dX1_fillSlots_7 rfl (lv_at hl 0 rfl) ?_
    refine fg_Co_operands (v := rI st 23) hx hb hts hown hK G (hts _ lk_X1_25) rfl dX1_fillSlots_8 ?_
    refine lv_icmp_ge (tgt := 68) hx hb dX1_fillSlots_11 (by decide) (fun c2 => ?_) (fun c2 => ?_)
    · replace hf := if_p hf c2
      exact rt_vC C G hf dX1_fillSlots_68
    · replace hf := if_n hf c2
      refine lv_aload_n hx hb dX1_fillSlots_14 rfl (lv_at hl 0 rfl) ?_
      refine fg_Co_where hx hb hts hown hK G (hts _ lk_X1_9) dX1_fillSlots_15 ?_
      refine lv_iload_n hx hb dX1_fillSlots_18 rfl (lv_at hl 1 rfl) ?_
      obtain ⟨h_g3, hf⟩ := gd_some hf
      refine ra_IC (v := rA st 29 x2.toNatClampNeg) hx hb hK G (waC_42 ..) (t0 := 33) rfl rfl h_g3 dX1_fillSlots_19 ?_
      refine lv_aload_n hx hb dX1_fillSlots_20 rfl (lv_at hl 0 rfl) ?_
      refine fg_Co_slots (v := rI st 22) hx hb hts hown hK G (hts _ lk_X1_22) rfl dX1_fillSlots_21 ?_
      refine lv_iload_n hx hb dX1_fillSlots_24 rfl (lv_at hl 1 rfl) ?_
      refine lv_iadd hx hb dX1_fillSlots_25 ?_
      refine lv_icmp_eq (tgt := 62) hx hb dX1_fillSlots_26 (by decide) (fun c4 => ?_) (fun c4 => ?_)
      · replace hf := if_p hf c4
        exact kx_Co_fillSlots_b62 C N (fx_Co_fillSlots_b6 N n) ih x2 st _ hf _ _ _ (lv_sub hl [0, 1] rfl) G
      · replace hf := if_n hf c4
        refine lv_aload_n hx hb dX1_fillSlots_29 rfl (lv_at hl 0 rfl) ?_
        refine lv_sipush (v := 200) hx hb dX1_fillSlots_30 (by decide) ?_
        refine lv_aload_n hx hb dX1_fillSlots_33 rfl (lv_at hl 0 rfl) ?_
        refine fg_Co_slots (v := rI st 22) hx hb hts hown hK G (hts _ lk_X1_22) rfl dX1_fillSlots_34 ?_
        refine lv_iload_n hx hb dX1_fillSlots_37 rfl (lv_at hl 1 rfl) ?_
        refine lv_iadd hx hb dX1_fillSlots_38 ?_
        refine lv_aload_n hx hb dX1_fillSlots_39 rfl (lv_at hl 0 rfl) ?_
        refine fg_Co_where hx hb hts hown hK G (hts _ lk_X1_9) dX1_fillSlots_40 ?_
        refine lv_iload_n hx hb dX1_fillSlots_43 rfl (lv_at hl 1 rfl) ?_
        obtain ⟨h_g6, hf⟩ := gd_some hf
        refine ra_IC (v := rA st 29 x2.toNatClampNeg) hx hb hK G (waC_42 ..) (t0 := 33) rfl rfl h_g6 dX1_fillSlots_44 ?_
        refine lv_iconst (v := 0) hx hb dX1_fillSlots_45 (by decide) ?_
        refine lv_iconst (v := 0) hx hb dX1_fillSlots_46 (by decide) ?_
        obtain ⟨st7, hst7, hf⟩ := bv_some hf
        refine cl_vvC C hl G (As := [.int 200, .int ((rI st 22) + x2), .int (rA st 29 x2.toNatClampNeg), .int 0, .int 0]) (rest := []) (kx_Co_emit l D k h 200 ((rI st 22) + x2) (rA st 29 x2.toNatClampNeg) 0 0 st _ hst7) gi_X1_129 (hwC_6 ..) rfl hd_X1_emit ⟨Nat.le_of_ble_eq_true rfl, Nat.le_of_ble_eq_true rfl⟩ rfl rfl (Nat.le_of_ble_eq_true rfl) dX1_fillSlots_47 ⟨Nat.zero_le _, Nat.zero_le _⟩ (fun H locs e0 G => ?_)
        refine lv_aload_n hx hb dX1_fillSlots_50 rfl (lv_at hl 0 rfl) ?_
        refine fg_Co_where hx hb hts hown hK G (hts _ lk_X1_9) dX1_fillSlots_51 ?_
        refine lv_iload_n hx hb dX1_fillSlots_54 rfl (lv_at hl 1 rfl) ?_
        refine lv_aload_n hx hb dX1_fillSlots_55 rfl (lv_at hl 0 rfl) ?_
        refine fg_Co_slots (v := rI st7 22) hx hb hts hown hK G (hts _ lk_X1_22) rfl dX1_fillSlots_56 ?_
        refine lv_iload_n hx hb dX1_fillSlots_59 rfl (lv_at hl 1 rfl) ?_
        refine lv_iadd hx hb dX1_fillSlots_60 ?_
        obtain ⟨h_g8, hf⟩ := gd_some hf
        refine rw_IC hx hb hK G (waC_42 ..) (t0 := 33) rfl (wsC_42 ..) (zw_42 h_g8) rfl h_g8 dX1_fillSlots_61 (fun H locs G => ?_)
        exact kx_Co_fillSlots_b62 C N (fx_Co_fillSlots_b6 N n) ih x2 (wA st7 29 x2.toNatClampNeg ((rI st7 22) + x2)) _ hf _ _ _ (lv_sub hl [0, 1] rfl) G
set_option maxHeartbeats 4000000 in
set_option maxRecDepth 100000 in
theorem kx_Co_fillSlots (l : Launch) (D : va_G) (k : Nat → Nat × ClassId) (h : Nat → Nat) (N : Nat) (p1 : Int32) (st : rs_T) (s' : rs_T) (hf : fx_Co_fillSlots N p1 st = some s') : mVC l D k h yX1_fillSlots cX1_fillSlots 3 rm_Co_fillSlots [.ref (h 6), .int p1] st s' := by
  refine mVC_of (by decide) ⟨rfl, rfl⟩ (Nat.le_of_ble_eq_true rfl) ?_
  intro p e s m below meth c ls C hl G
  obtain ⟨hx, hb, hml, hr, hown, hts, hK, hN, hlk⟩ := id C
  have hown : s.vm.findClass RX1 = some m.cls := hown
  have hl : lv_has ls 3 [(0, .ref (h 6)), (1, .int p1)] := hl
  unfold fx_Co_fillSlots at hf
  refine lv_iload_n hx hb dX1_fillSlots_0 rfl (lv_at hl 1 rfl) ?_
  refine lv_iconst (v := 0) hx hb dX1_fillSlots_1 (by decide) ?_
  refine cm_mmaxC C hl lk_X1_197 (Nat.le_of_ble_eq_true rfl) (Nat.le_of_ble_eq_true rfl) dX1_fillSlots_2 ⟨Nat.zero_le _, Nat.zero_le _⟩ ?_
  refine lv_topi (fun v1 e_v1 => ?_)
  replace hf := bd_some hf v1 e_v1
  refine lv_istore_n (lv' := [(2, .int v1), (0, .ref (h 6)), (1, .int p1)]) hx hb dX1_fillSlots_5 rfl hl (by decide) rfl (fun ls hl => ?_)
  exact kx_Co_fillSlots_b6 C N N v1 st _ hf _ _ _ (lv_sub hl [1, 0] rfl) G
def rm_Pr_isLoop : Room := { frames := 0, cells := 0, slots := 0, locals := 0 }
set_option maxHeartbeats 4000000 in
set_option maxRecDepth 100000 in
theorem kx_Pr_isLoop (l : Launch) (D : va_G) (k : Nat → Nat × ClassId) (h : Nat → Nat) (p1 : Int32) (st : rs_T) (r : Int32) (s' : rs_T) (hf : fx_Pr_isLoop p1 st = some (r, s')) : mIC l D k h yX3_isLoop cX3_isLoop 2 .boolean rm_Pr_isLoop [.ref (h 1), .int p1] st r s' := by
  refine mIC_of (by decide) ⟨rfl, rfl⟩ (Nat.le_of_ble_eq_true rfl) ?_
  intro p e s m below meth c ls C hl G
  obtain ⟨hx, hb, hml, hr, hown, hts, hK, hN, hlk⟩ := id C
  have hown : s.vm.findClass RX3 = some m.cls := hown
  have hl : lv_has ls 2 [(0, .ref (h 1)), (1, .int p1)] := hl
  unfold fx_Pr_isLoop at hf
  refine lv_iload_n hx hb dX3_isLoop_0 rfl (lv_at hl 1 rfl) ?_
  refine lv_iconst (v := (-1)) hx hb dX3_isLoop_1 (by decide) ?_
  refine lv_icmp_eq (tgt := 19) hx hb dX3_isLoop_2 (by decide) (fun c1 => ?_) (fun c1 => ?_)
  · replace hf := if_p hf c1
    refine lv_iconst (v := 0) hx hb dX3_isLoop_19 (by decide) ?_
    exact rt_zC C rfl G hf dX3_isLoop_20
  · replace hf := if_n hf c1
    refine lv_aload_n hx hb dX3_isLoop_5 rfl (lv_at hl 0 rfl) ?_
    refine fg_Pr_operation hx hb hts hown hK G (hts _ lk_X3_33) dX3_isLoop_6 ?_
    refine lv_iload_n hx hb dX3_isLoop_9 rfl (lv_at hl 1 rfl) ?_
    obtain ⟨h_g2, hf⟩ := gd_some hf
    refine ra_IC (v := rA st 7 p1.toNatClampNeg) hx hb hK G (waC_17 ..) (t0 := 8) rfl rfl h_g2 dX3_isLoop_10 ?_
    refine lv_iconst (v := 3) hx hb dX3_isLoop_11 (by decide) ?_
    refine lv_icmp_ne (tgt := 19) hx hb dX3_isLoop_12 (by decide) (fun c3 => ?_) (fun c3 => ?_)
    · replace hf := if_n hf c3
      refine lv_iconst (v := 0) hx hb dX3_isLoop_19 (by decide) ?_
      exact rt_zC C rfl G hf dX3_isLoop_20
    · replace hf := if_p hf c3
      refine lv_iconst (v := 1) hx hb dX3_isLoop_15 (by decide) ?_
      refine lv_goto (tgt := 20) hx hb dX3_isLoop_16 (by decide) ?_
      exact rt_zC C rfl G hf dX3_isLoop_20
def rm_Co_emitBranch : Room := { frames := 1, cells := 0, slots := 0, locals := 26 }
set_option maxHeartbeats 4000000 in
set_option maxRecDepth 100000 in
theorem kx_Co_emitBranch_b79 {p : Program} {l : Launch} {e : Env} {s : State} {m : MethodId} {args : Array Value} {below : List Frame} {meth : Method} {c : Code} {D : va_G} {h : Nat → Nat} {E : Nat → Nat} {k : Nat → Nat × ClassId} (C : cxC D k p s m args meth c cX1_emitBranch 6 none RX1) (x2 : Int32) (x3 : Int32) (x4 : Int32) (y0 : Int32) (st : rs_T) (s' : rs_T) (hf : fx_Co_emitBranch_b79 x2 x3 x4 y0 st = some s') : ∀ (H : Heap) (locs : List Loc) (ls : Array Slot), lv_has ls 6 [(0, .ref (h 6)), (2, .int x2), (3, .int x3), (4, .int x4)] → gdC D k h (vE E) (arC k h s.heap.size) s.heap H locs st → W p l e rm_Co_emitBranch s m args below meth c H locs 0 0 (MQ below (qVC D k h E s.heap.size s') args s 0 0 (arC k h s.heap.size)) (F0 m 79 ls [.int y0]) := by
  obtain ⟨hx, hb, hml, hr, hown, hts, hK, hN, hlk⟩ := id C
  intro H locs ls hl G
  unfold fx_Co_emitBranch_b79 at hf
  refine lv_istore (lv' := [(5, .int y0), (0, .ref (h 6)), (2, .int x2), (3, .int x3), (4, .int x4)]) hx hb dX1_emitBranch_79 hl (by decide) rfl (fun ls hl => ?_)
  refine lv_aload_n hx hb dX1_emitBranch_81 rfl (lv_at hl 1 rfl) ?_
  refine lv_bipush (v := 12) hx hb dX1_emitBranch_82 (by decide) ?_
  refine lv_aload_n hx hb dX1_emitBranch_84 rfl (lv_at hl 1 rfl) ?_
  refine fg_Co_slots (v := rI st 22) hx hb hts hown hK G (hts _ lk_X1_22) rfl dX1_emitBranch_85 ?_
  refine lv_aload_n hx hb dX1_emitBranch_88 rfl (lv_at hl 1 rfl) ?_
  refine fg_Co_program hx hb hts hown hK G (hts _ lk_X1_38) dX1_emitBranch_89 ?_
  refine fg_Pr_height hx hb hts hown hK G (hts _ lk_X1_136) dX1_emitBranch_92 ?_
  refine lv_iload_n hx hb dX1_emitBranch_95 rfl (lv_at hl 2 rfl) ?_
  obtain ⟨h_g11, hf⟩ := gd_some hf
  refine ra_IC (v := rA st 12 x2.toNatClampNeg) hx hb hK G (waC_22 ..) (t0 := 13) rfl rfl h_g11 dX1_emitBranch_96 ?_
  refine lv_iadd hx hb dX1_emitBranch_97 ?_
  refine lv_iload hx hb dX1_emitBranch_98 (lv_at hl 4 rfl) ?_
  refine lv_iload_n hx hb dX1_emitBranch_100 rfl (lv_at hl 3 rfl) ?_
  refine lv_iload hx hb dX1_emitBranch_101 (lv_at hl 0 rfl) ?_
  obtain ⟨st12, hst12, hf⟩ := bv_some hf
  refine cl_vvC C hl G (As := [.int 12, .int ((rI st 22) + (rA st 12 x2.toNatClampNeg)), .int x4, .int x3, .int y0]) (rest := []) (kx_Co_emit l D k h 12 ((rI st 22) + (rA st 12 x2.toNatClampNeg)) x4 x3 y0 st _ hst12) gi_X1_129 (hwC_6 ..) rfl hd_X1_emit ⟨Nat.le_of_ble_eq_true rfl, Nat.le_of_ble_eq_true rfl⟩ rfl rfl (Nat.le_of_ble_eq_true rfl) dX1_emitBranch_103 ⟨Nat.zero_le _, Nat.zero_le _⟩ (fun H locs e0 G => ?_)
  exact rt_vC C G hf dX1_emitBranch_106
set_option maxHeartbeats 4000000 in
set_option maxRecDepth 100000 in
theorem kx_Co_emitBranch (l : Launch) (D : va_G) (k : Nat → Nat × ClassId) (h : Nat → Nat) (p1 : Int32) (st : rs_T) (s' : rs_T) (hf : fx_Co_emitBranch p1 st = some s') : mVC l D k h yX1_emitBranch cX1_emitBranch 6 rm_Co_emitBranch [.ref (h 6), .int p1] st s' := by
  refine mVC_of (by decide) ⟨rfl, rfl⟩ (Nat.le_of_ble_eq_true rfl) ?_
  intro p e s m below meth c ls C hl G
  obtain ⟨hx, hb, hml, hr, hown, hts, hK, hN, hlk⟩ := id C
  have hown : s.vm.findClass RX1 = some m.cls := hown
  have hl : lv_has ls 6 [(0, .ref (h 6)), (1, .int p1)] := hl
  unfold fx_Co_emitBranch at hf
  refine lv_aload_n hx hb dX1_emitBranch_0 rfl (lv_at hl 0 rfl) ?_
  refine fg_Co_program hx hb hts hown hK G (hts _ lk_X1_38) dX1_emitBranch_1 ?_
  refine fg_Pr_link hx hb hts hown hK G (hts _ lk_X1_126) dX1_emitBranch_4 ?_
  refine lv_iload_n hx hb dX1_emitBranch_7 rfl (lv_at hl 1 rfl) ?_
  obtain ⟨h_g1, hf⟩ := gd_some hf
  refine ra_IC (v := rA st 10 p1.toNatClampNeg) hx hb hK G (waC_20 ..) (t0 := 11) rfl rfl h_g1 dX1_emitBranch_8 ?_
  refine lv_topi (fun v2 e_v2 => ?_)
  replace hf := bd_some hf v2 e_v2
  refine lv_istore_n (lv' := [(2, .int v2), (0, .ref (h 6)), (1, .int p1)]) hx hb dX1_emitBranch_9 rfl hl (by decide) rfl (fun ls hl => ?_)
  refine lv_aload_n hx hb dX1_emitBranch_10 rfl (lv_at hl 1 rfl) ?_
  refine fg_Co_program hx hb hts hown hK G (hts _ lk_X1_38) dX1_emitBranch_11 ?_
  refine lv_iload_n hx hb dX1_emitBranch_14 rfl (lv_at hl 0 rfl) ?_
  refine lv_aload_n hx hb dX1_emitBranch_15 rfl (lv_at hl 1 rfl) ?_
  refine fg_Co_function (v := rI st 21) hx hb hts hown hK G (hts _ lk_X1_18) rfl dX1_emitBranch_16 ?_
  obtain ⟨r4, st3, hst3, hf⟩ := bn_some hf
  refine cl_viC C hl G (As := [.int v2, .int (rI st 21)]) (rest := []) (kx_Pr_wantedBy l D k h v2 (rI st 21) st _ _ hst3) gi_X1_159 (hwC_1 ..) rfl hd_X3_wantedBy ⟨Nat.le_of_ble_eq_true rfl, Nat.le_of_ble_eq_true rfl⟩ rfl rfl (Nat.le_of_ble_eq_true rfl) dX1_emitBranch_19 ⟨Nat.zero_le _, Nat.zero_le _⟩ (fun H locs e0 G => ?_)
  refine lv_istore_n (lv' := [(3, .int r4), (2, .int v2), (0, .ref (h 6)), (1, .int p1)]) hx hb dX1_emitBranch_22 rfl hl (by decide) rfl (fun ls hl => ?_)
  refine lv_aload_n hx hb dX1_emitBranch_23 rfl (lv_at hl 2 rfl) ?_
  refine fg_Co_slots (v := rI st3 22) hx hb hts hown hK G (hts _ lk_X1_22) rfl dX1_emitBranch_24 ?_
  refine lv_aload_n hx hb dX1_emitBranch_27 rfl (lv_at hl 2 rfl) ?_
  refine fg_Co_operands (v := rI st3 23) hx hb hts hown hK G (hts _ lk_X1_25) rfl dX1_emitBranch_28 ?_
  refine lv_iadd hx hb dX1_emitBranch_31 ?_
  refine lv_iload_n hx hb dX1_emitBranch_32 rfl (lv_at hl 0 rfl) ?_
  refine lv_isub hx hb dX1_emitBranch_33 ?_
  refine lv_topi (fun v5 e_v5 => ?_)
  replace hf := bd_some hf v5 e_v5
  refine lv_istore (lv' := [(4, .int v5), (3, .int r4), (2, .int v2), (0, .ref (h 6)), (1, .int p1)]) hx hb dX1_emitBranch_34 hl (by decide) rfl (fun ls hl => ?_)
  refine lv_iload_n hx hb dX1_emitBranch_36 rfl (lv_at hl 2 rfl) ?_
  refine lv_iconst (v := (-1)) hx hb dX1_emitBranch_37 (by decide) ?_
  refine lv_icmp_ne (tgt := 55) hx hb dX1_emitBranch_38 (by decide) (fun c6 => ?_) (fun c6 => ?_)
  · replace hf := if_n hf c6
    refine lv_aload_n hx hb dX1_emitBranch_55 rfl (lv_at hl 3 rfl) ?_
    refine fg_Co_program hx hb hts hown hK G (hts _ lk_X1_38) dX1_emitBranch_56 ?_
    refine lv_iload_n hx hb dX1_emitBranch_59 rfl (lv_at hl 2 rfl) ?_
    obtain ⟨r8, st7, hst7, hf⟩ := bn_some hf
    refine cl_viC C hl G (As := [.int v2]) (rest := []) (kx_Pr_isLoop l D k h v2 st3 _ _ hst7) gi_X1_181 (hwC_1 ..) rfl hd_X3_isLoop ⟨Nat.le_of_ble_eq_true rfl, Nat.le_of_ble_eq_true rfl⟩ rfl rfl (Nat.le_of_ble_eq_true rfl) dX1_emitBranch_60 ⟨Nat.zero_le _, Nat.zero_le _⟩ (fun H locs e0 G => ?_)
    refine lv_if_eq (tgt := 70) hx hb dX1_emitBranch_63 (by decide) (fun c9 => ?_) (fun c9 => ?_)
    · replace hf := if_p hf c9
      refine lv_aload_n hx hb dX1_emitBranch_70 rfl (lv_at hl 3 rfl) ?_
      refine fg_Co_program hx hb hts hown hK G (hts _ lk_X1_38) dX1_emitBranch_71 ?_
      refine fg_Pr_link hx hb hts hown hK G (hts _ lk_X1_126) dX1_emitBranch_74 ?_
      refine lv_iload_n hx hb dX1_emitBranch_77 rfl (lv_at hl 2 rfl) ?_
      obtain ⟨h_g10, hf⟩ := gd_some hf
      refine ra_IC (v := rA st7 10 v2.toNatClampNeg) hx hb hK G (waC_20 ..) (t0 := 11) rfl rfl h_g10 dX1_emitBranch_78 ?_
      exact kx_Co_emitBranch_b79 C v2 r4 v5 (rA st7 10 v2.toNatClampNeg) st7 _ hf _ _ _ (lv_sub hl [3, 2, 1, 0] rfl) G
    · replace hf := if_n hf c9
      refine lv_iload_n hx hb dX1_emitBranch_66 rfl (lv_at hl 2 rfl) ?_
      refine lv_goto (tgt := 79) hx hb dX1_emitBranch_67 (by decide) ?_
      exact kx_Co_emitBranch_b79 C v2 r4 v5 v2 st7 _ hf _ _ _ (lv_sub hl [3, 2, 1, 0] rfl) G
  · replace hf := if_p hf c6
    refine lv_aload_n hx hb dX1_emitBranch_41 rfl (lv_at hl 3 rfl) ?_
    refine lv_bipush (v := 15) hx hb dX1_emitBranch_42 (by decide) ?_
    refine lv_iconst (v := 0) hx hb dX1_emitBranch_44 (by decide) ?_
    refine lv_iload hx hb dX1_emitBranch_45 (lv_at hl 0 rfl) ?_
    refine lv_iconst (v := 0) hx hb dX1_emitBranch_47 (by decide) ?_
    refine lv_iconst (v := 0) hx hb dX1_emitBranch_48 (by decide) ?_
    obtain ⟨st13, hst13, hf⟩ := bv_some hf
    refine cl_vvC C hl G (As := [.int 15, .int 0, .int v5, .int 0, .int 0]) (rest := []) (kx_Co_emit l D k h 15 0 v5 0 0 st3 _ hst13) gi_X1_129 (hwC_6 ..) rfl hd_X1_emit ⟨Nat.le_of_ble_eq_true rfl, Nat.le_of_ble_eq_true rfl⟩ rfl rfl (Nat.le_of_ble_eq_true rfl) dX1_emitBranch_49 ⟨Nat.zero_le _, Nat.zero_le _⟩ (fun H locs e0 G => ?_)
    refine lv_goto (tgt := 106) hx hb dX1_emitBranch_52 (by decide) ?_
    exact rt_vC C G hf dX1_emitBranch_106
def rm_Co_pop : Room := { frames := 0, cells := 0, slots := 0, locals := 0 }
set_option maxHeartbeats 4000000 in
set_option maxRecDepth 100000 in
theorem kx_Co_pop (l : Launch) (D : va_G) (k : Nat → Nat × ClassId) (h : Nat → Nat) (st : rs_T) (r : Int32) (s' : rs_T) (hf : fx_Co_pop st = some (r, s')) : mIC l D k h yX1_pop cX1_pop 1 .int rm_Co_pop [.ref (h 6)] st r s' := by
  refine mIC_of (by decide) ⟨rfl, rfl⟩ (Nat.le_of_ble_eq_true rfl) ?_
  intro p e s m below meth c ls C hl G
  obtain ⟨hx, hb, hml, hr, hown, hts, hK, hN, hlk⟩ := id C
  have hown : s.vm.findClass RX1 = some m.cls := hown
  have hl : lv_has ls 1 [(0, .ref (h 6))] := hl
  unfold fx_Co_pop at hf
  refine lv_aload_n hx hb dX1_pop_0 rfl (lv_at hl 0 rfl) ?_
  refine fg_Co_operands (v := rI st 23) hx hb hts hown hK G (hts _ lk_X1_25) rfl dX1_pop_1 ?_
  refine lv_if_gt (tgt := 9) hx hb dX1_pop_4 (by decide) (fun c1 => ?_) (fun c1 => ?_)
  · replace hf := if_p hf c1
    refine lv_aload_n hx hb dX1_pop_9 rfl (lv_at hl 0 rfl) ?_
    refine lv_dup hx hb dX1_pop_10 rfl ?_
    refine fg_Co_operands (v := rI st 23) hx hb hts hown hK G (hts _ lk_X1_25) rfl dX1_pop_11 ?_
    refine lv_iconst (v := 1) hx hb dX1_pop_14 (by decide) ?_
    refine lv_isub hx hb dX1_pop_15 ?_
    refine fp_Co_operands hx hb hts hown hK G (hts _ lk_X1_25) dX1_pop_16 (fun H locs G => ?_)
    refine lv_aload_n hx hb dX1_pop_19 rfl (lv_at hl 0 rfl) ?_
    refine fg_Co_where hx hb hts hown hK G (hts _ lk_X1_9) dX1_pop_20 ?_
    refine lv_aload_n hx hb dX1_pop_23 rfl (lv_at hl 0 rfl) ?_
    refine fg_Co_operands (v := (rI st 23) - 1) hx hb hts hown hK G (hts _ lk_X1_25) rfl dX1_pop_24 ?_
    obtain ⟨h_g2, hf⟩ := gd_some hf
    refine ra_IC (v := rA st 29 (((rI st 23) - 1).toNatClampNeg)) hx hb hK G (waC_42 ..) (t0 := 33) rfl rfl h_g2 dX1_pop_27 ?_
    exact rt_iC C G hf dX1_pop_28
  · replace hf := if_n hf c1
    refine lv_iconst (v := 0) hx hb dX1_pop_7 (by decide) ?_
    exact rt_iC C G hf dX1_pop_8
def rm_Co_branchIf : Room := { frames := 2, cells := 0, slots := 0, locals := 51 }
set_option maxHeartbeats 4000000 in
set_option maxRecDepth 100000 in
theorem kx_Co_branchIf (l : Launch) (D : va_G) (k : Nat → Nat × ClassId) (h : Nat → Nat) (N : Nat) (p1 : Int32) (st : rs_T) (s' : rs_T) (hf : fx_Co_branchIf N p1 st = some s') : mVC l D k h yX1_branchIf cX1_branchIf 3 rm_Co_branchIf [.ref (h 6), .int p1] st s' := by
  refine mVC_of (by decide) ⟨rfl, rfl⟩ (Nat.le_of_ble_eq_true rfl) ?_
  intro p e s m below meth c ls C hl G
  obtain ⟨hx, hb, hml, hr, hown, hts, hK, hN, hlk⟩ := id C
  have hown : s.vm.findClass RX1 = some m.cls := hown
  have hl : lv_has ls 3 [(0, .ref (h 6)), (1, .int p1)] := hl
  unfold fx_Co_branchIf at hf
  refine lv_aload_n hx hb dX1_branchIf_0 rfl (lv_at hl 0 rfl) ?_
  obtain ⟨r2, st1, hst1, hf⟩ := bn_some hf
  refine cl_viC C hl G (As := []) (rest := []) (kx_Co_pop l D k h st _ _ hst1) gi_X1_116 (hwC_6 ..) rfl hd_X1_pop ⟨Nat.le_of_ble_eq_true rfl, Nat.le_of_ble_eq_true rfl⟩ rfl rfl (Nat.le_of_ble_eq_true rfl) dX1_branchIf_1 ⟨Nat.zero_le _, Nat.zero_le _⟩ (fun H locs e0 G => ?_)
  refine lv_istore_n (lv' := [(2, .int r2), (0, .ref (h 6)), (1, .int p1)]) hx hb dX1_branchIf_4 rfl hl (by decide) rfl (fun ls hl => ?_)
  refine lv_aload_n hx hb dX1_branchIf_5 rfl (lv_at hl 1 rfl) ?_
  refine lv_aload_n hx hb dX1_branchIf_6 rfl (lv_at hl 1 rfl) ?_
  refine fg_Co_operands (v := rI st1 23) hx hb hts hown hK G (hts _ lk_X1_25) rfl dX1_branchIf_7 ?_
  refine lv_aload_n hx hb dX1_branchIf_10 rfl (lv_at hl 1 rfl) ?_
  refine fg_Co_program hx hb hts hown hK G (hts _ lk_X1_38) dX1_branchIf_11 ?_
  refine lv_aload_n hx hb dX1_branchIf_14 rfl (lv_at hl 1 rfl) ?_
  refine fg_Co_program hx hb hts hown hK G (hts _ lk_X1_38) dX1_branchIf_15 ?_
  refine fg_Pr_link hx hb hts hown hK G (hts _ lk_X1_126) dX1_branchIf_18 ?_
  refine lv_iload_n hx hb dX1_branchIf_21 rfl (lv_at hl 2 rfl) ?_
  obtain ⟨h_g3, hf⟩ := gd_some hf
  refine ra_IC (v := rA st1 10 p1.toNatClampNeg) hx hb hK G (waC_20 ..) (t0 := 11) rfl rfl h_g3 dX1_branchIf_22 ?_
  refine lv_aload_n hx hb dX1_branchIf_23 rfl (lv_at hl 1 rfl) ?_
  refine fg_Co_function (v := rI st1 21) hx hb hts hown hK G (hts _ lk_X1_18) rfl dX1_branchIf_24 ?_
  obtain ⟨r5, st4, hst4, hf⟩ := bn_some hf
  refine cl_viC C hl G (As := [.int (rA st1 10 p1.toNatClampNeg), .int (rI st1 21)]) (rest := [.int (rI st1 23), .ref (h 6)]) (kx_Pr_wantedBy l D k h (rA st1 10 p1.toNatClampNeg) (rI st1 21) st1 _ _ hst4) gi_X1_159 (hwC_1 ..) rfl hd_X3_wantedBy ⟨Nat.le_of_ble_eq_true rfl, Nat.le_of_ble_eq_true rfl⟩ rfl rfl (Nat.le_of_ble_eq_true rfl) dX1_branchIf_27 ⟨Nat.zero_le _, Nat.zero_le _⟩ (fun H locs e0 G => ?_)
  refine lv_isub hx hb dX1_branchIf_30 ?_
  obtain ⟨st6, hst6, hf⟩ := bv_some hf
  refine cl_vvC C hl G (As := [.int ((rI st1 23) - r5)]) (rest := []) (kx_Co_fillSlots l D k h N ((rI st1 23) - r5) st4 _ hst6) gi_X1_120 (hwC_6 ..) rfl hd_X1_fillSlots ⟨Nat.le_of_ble_eq_true rfl, Nat.le_of_ble_eq_true rfl⟩ rfl rfl (Nat.le_of_ble_eq_true rfl) dX1_branchIf_31 ⟨Nat.zero_le _, Nat.zero_le _⟩ (fun H locs e0 G => ?_)
  refine lv_aload_n hx hb dX1_branchIf_34 rfl (lv_at hl 1 rfl) ?_
  refine lv_bipush (v := 13) hx hb dX1_branchIf_35 (by decide) ?_
  refine lv_iconst (v := 0) hx hb dX1_branchIf_37 (by decide) ?_
  refine lv_iload_n hx hb dX1_branchIf_38 rfl (lv_at hl 0 rfl) ?_
  refine lv_iconst (v := 0) hx hb dX1_branchIf_39 (by decide) ?_
  refine lv_iconst (v := 0) hx hb dX1_branchIf_40 (by decide) ?_
  obtain ⟨st7, hst7, hf⟩ := bv_some hf
  refine cl_vvC C hl G (As := [.int 13, .int 0, .int r2, .int 0, .int 0]) (rest := []) (kx_Co_emit l D k h 13 0 r2 0 0 st6 _ hst7) gi_X1_129 (hwC_6 ..) rfl hd_X1_emit ⟨Nat.le_of_ble_eq_true rfl, Nat.le_of_ble_eq_true rfl⟩ rfl rfl (Nat.le_of_ble_eq_true rfl) dX1_branchIf_41 ⟨Nat.zero_le _, Nat.zero_le _⟩ (fun H locs e0 G => ?_)
  refine lv_aload_n hx hb dX1_branchIf_44 rfl (lv_at hl 1 rfl) ?_
  refine lv_iload_n hx hb dX1_branchIf_45 rfl (lv_at hl 2 rfl) ?_
  obtain ⟨st8, hst8, hf⟩ := bv_some hf
  refine cl_vvC C hl G (As := [.int p1]) (rest := []) (kx_Co_emitBranch l D k h p1 st7 _ hst8) gi_X1_163 (hwC_6 ..) rfl hd_X1_emitBranch ⟨Nat.le_of_ble_eq_true rfl, Nat.le_of_ble_eq_true rfl⟩ rfl rfl (Nat.le_of_ble_eq_true rfl) dX1_branchIf_46 ⟨Nat.zero_le _, Nat.zero_le _⟩ (fun H locs e0 G => ?_)
  exact rt_vC C G hf dX1_branchIf_49
def rm_Co_table : Room := { frames := 2, cells := 0, slots := 0, locals := 51 }
set_option maxHeartbeats 4000000 in
set_option maxRecDepth 100000 in
theorem kx_Co_table_b56 {p : Program} {l : Launch} {e : Env} {s : State} {m : MethodId} {args : Array Value} {below : List Frame} {meth : Method} {c : Code} {D : va_G} {h : Nat → Nat} {E : Nat → Nat} {k : Nat → Nat × ClassId} (C : cxC D k p s m args meth c cX1_table 4 none RX1) (N : Nat) : ∀ (n : Nat) (x1 : Int32) (x3 : Int32) (st : rs_T) (s' : rs_T), fx_Co_table_b56 N n x1 x3 st = some s' → ∀ (H : Heap) (locs : List Loc) (ls : Array Slot), lv_has ls 4 [(0, .ref (h 6)), (1, .int x1), (3, .int x3)] → gdC D k h (vE E) (arC k h s.heap.size) s.heap H locs st → W p l e rm_Co_table s m args below meth c H locs 0 0 (MQ below (qVC D k h E s.heap.size s') args s 0 0 (arC k h s.heap.size)) (F0 m 56 ls []) := by
  obtain ⟨hx, hb, hml, hr, hown, hts, hK, hN, hlk⟩ := id C
  intro n
  induction n with
  | zero => intro x1 x3 st s' hf; cases hf
  | succ n ih =>
    intro x1 x3 st s' hf H locs ls hl G
    rw [fx_Co_table_b56] at hf
    refine lv_iload_n hx hb dX1_table_56 rfl (lv_at hl 2 rfl) ?_
    refine lv_aload_n hx hb dX1_table_57 rfl (lv_at hl 0 rfl) ?_
    refine fg_Co_program hx hb hts hown hK G (hts _ lk_X1_38) dX1_table_58 ?_
    refine fg_Pr_a hx hb hts hown hK G (hts _ lk_X1_95) dX1_table_61 ?_
    refine lv_iload_n hx hb dX1_table_64 rfl (lv_at hl 1 rfl) ?_
    obtain ⟨h_g9, hf⟩ := gd_some hf
    refine ra_IC (v := rA st 8 x1.toNatClampNeg) hx hb hK G (waC_18 ..) (t0 := 9) rfl rfl h_g9 dX1_table_65 ?_
    refine lv_icmp_gt (tgt := 84) hx hb dX1_table_66 (by decide) (fun c10 => ?_) (fun c10 => ?_)
    · replace hf := if_p hf c10
      refine lv_aload_n hx hb dX1_table_84 rfl (lv_at hl 0 rfl) ?_
      refine lv_iconst (v := 0) hx hb dX1_table_85 (by decide) ?_
      refine fp_Co_isLive hx hb hts hown hK G (hts _ lk_X1_31) rfl rfl dX1_table_86 (fun H locs G => ?_)
      exact rt_vC C G hf dX1_table_89
    · replace hf := if_n hf c10
      refine lv_aload_n hx hb dX1_table_69 rfl (lv_at hl 0 rfl) ?_
      refine lv_iload_n hx hb dX1_table_70 rfl (lv_at hl 1 rfl) ?_
      refine lv_iconst (v := 1) hx hb dX1_table_71 (by decide) ?_
      refine lv_iadd hx hb dX1_table_72 ?_
      refine lv_iload_n hx hb dX1_table_73 rfl (lv_at hl 2 rfl) ?_
      refine lv_iadd hx hb dX1_table_74 ?_
      obtain ⟨st11, hst11, hf⟩ := bv_some hf
      refine cl_vvC C hl G (As := [.int ((x1 + 1) + x3)]) (rest := []) (kx_Co_emitBranch l D k h ((x1 + 1) + x3) st _ hst11) gi_X1_163 (hwC_6 ..) rfl hd_X1_emitBranch ⟨Nat.le_of_ble_eq_true rfl, Nat.le_of_ble_eq_true rfl⟩ rfl rfl (Nat.le_of_ble_eq_true rfl) dX1_table_75 ⟨Nat.zero_le _, Nat.zero_le _⟩ (fun H locs e0 G => ?_)
      obtain ⟨v12, e_v12⟩ : ∃ z : Int32, z = x3 + 1 := ⟨_, rfl⟩
      replace hf := bd_some hf v12 e_v12
      refine lv_iinc (v := v12) (lv' := [(3, .int v12), (0, .ref (h 6)), (1, .int x1)]) hx hb dX1_table_78 hl (k := 2) rfl (by rw [e_v12]; rfl) (by decide) rfl (fun ls hl => ?_)
      refine lv_goto (tgt := 56) hx hb dX1_table_81 (by decide) ?_
      exact ih x1 v12 st11 _ hf _ _ _ (lv_sub hl [1, 2, 0] rfl) G
set_option maxHeartbeats 4000000 in
set_option maxRecDepth 100000 in
theorem kx_Co_table (l : Launch) (D : va_G) (k : Nat → Nat × ClassId) (h : Nat → Nat) (N : Nat) (p1 : Int32) (st : rs_T) (s' : rs_T) (hf : fx_Co_table N p1 st = some s') : mVC l D k h yX1_table cX1_table 4 rm_Co_table [.ref (h 6), .int p1] st s' := by
  refine mVC_of (by decide) ⟨rfl, rfl⟩ (Nat.le_of_ble_eq_true rfl) ?_
  intro p e s m below meth c ls C hl G
  obtain ⟨hx, hb, hml, hr, hown, hts, hK, hN, hlk⟩ := id C
  have hown : s.vm.findClass RX1 = some m.cls := hown
  have hl : lv_has ls 4 [(0, .ref (h 6)), (1, .int p1)] := hl
  unfold fx_Co_table at hf
  refine lv_aload_n hx hb dX1_table_0 rfl (lv_at hl 0 rfl) ?_
  obtain ⟨r2, st1, hst1, hf⟩ := bn_some hf
  refine cl_viC C hl G (As := []) (rest := []) (kx_Co_pop l D k h st _ _ hst1) gi_X1_116 (hwC_6 ..) rfl hd_X1_pop ⟨Nat.le_of_ble_eq_true rfl, Nat.le_of_ble_eq_true rfl⟩ rfl rfl (Nat.le_of_ble_eq_true rfl) dX1_table_1 ⟨Nat.zero_le _, Nat.zero_le _⟩ (fun H locs e0 G => ?_)
  refine lv_istore_n (lv' := [(2, .int r2), (0, .ref (h 6)), (1, .int p1)]) hx hb dX1_table_4 rfl hl (by decide) rfl (fun ls hl => ?_)
  refine lv_aload_n hx hb dX1_table_5 rfl (lv_at hl 1 rfl) ?_
  refine lv_aload_n hx hb dX1_table_6 rfl (lv_at hl 1 rfl) ?_
  refine fg_Co_operands (v := rI st1 23) hx hb hts hown hK G (hts _ lk_X1_25) rfl dX1_table_7 ?_
  refine lv_aload_n hx hb dX1_table_10 rfl (lv_at hl 1 rfl) ?_
  refine fg_Co_program hx hb hts hown hK G (hts _ lk_X1_38) dX1_table_11 ?_
  refine lv_aload_n hx hb dX1_table_14 rfl (lv_at hl 1 rfl) ?_
  refine fg_Co_program hx hb hts hown hK G (hts _ lk_X1_38) dX1_table_15 ?_
  refine fg_Pr_link hx hb hts hown hK G (hts _ lk_X1_126) dX1_table_18 ?_
  refine lv_iload_n hx hb dX1_table_21 rfl (lv_at hl 2 rfl) ?_
  refine lv_iconst (v := 1) hx hb dX1_table_22 (by decide) ?_
  refine lv_iadd hx hb dX1_table_23 ?_
  obtain ⟨h_g3, hf⟩ := gd_some hf
  refine ra_IC (v := rA st1 10 ((p1 + 1).toNatClampNeg)) hx hb hK G (waC_20 ..) (t0 := 11) rfl rfl h_g3 dX1_table_24 ?_
  refine lv_aload_n hx hb dX1_table_25 rfl (lv_at hl 1 rfl) ?_
  refine fg_Co_function (v := rI st1 21) hx hb hts hown hK G (hts _ lk_X1_18) rfl dX1_table_26 ?_
  obtain ⟨r5, st4, hst4, hf⟩ := bn_some hf
  refine cl_viC C hl G (As := [.int (rA st1 10 ((p1 + 1).toNatClampNeg)), .int (rI st1 21)]) (rest := [.int (rI st1 23), .ref (h 6)]) (kx_Pr_wantedBy l D k h (rA st1 10 ((p1 + 1).toNatClampNeg)) (rI st1 21) st1 _ _ hst4) gi_X1_159 (hwC_1 ..) rfl hd_X3_wantedBy ⟨Nat.le_of_ble_eq_true rfl, Nat.le_of_ble_eq_true rfl⟩ rfl rfl (Nat.le_of_ble_eq_true rfl) dX1_table_29 ⟨Nat.zero_le _, Nat.zero_le _⟩ (fun H locs e0 G => ?_)
  refine lv_isub hx hb dX1_table_32 ?_
  obtain ⟨st6, hst6, hf⟩ := bv_some hf
  refine cl_vvC C hl G (As := [.int ((rI st1 23) - r5)]) (rest := []) (kx_Co_fillSlots l D k h N ((rI st1 23) - r5) st4 _ hst6) gi_X1_120 (hwC_6 ..) rfl hd_X1_fillSlots ⟨Nat.le_of_ble_eq_true rfl, Nat.le_of_ble_eq_true rfl⟩ rfl rfl (Nat.le_of_ble_eq_true rfl) dX1_table_33 ⟨Nat.zero_le _, Nat.zero_le _⟩ (fun H locs e0 G => ?_)
  refine lv_aload_n hx hb dX1_table_36 rfl (lv_at hl 1 rfl) ?_
  refine lv_bipush (v := 14) hx hb dX1_table_37 (by decide) ?_
  refine lv_iconst (v := 0) hx hb dX1_table_39 (by decide) ?_
  refine lv_iload_n hx hb dX1_table_40 rfl (lv_at hl 0 rfl) ?_
  refine lv_aload_n hx hb dX1_table_41 rfl (lv_at hl 1 rfl) ?_
  refine fg_Co_program hx hb hts hown hK G (hts _ lk_X1_38) dX1_table_42 ?_
  refine fg_Pr_a hx hb hts hown hK G (hts _ lk_X1_95) dX1_table_45 ?_
  refine lv_iload_n hx hb dX1_table_48 rfl (lv_at hl 2 rfl) ?_
  obtain ⟨h_g7, hf⟩ := gd_some hf
  refine ra_IC (v := rA st6 8 p1.toNatClampNeg) hx hb hK G (waC_18 ..) (t0 := 9) rfl rfl h_g7 dX1_table_49 ?_
  refine lv_iconst (v := 0) hx hb dX1_table_50 (by decide) ?_
  obtain ⟨st8, hst8, hf⟩ := bv_some hf
  refine cl_vvC C hl G (As := [.int 14, .int 0, .int r2, .int (rA st6 8 p1.toNatClampNeg), .int 0]) (rest := []) (kx_Co_emit l D k h 14 0 r2 (rA st6 8 p1.toNatClampNeg) 0 st6 _ hst8) gi_X1_129 (hwC_6 ..) rfl hd_X1_emit ⟨Nat.le_of_ble_eq_true rfl, Nat.le_of_ble_eq_true rfl⟩ rfl rfl (Nat.le_of_ble_eq_true rfl) dX1_table_51 ⟨Nat.zero_le _, Nat.zero_le _⟩ (fun H locs e0 G => ?_)
  refine lv_iconst (v := 0) hx hb dX1_table_54 (by decide) ?_
  refine lv_istore_n (lv' := [(3, .int 0), (2, .int r2), (0, .ref (h 6)), (1, .int p1)]) hx hb dX1_table_55 rfl hl (by decide) rfl (fun ls hl => ?_)
  exact kx_Co_table_b56 C N N p1 0 st8 _ hf _ _ _ (lv_sub hl [2, 3, 0] rfl) G
def rm_Co_putSlots : Room := { frames := 0, cells := 0, slots := 0, locals := 0 }
set_option maxHeartbeats 4000000 in
set_option maxRecDepth 100000 in
theorem kx_Co_putSlots_b2 {p : Program} {l : Launch} {e : Env} {s : State} {m : MethodId} {args : Array Value} {below : List Frame} {meth : Method} {c : Code} {D : va_G} {h : Nat → Nat} {E : Nat → Nat} {k : Nat → Nat × ClassId} (C : cxC D k p s m args meth c cX1_putSlots 3 none RX1) (N : Nat) : ∀ (n : Nat) (x1 : Int32) (x2 : Int32) (st : rs_T) (s' : rs_T), fx_Co_putSlots_b2 N n x1 x2 st = some s' → ∀ (H : Heap) (locs : List Loc) (ls : Array Slot), lv_has ls 3 [(0, .ref (h 6)), (1, .int x1), (2, .int x2)] → gdC D k h (vE E) (arC k h s.heap.size) s.heap H locs st → W p l e rm_Co_putSlots s m args below meth c H locs 0 0 (MQ below (qVC D k h E s.heap.size s') args s 0 0 (arC k h s.heap.size)) (F0 m 2 ls []) := by
  obtain ⟨hx, hb, hml, hr, hown, hts, hK, hN, hlk⟩ := id C
  intro n
  induction n with
  | zero => intro x1 x2 st s' hf; cases hf
  | succ n ih =>
    intro x1 x2 st s' hf H locs ls hl G
    rw [fx_Co_putSlots_b2] at hf
    refine lv_iload_n hx hb dX1_putSlots_2 rfl (lv_at hl 2 rfl) ?_
    refine lv_iload_n hx hb dX1_putSlots_3 rfl (lv_at hl 1 rfl) ?_
    refine lv_icmp_ge (tgt := 51) hx hb dX1_putSlots_4 (by decide) (fun c1 => ?_) (fun c1 => ?_)
    · replace hf := if_p hf c1
      exact rt_vC C G hf dX1_putSlots_51
    · replace hf := if_n hf c1
      refine lv_aload_n hx hb dX1_putSlots_7 rfl (lv_at hl 0 rfl) ?_
      refine fg_Co_operands (v := rI st 23) hx hb hts hown hK G (hts _ lk_X1_25) rfl dX1_putSlots_8 ?_
      refine lv_sipush (v := 220) hx hb dX1_putSlots_11 (by decide) ?_
      refine lv_icmp_ge (tgt := 51) hx hb dX1_putSlots_14 (by decide) (fun c2 => ?_) (fun c2 => ?_)
      · replace hf := if_p hf c2
        exact rt_vC C G hf dX1_putSlots_51
      · replace hf := if_n hf c2
        refine lv_aload_n hx hb dX1_putSlots_17 rfl (lv_at hl 0 rfl) ?_
        refine fg_Co_where hx hb hts hown hK G (hts _ lk_X1_9) dX1_putSlots_18 ?_
        refine lv_aload_n hx hb dX1_putSlots_21 rfl (lv_at hl 0 rfl) ?_
        refine fg_Co_operands (v := rI st 23) hx hb hts hown hK G (hts _ lk_X1_25) rfl dX1_putSlots_22 ?_
        refine lv_aload_n hx hb dX1_putSlots_25 rfl (lv_at hl 0 rfl) ?_
        refine fg_Co_slots (v := rI st 22) hx hb hts hown hK G (hts _ lk_X1_22) rfl dX1_putSlots_26 ?_
        refine lv_aload_n hx hb dX1_putSlots_29 rfl (lv_at hl 0 rfl) ?_
        refine fg_Co_operands (v := rI st 23) hx hb hts hown hK G (hts _ lk_X1_25) rfl dX1_putSlots_30 ?_
        refine lv_iadd hx hb dX1_putSlots_33 ?_
        obtain ⟨h_g3, hf⟩ := gd_some hf
        refine rw_IC hx hb hK G (waC_42 ..) (t0 := 33) rfl (wsC_42 ..) (zw_42 h_g3) rfl h_g3 dX1_putSlots_34 (fun H locs G => ?_)
        refine lv_aload_n hx hb dX1_putSlots_35 rfl (lv_at hl 0 rfl) ?_
        refine lv_dup hx hb dX1_putSlots_36 rfl ?_
        refine fg_Co_operands (v := rI st 23) hx hb hts hown hK G (hts _ lk_X1_25) rfl dX1_putSlots_37 ?_
        refine lv_iconst (v := 1) hx hb dX1_putSlots_40 (by decide) ?_
        refine lv_iadd hx hb dX1_putSlots_41 ?_
        refine fp_Co_operands hx hb hts hown hK G (hts _ lk_X1_25) dX1_putSlots_42 (fun H locs G => ?_)
        obtain ⟨v4, e_v4⟩ : ∃ z : Int32, z = x2 + 1 := ⟨_, rfl⟩
        replace hf := bd_some hf v4 e_v4
        refine lv_iinc (v := v4) (lv' := [(2, .int v4), (0, .ref (h 6)), (1, .int x1)]) hx hb dX1_putSlots_45 hl (k := 2) rfl (by rw [e_v4]; rfl) (by decide) rfl (fun ls hl => ?_)
        refine lv_goto (tgt := 2) hx hb dX1_putSlots_48 (by decide) ?_
        exact ih x1 v4 (wI (wA st 29 ((rI st 23).toNatClampNeg) ((rI st 22) + (rI st 23))) 23 ((rI st 23) + 1)) _ hf _ _ _ (lv_sub hl [1, 2, 0] rfl) G
set_option maxHeartbeats 4000000 in
set_option maxRecDepth 100000 in
theorem kx_Co_putSlots (l : Launch) (D : va_G) (k : Nat → Nat × ClassId) (h : Nat → Nat) (N : Nat) (p1 : Int32) (st : rs_T) (s' : rs_T) (hf : fx_Co_putSlots N p1 st = some s') : mVC l D k h yX1_putSlots cX1_putSlots 3 rm_Co_putSlots [.ref (h 6), .int p1] st s' := by
  refine mVC_of (by decide) ⟨rfl, rfl⟩ (Nat.le_of_ble_eq_true rfl) ?_
  intro p e s m below meth c ls C hl G
  obtain ⟨hx, hb, hml, hr, hown, hts, hK, hN, hlk⟩ := id C
  have hown : s.vm.findClass RX1 = some m.cls := hown
  have hl : lv_has ls 3 [(0, .ref (h 6)), (1, .int p1)] := hl
  unfold fx_Co_putSlots at hf
  refine lv_iconst (v := 0) hx hb dX1_putSlots_0 (by decide) ?_
  refine lv_istore_n (lv' := [(2, .int 0), (0, .ref (h 6)), (1, .int p1)]) hx hb dX1_putSlots_1 rfl hl (by decide) rfl (fun ls hl => ?_)
  exact kx_Co_putSlots_b2 C N N p1 0 st _ hf _ _ _ (lv_sub hl [1, 2, 0] rfl) G
def rm_Co_callEntry : Room := { frames := 2, cells := 0, slots := 0, locals := 48 }
set_option maxHeartbeats 4000000 in
set_option maxRecDepth 100000 in
theorem kx_Co_callEntry (l : Launch) (D : va_G) (k : Nat → Nat × ClassId) (h : Nat → Nat) (N : Nat) (p1 : Int32) (p2 : Int32) (st : rs_T) (s' : rs_T) (hf : fx_Co_callEntry N p1 p2 st = some s') : mVC l D k h yX1_callEntry cX1_callEntry 4 rm_Co_callEntry [.ref (h 6), .int p1, .int p2] st s' := by
  refine mVC_of (by decide) ⟨rfl, rfl⟩ (Nat.le_of_ble_eq_true rfl) ?_
  intro p e s m below meth c ls C hl G
  obtain ⟨hx, hb, hml, hr, hown, hts, hK, hN, hlk⟩ := id C
  have hown : s.vm.findClass RX1 = some m.cls := hown
  have hl : lv_has ls 4 [(0, .ref (h 6)), (1, .int p1), (2, .int p2)] := hl
  unfold fx_Co_callEntry at hf
  refine lv_aload_n hx hb dX1_callEntry_0 rfl (lv_at hl 0 rfl) ?_
  obtain ⟨r2, st1, hst1, hf⟩ := bn_some hf
  refine cl_viC C hl G (As := []) (rest := []) (kx_Co_pop l D k h st _ _ hst1) gi_X1_116 (hwC_6 ..) rfl hd_X1_pop ⟨Nat.le_of_ble_eq_true rfl, Nat.le_of_ble_eq_true rfl⟩ rfl rfl (Nat.le_of_ble_eq_true rfl) dX1_callEntry_1 ⟨Nat.zero_le _, Nat.zero_le _⟩ (fun H locs e0 G => ?_)
  refine lv_istore_n (lv' := [(3, .int r2), (0, .ref (h 6)), (1, .int p1), (2, .int p2)]) hx hb dX1_callEntry_4 rfl hl (by decide) rfl (fun ls hl => ?_)
  refine lv_aload_n hx hb dX1_callEntry_5 rfl (lv_at hl 1 rfl) ?_
  refine lv_aload_n hx hb dX1_callEntry_6 rfl (lv_at hl 1 rfl) ?_
  refine fg_Co_operands (v := rI st1 23) hx hb hts hown hK G (hts _ lk_X1_25) rfl dX1_callEntry_7 ?_
  refine lv_iload_n hx hb dX1_callEntry_10 rfl (lv_at hl 2 rfl) ?_
  refine lv_isub hx hb dX1_callEntry_11 ?_
  obtain ⟨st3, hst3, hf⟩ := bv_some hf
  refine cl_vvC C hl G (As := [.int ((rI st1 23) - p1)]) (rest := []) (kx_Co_fillSlots l D k h N ((rI st1 23) - p1) st1 _ hst3) gi_X1_120 (hwC_6 ..) rfl hd_X1_fillSlots ⟨Nat.le_of_ble_eq_true rfl, Nat.le_of_ble_eq_true rfl⟩ rfl rfl (Nat.le_of_ble_eq_true rfl) dX1_callEntry_12 ⟨Nat.zero_le _, Nat.zero_le _⟩ (fun H locs e0 G => ?_)
  refine lv_aload_n hx hb dX1_callEntry_15 rfl (lv_at hl 1 rfl) ?_
  refine lv_dup hx hb dX1_callEntry_16 rfl ?_
  refine fg_Co_operands (v := rI st3 23) hx hb hts hown hK G (hts _ lk_X1_25) rfl dX1_callEntry_17 ?_
  refine lv_iload_n hx hb dX1_callEntry_20 rfl (lv_at hl 2 rfl) ?_
  refine lv_isub hx hb dX1_callEntry_21 ?_
  refine fp_Co_operands hx hb hts hown hK G (hts _ lk_X1_25) dX1_callEntry_22 (fun H locs G => ?_)
  refine lv_aload_n hx hb dX1_callEntry_25 rfl (lv_at hl 1 rfl) ?_
  refine lv_bipush (v := 17) hx hb dX1_callEntry_26 (by decide) ?_
  refine lv_iload_n hx hb dX1_callEntry_28 rfl (lv_at hl 2 rfl) ?_
  refine lv_aload_n hx hb dX1_callEntry_29 rfl (lv_at hl 1 rfl) ?_
  refine fg_Co_slots (v := rI st3 22) hx hb hts hown hK G (hts _ lk_X1_22) rfl dX1_callEntry_30 ?_
  refine lv_aload_n hx hb dX1_callEntry_33 rfl (lv_at hl 1 rfl) ?_
  refine fg_Co_operands (v := (rI st3 23) - p1) hx hb hts hown hK G (hts _ lk_X1_25) rfl dX1_callEntry_34 ?_
  refine lv_iadd hx hb dX1_callEntry_37 ?_
  refine lv_iload_n hx hb dX1_callEntry_38 rfl (lv_at hl 0 rfl) ?_
  refine lv_iload_n hx hb dX1_callEntry_39 rfl (lv_at hl 3 rfl) ?_
  obtain ⟨st4, hst4, hf⟩ := bv_some hf
  refine cl_vvC C hl G (As := [.int 17, .int p1, .int ((rI st3 22) + ((rI st3 23) - p1)), .int r2, .int p2]) (rest := []) (kx_Co_emit l D k h 17 p1 ((rI st3 22) + ((rI st3 23) - p1)) r2 p2 (wI st3 23 ((rI st3 23) - p1)) _ hst4) gi_X1_129 (hwC_6 ..) rfl hd_X1_emit ⟨Nat.le_of_ble_eq_true rfl, Nat.le_of_ble_eq_true rfl⟩ rfl rfl (Nat.le_of_ble_eq_true rfl) dX1_callEntry_40 ⟨Nat.zero_le _, Nat.zero_le _⟩ (fun H locs e0 G => ?_)
  refine lv_aload_n hx hb dX1_callEntry_43 rfl (lv_at hl 1 rfl) ?_
  refine lv_iload_n hx hb dX1_callEntry_44 rfl (lv_at hl 3 rfl) ?_
  obtain ⟨st5, hst5, hf⟩ := bv_some hf
  refine cl_vvC C hl G (As := [.int p2]) (rest := []) (kx_Co_putSlots l D k h N p2 st4 _ hst5) gi_X1_145 (hwC_6 ..) rfl hd_X1_putSlots ⟨Nat.le_of_ble_eq_true rfl, Nat.le_of_ble_eq_true rfl⟩ rfl rfl (Nat.le_of_ble_eq_true rfl) dX1_callEntry_45 ⟨Nat.zero_le _, Nat.zero_le _⟩ (fun H locs e0 G => ?_)
  exact rt_vC C G hf dX1_callEntry_48
def rm_Co_control : Room := { frames := 3, cells := 0, slots := 0, locals := 74 }
set_option maxHeartbeats 4000000 in
set_option maxRecDepth 100000 in
theorem kx_Co_control (l : Launch) (D : va_G) (k : Nat → Nat × ClassId) (h : Nat → Nat) (N : Nat) (p1 : Int32) (p2 : Int32) (st : rs_T) (s' : rs_T) (hf : fx_Co_control N p1 p2 st = some s') : mVC l D k h yX1_control cX1_control 3 rm_Co_control [.ref (h 6), .int p1, .int p2] st s' := by
  refine mVC_of (by decide) ⟨rfl, rfl⟩ (Nat.le_of_ble_eq_true rfl) ?_
  intro p e s m below meth c ls C hl G
  obtain ⟨hx, hb, hml, hr, hown, hts, hK, hN, hlk⟩ := id C
  have hown : s.vm.findClass RX1 = some m.cls := hown
  have hl : lv_has ls 3 [(0, .ref (h 6)), (1, .int p1), (2, .int p2)] := hl
  unfold fx_Co_control at hf
  refine lv_iload_n hx hb dX1_control_0 rfl (lv_at hl 1 rfl) ?_
  by_cases s1_0 : p1 ∈ ([0] : List Int32)
  · replace hf := if_p hf s1_0
    refine sw_tb (tgt := 88) (off := 87) hx hb dX1_control_1 (sw_tbt s1_0 (by decide)) (by decide) (by decide) ?_
    refine lv_aload_n hx hb dX1_control_88 rfl (lv_at hl 0 rfl) ?_
    refine lv_iconst (v := 0) hx hb dX1_control_89 (by decide) ?_
    refine lv_iconst (v := 0) hx hb dX1_control_90 (by decide) ?_
    refine lv_iconst (v := 0) hx hb dX1_control_91 (by decide) ?_
    refine lv_iconst (v := 0) hx hb dX1_control_92 (by decide) ?_
    refine lv_iconst (v := 0) hx hb dX1_control_93 (by decide) ?_
    obtain ⟨st2, hst2, hf⟩ := bv_some hf
    refine cl_vvC C hl G (As := [.int 0, .int 0, .int 0, .int 0, .int 0]) (rest := []) (kx_Co_emit l D k h 0 0 0 0 0 st _ hst2) gi_X1_129 (hwC_6 ..) rfl hd_X1_emit ⟨Nat.le_of_ble_eq_true rfl, Nat.le_of_ble_eq_true rfl⟩ rfl rfl (Nat.le_of_ble_eq_true rfl) dX1_control_94 ⟨Nat.zero_le _, Nat.zero_le _⟩ (fun H locs e0 G => ?_)
    refine lv_aload_n hx hb dX1_control_97 rfl (lv_at hl 0 rfl) ?_
    refine lv_iconst (v := 0) hx hb dX1_control_98 (by decide) ?_
    refine fp_Co_isLive hx hb hts hown hK G (hts _ lk_X1_31) rfl rfl dX1_control_99 (fun H locs G => ?_)
    refine lv_goto (tgt := 350) hx hb dX1_control_102 (by decide) ?_
    exact rt_vC C G hf dX1_control_350
  replace hf := if_n hf s1_0
  by_cases s1_1 : p1 ∈ ([12] : List Int32)
  · replace hf := if_p hf s1_1
    refine sw_tb (tgt := 105) (off := 104) hx hb dX1_control_1 (sw_tbt s1_1 (by decide)) (by decide) (by decide) ?_
    refine lv_aload_n hx hb dX1_control_105 rfl (lv_at hl 0 rfl) ?_
    refine lv_aload_n hx hb dX1_control_106 rfl (lv_at hl 0 rfl) ?_
    refine fg_Co_operands (v := rI st 23) hx hb hts hown hK G (hts _ lk_X1_25) rfl dX1_control_107 ?_
    refine lv_aload_n hx hb dX1_control_110 rfl (lv_at hl 0 rfl) ?_
    refine fg_Co_program hx hb hts hown hK G (hts _ lk_X1_38) dX1_control_111 ?_
    refine lv_aload_n hx hb dX1_control_114 rfl (lv_at hl 0 rfl) ?_
    refine fg_Co_program hx hb hts hown hK G (hts _ lk_X1_38) dX1_control_115 ?_
    refine fg_Pr_link hx hb hts hown hK G (hts _ lk_X1_126) dX1_control_118 ?_
    refine lv_iload_n hx hb dX1_control_121 rfl (lv_at hl 2 rfl) ?_
    obtain ⟨h_g3, hf⟩ := gd_some hf
    refine ra_IC (v := rA st 10 p2.toNatClampNeg) hx hb hK G (waC_20 ..) (t0 := 11) rfl rfl h_g3 dX1_control_122 ?_
    refine lv_aload_n hx hb dX1_control_123 rfl (lv_at hl 0 rfl) ?_
    refine fg_Co_function (v := rI st 21) hx hb hts hown hK G (hts _ lk_X1_18) rfl dX1_control_124 ?_
    obtain ⟨r5, st4, hst4, hf⟩ := bn_some hf
    refine cl_viC C hl G (As := [.int (rA st 10 p2.toNatClampNeg), .int (rI st 21)]) (rest := [.int (rI st 23), .ref (h 6)]) (kx_Pr_wantedBy l D k h (rA st 10 p2.toNatClampNeg) (rI st 21) st _ _ hst4) gi_X1_159 (hwC_1 ..) rfl hd_X3_wantedBy ⟨Nat.le_of_ble_eq_true rfl, Nat.le_of_ble_eq_true rfl⟩ rfl rfl (Nat.le_of_ble_eq_true rfl) dX1_control_127 ⟨Nat.zero_le _, Nat.zero_le _⟩ (fun H locs e0 G => ?_)
    refine lv_isub hx hb dX1_control_130 ?_
    obtain ⟨st6, hst6, hf⟩ := bv_some hf
    refine cl_vvC C hl G (As := [.int ((rI st 23) - r5)]) (rest := []) (kx_Co_fillSlots l D k h N ((rI st 23) - r5) st4 _ hst6) gi_X1_120 (hwC_6 ..) rfl hd_X1_fillSlots ⟨Nat.le_of_ble_eq_true rfl, Nat.le_of_ble_eq_true rfl⟩ rfl rfl (Nat.le_of_ble_eq_true rfl) dX1_control_131 ⟨Nat.zero_le _, Nat.zero_le _⟩ (fun H locs e0 G => ?_)
    refine lv_aload_n hx hb dX1_control_134 rfl (lv_at hl 0 rfl) ?_
    refine lv_iload_n hx hb dX1_control_135 rfl (lv_at hl 2 rfl) ?_
    obtain ⟨st7, hst7, hf⟩ := bv_some hf
    refine cl_vvC C hl G (As := [.int p2]) (rest := []) (kx_Co_emitBranch l D k h p2 st6 _ hst7) gi_X1_163 (hwC_6 ..) rfl hd_X1_emitBranch ⟨Nat.le_of_ble_eq_true rfl, Nat.le_of_ble_eq_true rfl⟩ rfl rfl (Nat.le_of_ble_eq_true rfl) dX1_control_136 ⟨Nat.zero_le _, Nat.zero_le _⟩ (fun H locs e0 G => ?_)
    refine lv_aload_n hx hb dX1_control_139 rfl (lv_at hl 0 rfl) ?_
    refine lv_iconst (v := 0) hx hb dX1_control_140 (by decide) ?_
    refine fp_Co_isLive hx hb hts hown hK G (hts _ lk_X1_31) rfl rfl dX1_control_141 (fun H locs G => ?_)
    refine lv_goto (tgt := 350) hx hb dX1_control_144 (by decide) ?_
    exact rt_vC C G hf dX1_control_350
  replace hf := if_n hf s1_1
  by_cases s1_2 : p1 ∈ ([13] : List Int32)
  · replace hf := if_p hf s1_2
    refine sw_tb (tgt := 147) (off := 146) hx hb dX1_control_1 (sw_tbt s1_2 (by decide)) (by decide) (by decide) ?_
    refine lv_aload_n hx hb dX1_control_147 rfl (lv_at hl 0 rfl) ?_
    refine lv_iload_n hx hb dX1_control_148 rfl (lv_at hl 2 rfl) ?_
    obtain ⟨st8, hst8, hf⟩ := bv_some hf
    refine cl_vvC C hl G (As := [.int p2]) (rest := []) (kx_Co_branchIf l D k h N p2 st _ hst8) gi_X1_166 (hwC_6 ..) rfl hd_X1_branchIf ⟨Nat.le_of_ble_eq_true rfl, Nat.le_of_ble_eq_true rfl⟩ rfl rfl (Nat.le_of_ble_eq_true rfl) dX1_control_149 ⟨Nat.zero_le _, Nat.zero_le _⟩ (fun H locs e0 G => ?_)
    refine lv_goto (tgt := 350) hx hb dX1_control_152 (by decide) ?_
    exact rt_vC C G hf dX1_control_350
  replace hf := if_n hf s1_2
  by_cases s1_3 : p1 ∈ ([14] : List Int32)
  · replace hf := if_p hf s1_3
    refine sw_tb (tgt := 155) (off := 154) hx hb dX1_control_1 (sw_tbt s1_3 (by decide)) (by decide) (by decide) ?_
    refine lv_aload_n hx hb dX1_control_155 rfl (lv_at hl 0 rfl) ?_
    refine lv_iload_n hx hb dX1_control_156 rfl (lv_at hl 2 rfl) ?_
    obtain ⟨st9, hst9, hf⟩ := bv_some hf
    refine cl_vvC C hl G (As := [.int p2]) (rest := []) (kx_Co_table l D k h N p2 st _ hst9) gi_X1_169 (hwC_6 ..) rfl hd_X1_table ⟨Nat.le_of_ble_eq_true rfl, Nat.le_of_ble_eq_true rfl⟩ rfl rfl (Nat.le_of_ble_eq_true rfl) dX1_control_157 ⟨Nat.zero_le _, Nat.zero_le _⟩ (fun H locs e0 G => ?_)
    refine lv_goto (tgt := 350) hx hb dX1_control_160 (by decide) ?_
    exact rt_vC C G hf dX1_control_350
  replace hf := if_n hf s1_3
  by_cases s1_4 : p1 ∈ ([15] : List Int32)
  · replace hf := if_p hf s1_4
    refine sw_tb (tgt := 163) (off := 162) hx hb dX1_control_1 (sw_tbt s1_4 (by decide)) (by decide) (by decide) ?_
    refine lv_aload_n hx hb dX1_control_163 rfl (lv_at hl 0 rfl) ?_
    refine lv_aload_n hx hb dX1_control_164 rfl (lv_at hl 0 rfl) ?_
    refine fg_Co_operands (v := rI st 23) hx hb hts hown hK G (hts _ lk_X1_25) rfl dX1_control_165 ?_
    refine lv_aload_n hx hb dX1_control_168 rfl (lv_at hl 0 rfl) ?_
    refine fg_Co_program hx hb hts hown hK G (hts _ lk_X1_38) dX1_control_169 ?_
    refine fg_Pr_results hx hb hts hown hK G (hts _ lk_X1_172) dX1_control_172 ?_
    refine lv_aload_n hx hb dX1_control_175 rfl (lv_at hl 0 rfl) ?_
    refine fg_Co_function (v := rI st 21) hx hb hts hown hK G (hts _ lk_X1_18) rfl dX1_control_176 ?_
    obtain ⟨h_g10, hf⟩ := gd_some hf
    refine ra_IC (v := rA st 1 ((rI st 21).toNatClampNeg)) hx hb hK G (waC_11 ..) (t0 := 2) rfl rfl h_g10 dX1_control_179 ?_
    refine lv_isub hx hb dX1_control_180 ?_
    obtain ⟨st11, hst11, hf⟩ := bv_some hf
    refine cl_vvC C hl G (As := [.int ((rI st 23) - (rA st 1 ((rI st 21).toNatClampNeg)))]) (rest := []) (kx_Co_fillSlots l D k h N ((rI st 23) - (rA st 1 ((rI st 21).toNatClampNeg))) st _ hst11) gi_X1_120 (hwC_6 ..) rfl hd_X1_fillSlots ⟨Nat.le_of_ble_eq_true rfl, Nat.le_of_ble_eq_true rfl⟩ rfl rfl (Nat.le_of_ble_eq_true rfl) dX1_control_181 ⟨Nat.zero_le _, Nat.zero_le _⟩ (fun H locs e0 G => ?_)
    refine lv_aload_n hx hb dX1_control_184 rfl (lv_at hl 0 rfl) ?_
    refine lv_bipush (v := 15) hx hb dX1_control_185 (by decide) ?_
    refine lv_iconst (v := 0) hx hb dX1_control_187 (by decide) ?_
    refine lv_aload_n hx hb dX1_control_188 rfl (lv_at hl 0 rfl) ?_
    refine fg_Co_slots (v := rI st11 22) hx hb hts hown hK G (hts _ lk_X1_22) rfl dX1_control_189 ?_
    refine lv_aload_n hx hb dX1_control_192 rfl (lv_at hl 0 rfl) ?_
    refine fg_Co_operands (v := rI st11 23) hx hb hts hown hK G (hts _ lk_X1_25) rfl dX1_control_193 ?_
    refine lv_iadd hx hb dX1_control_196 ?_
    refine lv_aload_n hx hb dX1_control_197 rfl (lv_at hl 0 rfl) ?_
    refine fg_Co_program hx hb hts hown hK G (hts _ lk_X1_38) dX1_control_198 ?_
    refine fg_Pr_results hx hb hts hown hK G (hts _ lk_X1_172) dX1_control_201 ?_
    refine lv_aload_n hx hb dX1_control_204 rfl (lv_at hl 0 rfl) ?_
    refine fg_Co_function (v := rI st11 21) hx hb hts hown hK G (hts _ lk_X1_18) rfl dX1_control_205 ?_
    obtain ⟨h_g12, hf⟩ := gd_some hf
    refine ra_IC (v := rA st11 1 ((rI st11 21).toNatClampNeg)) hx hb hK G (waC_11 ..) (t0 := 2) rfl rfl h_g12 dX1_control_208 ?_
    refine lv_isub hx hb dX1_control_209 ?_
    refine lv_iconst (v := 0) hx hb dX1_control_210 (by decide) ?_
    refine lv_iconst (v := 0) hx hb dX1_control_211 (by decide) ?_
    obtain ⟨st13, hst13, hf⟩ := bv_some hf
    refine cl_vvC C hl G (As := [.int 15, .int 0, .int (((rI st11 22) + (rI st11 23)) - (rA st11 1 ((rI st11 21).toNatClampNeg))), .int 0, .int 0]) (rest := []) (kx_Co_emit l D k h 15 0 (((rI st11 22) + (rI st11 23)) - (rA st11 1 ((rI st11 21).toNatClampNeg))) 0 0 st11 _ hst13) gi_X1_129 (hwC_6 ..) rfl hd_X1_emit ⟨Nat.le_of_ble_eq_true rfl, Nat.le_of_ble_eq_true rfl⟩ rfl rfl (Nat.le_of_ble_eq_true rfl) dX1_control_212 ⟨Nat.zero_le _, Nat.zero_le _⟩ (fun H locs e0 G => ?_)
    refine lv_aload_n hx hb dX1_control_215 rfl (lv_at hl 0 rfl) ?_
    refine lv_iconst (v := 0) hx hb dX1_control_216 (by decide) ?_
    refine fp_Co_isLive hx hb hts hown hK G (hts _ lk_X1_31) rfl rfl dX1_control_217 (fun H locs G => ?_)
    refine lv_goto (tgt := 350) hx hb dX1_control_220 (by decide) ?_
    exact rt_vC C G hf dX1_control_350
  replace hf := if_n hf s1_4
  by_cases s1_5 : p1 ∈ ([16] : List Int32)
  · replace hf := if_p hf s1_5
    refine sw_tb (tgt := 223) (off := 222) hx hb dX1_control_1 (sw_tbt s1_5 (by decide)) (by decide) (by decide) ?_
    refine lv_aload_n hx hb dX1_control_223 rfl (lv_at hl 0 rfl) ?_
    refine lv_aload_n hx hb dX1_control_224 rfl (lv_at hl 0 rfl) ?_
    refine fg_Co_operands (v := rI st 23) hx hb hts hown hK G (hts _ lk_X1_25) rfl dX1_control_225 ?_
    refine lv_aload_n hx hb dX1_control_228 rfl (lv_at hl 0 rfl) ?_
    refine fg_Co_program hx hb hts hown hK G (hts _ lk_X1_38) dX1_control_229 ?_
    refine fg_Pr_parameters hx hb hts hown hK G (hts _ lk_X1_175) dX1_control_232 ?_
    refine lv_aload_n hx hb dX1_control_235 rfl (lv_at hl 0 rfl) ?_
    refine fg_Co_program hx hb hts hown hK G (hts _ lk_X1_38) dX1_control_236 ?_
    refine fg_Pr_a hx hb hts hown hK G (hts _ lk_X1_95) dX1_control_239 ?_
    refine lv_iload_n hx hb dX1_control_242 rfl (lv_at hl 2 rfl) ?_
    obtain ⟨h_g14, hf⟩ := gd_some hf
    refine ra_IC (v := rA st 8 p2.toNatClampNeg) hx hb hK G (waC_18 ..) (t0 := 9) rfl rfl h_g14 dX1_control_243 ?_
    obtain ⟨h_g15, hf⟩ := gd_some hf
    refine ra_IC (v := rA st 0 ((rA st 8 p2.toNatClampNeg).toNatClampNeg)) hx hb hK G (waC_10 ..) (t0 := 1) rfl rfl h_g15 dX1_control_244 ?_
    refine lv_isub hx hb dX1_control_245 ?_
    obtain ⟨st16, hst16, hf⟩ := bv_some hf
    refine cl_vvC C hl G (As := [.int ((rI st 23) - (rA st 0 ((rA st 8 p2.toNatClampNeg).toNatClampNeg)))]) (rest := []) (kx_Co_fillSlots l D k h N ((rI st 23) - (rA st 0 ((rA st 8 p2.toNatClampNeg).toNatClampNeg))) st _ hst16) gi_X1_120 (hwC_6 ..) rfl hd_X1_fillSlots ⟨Nat.le_of_ble_eq_true rfl, Nat.le_of_ble_eq_true rfl⟩ rfl rfl (Nat.le_of_ble_eq_true rfl) dX1_control_246 ⟨Nat.zero_le _, Nat.zero_le _⟩ (fun H locs e0 G => ?_)
    refine lv_aload_n hx hb dX1_control_249 rfl (lv_at hl 0 rfl) ?_
    refine lv_dup hx hb dX1_control_250 rfl ?_
    refine fg_Co_operands (v := rI st16 23) hx hb hts hown hK G (hts _ lk_X1_25) rfl dX1_control_251 ?_
    refine lv_aload_n hx hb dX1_control_254 rfl (lv_at hl 0 rfl) ?_
    refine fg_Co_program hx hb hts hown hK G (hts _ lk_X1_38) dX1_control_255 ?_
    refine fg_Pr_parameters hx hb hts hown hK G (hts _ lk_X1_175) dX1_control_258 ?_
    refine lv_aload_n hx hb dX1_control_261 rfl (lv_at hl 0 rfl) ?_
    refine fg_Co_program hx hb hts hown hK G (hts _ lk_X1_38) dX1_control_262 ?_
    refine fg_Pr_a hx hb hts hown hK G (hts _ lk_X1_95) dX1_control_265 ?_
    refine lv_iload_n hx hb dX1_control_268 rfl (lv_at hl 2 rfl) ?_
    obtain ⟨h_g17, hf⟩ := gd_some hf
    refine ra_IC (v := rA st16 8 p2.toNatClampNeg) hx hb hK G (waC_18 ..) (t0 := 9) rfl rfl h_g17 dX1_control_269 ?_
    obtain ⟨h_g18, hf⟩ := gd_some hf
    refine ra_IC (v := rA st16 0 ((rA st16 8 p2.toNatClampNeg).toNatClampNeg)) hx hb hK G (waC_10 ..) (t0 := 1) rfl rfl h_g18 dX1_control_270 ?_
    refine lv_isub hx hb dX1_control_271 ?_
    refine fp_Co_operands hx hb hts hown hK G (hts _ lk_X1_25) dX1_control_272 (fun H locs G => ?_)
    refine lv_aload_n hx hb dX1_control_275 rfl (lv_at hl 0 rfl) ?_
    refine lv_bipush (v := 16) hx hb dX1_control_276 (by decide) ?_
    refine lv_iconst (v := 0) hx hb dX1_control_278 (by decide) ?_
    refine lv_aload_n hx hb dX1_control_279 rfl (lv_at hl 0 rfl) ?_
    refine fg_Co_slots (v := rI st16 22) hx hb hts hown hK G (hts _ lk_X1_22) rfl dX1_control_280 ?_
    refine lv_aload_n hx hb dX1_control_283 rfl (lv_at hl 0 rfl) ?_
    refine fg_Co_operands (v := (rI st16 23) - (rA st16 0 ((rA st16 8 p2.toNatClampNeg).toNatClampNeg))) hx hb hts hown hK G (hts _ lk_X1_25) rfl dX1_control_284 ?_
    refine lv_iadd hx hb dX1_control_287 ?_
    refine lv_aload_n hx hb dX1_control_288 rfl (lv_at hl 0 rfl) ?_
    refine fg_Co_program hx hb hts hown hK G (hts _ lk_X1_38) dX1_control_289 ?_
    refine fg_Pr_a hx hb hts hown hK G (hts _ lk_X1_95) dX1_control_292 ?_
    refine lv_iload_n hx hb dX1_control_295 rfl (lv_at hl 2 rfl) ?_
    obtain ⟨h_g19, hf⟩ := gd_some hf
    refine ra_IC (v := rA st16 8 p2.toNatClampNeg) hx hb hK G (waC_18 ..) (t0 := 9) rfl rfl h_g19 dX1_control_296 ?_
    refine lv_iconst (v := 0) hx hb dX1_control_297 (by decide) ?_
    obtain ⟨st20, hst20, hf⟩ := bv_some hf
    refine cl_vvC C hl G (As := [.int 16, .int 0, .int ((rI st16 22) + ((rI st16 23) - (rA st16 0 ((rA st16 8 p2.toNatClampNeg).toNatClampNeg)))), .int (rA st16 8 p2.toNatClampNeg), .int 0]) (rest := []) (kx_Co_emit l D k h 16 0 ((rI st16 22) + ((rI st16 23) - (rA st16 0 ((rA st16 8 p2.toNatClampNeg).toNatClampNeg)))) (rA st16 8 p2.toNatClampNeg) 0 (wI st16 23 ((rI st16 23) - (rA st16 0 ((rA st16 8 p2.toNatClampNeg).toNatClampNeg)))) _ hst20) gi_X1_129 (hwC_6 ..) rfl hd_X1_emit ⟨Nat.le_of_ble_eq_true rfl, Nat.le_of_ble_eq_true rfl⟩ rfl rfl (Nat.le_of_ble_eq_true rfl) dX1_control_298 ⟨Nat.zero_le _, Nat.zero_le _⟩ (fun H locs e0 G => ?_)
    refine lv_aload_n hx hb dX1_control_301 rfl (lv_at hl 0 rfl) ?_
    refine lv_aload_n hx hb dX1_control_302 rfl (lv_at hl 0 rfl) ?_
    refine fg_Co_program hx hb hts hown hK G (hts _ lk_X1_38) dX1_control_303 ?_
    refine fg_Pr_results hx hb hts hown hK G (hts _ lk_X1_172) dX1_control_306 ?_
    refine lv_aload_n hx hb dX1_control_309 rfl (lv_at hl 0 rfl) ?_
    refine fg_Co_program hx hb hts hown hK G (hts _ lk_X1_38) dX1_control_310 ?_
    refine fg_Pr_a hx hb hts hown hK G (hts _ lk_X1_95) dX1_control_313 ?_
    refine lv_iload_n hx hb dX1_control_316 rfl (lv_at hl 2 rfl) ?_
    obtain ⟨h_g21, hf⟩ := gd_some hf
    refine ra_IC (v := rA st20 8 p2.toNatClampNeg) hx hb hK G (waC_18 ..) (t0 := 9) rfl rfl h_g21 dX1_control_317 ?_
    obtain ⟨h_g22, hf⟩ := gd_some hf
    refine ra_IC (v := rA st20 1 ((rA st20 8 p2.toNatClampNeg).toNatClampNeg)) hx hb hK G (waC_11 ..) (t0 := 2) rfl rfl h_g22 dX1_control_318 ?_
    obtain ⟨st23, hst23, hf⟩ := bv_some hf
    refine cl_vvC C hl G (As := [.int (rA st20 1 ((rA st20 8 p2.toNatClampNeg).toNatClampNeg))]) (rest := []) (kx_Co_putSlots l D k h N (rA st20 1 ((rA st20 8 p2.toNatClampNeg).toNatClampNeg)) st20 _ hst23) gi_X1_145 (hwC_6 ..) rfl hd_X1_putSlots ⟨Nat.le_of_ble_eq_true rfl, Nat.le_of_ble_eq_true rfl⟩ rfl rfl (Nat.le_of_ble_eq_true rfl) dX1_control_319 ⟨Nat.zero_le _, Nat.zero_le _⟩ (fun H locs e0 G => ?_)
    refine lv_goto (tgt := 350) hx hb dX1_control_322 (by decide) ?_
    exact rt_vC C G hf dX1_control_350
  replace hf := if_n hf s1_5
  by_cases s1_6 : p1 ∈ ([17] : List Int32)
  · replace hf := if_p hf s1_6
    refine sw_tb (tgt := 325) (off := 324) hx hb dX1_control_1 (sw_tbt s1_6 (by decide)) (by decide) (by decide) ?_
    refine lv_aload_n hx hb dX1_control_325 rfl (lv_at hl 0 rfl) ?_
    refine lv_aload_n hx hb dX1_control_326 rfl (lv_at hl 0 rfl) ?_
    refine fg_Co_program hx hb hts hown hK G (hts _ lk_X1_38) dX1_control_327 ?_
    refine fg_Pr_a hx hb hts hown hK G (hts _ lk_X1_95) dX1_control_330 ?_
    refine lv_iload_n hx hb dX1_control_333 rfl (lv_at hl 2 rfl) ?_
    obtain ⟨h_g24, hf⟩ := gd_some hf
    refine ra_IC (v := rA st 8 p2.toNatClampNeg) hx hb hK G (waC_18 ..) (t0 := 9) rfl rfl h_g24 dX1_control_334 ?_
    refine lv_aload_n hx hb dX1_control_335 rfl (lv_at hl 0 rfl) ?_
    refine fg_Co_program hx hb hts hown hK G (hts _ lk_X1_38) dX1_control_336 ?_
    refine fg_Pr_b hx hb hts hown hK G (hts _ lk_X1_142) dX1_control_339 ?_
    refine lv_iload_n hx hb dX1_control_342 rfl (lv_at hl 2 rfl) ?_
    obtain ⟨h_g25, hf⟩ := gd_some hf
    refine ra_IC (v := rA st 9 p2.toNatClampNeg) hx hb hK G (waC_19 ..) (t0 := 10) rfl rfl h_g25 dX1_control_343 ?_
    obtain ⟨st26, hst26, hf⟩ := bv_some hf
    refine cl_vvC C hl G (As := [.int (rA st 8 p2.toNatClampNeg), .int (rA st 9 p2.toNatClampNeg)]) (rest := []) (kx_Co_callEntry l D k h N (rA st 8 p2.toNatClampNeg) (rA st 9 p2.toNatClampNeg) st _ hst26) gi_X1_178 (hwC_6 ..) rfl hd_X1_callEntry ⟨Nat.le_of_ble_eq_true rfl, Nat.le_of_ble_eq_true rfl⟩ rfl rfl (Nat.le_of_ble_eq_true rfl) dX1_control_344 ⟨Nat.zero_le _, Nat.zero_le _⟩ (fun H locs e0 G => ?_)
    refine lv_goto (tgt := 350) hx hb dX1_control_347 (by decide) ?_
    exact rt_vC C G hf dX1_control_350
  replace hf := if_n hf s1_6
  refine sw_tb (tgt := 350) (off := 349) hx hb dX1_control_1 (sw_tbd (sw_cons s1_0 (sw_cons s1_1 (sw_cons s1_2 (sw_cons s1_3 (sw_cons s1_4 (sw_cons s1_5 (sw_cons s1_6 sw_nil))))))) (by decide)) (by decide) (by decide) ?_
  exact rt_vC C G hf dX1_control_350
def rm_Co_select : Room := { frames := 1, cells := 0, slots := 0, locals := 26 }
set_option maxHeartbeats 4000000 in
set_option maxRecDepth 100000 in
theorem kx_Co_select (l : Launch) (D : va_G) (k : Nat → Nat × ClassId) (h : Nat → Nat) (N : Nat) (st : rs_T) (s' : rs_T) (hf : fx_Co_select N st = some s') : mVC l D k h yX1_select cX1_select 4 rm_Co_select [.ref (h 6)] st s' := by
  refine mVC_of (by decide) ⟨rfl, rfl⟩ (Nat.le_of_ble_eq_true rfl) ?_
  intro p e s m below meth c ls C hl G
  obtain ⟨hx, hb, hml, hr, hown, hts, hK, hN, hlk⟩ := id C
  have hown : s.vm.findClass RX1 = some m.cls := hown
  have hl : lv_has ls 4 [(0, .ref (h 6))] := hl
  unfold fx_Co_select at hf
  refine lv_aload_n hx hb dX1_select_0 rfl (lv_at hl 0 rfl) ?_
  obtain ⟨r2, st1, hst1, hf⟩ := bn_some hf
  refine cl_viC C hl G (As := []) (rest := []) (kx_Co_pop l D k h st _ _ hst1) gi_X1_116 (hwC_6 ..) rfl hd_X1_pop ⟨Nat.le_of_ble_eq_true rfl, Nat.le_of_ble_eq_true rfl⟩ rfl rfl (Nat.le_of_ble_eq_true rfl) dX1_select_1 ⟨Nat.zero_le _, Nat.zero_le _⟩ (fun H locs e0 G => ?_)
  refine lv_istore_n (lv' := [(1, .int r2), (0, .ref (h 6))]) hx hb dX1_select_4 rfl hl (by decide) rfl (fun ls hl => ?_)
  refine lv_aload_n hx hb dX1_select_5 rfl (lv_at hl 1 rfl) ?_
  obtain ⟨r4, st3, hst3, hf⟩ := bn_some hf
  refine cl_viC C hl G (As := []) (rest := []) (kx_Co_pop l D k h st1 _ _ hst3) gi_X1_116 (hwC_6 ..) rfl hd_X1_pop ⟨Nat.le_of_ble_eq_true rfl, Nat.le_of_ble_eq_true rfl⟩ rfl rfl (Nat.le_of_ble_eq_true rfl) dX1_select_6 ⟨Nat.zero_le _, Nat.zero_le _⟩ (fun H locs e0 G => ?_)
  refine lv_istore_n (lv' := [(2, .int r4), (1, .int r2), (0, .ref (h 6))]) hx hb dX1_select_9 rfl hl (by decide) rfl (fun ls hl => ?_)
  refine lv_aload_n hx hb dX1_select_10 rfl (lv_at hl 2 rfl) ?_
  obtain ⟨r6, st5, hst5, hf⟩ := bn_some hf
  refine cl_viC C hl G (As := []) (rest := []) (kx_Co_pop l D k h st3 _ _ hst5) gi_X1_116 (hwC_6 ..) rfl hd_X1_pop ⟨Nat.le_of_ble_eq_true rfl, Nat.le_of_ble_eq_true rfl⟩ rfl rfl (Nat.le_of_ble_eq_true rfl) dX1_select_11 ⟨Nat.zero_le _, Nat.zero_le _⟩ (fun H locs e0 G => ?_)
  refine lv_istore_n (lv' := [(3, .int r6), (2, .int r4), (1, .int r2), (0, .ref (h 6))]) hx hb dX1_select_14 rfl hl (by decide) rfl (fun ls hl => ?_)
  refine lv_aload_n hx hb dX1_select_15 rfl (lv_at hl 3 rfl) ?_
  refine lv_bipush (v := 27) hx hb dX1_select_16 (by decide) ?_
  refine lv_aload_n hx hb dX1_select_18 rfl (lv_at hl 3 rfl) ?_
  refine fg_Co_slots (v := rI st5 22) hx hb hts hown hK G (hts _ lk_X1_22) rfl dX1_select_19 ?_
  refine lv_aload_n hx hb dX1_select_22 rfl (lv_at hl 3 rfl) ?_
  refine fg_Co_operands (v := rI st5 23) hx hb hts hown hK G (hts _ lk_X1_25) rfl dX1_select_23 ?_
  refine lv_iadd hx hb dX1_select_26 ?_
  refine lv_iload_n hx hb dX1_select_27 rfl (lv_at hl 0 rfl) ?_
  refine lv_iload_n hx hb dX1_select_28 rfl (lv_at hl 1 rfl) ?_
  refine lv_iload_n hx hb dX1_select_29 rfl (lv_at hl 2 rfl) ?_
  obtain ⟨st7, hst7, hf⟩ := bv_some hf
  refine cl_vvC C hl G (As := [.int 27, .int ((rI st5 22) + (rI st5 23)), .int r6, .int r4, .int r2]) (rest := []) (kx_Co_emit l D k h 27 ((rI st5 22) + (rI st5 23)) r6 r4 r2 st5 _ hst7) gi_X1_129 (hwC_6 ..) rfl hd_X1_emit ⟨Nat.le_of_ble_eq_true rfl, Nat.le_of_ble_eq_true rfl⟩ rfl rfl (Nat.le_of_ble_eq_true rfl) dX1_select_30 ⟨Nat.zero_le _, Nat.zero_le _⟩ (fun H locs e0 G => ?_)
  refine lv_aload_n hx hb dX1_select_33 rfl (lv_at hl 3 rfl) ?_
  refine lv_iconst (v := 1) hx hb dX1_select_34 (by decide) ?_
  obtain ⟨st8, hst8, hf⟩ := bv_some hf
  refine cl_vvC C hl G (As := [.int 1]) (rest := []) (kx_Co_putSlots l D k h N 1 st7 _ hst8) gi_X1_145 (hwC_6 ..) rfl hd_X1_putSlots ⟨Nat.le_of_ble_eq_true rfl, Nat.le_of_ble_eq_true rfl⟩ rfl rfl (Nat.le_of_ble_eq_true rfl) dX1_select_35 ⟨Nat.zero_le _, Nat.zero_le _⟩ (fun H locs e0 G => ?_)
  exact rt_vC C G hf dX1_select_38
