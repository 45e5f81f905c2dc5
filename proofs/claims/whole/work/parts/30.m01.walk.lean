def rm_Md_within : Room := { frames := 0, cells := 0, slots := 0, locals := 0 }
set_option maxHeartbeats 4000000 in
set_option maxRecDepth 100000 in
theorem kx_Md_within (l : Launch) (D : va_G) (k : Nat → ClassId) (h : Nat → Nat) (p0 : Int32) (p1 : Int32) (st : rs_T) (r : Int32) (s' : rs_T) (hf : fx_Md_within p0 p1 st = some (r, s')) : mIM l D k h yX10_within cX10_within 2 .boolean rm_Md_within [.int p0, .int p1] st r s' := by
  refine mIM_of (by decide) ⟨rfl, rfl⟩ (Nat.le_of_ble_eq_true rfl) ?_
  intro p e s m below meth c ls C hl G
  obtain ⟨hx, hb, hml, hr, hown, hts, hK, hN, hlk⟩ := id C
  have hown : s.vm.findClass RX10 = some m.cls := hown
  have hl : lv_has ls 2 [(0, .int p0), (1, .int p1)] := hl
  unfold fx_Md_within at hf
  refine lv_iload_n hx hb dX10_within_0 rfl (lv_at hl 0 rfl) ?_
  refine lv_if_lt (tgt := 13) hx hb dX10_within_1 (by decide) (fun c1 => ?_) (fun c1 => ?_)
  · replace hf := if_p hf c1
    refine lv_iconst (v := 0) hx hb dX10_within_13 (by decide) ?_
    exact rt_zM C rfl G hf dX10_within_14
  · replace hf := if_n hf c1
    refine lv_iload_n hx hb dX10_within_4 rfl (lv_at hl 0 rfl) ?_
    refine lv_iload_n hx hb dX10_within_5 rfl (lv_at hl 1 rfl) ?_
    refine lv_icmp_gt (tgt := 13) hx hb dX10_within_6 (by decide) (fun c2 => ?_) (fun c2 => ?_)
    · replace hf := if_p hf c2
      refine lv_iconst (v := 0) hx hb dX10_within_13 (by decide) ?_
      exact rt_zM C rfl G hf dX10_within_14
    · replace hf := if_n hf c2
      refine lv_iconst (v := 1) hx hb dX10_within_9 (by decide) ?_
      refine lv_goto (tgt := 14) hx hb dX10_within_10 (by decide) ?_
      exact rt_zM C rfl G hf dX10_within_14
def rm_Md_begin : Room := { frames := 0, cells := 0, slots := 0, locals := 0 }
set_option maxHeartbeats 4000000 in
set_option maxRecDepth 100000 in
theorem kx_Md_begin_b34 {p : Program} {l : Launch} {e : Env} {s : State} {m : MethodId} {args : Array Value} {below : List Frame} {meth : Method} {c : Code} {D : va_G} {k : Nat → ClassId} {h : Nat → Nat} (C : cxM D k p s m args meth c cX10_begin 5 none RX10) (x1 : Int32) (x2 : Int32) (x3 : Int32) (y0 : Int32) (st : rs_T) (s' : rs_T) (hf : fx_Md_begin_b34 x1 x2 x3 y0 st = some s') : ∀ (H : Heap) (locs : List Loc) (ls : Array Slot), lv_has ls 5 [(0, .ref (h 0)), (1, .int x1), (2, .int x2), (3, .int x3)] → gdM D k h (arM h s.heap.size) s.heap H locs st → W p l e rm_Md_begin s m args below meth c H locs 0 0 (MQ below (qVM D k h s.heap.size s') args s 0 0 (arM h s.heap.size)) (F0 m 34 ls [.int y0]) := by
  obtain ⟨hx, hb, hml, hr, hown, hts, hK, hN, hlk⟩ := id C
  intro H locs ls hl G
  unfold fx_Md_begin_b34 at hf
  refine lv_istore (lv' := [(4, .int y0), (0, .ref (h 0)), (1, .int x1), (2, .int x2), (3, .int x3)]) hx hb dX10_begin_34 hl (by decide) rfl (fun ls hl => ?_)
  refine lv_aload_n hx hb dX10_begin_36 rfl (lv_at hl 1 rfl) ?_
  refine fg_Md_by hx hb hts hown hK G (hts _ lk_X10_40) dX10_begin_37 ?_
  refine lv_aload_n hx hb dX10_begin_40 rfl (lv_at hl 1 rfl) ?_
  refine fg_Md_labels (v := rI st 3) hx hb hts hown hK G (hts _ lk_X10_117) rfl dX10_begin_41 ?_
  refine lv_iload_n hx hb dX10_begin_44 rfl (lv_at hl 2 rfl) ?_
  obtain ⟨h_g4, hf⟩ := gd_some hf
  refine rw_IM hx hb hK G (waM_11 ..) (t0 := 10) rfl (wsM_11 ..) h_g4 dX10_begin_45 (fun H locs G => ?_)
  refine lv_aload_n hx hb dX10_begin_46 rfl (lv_at hl 1 rfl) ?_
  refine fg_Md_takes hx hb hts hown hK G (hts _ lk_X10_43) dX10_begin_47 ?_
  refine lv_aload_n hx hb dX10_begin_50 rfl (lv_at hl 1 rfl) ?_
  refine fg_Md_labels (v := rI st 3) hx hb hts hown hK G (hts _ lk_X10_117) rfl dX10_begin_51 ?_
  refine lv_iload_n hx hb dX10_begin_54 rfl (lv_at hl 3 rfl) ?_
  obtain ⟨h_g5, hf⟩ := gd_some hf
  refine rw_IM hx hb hK G (waM_12 ..) (t0 := 11) rfl (wsM_12 ..) h_g5 dX10_begin_55 (fun H locs G => ?_)
  refine lv_aload_n hx hb dX10_begin_56 rfl (lv_at hl 1 rfl) ?_
  refine fg_Md_gives hx hb hts hown hK G (hts _ lk_X10_46) dX10_begin_57 ?_
  refine lv_aload_n hx hb dX10_begin_60 rfl (lv_at hl 1 rfl) ?_
  refine fg_Md_labels (v := rI st 3) hx hb hts hown hK G (hts _ lk_X10_117) rfl dX10_begin_61 ?_
  refine lv_iload_n hx hb dX10_begin_64 rfl (lv_at hl 4 rfl) ?_
  obtain ⟨h_g6, hf⟩ := gd_some hf
  refine rw_IM hx hb hK G (waM_13 ..) (t0 := 12) rfl (wsM_13 ..) h_g6 dX10_begin_65 (fun H locs G => ?_)
  refine lv_aload_n hx hb dX10_begin_66 rfl (lv_at hl 1 rfl) ?_
  refine fg_Md_height hx hb hts hown hK G (hts _ lk_X10_49) dX10_begin_67 ?_
  refine lv_aload_n hx hb dX10_begin_70 rfl (lv_at hl 1 rfl) ?_
  refine fg_Md_labels (v := rI st 3) hx hb hts hown hK G (hts _ lk_X10_117) rfl dX10_begin_71 ?_
  refine lv_iload hx hb dX10_begin_74 (lv_at hl 0 rfl) ?_
  obtain ⟨h_g7, hf⟩ := gd_some hf
  refine rw_IM hx hb hK G (waM_14 ..) (t0 := 13) rfl (wsM_14 ..) h_g7 dX10_begin_76 (fun H locs G => ?_)
  refine lv_aload_n hx hb dX10_begin_77 rfl (lv_at hl 1 rfl) ?_
  refine fg_Md_own hx hb hts hown hK G (hts _ lk_X10_52) dX10_begin_78 ?_
  refine lv_aload_n hx hb dX10_begin_81 rfl (lv_at hl 1 rfl) ?_
  refine fg_Md_labels (v := rI st 3) hx hb hts hown hK G (hts _ lk_X10_117) rfl dX10_begin_82 ?_
  refine lv_iload_n hx hb dX10_begin_85 rfl (lv_at hl 3 rfl) ?_
  obtain ⟨h_g8, hf⟩ := gd_some hf
  refine rw_IM hx hb hK G (waM_15 ..) (t0 := 14) rfl (wsM_15 ..) h_g8 dX10_begin_86 (fun H locs G => ?_)
  refine lv_aload_n hx hb dX10_begin_87 rfl (lv_at hl 1 rfl) ?_
  refine fg_Md_dead hx hb hts hown hK G (hts _ lk_X10_55) dX10_begin_88 ?_
  refine lv_aload_n hx hb dX10_begin_91 rfl (lv_at hl 1 rfl) ?_
  refine fg_Md_labels (v := rI st 3) hx hb hts hown hK G (hts _ lk_X10_117) rfl dX10_begin_92 ?_
  refine lv_iconst (v := 0) hx hb dX10_begin_95 (by decide) ?_
  obtain ⟨h_g9, hf⟩ := gd_some hf
  refine rw_ZM hx hb hK G (waM_16 ..) (t0 := 15) rfl (wsM_16 ..) rfl h_g9 dX10_begin_96 (fun H locs G => ?_)
  refine lv_aload_n hx hb dX10_begin_97 rfl (lv_at hl 1 rfl) ?_
  refine lv_dup hx hb dX10_begin_98 rfl ?_
  refine fg_Md_labels (v := rI st 3) hx hb hts hown hK G (hts _ lk_X10_117) rfl dX10_begin_99 ?_
  refine lv_iconst (v := 1) hx hb dX10_begin_102 (by decide) ?_
  refine lv_iadd hx hb dX10_begin_103 ?_
  refine fp_Md_labels hx hb hts hown hK G (hts _ lk_X10_117) dX10_begin_104 (fun H locs G => ?_)
  exact rt_vM C G hf dX10_begin_107
set_option maxHeartbeats 4000000 in
set_option maxRecDepth 100000 in
theorem kx_Md_begin (l : Launch) (D : va_G) (k : Nat → ClassId) (h : Nat → Nat) (p1 : Int32) (p2 : Int32) (p3 : Int32) (st : rs_T) (s' : rs_T) (hf : fx_Md_begin p1 p2 p3 st = some s') : mVM l D k h yX10_begin cX10_begin 5 rm_Md_begin [.ref (h 0), .int p1, .int p2, .int p3] st s' := by
  refine mVM_of (by decide) ⟨rfl, rfl⟩ (Nat.le_of_ble_eq_true rfl) ?_
  intro p e s m below meth c ls C hl G
  obtain ⟨hx, hb, hml, hr, hown, hts, hK, hN, hlk⟩ := id C
  have hown : s.vm.findClass RX10 = some m.cls := hown
  have hl : lv_has ls 5 [(0, .ref (h 0)), (1, .int p1), (2, .int p2), (3, .int p3)] := hl
  unfold fx_Md_begin at hf
  refine lv_aload_n hx hb dX10_begin_0 rfl (lv_at hl 0 rfl) ?_
  refine fg_Md_labels (v := rI st 3) hx hb hts hown hK G (hts _ lk_X10_117) rfl dX10_begin_1 ?_
  refine lv_if_ne (tgt := 11) hx hb dX10_begin_4 (by decide) (fun c1 => ?_) (fun c1 => ?_)
  · replace hf := if_n hf c1
    refine lv_aload_n hx hb dX10_begin_11 rfl (lv_at hl 0 rfl) ?_
    refine fg_Md_height hx hb hts hown hK G (hts _ lk_X10_49) dX10_begin_12 ?_
    refine lv_aload_n hx hb dX10_begin_15 rfl (lv_at hl 0 rfl) ?_
    refine fg_Md_labels (v := rI st 3) hx hb hts hown hK G (hts _ lk_X10_117) rfl dX10_begin_16 ?_
    refine lv_iconst (v := 1) hx hb dX10_begin_19 (by decide) ?_
    refine lv_isub hx hb dX10_begin_20 ?_
    obtain ⟨h_g2, hf⟩ := gd_some hf
    refine ra_IM (v := rA st 13 (((rI st 3) - 1).toNatClampNeg)) hx hb hK G (waM_14 ..) (t0 := 13) rfl rfl h_g2 dX10_begin_21 ?_
    refine lv_aload_n hx hb dX10_begin_22 rfl (lv_at hl 0 rfl) ?_
    refine fg_Md_own hx hb hts hown hK G (hts _ lk_X10_52) dX10_begin_23 ?_
    refine lv_aload_n hx hb dX10_begin_26 rfl (lv_at hl 0 rfl) ?_
    refine fg_Md_labels (v := rI st 3) hx hb hts hown hK G (hts _ lk_X10_117) rfl dX10_begin_27 ?_
    refine lv_iconst (v := 1) hx hb dX10_begin_30 (by decide) ?_
    refine lv_isub hx hb dX10_begin_31 ?_
    obtain ⟨h_g3, hf⟩ := gd_some hf
    refine ra_IM (v := rA st 14 (((rI st 3) - 1).toNatClampNeg)) hx hb hK G (waM_15 ..) (t0 := 14) rfl rfl h_g3 dX10_begin_32 ?_
    refine lv_iadd hx hb dX10_begin_33 ?_
    exact kx_Md_begin_b34 C p1 p2 p3 ((rA st 13 (((rI st 3) - 1).toNatClampNeg)) + (rA st 14 (((rI st 3) - 1).toNatClampNeg))) st _ hf _ _ _ (lv_sub hl [0, 1, 2, 3] rfl) G
  · replace hf := if_p hf c1
    refine lv_iconst (v := 0) hx hb dX10_begin_7 (by decide) ?_
    refine lv_goto (tgt := 34) hx hb dX10_begin_8 (by decide) ?_
    exact kx_Md_begin_b34 C p1 p2 p3 0 st _ hf _ _ _ (lv_sub hl [0, 1, 2, 3] rfl) G
def rm_Md_function : Room := { frames := 1, cells := 0, slots := 0, locals := 24 }
set_option maxHeartbeats 4000000 in
set_option maxRecDepth 100000 in
theorem kx_Md_function (l : Launch) (D : va_G) (k : Nat → ClassId) (h : Nat → Nat) (p1 : Int32) (p2 : Int32) (p3 : Int32) (st : rs_T) (r : Int32) (s' : rs_T) (hf : fx_Md_function p1 p2 p3 st = some (r, s')) : mIM l D k h yX10_function cX10_function 4 .int rm_Md_function [.ref (h 0), .int p1, .int p2, .int p3] st r s' := by
  refine mIM_of (by decide) ⟨rfl, rfl⟩ (Nat.le_of_ble_eq_true rfl) ?_
  intro p e s m below meth c ls C hl G
  obtain ⟨hx, hb, hml, hr, hown, hts, hK, hN, hlk⟩ := id C
  have hown : s.vm.findClass RX10 = some m.cls := hown
  have hl : lv_has ls 4 [(0, .ref (h 0)), (1, .int p1), (2, .int p2), (3, .int p3)] := hl
  unfold fx_Md_function at hf
  refine lv_aload_n hx hb dX10_function_0 rfl (lv_at hl 0 rfl) ?_
  refine fg_Md_writing (v := rI st 2) hx hb hts hown hK G (hts _ lk_X10_103) rfl dX10_function_1 ?_
  refine lv_if_ne (tgt := 43) hx hb dX10_function_4 (by decide) (fun c1 => ?_) (fun c1 => ?_)
  · replace hf := if_n hf c1
    refine lv_iconst (v := (-1)) hx hb dX10_function_43 (by decide) ?_
    exact rt_iM C G hf dX10_function_44
  · replace hf := if_p hf c1
    refine lv_aload_n hx hb dX10_function_7 rfl (lv_at hl 0 rfl) ?_
    refine fg_Md_functions (v := rI st 0) hx hb hts hown hK G (hts _ lk_X10_107) rfl dX10_function_8 ?_
    refine lv_bipush (v := 40) hx hb dX10_function_11 (by decide) ?_
    refine lv_icmp_eq (tgt := 43) hx hb dX10_function_13 (by decide) (fun c2 => ?_) (fun c2 => ?_)
    · replace hf := if_p hf c2
      refine lv_iconst (v := (-1)) hx hb dX10_function_43 (by decide) ?_
      exact rt_iM C G hf dX10_function_44
    · replace hf := if_n hf c2
      refine lv_iload_n hx hb dX10_function_16 rfl (lv_at hl 1 rfl) ?_
      refine lv_bipush (v := 8) hx hb dX10_function_17 (by decide) ?_
      obtain ⟨r4, st3, hst3, hf⟩ := bn_some hf
      refine cl_siM C hl G (As := [.int p1, .int 8]) (rest := []) (kx_Md_within l D k h p1 8 st _ _ hst3) gi_X10_110 hd_X10_within ⟨Nat.le_of_ble_eq_true rfl, Nat.le_of_ble_eq_true rfl⟩ rfl rfl (Nat.le_of_ble_eq_true rfl) dX10_function_19 (fun H locs G => ?_)
      refine lv_if_eq (tgt := 43) hx hb dX10_function_22 (by decide) (fun c5 => ?_) (fun c5 => ?_)
      · replace hf := if_p hf c5
        refine lv_iconst (v := (-1)) hx hb dX10_function_43 (by decide) ?_
        exact rt_iM C G hf dX10_function_44
      · replace hf := if_n hf c5
        refine lv_iload_n hx hb dX10_function_25 rfl (lv_at hl 2 rfl) ?_
        refine lv_bipush (v := 8) hx hb dX10_function_26 (by decide) ?_
        obtain ⟨r7, st6, hst6, hf⟩ := bn_some hf
        refine cl_siM C hl G (As := [.int p2, .int 8]) (rest := []) (kx_Md_within l D k h p2 8 st3 _ _ hst6) gi_X10_110 hd_X10_within ⟨Nat.le_of_ble_eq_true rfl, Nat.le_of_ble_eq_true rfl⟩ rfl rfl (Nat.le_of_ble_eq_true rfl) dX10_function_28 (fun H locs G => ?_)
        refine lv_if_eq (tgt := 43) hx hb dX10_function_31 (by decide) (fun c8 => ?_) (fun c8 => ?_)
        · replace hf := if_p hf c8
          refine lv_iconst (v := (-1)) hx hb dX10_function_43 (by decide) ?_
          exact rt_iM C G hf dX10_function_44
        · replace hf := if_n hf c8
          refine lv_iload_n hx hb dX10_function_34 rfl (lv_at hl 3 rfl) ?_
          refine lv_bipush (v := 8) hx hb dX10_function_35 (by decide) ?_
          obtain ⟨r10, st9, hst9, hf⟩ := bn_some hf
          refine cl_siM C hl G (As := [.int p3, .int 8]) (rest := []) (kx_Md_within l D k h p3 8 st6 _ _ hst9) gi_X10_110 hd_X10_within ⟨Nat.le_of_ble_eq_true rfl, Nat.le_of_ble_eq_true rfl⟩ rfl rfl (Nat.le_of_ble_eq_true rfl) dX10_function_37 (fun H locs G => ?_)
          refine lv_if_ne (tgt := 45) hx hb dX10_function_40 (by decide) (fun c11 => ?_) (fun c11 => ?_)
          · replace hf := if_n hf c11
            refine lv_aload_n hx hb dX10_function_45 rfl (lv_at hl 0 rfl) ?_
            refine fg_Md_start hx hb hts hown hK G (hts _ lk_X10_7) dX10_function_46 ?_
            refine lv_aload_n hx hb dX10_function_49 rfl (lv_at hl 0 rfl) ?_
            refine fg_Md_functions (v := rI st9 0) hx hb hts hown hK G (hts _ lk_X10_107) rfl dX10_function_50 ?_
            refine lv_aload_n hx hb dX10_function_53 rfl (lv_at hl 0 rfl) ?_
            refine fg_Md_total (v := rI st9 1) hx hb hts hown hK G (hts _ lk_X10_114) rfl dX10_function_54 ?_
            obtain ⟨h_g12, hf⟩ := gd_some hf
            refine rw_IM hx hb hK G (waM_1 ..) (t0 := 0) rfl (wsM_1 ..) h_g12 dX10_function_57 (fun H locs G => ?_)
            refine lv_aload_n hx hb dX10_function_58 rfl (lv_at hl 0 rfl) ?_
            refine fg_Md_length hx hb hts hown hK G (hts _ lk_X10_13) dX10_function_59 ?_
            refine lv_aload_n hx hb dX10_function_62 rfl (lv_at hl 0 rfl) ?_
            refine fg_Md_functions (v := rI st9 0) hx hb hts hown hK G (hts _ lk_X10_107) rfl dX10_function_63 ?_
            refine lv_iconst (v := 0) hx hb dX10_function_66 (by decide) ?_
            obtain ⟨h_g13, hf⟩ := gd_some hf
            refine rw_IM hx hb hK G (waM_2 ..) (t0 := 1) rfl (wsM_2 ..) h_g13 dX10_function_67 (fun H locs G => ?_)
            refine lv_aload_n hx hb dX10_function_68 rfl (lv_at hl 0 rfl) ?_
            refine fg_Md_parameters hx hb hts hown hK G (hts _ lk_X10_16) dX10_function_69 ?_
            refine lv_aload_n hx hb dX10_function_72 rfl (lv_at hl 0 rfl) ?_
            refine fg_Md_functions (v := rI st9 0) hx hb hts hown hK G (hts _ lk_X10_107) rfl dX10_function_73 ?_
            refine lv_iload_n hx hb dX10_function_76 rfl (lv_at hl 1 rfl) ?_
            obtain ⟨h_g14, hf⟩ := gd_some hf
            refine rw_IM hx hb hK G (waM_3 ..) (t0 := 2) rfl (wsM_3 ..) h_g14 dX10_function_77 (fun H locs G => ?_)
            refine lv_aload_n hx hb dX10_function_78 rfl (lv_at hl 0 rfl) ?_
            refine fg_Md_results hx hb hts hown hK G (hts _ lk_X10_19) dX10_function_79 ?_
            refine lv_aload_n hx hb dX10_function_82 rfl (lv_at hl 0 rfl) ?_
            refine fg_Md_functions (v := rI st9 0) hx hb hts hown hK G (hts _ lk_X10_107) rfl dX10_function_83 ?_
            refine lv_iload_n hx hb dX10_function_86 rfl (lv_at hl 2 rfl) ?_
            obtain ⟨h_g15, hf⟩ := gd_some hf
            refine rw_IM hx hb hK G (waM_4 ..) (t0 := 3) rfl (wsM_4 ..) h_g15 dX10_function_87 (fun H locs G => ?_)
            refine lv_aload_n hx hb dX10_function_88 rfl (lv_at hl 0 rfl) ?_
            refine fg_Md_locals hx hb hts hown hK G (hts _ lk_X10_22) dX10_function_89 ?_
            refine lv_aload_n hx hb dX10_function_92 rfl (lv_at hl 0 rfl) ?_
            refine fg_Md_functions (v := rI st9 0) hx hb hts hown hK G (hts _ lk_X10_107) rfl dX10_function_93 ?_
            refine lv_iload_n hx hb dX10_function_96 rfl (lv_at hl 3 rfl) ?_
            obtain ⟨h_g16, hf⟩ := gd_some hf
            refine rw_IM hx hb hK G (waM_5 ..) (t0 := 4) rfl (wsM_5 ..) h_g16 dX10_function_97 (fun H locs G => ?_)
            refine lv_aload_n hx hb dX10_function_98 rfl (lv_at hl 0 rfl) ?_
            refine fg_Md_most hx hb hts hown hK G (hts _ lk_X10_25) dX10_function_99 ?_
            refine lv_aload_n hx hb dX10_function_102 rfl (lv_at hl 0 rfl) ?_
            refine fg_Md_functions (v := rI st9 0) hx hb hts hown hK G (hts _ lk_X10_107) rfl dX10_function_103 ?_
            refine lv_iconst (v := 0) hx hb dX10_function_106 (by decide) ?_
            obtain ⟨h_g17, hf⟩ := gd_some hf
            refine rw_IM hx hb hK G (waM_6 ..) (t0 := 5) rfl (wsM_6 ..) h_g17 dX10_function_107 (fun H locs G => ?_)
            refine lv_aload_n hx hb dX10_function_108 rfl (lv_at hl 0 rfl) ?_
            refine fg_Md_counted hx hb hts hown hK G (hts _ lk_X10_94) dX10_function_109 ?_
            refine lv_aload_n hx hb dX10_function_112 rfl (lv_at hl 0 rfl) ?_
            refine fg_Md_functions (v := rI st9 0) hx hb hts hown hK G (hts _ lk_X10_107) rfl dX10_function_113 ?_
            refine lv_iconst (v := 0) hx hb dX10_function_116 (by decide) ?_
            obtain ⟨h_g18, hf⟩ := gd_some hf
            refine rw_IM hx hb hK G (waM_25 ..) (t0 := 24) rfl (wsM_25 ..) h_g18 dX10_function_117 (fun H locs G => ?_)
            refine lv_aload_n hx hb dX10_function_118 rfl (lv_at hl 0 rfl) ?_
            refine fg_Md_compiled hx hb hts hown hK G (hts _ lk_X10_97) dX10_function_119 ?_
            refine lv_aload_n hx hb dX10_function_122 rfl (lv_at hl 0 rfl) ?_
            refine fg_Md_functions (v := rI st9 0) hx hb hts hown hK G (hts _ lk_X10_107) rfl dX10_function_123 ?_
            refine lv_iconst (v := 0) hx hb dX10_function_126 (by decide) ?_
            obtain ⟨h_g19, hf⟩ := gd_some hf
            refine rw_ZM hx hb hK G (waM_26 ..) (t0 := 25) rfl (wsM_26 ..) rfl h_g19 dX10_function_127 (fun H locs G => ?_)
            refine lv_aload_n hx hb dX10_function_128 rfl (lv_at hl 0 rfl) ?_
            refine lv_dup hx hb dX10_function_129 rfl ?_
            refine fg_Md_functions (v := rI st9 0) hx hb hts hown hK G (hts _ lk_X10_107) rfl dX10_function_130 ?_
            refine lv_iconst (v := 1) hx hb dX10_function_133 (by decide) ?_
            refine lv_iadd hx hb dX10_function_134 ?_
            refine fp_Md_functions hx hb hts hown hK G (hts _ lk_X10_107) dX10_function_135 (fun H locs G => ?_)
            refine lv_aload_n hx hb dX10_function_138 rfl (lv_at hl 0 rfl) ?_
            refine lv_iconst (v := 1) hx hb dX10_function_139 (by decide) ?_
            refine fp_Md_writing hx hb hts hown hK G (hts _ lk_X10_103) rfl rfl dX10_function_140 (fun H locs G => ?_)
            refine lv_aload_n hx hb dX10_function_143 rfl (lv_at hl 0 rfl) ?_
            refine lv_iconst (v := 0) hx hb dX10_function_144 (by decide) ?_
            refine fp_Md_labels hx hb hts hown hK G (hts _ lk_X10_117) dX10_function_145 (fun H locs G => ?_)
            refine lv_aload_n hx hb dX10_function_148 rfl (lv_at hl 0 rfl) ?_
            refine lv_iconst (v := 0) hx hb dX10_function_149 (by decide) ?_
            refine fp_Md_entriesLeft hx hb hts hown hK G (hts _ lk_X10_120) dX10_function_150 (fun H locs G => ?_)
            refine lv_aload_n hx hb dX10_function_153 rfl (lv_at hl 0 rfl) ?_
            refine lv_iconst (v := 0) hx hb dX10_function_154 (by decide) ?_
            refine lv_iconst (v := 0) hx hb dX10_function_155 (by decide) ?_
            refine lv_iload_n hx hb dX10_function_156 rfl (lv_at hl 2 rfl) ?_
            obtain ⟨st20, hst20, hf⟩ := bv_some hf
            refine cl_vvM C hl G (As := [.int 0, .int 0, .int p2]) (rest := []) (kx_Md_begin l D k h 0 0 p2 (wI (wI (wI (wI (wA (wA (wA (wA (wA (wA (wA (wA st9 0 ((rI st9 0).toNatClampNeg) (rI st9 1)) 1 ((rI st9 0).toNatClampNeg) 0) 2 ((rI st9 0).toNatClampNeg) p1) 3 ((rI st9 0).toNatClampNeg) p2) 4 ((rI st9 0).toNatClampNeg) p3) 5 ((rI st9 0).toNatClampNeg) 0) 21 ((rI st9 0).toNatClampNeg) 0) 22 ((rI st9 0).toNatClampNeg) 0) 0 ((rI st9 0) + 1)) 2 1) 3 0) 4 0) _ hst20) gi_X10_123 (hwM_0 ..) rfl hd_X10_begin ⟨Nat.le_of_ble_eq_true rfl, Nat.le_of_ble_eq_true rfl⟩ rfl rfl (Nat.le_of_ble_eq_true rfl) dX10_function_157 (fun H locs G => ?_)
            refine lv_aload_n hx hb dX10_function_160 rfl (lv_at hl 0 rfl) ?_
            refine fg_Md_functions (v := rI st20 0) hx hb hts hown hK G (hts _ lk_X10_107) rfl dX10_function_161 ?_
            refine lv_iconst (v := 1) hx hb dX10_function_164 (by decide) ?_
            refine lv_isub hx hb dX10_function_165 ?_
            exact rt_iM C G hf dX10_function_166
          · replace hf := if_p hf c11
            refine lv_iconst (v := (-1)) hx hb dX10_function_43 (by decide) ?_
            exact rt_iM C G hf dX10_function_44
def rm_Md_inner : Room := { frames := 0, cells := 0, slots := 0, locals := 0 }
set_option maxHeartbeats 4000000 in
set_option maxRecDepth 100000 in
theorem kx_Md_inner (l : Launch) (D : va_G) (k : Nat → ClassId) (h : Nat → Nat) (st : rs_T) (r : Int32) (s' : rs_T) (hf : fx_Md_inner st = some (r, s')) : mIM l D k h yX10_inner cX10_inner 1 .int rm_Md_inner [.ref (h 0)] st r s' := by
  refine mIM_of (by decide) ⟨rfl, rfl⟩ (Nat.le_of_ble_eq_true rfl) ?_
  intro p e s m below meth c ls C hl G
  obtain ⟨hx, hb, hml, hr, hown, hts, hK, hN, hlk⟩ := id C
  have hown : s.vm.findClass RX10 = some m.cls := hown
  have hl : lv_has ls 1 [(0, .ref (h 0))] := hl
  unfold fx_Md_inner at hf
  refine lv_aload_n hx hb dX10_inner_0 rfl (lv_at hl 0 rfl) ?_
  refine fg_Md_labels (v := rI st 3) hx hb hts hown hK G (hts _ lk_X10_117) rfl dX10_inner_1 ?_
  refine lv_iconst (v := 1) hx hb dX10_inner_4 (by decide) ?_
  refine lv_isub hx hb dX10_inner_5 ?_
  exact rt_iM C G hf dX10_inner_6
def rm_Md_has : Room := { frames := 1, cells := 0, slots := 0, locals := 20 }
set_option maxHeartbeats 4000000 in
set_option maxRecDepth 100000 in
theorem kx_Md_has_b25 {p : Program} {l : Launch} {e : Env} {s : State} {m : MethodId} {args : Array Value} {below : List Frame} {meth : Method} {c : Code} {D : va_G} {k : Nat → ClassId} {h : Nat → Nat} (C : cxM D k p s m args meth c cX10_has 2 (some .boolean) RX10) (st : rs_T) (r : Int32) (s' : rs_T) (hf : fx_Md_has_b25 st = some (r, s')) : ∀ (H : Heap) (locs : List Loc) (ls : Array Slot), lv_has ls 2 [] → gdM D k h (arM h s.heap.size) s.heap H locs st → W p l e rm_Md_has s m args below meth c H locs 0 0 (MQ below (qIM D k h s.heap.size r s') args s 0 0 (arM h s.heap.size)) (F0 m 25 ls []) := by
  obtain ⟨hx, hb, hml, hr, hown, hts, hK, hN, hlk⟩ := id C
  intro H locs ls hl G
  unfold fx_Md_has_b25 at hf
  refine lv_iconst (v := 1) hx hb dX10_has_25 (by decide) ?_
  refine lv_goto (tgt := 30) hx hb dX10_has_26 (by decide) ?_
  exact rt_zM C rfl G hf dX10_has_30
set_option maxHeartbeats 4000000 in
set_option maxRecDepth 100000 in
theorem kx_Md_has (l : Launch) (D : va_G) (k : Nat → ClassId) (h : Nat → Nat) (p1 : Int32) (st : rs_T) (r : Int32) (s' : rs_T) (hf : fx_Md_has p1 st = some (r, s')) : mIM l D k h yX10_has cX10_has 2 .boolean rm_Md_has [.ref (h 0), .int p1] st r s' := by
  refine mIM_of (by decide) ⟨rfl, rfl⟩ (Nat.le_of_ble_eq_true rfl) ?_
  intro p e s m below meth c ls C hl G
  obtain ⟨hx, hb, hml, hr, hown, hts, hK, hN, hlk⟩ := id C
  have hown : s.vm.findClass RX10 = some m.cls := hown
  have hl : lv_has ls 2 [(0, .ref (h 0)), (1, .int p1)] := hl
  unfold fx_Md_has at hf
  refine lv_aload_n hx hb dX10_has_0 rfl (lv_at hl 0 rfl) ?_
  refine fg_Md_own hx hb hts hown hK G (hts _ lk_X10_52) dX10_has_1 ?_
  refine lv_aload_n hx hb dX10_has_4 rfl (lv_at hl 0 rfl) ?_
  obtain ⟨r2, st1, hst1, hf⟩ := bn_some hf
  refine cl_viM C hl G (As := []) (rest := [.ref (h 15)]) (kx_Md_inner l D k h st _ _ hst1) gi_X10_127 (hwM_0 ..) rfl hd_X10_inner ⟨Nat.le_of_ble_eq_true rfl, Nat.le_of_ble_eq_true rfl⟩ rfl rfl (Nat.le_of_ble_eq_true rfl) dX10_has_5 (fun H locs G => ?_)
  obtain ⟨h_g3, hf⟩ := gd_some hf
  refine ra_IM (v := rA st1 14 r2.toNatClampNeg) hx hb hK G (waM_15 ..) (t0 := 14) rfl rfl h_g3 dX10_has_8 ?_
  refine lv_iload_n hx hb dX10_has_9 rfl (lv_at hl 1 rfl) ?_
  refine lv_icmp_ge (tgt := 25) hx hb dX10_has_10 (by decide) (fun c4 => ?_) (fun c4 => ?_)
  · replace hf := if_p hf c4
    exact kx_Md_has_b25 C st1 _ _ hf _ _ _ (lv_sub hl [] rfl) G
  · replace hf := if_n hf c4
    refine lv_aload_n hx hb dX10_has_13 rfl (lv_at hl 0 rfl) ?_
    refine fg_Md_dead hx hb hts hown hK G (hts _ lk_X10_55) dX10_has_14 ?_
    refine lv_aload_n hx hb dX10_has_17 rfl (lv_at hl 0 rfl) ?_
    obtain ⟨r6, st5, hst5, hf⟩ := bn_some hf
    refine cl_viM C hl G (As := []) (rest := [.ref (h 16)]) (kx_Md_inner l D k h st1 _ _ hst5) gi_X10_127 (hwM_0 ..) rfl hd_X10_inner ⟨Nat.le_of_ble_eq_true rfl, Nat.le_of_ble_eq_true rfl⟩ rfl rfl (Nat.le_of_ble_eq_true rfl) dX10_has_18 (fun H locs G => ?_)
    obtain ⟨h_g7, hf⟩ := gd_some hf
    refine ra_ZM (v := rA st5 15 r6.toNatClampNeg) hx hb hK G (waM_16 ..) (t0 := 15) rfl rfl h_g7 dX10_has_21 ?_
    refine lv_if_eq (tgt := 29) hx hb dX10_has_22 (by decide) (fun c8 => ?_) (fun c8 => ?_)
    · replace hf := if_p hf c8
      refine lv_iconst (v := 0) hx hb dX10_has_29 (by decide) ?_
      exact rt_zM C rfl G hf dX10_has_30
    · replace hf := if_n hf c8
      exact kx_Md_has_b25 C st5 _ _ hf _ _ _ (lv_sub hl [] rfl) G
def rm_Md_die : Room := { frames := 1, cells := 0, slots := 0, locals := 20 }
set_option maxHeartbeats 4000000 in
set_option maxRecDepth 100000 in
theorem kx_Md_die (l : Launch) (D : va_G) (k : Nat → ClassId) (h : Nat → Nat) (st : rs_T) (s' : rs_T) (hf : fx_Md_die st = some s') : mVM l D k h yX10_die cX10_die 1 rm_Md_die [.ref (h 0)] st s' := by
  refine mVM_of (by decide) ⟨rfl, rfl⟩ (Nat.le_of_ble_eq_true rfl) ?_
  intro p e s m below meth c ls C hl G
  obtain ⟨hx, hb, hml, hr, hown, hts, hK, hN, hlk⟩ := id C
  have hown : s.vm.findClass RX10 = some m.cls := hown
  have hl : lv_has ls 1 [(0, .ref (h 0))] := hl
  unfold fx_Md_die at hf
  refine lv_aload_n hx hb dX10_die_0 rfl (lv_at hl 0 rfl) ?_
  refine fg_Md_own hx hb hts hown hK G (hts _ lk_X10_52) dX10_die_1 ?_
  refine lv_aload_n hx hb dX10_die_4 rfl (lv_at hl 0 rfl) ?_
  obtain ⟨r2, st1, hst1, hf⟩ := bn_some hf
  refine cl_viM C hl G (As := []) (rest := [.ref (h 15)]) (kx_Md_inner l D k h st _ _ hst1) gi_X10_127 (hwM_0 ..) rfl hd_X10_inner ⟨Nat.le_of_ble_eq_true rfl, Nat.le_of_ble_eq_true rfl⟩ rfl rfl (Nat.le_of_ble_eq_true rfl) dX10_die_5 (fun H locs G => ?_)
  refine lv_iconst (v := 0) hx hb dX10_die_8 (by decide) ?_
  obtain ⟨h_g3, hf⟩ := gd_some hf
  refine rw_IM hx hb hK G (waM_15 ..) (t0 := 14) rfl (wsM_15 ..) h_g3 dX10_die_9 (fun H locs G => ?_)
  refine lv_aload_n hx hb dX10_die_10 rfl (lv_at hl 0 rfl) ?_
  refine fg_Md_dead hx hb hts hown hK G (hts _ lk_X10_55) dX10_die_11 ?_
  refine lv_aload_n hx hb dX10_die_14 rfl (lv_at hl 0 rfl) ?_
  obtain ⟨r5, st4, hst4, hf⟩ := bn_some hf
  refine cl_viM C hl G (As := []) (rest := [.ref (h 16)]) (kx_Md_inner l D k h (wA st1 14 r2.toNatClampNeg 0) _ _ hst4) gi_X10_127 (hwM_0 ..) rfl hd_X10_inner ⟨Nat.le_of_ble_eq_true rfl, Nat.le_of_ble_eq_true rfl⟩ rfl rfl (Nat.le_of_ble_eq_true rfl) dX10_die_15 (fun H locs G => ?_)
  refine lv_iconst (v := 1) hx hb dX10_die_18 (by decide) ?_
  obtain ⟨h_g6, hf⟩ := gd_some hf
  refine rw_ZM hx hb hK G (waM_16 ..) (t0 := 15) rfl (wsM_16 ..) rfl h_g6 dX10_die_19 (fun H locs G => ?_)
  exact rt_vM C G hf dX10_die_20
def rm_Md_ends : Room := { frames := 2, cells := 0, slots := 0, locals := 41 }
set_option maxHeartbeats 4000000 in
set_option maxRecDepth 100000 in
theorem kx_Md_ends (l : Launch) (D : va_G) (k : Nat → ClassId) (h : Nat → Nat) (p1 : Int32) (st : rs_T) (r : Int32) (s' : rs_T) (hf : fx_Md_ends p1 st = some (r, s')) : mIM l D k h yX10_ends cX10_ends 2 .boolean rm_Md_ends [.ref (h 0), .int p1] st r s' := by
  refine mIM_of (by decide) ⟨rfl, rfl⟩ (Nat.le_of_ble_eq_true rfl) ?_
  intro p e s m below meth c ls C hl G
  obtain ⟨hx, hb, hml, hr, hown, hts, hK, hN, hlk⟩ := id C
  have hown : s.vm.findClass RX10 = some m.cls := hown
  have hl : lv_has ls 2 [(0, .ref (h 0)), (1, .int p1)] := hl
  unfold fx_Md_ends at hf
  refine lv_aload_n hx hb dX10_ends_0 rfl (lv_at hl 0 rfl) ?_
  refine lv_iload_n hx hb dX10_ends_1 rfl (lv_at hl 1 rfl) ?_
  obtain ⟨r2, st1, hst1, hf⟩ := bn_some hf
  refine cl_viM C hl G (As := [.int p1]) (rest := []) (kx_Md_has l D k h p1 st _ _ hst1) gi_X10_131 (hwM_0 ..) rfl hd_X10_has ⟨Nat.le_of_ble_eq_true rfl, Nat.le_of_ble_eq_true rfl⟩ rfl rfl (Nat.le_of_ble_eq_true rfl) dX10_ends_2 (fun H locs G => ?_)
  refine lv_if_ne (tgt := 10) hx hb dX10_ends_5 (by decide) (fun c3 => ?_) (fun c3 => ?_)
  · replace hf := if_n hf c3
    refine lv_aload_n hx hb dX10_ends_10 rfl (lv_at hl 0 rfl) ?_
    obtain ⟨st4, hst4, hf⟩ := bv_some hf
    refine cl_vvM C hl G (As := []) (rest := []) (kx_Md_die l D k h st1 _ hst4) gi_X10_139 (hwM_0 ..) rfl hd_X10_die ⟨Nat.le_of_ble_eq_true rfl, Nat.le_of_ble_eq_true rfl⟩ rfl rfl (Nat.le_of_ble_eq_true rfl) dX10_ends_11 (fun H locs G => ?_)
    refine lv_iconst (v := 1) hx hb dX10_ends_14 (by decide) ?_
    exact rt_zM C rfl G hf dX10_ends_15
  · replace hf := if_p hf c3
    refine lv_iconst (v := 0) hx hb dX10_ends_8 (by decide) ?_
    exact rt_zM C rfl G hf dX10_ends_9
def rm_Md_take : Room := { frames := 1, cells := 0, slots := 0, locals := 20 }
set_option maxHeartbeats 4000000 in
set_option maxRecDepth 100000 in
theorem kx_Md_take_b36 {p : Program} {l : Launch} {e : Env} {s : State} {m : MethodId} {args : Array Value} {below : List Frame} {meth : Method} {c : Code} {D : va_G} {k : Nat → ClassId} {h : Nat → Nat} (C : cxM D k p s m args meth c cX10_take 2 none RX10) (y0 : Int32) (y1 : Int32) (st : rs_T) (s' : rs_T) (hf : fx_Md_take_b36 y0 y1 st = some s') : ∀ (H : Heap) (locs : List Loc) (ls : Array Slot), lv_has ls 2 [] → gdM D k h (arM h s.heap.size) s.heap H locs st → W p l e rm_Md_take s m args below meth c H locs 0 0 (MQ below (qVM D k h s.heap.size s') args s 0 0 (arM h s.heap.size)) (F0 m 36 ls [.int y0, .int y1, .ref (h 15)]) := by
  obtain ⟨hx, hb, hml, hr, hown, hts, hK, hN, hlk⟩ := id C
  intro H locs ls hl G
  unfold fx_Md_take_b36 at hf
  obtain ⟨h_g7, hf⟩ := gd_some hf
  refine rw_IM hx hb hK G (waM_15 ..) (t0 := 14) rfl (wsM_15 ..) h_g7 dX10_take_36 (fun H locs G => ?_)
  exact rt_vM C G hf dX10_take_37
set_option maxHeartbeats 4000000 in
set_option maxRecDepth 100000 in
theorem kx_Md_take (l : Launch) (D : va_G) (k : Nat → ClassId) (h : Nat → Nat) (p1 : Int32) (st : rs_T) (s' : rs_T) (hf : fx_Md_take p1 st = some s') : mVM l D k h yX10_take cX10_take 2 rm_Md_take [.ref (h 0), .int p1] st s' := by
  refine mVM_of (by decide) ⟨rfl, rfl⟩ (Nat.le_of_ble_eq_true rfl) ?_
  intro p e s m below meth c ls C hl G
  obtain ⟨hx, hb, hml, hr, hown, hts, hK, hN, hlk⟩ := id C
  have hown : s.vm.findClass RX10 = some m.cls := hown
  have hl : lv_has ls 2 [(0, .ref (h 0)), (1, .int p1)] := hl
  unfold fx_Md_take at hf
  refine lv_aload_n hx hb dX10_take_0 rfl (lv_at hl 0 rfl) ?_
  refine fg_Md_own hx hb hts hown hK G (hts _ lk_X10_52) dX10_take_1 ?_
  refine lv_aload_n hx hb dX10_take_4 rfl (lv_at hl 0 rfl) ?_
  obtain ⟨r2, st1, hst1, hf⟩ := bn_some hf
  refine cl_viM C hl G (As := []) (rest := [.ref (h 15)]) (kx_Md_inner l D k h st _ _ hst1) gi_X10_127 (hwM_0 ..) rfl hd_X10_inner ⟨Nat.le_of_ble_eq_true rfl, Nat.le_of_ble_eq_true rfl⟩ rfl rfl (Nat.le_of_ble_eq_true rfl) dX10_take_5 (fun H locs G => ?_)
  refine lv_aload_n hx hb dX10_take_8 rfl (lv_at hl 0 rfl) ?_
  refine fg_Md_own hx hb hts hown hK G (hts _ lk_X10_52) dX10_take_9 ?_
  refine lv_aload_n hx hb dX10_take_12 rfl (lv_at hl 0 rfl) ?_
  obtain ⟨r4, st3, hst3, hf⟩ := bn_some hf
  refine cl_viM C hl G (As := []) (rest := [.ref (h 15), .int r2, .ref (h 15)]) (kx_Md_inner l D k h st1 _ _ hst3) gi_X10_127 (hwM_0 ..) rfl hd_X10_inner ⟨Nat.le_of_ble_eq_true rfl, Nat.le_of_ble_eq_true rfl⟩ rfl rfl (Nat.le_of_ble_eq_true rfl) dX10_take_13 (fun H locs G => ?_)
  obtain ⟨h_g5, hf⟩ := gd_some hf
  refine ra_IM (v := rA st3 14 r4.toNatClampNeg) hx hb hK G (waM_15 ..) (t0 := 14) rfl rfl h_g5 dX10_take_16 ?_
  refine lv_iload_n hx hb dX10_take_17 rfl (lv_at hl 1 rfl) ?_
  refine lv_icmp_le (tgt := 35) hx hb dX10_take_18 (by decide) (fun c6 => ?_) (fun c6 => ?_)
  · replace hf := if_p hf c6
    refine lv_iconst (v := 0) hx hb dX10_take_35 (by decide) ?_
    exact kx_Md_take_b36 C 0 r2 st3 _ hf _ _ _ (lv_sub hl [] rfl) G
  · replace hf := if_n hf c6
    refine lv_aload_n hx hb dX10_take_21 rfl (lv_at hl 0 rfl) ?_
    refine fg_Md_own hx hb hts hown hK G (hts _ lk_X10_52) dX10_take_22 ?_
    refine lv_aload_n hx hb dX10_take_25 rfl (lv_at hl 0 rfl) ?_
    obtain ⟨r9, st8, hst8, hf⟩ := bn_some hf
    refine cl_viM C hl G (As := []) (rest := [.ref (h 15), .int r2, .ref (h 15)]) (kx_Md_inner l D k h st3 _ _ hst8) gi_X10_127 (hwM_0 ..) rfl hd_X10_inner ⟨Nat.le_of_ble_eq_true rfl, Nat.le_of_ble_eq_true rfl⟩ rfl rfl (Nat.le_of_ble_eq_true rfl) dX10_take_26 (fun H locs G => ?_)
    obtain ⟨h_g10, hf⟩ := gd_some hf
    refine ra_IM (v := rA st8 14 r9.toNatClampNeg) hx hb hK G (waM_15 ..) (t0 := 14) rfl rfl h_g10 dX10_take_29 ?_
    refine lv_iload_n hx hb dX10_take_30 rfl (lv_at hl 1 rfl) ?_
    refine lv_isub hx hb dX10_take_31 ?_
    refine lv_goto (tgt := 36) hx hb dX10_take_32 (by decide) ?_
    exact kx_Md_take_b36 C ((rA st8 14 r9.toNatClampNeg) - p1) r2 st8 _ hf _ _ _ (lv_sub hl [] rfl) G
def rm_Md_block : Room := { frames := 2, cells := 0, slots := 0, locals := 41 }
set_option maxHeartbeats 4000000 in
set_option maxRecDepth 100000 in
theorem kx_Md_block_b12 {p : Program} {l : Launch} {e : Env} {s : State} {m : MethodId} {args : Array Value} {below : List Frame} {meth : Method} {c : Code} {D : va_G} {k : Nat → ClassId} {h : Nat → Nat} (C : cxM D k p s m args meth c cX10_block 5 (some .boolean) RX10) (x1 : Int32) (x2 : Int32) (x3 : Int32) (y0 : Int32) (st : rs_T) (r : Int32) (s' : rs_T) (hf : fx_Md_block_b12 x1 x2 x3 y0 st = some (r, s')) : ∀ (H : Heap) (locs : List Loc) (ls : Array Slot), lv_has ls 5 [(0, .ref (h 0)), (1, .int x1), (2, .int x2), (3, .int x3)] → gdM D k h (arM h s.heap.size) s.heap H locs st → W p l e rm_Md_block s m args below meth c H locs 0 0 (MQ below (qIM D k h s.heap.size r s') args s 0 0 (arM h s.heap.size)) (F0 m 12 ls [.int y0]) := by
  obtain ⟨hx, hb, hml, hr, hown, hts, hK, hN, hlk⟩ := id C
  intro H locs ls hl G
  unfold fx_Md_block_b12 at hf
  refine lv_istore (lv' := [(4, .int y0), (0, .ref (h 0)), (1, .int x1), (2, .int x2), (3, .int x3)]) hx hb dX10_block_12 hl (by decide) rfl (fun ls hl => ?_)
  refine lv_iload_n hx hb dX10_block_14 rfl (lv_at hl 3 rfl) ?_
  refine lv_iconst (v := 4) hx hb dX10_block_15 (by decide) ?_
  obtain ⟨r3, st2, hst2, hf⟩ := bn_some hf
  refine cl_siM C hl G (As := [.int x2, .int 4]) (rest := []) (kx_Md_within l D k h x2 4 st _ _ hst2) gi_X10_110 hd_X10_within ⟨Nat.le_of_ble_eq_true rfl, Nat.le_of_ble_eq_true rfl⟩ rfl rfl (Nat.le_of_ble_eq_true rfl) dX10_block_16 (fun H locs G => ?_)
  refine lv_if_eq (tgt := 39) hx hb dX10_block_19 (by decide) (fun c4 => ?_) (fun c4 => ?_)
  · replace hf := if_p hf c4
    refine lv_iconst (v := 0) hx hb dX10_block_39 (by decide) ?_
    exact rt_zM C rfl G hf dX10_block_40
  · replace hf := if_n hf c4
    refine lv_iload_n hx hb dX10_block_22 rfl (lv_at hl 4 rfl) ?_
    refine lv_iconst (v := 4) hx hb dX10_block_23 (by decide) ?_
    obtain ⟨r6, st5, hst5, hf⟩ := bn_some hf
    refine cl_siM C hl G (As := [.int x3, .int 4]) (rest := []) (kx_Md_within l D k h x3 4 st2 _ _ hst5) gi_X10_110 hd_X10_within ⟨Nat.le_of_ble_eq_true rfl, Nat.le_of_ble_eq_true rfl⟩ rfl rfl (Nat.le_of_ble_eq_true rfl) dX10_block_24 (fun H locs G => ?_)
    refine lv_if_eq (tgt := 39) hx hb dX10_block_27 (by decide) (fun c7 => ?_) (fun c7 => ?_)
    · replace hf := if_p hf c7
      refine lv_iconst (v := 0) hx hb dX10_block_39 (by decide) ?_
      exact rt_zM C rfl G hf dX10_block_40
    · replace hf := if_n hf c7
      refine lv_aload_n hx hb dX10_block_30 rfl (lv_at hl 1 rfl) ?_
      refine lv_iload hx hb dX10_block_31 (lv_at hl 0 rfl) ?_
      obtain ⟨r9, st8, hst8, hf⟩ := bn_some hf
      refine cl_viM C hl G (As := [.int y0]) (rest := []) (kx_Md_has l D k h y0 st5 _ _ hst8) gi_X10_131 (hwM_0 ..) rfl hd_X10_has ⟨Nat.le_of_ble_eq_true rfl, Nat.le_of_ble_eq_true rfl⟩ rfl rfl (Nat.le_of_ble_eq_true rfl) dX10_block_33 (fun H locs G => ?_)
      refine lv_if_ne (tgt := 41) hx hb dX10_block_36 (by decide) (fun c10 => ?_) (fun c10 => ?_)
      · replace hf := if_n hf c10
        refine lv_aload_n hx hb dX10_block_41 rfl (lv_at hl 1 rfl) ?_
        refine lv_iload hx hb dX10_block_42 (lv_at hl 0 rfl) ?_
        obtain ⟨st11, hst11, hf⟩ := bv_some hf
        refine cl_vvM C hl G (As := [.int y0]) (rest := []) (kx_Md_take l D k h y0 st8 _ hst11) gi_X10_135 (hwM_0 ..) rfl hd_X10_take ⟨Nat.le_of_ble_eq_true rfl, Nat.le_of_ble_eq_true rfl⟩ rfl rfl (Nat.le_of_ble_eq_true rfl) dX10_block_44 (fun H locs G => ?_)
        refine lv_aload_n hx hb dX10_block_47 rfl (lv_at hl 1 rfl) ?_
        refine lv_iload_n hx hb dX10_block_48 rfl (lv_at hl 2 rfl) ?_
        refine lv_iload_n hx hb dX10_block_49 rfl (lv_at hl 3 rfl) ?_
        refine lv_iload_n hx hb dX10_block_50 rfl (lv_at hl 4 rfl) ?_
        obtain ⟨st12, hst12, hf⟩ := bv_some hf
        refine cl_vvM C hl G (As := [.int x1, .int x2, .int x3]) (rest := []) (kx_Md_begin l D k h x1 x2 x3 st11 _ hst12) gi_X10_123 (hwM_0 ..) rfl hd_X10_begin ⟨Nat.le_of_ble_eq_true rfl, Nat.le_of_ble_eq_true rfl⟩ rfl rfl (Nat.le_of_ble_eq_true rfl) dX10_block_51 (fun H locs G => ?_)
        refine lv_aload_n hx hb dX10_block_54 rfl (lv_at hl 1 rfl) ?_
        refine fg_Md_below hx hb hts hown hK G (hts _ lk_X10_37) dX10_block_55 ?_
        refine lv_aload_n hx hb dX10_block_58 rfl (lv_at hl 1 rfl) ?_
        refine fg_Md_total (v := rI st12 1) hx hb hts hown hK G (hts _ lk_X10_114) rfl dX10_block_59 ?_
        refine lv_aload_n hx hb dX10_block_62 rfl (lv_at hl 1 rfl) ?_
        refine fg_Md_height hx hb hts hown hK G (hts _ lk_X10_49) dX10_block_63 ?_
        refine lv_aload_n hx hb dX10_block_66 rfl (lv_at hl 1 rfl) ?_
        obtain ⟨r14, st13, hst13, hf⟩ := bn_some hf
        refine cl_viM C hl G (As := []) (rest := [.ref (h 14), .int (rI st12 1), .ref (h 10)]) (kx_Md_inner l D k h st12 _ _ hst13) gi_X10_127 (hwM_0 ..) rfl hd_X10_inner ⟨Nat.le_of_ble_eq_true rfl, Nat.le_of_ble_eq_true rfl⟩ rfl rfl (Nat.le_of_ble_eq_true rfl) dX10_block_67 (fun H locs G => ?_)
        obtain ⟨h_g15, hf⟩ := gd_some hf
        refine ra_IM (v := rA st13 13 r14.toNatClampNeg) hx hb hK G (waM_14 ..) (t0 := 13) rfl rfl h_g15 dX10_block_70 ?_
        obtain ⟨h_g16, hf⟩ := gd_some hf
        refine rw_IM hx hb hK G (waM_10 ..) (t0 := 9) rfl (wsM_10 ..) h_g16 dX10_block_71 (fun H locs G => ?_)
        refine lv_iconst (v := 1) hx hb dX10_block_72 (by decide) ?_
        exact rt_zM C rfl G hf dX10_block_73
      · replace hf := if_p hf c10
        refine lv_iconst (v := 0) hx hb dX10_block_39 (by decide) ?_
        exact rt_zM C rfl G hf dX10_block_40
set_option maxHeartbeats 4000000 in
set_option maxRecDepth 100000 in
theorem kx_Md_block (l : Launch) (D : va_G) (k : Nat → ClassId) (h : Nat → Nat) (p1 : Int32) (p2 : Int32) (p3 : Int32) (st : rs_T) (r : Int32) (s' : rs_T) (hf : fx_Md_block p1 p2 p3 st = some (r, s')) : mIM l D k h yX10_block cX10_block 5 .boolean rm_Md_block [.ref (h 0), .int p1, .int p2, .int p3] st r s' := by
  refine mIM_of (by decide) ⟨rfl, rfl⟩ (Nat.le_of_ble_eq_true rfl) ?_
  intro p e s m below meth c ls C hl G
  obtain ⟨hx, hb, hml, hr, hown, hts, hK, hN, hlk⟩ := id C
  have hown : s.vm.findClass RX10 = some m.cls := hown
  have hl : lv_has ls 5 [(0, .ref (h 0)), (1, .int p1), (2, .int p2), (3, .int p3)] := hl
  unfold fx_Md_block at hf
  refine lv_iload_n hx hb dX10_block_0 rfl (lv_at hl 1 rfl) ?_
  refine lv_iconst (v := 4) hx hb dX10_block_1 (by decide) ?_
  refine lv_icmp_ne (tgt := 11) hx hb dX10_block_2 (by decide) (fun c1 => ?_) (fun c1 => ?_)
  · replace hf := if_n hf c1
    refine lv_iload_n hx hb dX10_block_11 rfl (lv_at hl 2 rfl) ?_
    exact kx_Md_block_b12 C p1 p2 p3 p2 st _ _ hf _ _ _ (lv_sub hl [0, 1, 2, 3] rfl) G
  · replace hf := if_p hf c1
    refine lv_iconst (v := 1) hx hb dX10_block_5 (by decide) ?_
    refine lv_iload_n hx hb dX10_block_6 rfl (lv_at hl 2 rfl) ?_
    refine lv_iadd hx hb dX10_block_7 ?_
    refine lv_goto (tgt := 12) hx hb dX10_block_8 (by decide) ?_
    exact kx_Md_block_b12 C p1 p2 p3 ((1 : Int32) + p2) st _ _ hf _ _ _ (lv_sub hl [0, 1, 2, 3] rfl) G
def rm_Md_isDone : Room := { frames := 1, cells := 0, slots := 0, locals := 20 }
set_option maxHeartbeats 4000000 in
set_option maxRecDepth 100000 in
theorem kx_Md_isDone_b54 {p : Program} {l : Launch} {e : Env} {s : State} {m : MethodId} {args : Array Value} {below : List Frame} {meth : Method} {c : Code} {D : va_G} {k : Nat → ClassId} {h : Nat → Nat} (C : cxM D k p s m args meth c cX10_isDone 1 (some .boolean) RX10) (st : rs_T) (r : Int32) (s' : rs_T) (hf : fx_Md_isDone_b54 st = some (r, s')) : ∀ (H : Heap) (locs : List Loc) (ls : Array Slot), lv_has ls 1 [] → gdM D k h (arM h s.heap.size) s.heap H locs st → W p l e rm_Md_isDone s m args below meth c H locs 0 0 (MQ below (qIM D k h s.heap.size r s') args s 0 0 (arM h s.heap.size)) (F0 m 54 ls []) := by
  obtain ⟨hx, hb, hml, hr, hown, hts, hK, hN, hlk⟩ := id C
  intro H locs ls hl G
  unfold fx_Md_isDone_b54 at hf
  refine lv_iconst (v := 1) hx hb dX10_isDone_54 (by decide) ?_
  refine lv_goto (tgt := 59) hx hb dX10_isDone_55 (by decide) ?_
  exact rt_zM C rfl G hf dX10_isDone_59
set_option maxHeartbeats 4000000 in
set_option maxRecDepth 100000 in
theorem kx_Md_isDone (l : Launch) (D : va_G) (k : Nat → ClassId) (h : Nat → Nat) (st : rs_T) (r : Int32) (s' : rs_T) (hf : fx_Md_isDone st = some (r, s')) : mIM l D k h yX10_isDone cX10_isDone 1 .boolean rm_Md_isDone [.ref (h 0)] st r s' := by
  refine mIM_of (by decide) ⟨rfl, rfl⟩ (Nat.le_of_ble_eq_true rfl) ?_
  intro p e s m below meth c ls C hl G
  obtain ⟨hx, hb, hml, hr, hown, hts, hK, hN, hlk⟩ := id C
  have hown : s.vm.findClass RX10 = some m.cls := hown
  have hl : lv_has ls 1 [(0, .ref (h 0))] := hl
  unfold fx_Md_isDone at hf
  refine lv_aload_n hx hb dX10_isDone_0 rfl (lv_at hl 0 rfl) ?_
  refine fg_Md_own hx hb hts hown hK G (hts _ lk_X10_52) dX10_isDone_1 ?_
  refine lv_aload_n hx hb dX10_isDone_4 rfl (lv_at hl 0 rfl) ?_
  obtain ⟨r2, st1, hst1, hf⟩ := bn_some hf
  refine cl_viM C hl G (As := []) (rest := [.ref (h 15)]) (kx_Md_inner l D k h st _ _ hst1) gi_X10_127 (hwM_0 ..) rfl hd_X10_inner ⟨Nat.le_of_ble_eq_true rfl, Nat.le_of_ble_eq_true rfl⟩ rfl rfl (Nat.le_of_ble_eq_true rfl) dX10_isDone_5 (fun H locs G => ?_)
  obtain ⟨h_g3, hf⟩ := gd_some hf
  refine ra_IM (v := rA st1 14 r2.toNatClampNeg) hx hb hK G (waM_15 ..) (t0 := 14) rfl rfl h_g3 dX10_isDone_8 ?_
  refine lv_aload_n hx hb dX10_isDone_9 rfl (lv_at hl 0 rfl) ?_
  refine fg_Md_gives hx hb hts hown hK G (hts _ lk_X10_46) dX10_isDone_10 ?_
  refine lv_aload_n hx hb dX10_isDone_13 rfl (lv_at hl 0 rfl) ?_
  obtain ⟨r5, st4, hst4, hf⟩ := bn_some hf
  refine cl_viM C hl G (As := []) (rest := [.ref (h 13), .int (rA st1 14 r2.toNatClampNeg)]) (kx_Md_inner l D k h st1 _ _ hst4) gi_X10_127 (hwM_0 ..) rfl hd_X10_inner ⟨Nat.le_of_ble_eq_true rfl, Nat.le_of_ble_eq_true rfl⟩ rfl rfl (Nat.le_of_ble_eq_true rfl) dX10_isDone_14 (fun H locs G => ?_)
  obtain ⟨h_g6, hf⟩ := gd_some hf
  refine ra_IM (v := rA st4 12 r5.toNatClampNeg) hx hb hK G (waM_13 ..) (t0 := 12) rfl rfl h_g6 dX10_isDone_17 ?_
  refine lv_icmp_eq (tgt := 54) hx hb dX10_isDone_18 (by decide) (fun c7 => ?_) (fun c7 => ?_)
  · replace hf := if_p hf c7
    exact kx_Md_isDone_b54 C st4 _ _ hf _ _ _ (lv_sub hl [] rfl) G
  · replace hf := if_n hf c7
    refine lv_aload_n hx hb dX10_isDone_21 rfl (lv_at hl 0 rfl) ?_
    refine fg_Md_dead hx hb hts hown hK G (hts _ lk_X10_55) dX10_isDone_22 ?_
    refine lv_aload_n hx hb dX10_isDone_25 rfl (lv_at hl 0 rfl) ?_
    obtain ⟨r9, st8, hst8, hf⟩ := bn_some hf
    refine cl_viM C hl G (As := []) (rest := [.ref (h 16)]) (kx_Md_inner l D k h st4 _ _ hst8) gi_X10_127 (hwM_0 ..) rfl hd_X10_inner ⟨Nat.le_of_ble_eq_true rfl, Nat.le_of_ble_eq_true rfl⟩ rfl rfl (Nat.le_of_ble_eq_true rfl) dX10_isDone_26 (fun H locs G => ?_)
    obtain ⟨h_g10, hf⟩ := gd_some hf
    refine ra_ZM (v := rA st8 15 r9.toNatClampNeg) hx hb hK G (waM_16 ..) (t0 := 15) rfl rfl h_g10 dX10_isDone_29 ?_
    refine lv_if_eq (tgt := 58) hx hb dX10_isDone_30 (by decide) (fun c11 => ?_) (fun c11 => ?_)
    · replace hf := if_p hf c11
      refine lv_iconst (v := 0) hx hb dX10_isDone_58 (by decide) ?_
      exact rt_zM C rfl G hf dX10_isDone_59
    · replace hf := if_n hf c11
      refine lv_aload_n hx hb dX10_isDone_33 rfl (lv_at hl 0 rfl) ?_
      refine fg_Md_own hx hb hts hown hK G (hts _ lk_X10_52) dX10_isDone_34 ?_
      refine lv_aload_n hx hb dX10_isDone_37 rfl (lv_at hl 0 rfl) ?_
      obtain ⟨r13, st12, hst12, hf⟩ := bn_some hf
      refine cl_viM C hl G (As := []) (rest := [.ref (h 15)]) (kx_Md_inner l D k h st8 _ _ hst12) gi_X10_127 (hwM_0 ..) rfl hd_X10_inner ⟨Nat.le_of_ble_eq_true rfl, Nat.le_of_ble_eq_true rfl⟩ rfl rfl (Nat.le_of_ble_eq_true rfl) dX10_isDone_38 (fun H locs G => ?_)
      obtain ⟨h_g14, hf⟩ := gd_some hf
      refine ra_IM (v := rA st12 14 r13.toNatClampNeg) hx hb hK G (waM_15 ..) (t0 := 14) rfl rfl h_g14 dX10_isDone_41 ?_
      refine lv_aload_n hx hb dX10_isDone_42 rfl (lv_at hl 0 rfl) ?_
      refine fg_Md_gives hx hb hts hown hK G (hts _ lk_X10_46) dX10_isDone_43 ?_
      refine lv_aload_n hx hb dX10_isDone_46 rfl (lv_at hl 0 rfl) ?_
      obtain ⟨r16, st15, hst15, hf⟩ := bn_some hf
      refine cl_viM C hl G (As := []) (rest := [.ref (h 13), .int (rA st12 14 r13.toNatClampNeg)]) (kx_Md_inner l D k h st12 _ _ hst15) gi_X10_127 (hwM_0 ..) rfl hd_X10_inner ⟨Nat.le_of_ble_eq_true rfl, Nat.le_of_ble_eq_true rfl⟩ rfl rfl (Nat.le_of_ble_eq_true rfl) dX10_isDone_47 (fun H locs G => ?_)
      obtain ⟨h_g17, hf⟩ := gd_some hf
      refine ra_IM (v := rA st15 12 r16.toNatClampNeg) hx hb hK G (waM_13 ..) (t0 := 12) rfl rfl h_g17 dX10_isDone_50 ?_
      refine lv_icmp_ge (tgt := 58) hx hb dX10_isDone_51 (by decide) (fun c18 => ?_) (fun c18 => ?_)
      · replace hf := if_p hf c18
        refine lv_iconst (v := 0) hx hb dX10_isDone_58 (by decide) ?_
        exact rt_zM C rfl G hf dX10_isDone_59
      · replace hf := if_n hf c18
        exact kx_Md_isDone_b54 C st15 _ _ hf _ _ _ (lv_sub hl [] rfl) G
def rm_Md_otherwise : Room := { frames := 2, cells := 0, slots := 0, locals := 40 }
set_option maxHeartbeats 4000000 in
set_option maxRecDepth 100000 in
theorem kx_Md_otherwise (l : Launch) (D : va_G) (k : Nat → ClassId) (h : Nat → Nat) (st : rs_T) (r : Int32) (s' : rs_T) (hf : fx_Md_otherwise st = some (r, s')) : mIM l D k h yX10_otherwise cX10_otherwise 1 .boolean rm_Md_otherwise [.ref (h 0)] st r s' := by
  refine mIM_of (by decide) ⟨rfl, rfl⟩ (Nat.le_of_ble_eq_true rfl) ?_
  intro p e s m below meth c ls C hl G
  obtain ⟨hx, hb, hml, hr, hown, hts, hK, hN, hlk⟩ := id C
  have hown : s.vm.findClass RX10 = some m.cls := hown
  have hl : lv_has ls 1 [(0, .ref (h 0))] := hl
  unfold fx_Md_otherwise at hf
  refine lv_aload_n hx hb dX10_otherwise_0 rfl (lv_at hl 0 rfl) ?_
  refine fg_Md_by hx hb hts hown hK G (hts _ lk_X10_40) dX10_otherwise_1 ?_
  refine lv_aload_n hx hb dX10_otherwise_4 rfl (lv_at hl 0 rfl) ?_
  obtain ⟨r2, st1, hst1, hf⟩ := bn_some hf
  refine cl_viM C hl G (As := []) (rest := [.ref (h 11)]) (kx_Md_inner l D k h st _ _ hst1) gi_X10_127 (hwM_0 ..) rfl hd_X10_inner ⟨Nat.le_of_ble_eq_true rfl, Nat.le_of_ble_eq_true rfl⟩ rfl rfl (Nat.le_of_ble_eq_true rfl) dX10_otherwise_5 (fun H locs G => ?_)
  obtain ⟨h_g3, hf⟩ := gd_some hf
  refine ra_IM (v := rA st1 10 r2.toNatClampNeg) hx hb hK G (waM_11 ..) (t0 := 10) rfl rfl h_g3 dX10_otherwise_8 ?_
  refine lv_iconst (v := 4) hx hb dX10_otherwise_9 (by decide) ?_
  refine lv_icmp_ne (tgt := 20) hx hb dX10_otherwise_10 (by decide) (fun c4 => ?_) (fun c4 => ?_)
  · replace hf := if_n hf c4
    refine lv_iconst (v := 0) hx hb dX10_otherwise_20 (by decide) ?_
    exact rt_zM C rfl G hf dX10_otherwise_21
  · replace hf := if_p hf c4
    refine lv_aload_n hx hb dX10_otherwise_13 rfl (lv_at hl 0 rfl) ?_
    obtain ⟨r6, st5, hst5, hf⟩ := bn_some hf
    refine cl_viM C hl G (As := []) (rest := []) (kx_Md_isDone l D k h st1 _ _ hst5) gi_X10_142 (hwM_0 ..) rfl hd_X10_isDone ⟨Nat.le_of_ble_eq_true rfl, Nat.le_of_ble_eq_true rfl⟩ rfl rfl (Nat.le_of_ble_eq_true rfl) dX10_otherwise_14 (fun H locs G => ?_)
    refine lv_if_ne (tgt := 22) hx hb dX10_otherwise_17 (by decide) (fun c7 => ?_) (fun c7 => ?_)
    · replace hf := if_n hf c7
      refine lv_aload_n hx hb dX10_otherwise_22 rfl (lv_at hl 0 rfl) ?_
      refine fg_Md_by hx hb hts hown hK G (hts _ lk_X10_40) dX10_otherwise_23 ?_
      refine lv_aload_n hx hb dX10_otherwise_26 rfl (lv_at hl 0 rfl) ?_
      obtain ⟨r9, st8, hst8, hf⟩ := bn_some hf
      refine cl_viM C hl G (As := []) (rest := [.ref (h 11)]) (kx_Md_inner l D k h st5 _ _ hst8) gi_X10_127 (hwM_0 ..) rfl hd_X10_inner ⟨Nat.le_of_ble_eq_true rfl, Nat.le_of_ble_eq_true rfl⟩ rfl rfl (Nat.le_of_ble_eq_true rfl) dX10_otherwise_27 (fun H locs G => ?_)
      refine lv_iconst (v := 5) hx hb dX10_otherwise_30 (by decide) ?_
      obtain ⟨h_g10, hf⟩ := gd_some hf
      refine rw_IM hx hb hK G (waM_11 ..) (t0 := 10) rfl (wsM_11 ..) h_g10 dX10_otherwise_31 (fun H locs G => ?_)
      refine lv_aload_n hx hb dX10_otherwise_32 rfl (lv_at hl 0 rfl) ?_
      refine fg_Md_own hx hb hts hown hK G (hts _ lk_X10_52) dX10_otherwise_33 ?_
      refine lv_aload_n hx hb dX10_otherwise_36 rfl (lv_at hl 0 rfl) ?_
      obtain ⟨r12, st11, hst11, hf⟩ := bn_some hf
      refine cl_viM C hl G (As := []) (rest := [.ref (h 15)]) (kx_Md_inner l D k h (wA st8 10 r9.toNatClampNeg 5) _ _ hst11) gi_X10_127 (hwM_0 ..) rfl hd_X10_inner ⟨Nat.le_of_ble_eq_true rfl, Nat.le_of_ble_eq_true rfl⟩ rfl rfl (Nat.le_of_ble_eq_true rfl) dX10_otherwise_37 (fun H locs G => ?_)
      refine lv_aload_n hx hb dX10_otherwise_40 rfl (lv_at hl 0 rfl) ?_
      refine fg_Md_takes hx hb hts hown hK G (hts _ lk_X10_43) dX10_otherwise_41 ?_
      refine lv_aload_n hx hb dX10_otherwise_44 rfl (lv_at hl 0 rfl) ?_
      obtain ⟨r14, st13, hst13, hf⟩ := bn_some hf
      refine cl_viM C hl G (As := []) (rest := [.ref (h 12), .int r12, .ref (h 15)]) (kx_Md_inner l D k h st11 _ _ hst13) gi_X10_127 (hwM_0 ..) rfl hd_X10_inner ⟨Nat.le_of_ble_eq_true rfl, Nat.le_of_ble_eq_true rfl⟩ rfl rfl (Nat.le_of_ble_eq_true rfl) dX10_otherwise_45 (fun H locs G => ?_)
      obtain ⟨h_g15, hf⟩ := gd_some hf
      refine ra_IM (v := rA st13 11 r14.toNatClampNeg) hx hb hK G (waM_12 ..) (t0 := 11) rfl rfl h_g15 dX10_otherwise_48 ?_
      obtain ⟨h_g16, hf⟩ := gd_some hf
      refine rw_IM hx hb hK G (waM_15 ..) (t0 := 14) rfl (wsM_15 ..) h_g16 dX10_otherwise_49 (fun H locs G => ?_)
      refine lv_aload_n hx hb dX10_otherwise_50 rfl (lv_at hl 0 rfl) ?_
      refine fg_Md_dead hx hb hts hown hK G (hts _ lk_X10_55) dX10_otherwise_51 ?_
      refine lv_aload_n hx hb dX10_otherwise_54 rfl (lv_at hl 0 rfl) ?_
      obtain ⟨r18, st17, hst17, hf⟩ := bn_some hf
      refine cl_viM C hl G (As := []) (rest := [.ref (h 16)]) (kx_Md_inner l D k h (wA st13 14 r12.toNatClampNeg (rA st13 11 r14.toNatClampNeg)) _ _ hst17) gi_X10_127 (hwM_0 ..) rfl hd_X10_inner ⟨Nat.le_of_ble_eq_true rfl, Nat.le_of_ble_eq_true rfl⟩ rfl rfl (Nat.le_of_ble_eq_true rfl) dX10_otherwise_55 (fun H locs G => ?_)
      refine lv_iconst (v := 0) hx hb dX10_otherwise_58 (by decide) ?_
      obtain ⟨h_g19, hf⟩ := gd_some hf
      refine rw_ZM hx hb hK G (waM_16 ..) (t0 := 15) rfl (wsM_16 ..) rfl h_g19 dX10_otherwise_59 (fun H locs G => ?_)
      refine lv_iconst (v := 1) hx hb dX10_otherwise_60 (by decide) ?_
      exact rt_zM C rfl G hf dX10_otherwise_61
    · replace hf := if_p hf c7
      refine lv_iconst (v := 0) hx hb dX10_otherwise_20 (by decide) ?_
      exact rt_zM C rfl G hf dX10_otherwise_21
def rm_Md_end : Room := { frames := 2, cells := 0, slots := 0, locals := 40 }
set_option maxHeartbeats 4000000 in
set_option maxRecDepth 100000 in
theorem kx_Md_end_b43 {p : Program} {l : Launch} {e : Env} {s : State} {m : MethodId} {args : Array Value} {below : List Frame} {meth : Method} {c : Code} {D : va_G} {k : Nat → ClassId} {h : Nat → Nat} (C : cxM D k p s m args meth c cX10_end 2 (some .boolean) RX10) (st : rs_T) (r : Int32) (s' : rs_T) (hf : fx_Md_end_b43 st = some (r, s')) : ∀ (H : Heap) (locs : List Loc) (ls : Array Slot), lv_has ls 2 [(0, .ref (h 0))] → gdM D k h (arM h s.heap.size) s.heap H locs st → W p l e rm_Md_end s m args below meth c H locs 0 0 (MQ below (qIM D k h s.heap.size r s') args s 0 0 (arM h s.heap.size)) (F0 m 43 ls []) := by
  obtain ⟨hx, hb, hml, hr, hown, hts, hK, hN, hlk⟩ := id C
  intro H locs ls hl G
  unfold fx_Md_end_b43 at hf
  refine lv_aload_n hx hb dX10_end_43 rfl (lv_at hl 0 rfl) ?_
  refine fg_Md_gives hx hb hts hown hK G (hts _ lk_X10_46) dX10_end_44 ?_
  refine lv_aload_n hx hb dX10_end_47 rfl (lv_at hl 0 rfl) ?_
  obtain ⟨r9, st8, hst8, hf⟩ := bn_some hf
  refine cl_viM C hl G (As := []) (rest := [.ref (h 13)]) (kx_Md_inner l D k h st _ _ hst8) gi_X10_127 (hwM_0 ..) rfl hd_X10_inner ⟨Nat.le_of_ble_eq_true rfl, Nat.le_of_ble_eq_true rfl⟩ rfl rfl (Nat.le_of_ble_eq_true rfl) dX10_end_48 (fun H locs G => ?_)
  obtain ⟨h_g10, hf⟩ := gd_some hf
  refine ra_IM (v := rA st8 12 r9.toNatClampNeg) hx hb hK G (waM_13 ..) (t0 := 12) rfl rfl h_g10 dX10_end_51 ?_
  refine lv_topi (fun v11 e_v11 => ?_)
  replace hf := bd_some hf v11 e_v11
  refine lv_istore_n (lv' := [(1, .int v11), (0, .ref (h 0))]) hx hb dX10_end_52 rfl hl (by decide) rfl (fun ls hl => ?_)
  refine lv_aload_n hx hb dX10_end_53 rfl (lv_at hl 1 rfl) ?_
  refine lv_dup hx hb dX10_end_54 rfl ?_
  refine fg_Md_labels (v := rI st8 3) hx hb hts hown hK G (hts _ lk_X10_117) rfl dX10_end_55 ?_
  refine lv_iconst (v := 1) hx hb dX10_end_58 (by decide) ?_
  refine lv_isub hx hb dX10_end_59 ?_
  refine fp_Md_labels hx hb hts hown hK G (hts _ lk_X10_117) dX10_end_60 (fun H locs G => ?_)
  refine lv_aload_n hx hb dX10_end_63 rfl (lv_at hl 1 rfl) ?_
  refine fg_Md_labels (v := (rI st8 3) - 1) hx hb hts hown hK G (hts _ lk_X10_117) rfl dX10_end_64 ?_
  refine lv_if_le (tgt := 83) hx hb dX10_end_67 (by decide) (fun c12 => ?_) (fun c12 => ?_)
  · replace hf := if_p hf c12
    refine lv_iconst (v := 1) hx hb dX10_end_83 (by decide) ?_
    exact rt_zM C rfl G hf dX10_end_84
  · replace hf := if_n hf c12
    refine lv_aload_n hx hb dX10_end_70 rfl (lv_at hl 1 rfl) ?_
    refine fg_Md_own hx hb hts hown hK G (hts _ lk_X10_52) dX10_end_71 ?_
    refine lv_aload_n hx hb dX10_end_74 rfl (lv_at hl 1 rfl) ?_
    obtain ⟨r14, st13, hst13, hf⟩ := bn_some hf
    refine cl_viM C hl G (As := []) (rest := [.ref (h 15)]) (kx_Md_inner l D k h (wI st8 3 ((rI st8 3) - 1)) _ _ hst13) gi_X10_127 (hwM_0 ..) rfl hd_X10_inner ⟨Nat.le_of_ble_eq_true rfl, Nat.le_of_ble_eq_true rfl⟩ rfl rfl (Nat.le_of_ble_eq_true rfl) dX10_end_75 (fun H locs G => ?_)
    refine lv_dup2_11 hx hb dX10_end_78 rfl rfl ?_
    obtain ⟨h_g15, hf⟩ := gd_some hf
    refine ra_IM (v := rA st13 14 r14.toNatClampNeg) hx hb hK G (waM_15 ..) (t0 := 14) rfl rfl h_g15 dX10_end_79 ?_
    refine lv_iload_n hx hb dX10_end_80 rfl (lv_at hl 0 rfl) ?_
    refine lv_iadd hx hb dX10_end_81 ?_
    obtain ⟨h_g16, hf⟩ := gd_some hf
    refine rw_IM hx hb hK G (waM_15 ..) (t0 := 14) rfl (wsM_15 ..) h_g16 dX10_end_82 (fun H locs G => ?_)
    refine lv_iconst (v := 1) hx hb dX10_end_83 (by decide) ?_
    exact rt_zM C rfl G hf dX10_end_84
set_option maxHeartbeats 4000000 in
set_option maxRecDepth 100000 in
theorem kx_Md_end (l : Launch) (D : va_G) (k : Nat → ClassId) (h : Nat → Nat) (st : rs_T) (r : Int32) (s' : rs_T) (hf : fx_Md_end st = some (r, s')) : mIM l D k h yX10_end cX10_end 2 .boolean rm_Md_end [.ref (h 0)] st r s' := by
  refine mIM_of (by decide) ⟨rfl, rfl⟩ (Nat.le_of_ble_eq_true rfl) ?_
  intro p e s m below meth c ls C hl G
  obtain ⟨hx, hb, hml, hr, hown, hts, hK, hN, hlk⟩ := id C
  have hown : s.vm.findClass RX10 = some m.cls := hown
  have hl : lv_has ls 2 [(0, .ref (h 0))] := hl
  unfold fx_Md_end at hf
  refine lv_aload_n hx hb dX10_end_0 rfl (lv_at hl 0 rfl) ?_
  obtain ⟨r2, st1, hst1, hf⟩ := bn_some hf
  refine cl_viM C hl G (As := []) (rest := []) (kx_Md_isDone l D k h st _ _ hst1) gi_X10_142 (hwM_0 ..) rfl hd_X10_isDone ⟨Nat.le_of_ble_eq_true rfl, Nat.le_of_ble_eq_true rfl⟩ rfl rfl (Nat.le_of_ble_eq_true rfl) dX10_end_1 (fun H locs G => ?_)
  refine lv_if_eq (tgt := 41) hx hb dX10_end_4 (by decide) (fun c3 => ?_) (fun c3 => ?_)
  · replace hf := if_p hf c3
    refine lv_iconst (v := 0) hx hb dX10_end_41 (by decide) ?_
    exact rt_zM C rfl G hf dX10_end_42
  · replace hf := if_n hf c3
    refine lv_aload_n hx hb dX10_end_7 rfl (lv_at hl 0 rfl) ?_
    refine fg_Md_by hx hb hts hown hK G (hts _ lk_X10_40) dX10_end_8 ?_
    refine lv_aload_n hx hb dX10_end_11 rfl (lv_at hl 0 rfl) ?_
    obtain ⟨r5, st4, hst4, hf⟩ := bn_some hf
    refine cl_viM C hl G (As := []) (rest := [.ref (h 11)]) (kx_Md_inner l D k h st1 _ _ hst4) gi_X10_127 (hwM_0 ..) rfl hd_X10_inner ⟨Nat.le_of_ble_eq_true rfl, Nat.le_of_ble_eq_true rfl⟩ rfl rfl (Nat.le_of_ble_eq_true rfl) dX10_end_12 (fun H locs G => ?_)
    obtain ⟨h_g6, hf⟩ := gd_some hf
    refine ra_IM (v := rA st4 10 r5.toNatClampNeg) hx hb hK G (waM_11 ..) (t0 := 10) rfl rfl h_g6 dX10_end_15 ?_
    refine lv_iconst (v := 4) hx hb dX10_end_16 (by decide) ?_
    refine lv_icmp_ne (tgt := 43) hx hb dX10_end_17 (by decide) (fun c7 => ?_) (fun c7 => ?_)
    · replace hf := if_n hf c7
      exact kx_Md_end_b43 C st4 _ _ hf _ _ _ (lv_sub hl [0] rfl) G
    · replace hf := if_p hf c7
      refine lv_aload_n hx hb dX10_end_20 rfl (lv_at hl 0 rfl) ?_
      refine fg_Md_takes hx hb hts hown hK G (hts _ lk_X10_43) dX10_end_21 ?_
      refine lv_aload_n hx hb dX10_end_24 rfl (lv_at hl 0 rfl) ?_
      obtain ⟨r18, st17, hst17, hf⟩ := bn_some hf
      refine cl_viM C hl G (As := []) (rest := [.ref (h 12)]) (kx_Md_inner l D k h st4 _ _ hst17) gi_X10_127 (hwM_0 ..) rfl hd_X10_inner ⟨Nat.le_of_ble_eq_true rfl, Nat.le_of_ble_eq_true rfl⟩ rfl rfl (Nat.le_of_ble_eq_true rfl) dX10_end_25 (fun H locs G => ?_)
      obtain ⟨h_g19, hf⟩ := gd_some hf
      refine ra_IM (v := rA st17 11 r18.toNatClampNeg) hx hb hK G (waM_12 ..) (t0 := 11) rfl rfl h_g19 dX10_end_28 ?_
      refine lv_aload_n hx hb dX10_end_29 rfl (lv_at hl 0 rfl) ?_
      refine fg_Md_gives hx hb hts hown hK G (hts _ lk_X10_46) dX10_end_30 ?_
      refine lv_aload_n hx hb dX10_end_33 rfl (lv_at hl 0 rfl) ?_
      obtain ⟨r21, st20, hst20, hf⟩ := bn_some hf
      refine cl_viM C hl G (As := []) (rest := [.ref (h 13), .int (rA st17 11 r18.toNatClampNeg)]) (kx_Md_inner l D k h st17 _ _ hst20) gi_X10_127 (hwM_0 ..) rfl hd_X10_inner ⟨Nat.le_of_ble_eq_true rfl, Nat.le_of_ble_eq_true rfl⟩ rfl rfl (Nat.le_of_ble_eq_true rfl) dX10_end_34 (fun H locs G => ?_)
      obtain ⟨h_g22, hf⟩ := gd_some hf
      refine ra_IM (v := rA st20 12 r21.toNatClampNeg) hx hb hK G (waM_13 ..) (t0 := 12) rfl rfl h_g22 dX10_end_37 ?_
      refine lv_icmp_eq (tgt := 43) hx hb dX10_end_38 (by decide) (fun c23 => ?_) (fun c23 => ?_)
      · replace hf := if_p hf c23
        exact kx_Md_end_b43 C st20 _ _ hf _ _ _ (lv_sub hl [0] rfl) G
      · replace hf := if_n hf c23
        refine lv_iconst (v := 0) hx hb dX10_end_41 (by decide) ?_
        exact rt_zM C rfl G hf dX10_end_42
def rm_Md_isLabel : Room := { frames := 1, cells := 0, slots := 0, locals := 21 }
set_option maxHeartbeats 4000000 in
set_option maxRecDepth 100000 in
theorem kx_Md_isLabel (l : Launch) (D : va_G) (k : Nat → ClassId) (h : Nat → Nat) (p1 : Int32) (st : rs_T) (r : Int32) (s' : rs_T) (hf : fx_Md_isLabel p1 st = some (r, s')) : mIM l D k h yX10_isLabel cX10_isLabel 2 .boolean rm_Md_isLabel [.ref (h 0), .int p1] st r s' := by
  refine mIM_of (by decide) ⟨rfl, rfl⟩ (Nat.le_of_ble_eq_true rfl) ?_
  intro p e s m below meth c ls C hl G
  obtain ⟨hx, hb, hml, hr, hown, hts, hK, hN, hlk⟩ := id C
  have hown : s.vm.findClass RX10 = some m.cls := hown
  have hl : lv_has ls 2 [(0, .ref (h 0)), (1, .int p1)] := hl
  unfold fx_Md_isLabel at hf
  refine lv_iload_n hx hb dX10_isLabel_0 rfl (lv_at hl 1 rfl) ?_
  refine lv_aload_n hx hb dX10_isLabel_1 rfl (lv_at hl 0 rfl) ?_
  refine fg_Md_labels (v := rI st 3) hx hb hts hown hK G (hts _ lk_X10_117) rfl dX10_isLabel_2 ?_
  refine lv_iconst (v := 1) hx hb dX10_isLabel_5 (by decide) ?_
  refine lv_isub hx hb dX10_isLabel_6 ?_
  obtain ⟨r2, st1, hst1, hf⟩ := bn_some hf
  refine cl_siM C hl G (As := [.int p1, .int ((rI st 3) - 1)]) (rest := []) (kx_Md_within l D k h p1 ((rI st 3) - 1) st _ _ hst1) gi_X10_110 hd_X10_within ⟨Nat.le_of_ble_eq_true rfl, Nat.le_of_ble_eq_true rfl⟩ rfl rfl (Nat.le_of_ble_eq_true rfl) dX10_isLabel_7 (fun H locs G => ?_)
  obtain ⟨h_b, hf⟩ := gb_some hf
  exact rt_zM C (gb_nar h_b) G hf dX10_isLabel_10
def rm_Md_wants : Room := { frames := 1, cells := 0, slots := 0, locals := 20 }
set_option maxHeartbeats 4000000 in
set_option maxRecDepth 100000 in
theorem kx_Md_wants (l : Launch) (D : va_G) (k : Nat → ClassId) (h : Nat → Nat) (p1 : Int32) (st : rs_T) (r : Int32) (s' : rs_T) (hf : fx_Md_wants p1 st = some (r, s')) : mIM l D k h yX10_wants cX10_wants 2 .int rm_Md_wants [.ref (h 0), .int p1] st r s' := by
  refine mIM_of (by decide) ⟨rfl, rfl⟩ (Nat.le_of_ble_eq_true rfl) ?_
  intro p e s m below meth c ls C hl G
  obtain ⟨hx, hb, hml, hr, hown, hts, hK, hN, hlk⟩ := id C
  have hown : s.vm.findClass RX10 = some m.cls := hown
  have hl : lv_has ls 2 [(0, .ref (h 0)), (1, .int p1)] := hl
  unfold fx_Md_wants at hf
  refine lv_aload_n hx hb dX10_wants_0 rfl (lv_at hl 0 rfl) ?_
  refine fg_Md_by hx hb hts hown hK G (hts _ lk_X10_40) dX10_wants_1 ?_
  refine lv_aload_n hx hb dX10_wants_4 rfl (lv_at hl 0 rfl) ?_
  obtain ⟨r2, st1, hst1, hf⟩ := bn_some hf
  refine cl_viM C hl G (As := []) (rest := [.ref (h 11)]) (kx_Md_inner l D k h st _ _ hst1) gi_X10_127 (hwM_0 ..) rfl hd_X10_inner ⟨Nat.le_of_ble_eq_true rfl, Nat.le_of_ble_eq_true rfl⟩ rfl rfl (Nat.le_of_ble_eq_true rfl) dX10_wants_5 (fun H locs G => ?_)
  refine lv_iload_n hx hb dX10_wants_8 rfl (lv_at hl 1 rfl) ?_
  refine lv_isub hx hb dX10_wants_9 ?_
  obtain ⟨h_g3, hf⟩ := gd_some hf
  refine ra_IM (v := rA st1 10 ((r2 - p1).toNatClampNeg)) hx hb hK G (waM_11 ..) (t0 := 10) rfl rfl h_g3 dX10_wants_10 ?_
  refine lv_iconst (v := 3) hx hb dX10_wants_11 (by decide) ?_
  refine lv_icmp_ne (tgt := 29) hx hb dX10_wants_12 (by decide) (fun c4 => ?_) (fun c4 => ?_)
  · replace hf := if_n hf c4
    refine lv_aload_n hx hb dX10_wants_29 rfl (lv_at hl 0 rfl) ?_
    refine fg_Md_gives hx hb hts hown hK G (hts _ lk_X10_46) dX10_wants_30 ?_
    refine lv_aload_n hx hb dX10_wants_33 rfl (lv_at hl 0 rfl) ?_
    obtain ⟨r6, st5, hst5, hf⟩ := bn_some hf
    refine cl_viM C hl G (As := []) (rest := [.ref (h 13)]) (kx_Md_inner l D k h st1 _ _ hst5) gi_X10_127 (hwM_0 ..) rfl hd_X10_inner ⟨Nat.le_of_ble_eq_true rfl, Nat.le_of_ble_eq_true rfl⟩ rfl rfl (Nat.le_of_ble_eq_true rfl) dX10_wants_34 (fun H locs G => ?_)
    refine lv_iload_n hx hb dX10_wants_37 rfl (lv_at hl 1 rfl) ?_
    refine lv_isub hx hb dX10_wants_38 ?_
    obtain ⟨h_g7, hf⟩ := gd_some hf
    refine ra_IM (v := rA st5 12 ((r6 - p1).toNatClampNeg)) hx hb hK G (waM_13 ..) (t0 := 12) rfl rfl h_g7 dX10_wants_39 ?_
    exact rt_iM C G hf dX10_wants_40
  · replace hf := if_p hf c4
    refine lv_aload_n hx hb dX10_wants_15 rfl (lv_at hl 0 rfl) ?_
    refine fg_Md_takes hx hb hts hown hK G (hts _ lk_X10_43) dX10_wants_16 ?_
    refine lv_aload_n hx hb dX10_wants_19 rfl (lv_at hl 0 rfl) ?_
    obtain ⟨r9, st8, hst8, hf⟩ := bn_some hf
    refine cl_viM C hl G (As := []) (rest := [.ref (h 12)]) (kx_Md_inner l D k h st1 _ _ hst8) gi_X10_127 (hwM_0 ..) rfl hd_X10_inner ⟨Nat.le_of_ble_eq_true rfl, Nat.le_of_ble_eq_true rfl⟩ rfl rfl (Nat.le_of_ble_eq_true rfl) dX10_wants_20 (fun H locs G => ?_)
    refine lv_iload_n hx hb dX10_wants_23 rfl (lv_at hl 1 rfl) ?_
    refine lv_isub hx hb dX10_wants_24 ?_
    obtain ⟨h_g10, hf⟩ := gd_some hf
    refine ra_IM (v := rA st8 11 ((r9 - p1).toNatClampNeg)) hx hb hK G (waM_12 ..) (t0 := 11) rfl rfl h_g10 dX10_wants_25 ?_
    refine lv_goto (tgt := 40) hx hb dX10_wants_26 (by decide) ?_
    exact rt_iM C G hf dX10_wants_40
def rm_Md_turn : Room := { frames := 2, cells := 0, slots := 0, locals := 41 }
set_option maxHeartbeats 4000000 in
set_option maxRecDepth 100000 in
theorem kx_Md_turn (l : Launch) (D : va_G) (k : Nat → ClassId) (h : Nat → Nat) (p1 : Int32) (p2 : Int32) (st : rs_T) (r : Int32) (s' : rs_T) (hf : fx_Md_turn p1 p2 st = some (r, s')) : mIM l D k h yX10_turn cX10_turn 3 .boolean rm_Md_turn [.ref (h 0), .int p1, .int p2] st r s' := by
  refine mIM_of (by decide) ⟨rfl, rfl⟩ (Nat.le_of_ble_eq_true rfl) ?_
  intro p e s m below meth c ls C hl G
  obtain ⟨hx, hb, hml, hr, hown, hts, hK, hN, hlk⟩ := id C
  have hown : s.vm.findClass RX10 = some m.cls := hown
  have hl : lv_has ls 3 [(0, .ref (h 0)), (1, .int p1), (2, .int p2)] := hl
  unfold fx_Md_turn at hf
  refine lv_aload_n hx hb dX10_turn_0 rfl (lv_at hl 0 rfl) ?_
  refine lv_iload_n hx hb dX10_turn_1 rfl (lv_at hl 1 rfl) ?_
  obtain ⟨r2, st1, hst1, hf⟩ := bn_some hf
  refine cl_viM C hl G (As := [.int p1]) (rest := []) (kx_Md_has l D k h p1 st _ _ hst1) gi_X10_131 (hwM_0 ..) rfl hd_X10_has ⟨Nat.le_of_ble_eq_true rfl, Nat.le_of_ble_eq_true rfl⟩ rfl rfl (Nat.le_of_ble_eq_true rfl) dX10_turn_2 (fun H locs G => ?_)
  refine lv_if_ne (tgt := 10) hx hb dX10_turn_5 (by decide) (fun c3 => ?_) (fun c3 => ?_)
  · replace hf := if_n hf c3
    refine lv_aload_n hx hb dX10_turn_10 rfl (lv_at hl 0 rfl) ?_
    refine lv_iload_n hx hb dX10_turn_11 rfl (lv_at hl 1 rfl) ?_
    obtain ⟨st4, hst4, hf⟩ := bv_some hf
    refine cl_vvM C hl G (As := [.int p1]) (rest := []) (kx_Md_take l D k h p1 st1 _ hst4) gi_X10_135 (hwM_0 ..) rfl hd_X10_take ⟨Nat.le_of_ble_eq_true rfl, Nat.le_of_ble_eq_true rfl⟩ rfl rfl (Nat.le_of_ble_eq_true rfl) dX10_turn_12 (fun H locs G => ?_)
    refine lv_aload_n hx hb dX10_turn_15 rfl (lv_at hl 0 rfl) ?_
    refine fg_Md_own hx hb hts hown hK G (hts _ lk_X10_52) dX10_turn_16 ?_
    refine lv_aload_n hx hb dX10_turn_19 rfl (lv_at hl 0 rfl) ?_
    obtain ⟨r6, st5, hst5, hf⟩ := bn_some hf
    refine cl_viM C hl G (As := []) (rest := [.ref (h 15)]) (kx_Md_inner l D k h st4 _ _ hst5) gi_X10_127 (hwM_0 ..) rfl hd_X10_inner ⟨Nat.le_of_ble_eq_true rfl, Nat.le_of_ble_eq_true rfl⟩ rfl rfl (Nat.le_of_ble_eq_true rfl) dX10_turn_20 (fun H locs G => ?_)
    refine lv_dup2_11 hx hb dX10_turn_23 rfl rfl ?_
    obtain ⟨h_g7, hf⟩ := gd_some hf
    refine ra_IM (v := rA st5 14 r6.toNatClampNeg) hx hb hK G (waM_15 ..) (t0 := 14) rfl rfl h_g7 dX10_turn_24 ?_
    refine lv_iload_n hx hb dX10_turn_25 rfl (lv_at hl 2 rfl) ?_
    refine lv_iadd hx hb dX10_turn_26 ?_
    obtain ⟨h_g8, hf⟩ := gd_some hf
    refine rw_IM hx hb hK G (waM_15 ..) (t0 := 14) rfl (wsM_15 ..) h_g8 dX10_turn_27 (fun H locs G => ?_)
    refine lv_iconst (v := 1) hx hb dX10_turn_28 (by decide) ?_
    exact rt_zM C rfl G hf dX10_turn_29
  · replace hf := if_p hf c3
    refine lv_iconst (v := 0) hx hb dX10_turn_8 (by decide) ?_
    exact rt_zM C rfl G hf dX10_turn_9
def rm_Md_entries : Room := { frames := 2, cells := 0, slots := 0, locals := 41 }
set_option maxHeartbeats 4000000 in
set_option maxRecDepth 100000 in
theorem kx_Md_entries (l : Launch) (D : va_G) (k : Nat → ClassId) (h : Nat → Nat) (p1 : Int32) (st : rs_T) (r : Int32) (s' : rs_T) (hf : fx_Md_entries p1 st = some (r, s')) : mIM l D k h yX10_entries cX10_entries 2 .boolean rm_Md_entries [.ref (h 0), .int p1] st r s' := by
  refine mIM_of (by decide) ⟨rfl, rfl⟩ (Nat.le_of_ble_eq_true rfl) ?_
  intro p e s m below meth c ls C hl G
  obtain ⟨hx, hb, hml, hr, hown, hts, hK, hN, hlk⟩ := id C
  have hown : s.vm.findClass RX10 = some m.cls := hown
  have hl : lv_has ls 2 [(0, .ref (h 0)), (1, .int p1)] := hl
  unfold fx_Md_entries at hf
  refine lv_iload_n hx hb dX10_entries_0 rfl (lv_at hl 1 rfl) ?_
  refine lv_bipush (v := 20) hx hb dX10_entries_1 (by decide) ?_
  obtain ⟨r2, st1, hst1, hf⟩ := bn_some hf
  refine cl_siM C hl G (As := [.int p1, .int 20]) (rest := []) (kx_Md_within l D k h p1 20 st _ _ hst1) gi_X10_110 hd_X10_within ⟨Nat.le_of_ble_eq_true rfl, Nat.le_of_ble_eq_true rfl⟩ rfl rfl (Nat.le_of_ble_eq_true rfl) dX10_entries_3 (fun H locs G => ?_)
  refine lv_if_eq (tgt := 17) hx hb dX10_entries_6 (by decide) (fun c3 => ?_) (fun c3 => ?_)
  · replace hf := if_p hf c3
    refine lv_iconst (v := 0) hx hb dX10_entries_17 (by decide) ?_
    exact rt_zM C rfl G hf dX10_entries_18
  · replace hf := if_n hf c3
    refine lv_aload_n hx hb dX10_entries_9 rfl (lv_at hl 0 rfl) ?_
    refine lv_iconst (v := 1) hx hb dX10_entries_10 (by decide) ?_
    obtain ⟨r5, st4, hst4, hf⟩ := bn_some hf
    refine cl_viM C hl G (As := [.int 1]) (rest := []) (kx_Md_has l D k h 1 st1 _ _ hst4) gi_X10_131 (hwM_0 ..) rfl hd_X10_has ⟨Nat.le_of_ble_eq_true rfl, Nat.le_of_ble_eq_true rfl⟩ rfl rfl (Nat.le_of_ble_eq_true rfl) dX10_entries_11 (fun H locs G => ?_)
    refine lv_if_ne (tgt := 19) hx hb dX10_entries_14 (by decide) (fun c6 => ?_) (fun c6 => ?_)
    · replace hf := if_n hf c6
      refine lv_aload_n hx hb dX10_entries_19 rfl (lv_at hl 0 rfl) ?_
      refine lv_iconst (v := 1) hx hb dX10_entries_20 (by decide) ?_
      obtain ⟨st7, hst7, hf⟩ := bv_some hf
      refine cl_vvM C hl G (As := [.int 1]) (rest := []) (kx_Md_take l D k h 1 st4 _ hst7) gi_X10_135 (hwM_0 ..) rfl hd_X10_take ⟨Nat.le_of_ble_eq_true rfl, Nat.le_of_ble_eq_true rfl⟩ rfl rfl (Nat.le_of_ble_eq_true rfl) dX10_entries_21 (fun H locs G => ?_)
      refine lv_aload_n hx hb dX10_entries_24 rfl (lv_at hl 0 rfl) ?_
      refine lv_iload_n hx hb dX10_entries_25 rfl (lv_at hl 1 rfl) ?_
      refine lv_iconst (v := 1) hx hb dX10_entries_26 (by decide) ?_
      refine lv_iadd hx hb dX10_entries_27 ?_
      refine fp_Md_entriesLeft hx hb hts hown hK G (hts _ lk_X10_120) dX10_entries_28 (fun H locs G => ?_)
      refine lv_aload_n hx hb dX10_entries_31 rfl (lv_at hl 0 rfl) ?_
      refine lv_iconst (v := 1) hx hb dX10_entries_32 (by decide) ?_
      refine fp_Md_firstEntry hx hb hts hown hK G (hts _ lk_X10_146) rfl rfl dX10_entries_33 (fun H locs G => ?_)
      refine lv_iconst (v := 1) hx hb dX10_entries_36 (by decide) ?_
      exact rt_zM C rfl G hf dX10_entries_37
    · replace hf := if_p hf c6
      refine lv_iconst (v := 0) hx hb dX10_entries_17 (by decide) ?_
      exact rt_zM C rfl G hf dX10_entries_18
