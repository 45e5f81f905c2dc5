def rm_Ma_isWithin : Room := { frames := 0, cells := 0, slots := 0, locals := 0 }
set_option maxHeartbeats 4000000 in
set_option maxRecDepth 100000 in
theorem kx_Ma_isWithin (l : Launch) (D : va_G) (k : Nat → Nat × ClassId) (h : Nat → Nat) (p0 : Int32) (p1 : Int32) (st : rs_T) (r : Int32) (s' : rs_T) (hf : fx_Ma_isWithin p0 p1 st = some (r, s')) : mIC l D k h yX9_isWithin cX9_isWithin 2 .boolean rm_Ma_isWithin [.int p0, .int p1] st r s' := by
  refine mIC_of (by decide) ⟨rfl, rfl⟩ (Nat.le_of_ble_eq_true rfl) ?_
  intro p e s m below meth c ls C hl G
  obtain ⟨hx, hb, hml, hr, hown, hts, hK, hN, hlk⟩ := id C
  have hown : s.vm.findClass RX9 = some m.cls := hown
  have hl : lv_has ls 2 [(0, .int p0), (1, .int p1)] := hl
  unfold fx_Ma_isWithin at hf
  refine lv_iload_n hx hb dX9_isWithin_0 rfl (lv_at hl 0 rfl) ?_
  refine lv_if_lt (tgt := 13) hx hb dX9_isWithin_1 (by decide) (fun c1 => ?_) (fun c1 => ?_)
  · replace hf := if_p hf c1
    refine lv_iconst (v := 0) hx hb dX9_isWithin_13 (by decide) ?_
    exact rt_zC C rfl G hf dX9_isWithin_14
  · replace hf := if_n hf c1
    refine lv_iload_n hx hb dX9_isWithin_4 rfl (lv_at hl 0 rfl) ?_
    refine lv_iload_n hx hb dX9_isWithin_5 rfl (lv_at hl 1 rfl) ?_
    refine lv_icmp_gt (tgt := 13) hx hb dX9_isWithin_6 (by decide) (fun c2 => ?_) (fun c2 => ?_)
    · replace hf := if_p hf c2
      refine lv_iconst (v := 0) hx hb dX9_isWithin_13 (by decide) ?_
      exact rt_zC C rfl G hf dX9_isWithin_14
    · replace hf := if_n hf c2
      refine lv_iconst (v := 1) hx hb dX9_isWithin_9 (by decide) ?_
      refine lv_goto (tgt := 14) hx hb dX9_isWithin_10 (by decide) ?_
      exact rt_zC C rfl G hf dX9_isWithin_14
def rm_Wr_start : Room := { frames := 1, cells := 0, slots := 0, locals := 21 }
set_option maxHeartbeats 4000000 in
set_option maxRecDepth 100000 in
theorem kx_Wr_start (l : Launch) (D : va_G) (k : Nat → Nat × ClassId) (h : Nat → Nat) (p1 : Int32) (p2 : Int32) (p3 : Int32) (st : rs_T) (r : Int32) (s' : rs_T) (hf : fx_Wr_start p1 p2 p3 st = some (r, s')) : mIC l D k h yX8_start cX8_start 5 .int rm_Wr_start [.ref (h 2), .int p1, .int p2, .int p3] st r s' := by
  refine mIC_of (by decide) ⟨rfl, rfl⟩ (Nat.le_of_ble_eq_true rfl) ?_
  intro p e s m below meth c ls C hl G
  obtain ⟨hx, hb, hml, hr, hown, hts, hK, hN, hlk⟩ := id C
  have hown : s.vm.findClass RX8 = some m.cls := hown
  have hl : lv_has ls 5 [(0, .ref (h 2)), (1, .int p1), (2, .int p2), (3, .int p3)] := hl
  unfold fx_Wr_start at hf
  refine lv_aload_n hx hb dX8_start_0 rfl (lv_at hl 0 rfl) ?_
  refine fg_Wr_program hx hb hts hown hK G (hts _ lk_X8_32) dX8_start_1 ?_
  refine fg_Pr_functions (v := rI st 2) hx hb hts hown hK G (hts _ lk_X8_36) rfl dX8_start_4 ?_
  refine lv_topi (fun v1 e_v1 => ?_)
  replace hf := bd_some hf v1 e_v1
  refine lv_istore (lv' := [(4, .int v1), (0, .ref (h 2)), (1, .int p1), (2, .int p2), (3, .int p3)]) hx hb dX8_start_7 hl (by decide) rfl (fun ls hl => ?_)
  refine lv_aload_n hx hb dX8_start_9 rfl (lv_at hl 1 rfl) ?_
  refine fg_Wr_program hx hb hts hown hK G (hts _ lk_X8_32) dX8_start_10 ?_
  refine fg_Pr_written (v := rI st 3) hx hb hts hown hK G (hts _ lk_X8_41) rfl dX8_start_13 ?_
  refine lv_iconst (v := (-1)) hx hb dX8_start_16 (by decide) ?_
  refine lv_icmp_ne (tgt := 54) hx hb dX8_start_17 (by decide) (fun c2 => ?_) (fun c2 => ?_)
  · replace hf := if_n hf c2
    refine lv_iconst (v := (-1)) hx hb dX8_start_54 (by decide) ?_
    exact rt_iC C G hf dX8_start_55
  · replace hf := if_p hf c2
    refine lv_iload hx hb dX8_start_20 (lv_at hl 0 rfl) ?_
    refine lv_bipush (v := 40) hx hb dX8_start_22 (by decide) ?_
    refine lv_icmp_ge (tgt := 54) hx hb dX8_start_24 (by decide) (fun c3 => ?_) (fun c3 => ?_)
    · replace hf := if_p hf c3
      refine lv_iconst (v := (-1)) hx hb dX8_start_54 (by decide) ?_
      exact rt_iC C G hf dX8_start_55
    · replace hf := if_n hf c3
      refine lv_iload_n hx hb dX8_start_27 rfl (lv_at hl 2 rfl) ?_
      refine lv_bipush (v := 8) hx hb dX8_start_28 (by decide) ?_
      obtain ⟨r5, st4, hst4, hf⟩ := bn_some hf
      refine cl_niC C hl G (As := [.int p1, .int 8]) (rest := []) (kx_Ma_isWithin l D k h p1 8 st _ _ hst4) lk_X8_44 st_X9_isWithin in_X9 gj_X9_isWithin hd_X9_isWithin ⟨Nat.le_of_ble_eq_true rfl, Nat.le_of_ble_eq_true rfl⟩ rfl rfl (Nat.le_of_ble_eq_true rfl) dX8_start_30 ⟨Nat.zero_le _, Nat.zero_le _⟩ (fun H locs e0 G => ?_)
      refine lv_if_eq (tgt := 54) hx hb dX8_start_33 (by decide) (fun c6 => ?_) (fun c6 => ?_)
      · replace hf := if_p hf c6
        refine lv_iconst (v := (-1)) hx hb dX8_start_54 (by decide) ?_
        exact rt_iC C G hf dX8_start_55
      · replace hf := if_n hf c6
        refine lv_iload_n hx hb dX8_start_36 rfl (lv_at hl 3 rfl) ?_
        refine lv_bipush (v := 8) hx hb dX8_start_37 (by decide) ?_
        obtain ⟨r8, st7, hst7, hf⟩ := bn_some hf
        refine cl_niC C hl G (As := [.int p2, .int 8]) (rest := []) (kx_Ma_isWithin l D k h p2 8 st4 _ _ hst7) lk_X8_44 st_X9_isWithin in_X9 gj_X9_isWithin hd_X9_isWithin ⟨Nat.le_of_ble_eq_true rfl, Nat.le_of_ble_eq_true rfl⟩ rfl rfl (Nat.le_of_ble_eq_true rfl) dX8_start_39 ⟨Nat.zero_le _, Nat.zero_le _⟩ (fun H locs e0 G => ?_)
        refine lv_if_eq (tgt := 54) hx hb dX8_start_42 (by decide) (fun c9 => ?_) (fun c9 => ?_)
        · replace hf := if_p hf c9
          refine lv_iconst (v := (-1)) hx hb dX8_start_54 (by decide) ?_
          exact rt_iC C G hf dX8_start_55
        · replace hf := if_n hf c9
          refine lv_iload_n hx hb dX8_start_45 rfl (lv_at hl 4 rfl) ?_
          refine lv_bipush (v := 8) hx hb dX8_start_46 (by decide) ?_
          obtain ⟨r11, st10, hst10, hf⟩ := bn_some hf
          refine cl_niC C hl G (As := [.int p3, .int 8]) (rest := []) (kx_Ma_isWithin l D k h p3 8 st7 _ _ hst10) lk_X8_44 st_X9_isWithin in_X9 gj_X9_isWithin hd_X9_isWithin ⟨Nat.le_of_ble_eq_true rfl, Nat.le_of_ble_eq_true rfl⟩ rfl rfl (Nat.le_of_ble_eq_true rfl) dX8_start_48 ⟨Nat.zero_le _, Nat.zero_le _⟩ (fun H locs e0 G => ?_)
          refine lv_if_ne (tgt := 56) hx hb dX8_start_51 (by decide) (fun c12 => ?_) (fun c12 => ?_)
          · replace hf := if_n hf c12
            refine lv_aload_n hx hb dX8_start_56 rfl (lv_at hl 1 rfl) ?_
            refine fg_Wr_program hx hb hts hown hK G (hts _ lk_X8_32) dX8_start_57 ?_
            refine fg_Pr_parameters hx hb hts hown hK G (hts _ lk_X8_48) dX8_start_60 ?_
            refine lv_iload hx hb dX8_start_63 (lv_at hl 0 rfl) ?_
            refine lv_iload_n hx hb dX8_start_65 rfl (lv_at hl 2 rfl) ?_
            obtain ⟨h_g13, hf⟩ := gd_some hf
            refine rw_IC hx hb hK G (waC_10 ..) (t0 := 1) rfl (wsC_10 ..) (zw_10 h_g13) rfl h_g13 dX8_start_66 (fun H locs G => ?_)
            refine lv_aload_n hx hb dX8_start_67 rfl (lv_at hl 1 rfl) ?_
            refine fg_Wr_program hx hb hts hown hK G (hts _ lk_X8_32) dX8_start_68 ?_
            refine fg_Pr_results hx hb hts hown hK G (hts _ lk_X8_51) dX8_start_71 ?_
            refine lv_iload hx hb dX8_start_74 (lv_at hl 0 rfl) ?_
            refine lv_iload_n hx hb dX8_start_76 rfl (lv_at hl 3 rfl) ?_
            obtain ⟨h_g14, hf⟩ := gd_some hf
            refine rw_IC hx hb hK G (waC_11 ..) (t0 := 2) rfl (wsC_11 ..) (zw_11 h_g14) rfl h_g14 dX8_start_77 (fun H locs G => ?_)
            refine lv_aload_n hx hb dX8_start_78 rfl (lv_at hl 1 rfl) ?_
            refine fg_Wr_program hx hb hts hown hK G (hts _ lk_X8_32) dX8_start_79 ?_
            refine fg_Pr_locals hx hb hts hown hK G (hts _ lk_X8_54) dX8_start_82 ?_
            refine lv_iload hx hb dX8_start_85 (lv_at hl 0 rfl) ?_
            refine lv_iload_n hx hb dX8_start_87 rfl (lv_at hl 4 rfl) ?_
            obtain ⟨h_g15, hf⟩ := gd_some hf
            refine rw_IC hx hb hK G (waC_12 ..) (t0 := 3) rfl (wsC_12 ..) (zw_12 h_g15) rfl h_g15 dX8_start_88 (fun H locs G => ?_)
            refine lv_aload_n hx hb dX8_start_89 rfl (lv_at hl 1 rfl) ?_
            refine fg_Wr_program hx hb hts hown hK G (hts _ lk_X8_32) dX8_start_90 ?_
            refine fg_Pr_most hx hb hts hown hK G (hts _ lk_X8_57) dX8_start_93 ?_
            refine lv_iload hx hb dX8_start_96 (lv_at hl 0 rfl) ?_
            refine lv_iconst (v := 0) hx hb dX8_start_98 (by decide) ?_
            obtain ⟨h_g16, hf⟩ := gd_some hf
            refine rw_IC hx hb hK G (waC_13 ..) (t0 := 4) rfl (wsC_13 ..) (zw_13 h_g16) rfl h_g16 dX8_start_99 (fun H locs G => ?_)
            refine lv_aload_n hx hb dX8_start_100 rfl (lv_at hl 1 rfl) ?_
            refine fg_Wr_program hx hb hts hown hK G (hts _ lk_X8_32) dX8_start_101 ?_
            refine fg_Pr_counted hx hb hts hown hK G (hts _ lk_X8_60) dX8_start_104 ?_
            refine lv_iload hx hb dX8_start_107 (lv_at hl 0 rfl) ?_
            refine lv_iconst (v := 0) hx hb dX8_start_109 (by decide) ?_
            obtain ⟨h_g17, hf⟩ := gd_some hf
            refine rw_IC hx hb hK G (waC_16 ..) (t0 := 7) rfl (wsC_16 ..) (zw_16 h_g17) rfl h_g17 dX8_start_110 (fun H locs G => ?_)
            refine lv_aload_n hx hb dX8_start_111 rfl (lv_at hl 1 rfl) ?_
            refine fg_Wr_program hx hb hts hown hK G (hts _ lk_X8_32) dX8_start_112 ?_
            refine fg_Pr_first hx hb hts hown hK G (hts _ lk_X8_63) dX8_start_115 ?_
            refine lv_iload hx hb dX8_start_118 (lv_at hl 0 rfl) ?_
            refine lv_aload_n hx hb dX8_start_120 rfl (lv_at hl 1 rfl) ?_
            refine fg_Wr_program hx hb hts hown hK G (hts _ lk_X8_32) dX8_start_121 ?_
            refine fg_Pr_size (v := rI st10 4) hx hb hts hown hK G (hts _ lk_X8_66) rfl dX8_start_124 ?_
            obtain ⟨h_g18, hf⟩ := gd_some hf
            refine rw_IC hx hb hK G (waC_14 ..) (t0 := 5) rfl (wsC_14 ..) (zw_14 h_g18) rfl h_g18 dX8_start_127 (fun H locs G => ?_)
            refine lv_aload_n hx hb dX8_start_128 rfl (lv_at hl 1 rfl) ?_
            refine fg_Wr_program hx hb hts hown hK G (hts _ lk_X8_32) dX8_start_129 ?_
            refine lv_iload hx hb dX8_start_132 (lv_at hl 0 rfl) ?_
            refine lv_iconst (v := 1) hx hb dX8_start_134 (by decide) ?_
            refine lv_iadd hx hb dX8_start_135 ?_
            refine fp_Pr_functions hx hb hts hown hK G (hts _ lk_X8_36) dX8_start_136 (fun H locs G => ?_)
            refine lv_aload_n hx hb dX8_start_139 rfl (lv_at hl 1 rfl) ?_
            refine fg_Wr_program hx hb hts hown hK G (hts _ lk_X8_32) dX8_start_140 ?_
            refine lv_iload hx hb dX8_start_143 (lv_at hl 0 rfl) ?_
            refine fp_Pr_written hx hb hts hown hK G (hts _ lk_X8_41) dX8_start_145 (fun H locs G => ?_)
            refine lv_aload_n hx hb dX8_start_148 rfl (lv_at hl 1 rfl) ?_
            refine fg_Wr_begins hx hb hts hown hK G (hts _ lk_X8_9) dX8_start_149 ?_
            refine lv_iconst (v := 0) hx hb dX8_start_152 (by decide) ?_
            refine lv_iconst (v := (-1)) hx hb dX8_start_153 (by decide) ?_
            obtain ⟨h_g19, hf⟩ := gd_some hf
            refine rw_IC hx hb hK G (waC_23 ..) (t0 := 14) rfl (wsC_23 ..) (zw_23 h_g19) rfl h_g19 dX8_start_154 (fun H locs G => ?_)
            refine lv_aload_n hx hb dX8_start_155 rfl (lv_at hl 1 rfl) ?_
            refine fg_Wr_dead hx hb hts hown hK G (hts _ lk_X8_15) dX8_start_156 ?_
            refine lv_iconst (v := 0) hx hb dX8_start_159 (by decide) ?_
            refine lv_iconst (v := 0) hx hb dX8_start_160 (by decide) ?_
            obtain ⟨h_g20, hf⟩ := gd_some hf
            refine rw_ZC hx hb hK G (waC_24 ..) (t0 := 15) rfl (wsC_24 ..) (zw_24 h_g20 rfl) rfl rfl h_g20 dX8_start_161 (fun H locs G => ?_)
            refine lv_aload_n hx hb dX8_start_162 rfl (lv_at hl 1 rfl) ?_
            refine lv_iconst (v := 1) hx hb dX8_start_163 (by decide) ?_
            refine fp_Wr_labels hx hb hts hown hK G (hts _ lk_X8_19) dX8_start_164 (fun H locs G => ?_)
            refine lv_aload_n hx hb dX8_start_167 rfl (lv_at hl 1 rfl) ?_
            refine lv_iconst (v := 0) hx hb dX8_start_168 (by decide) ?_
            refine fp_Wr_operands hx hb hts hown hK G (hts _ lk_X8_23) dX8_start_169 (fun H locs G => ?_)
            refine lv_aload_n hx hb dX8_start_172 rfl (lv_at hl 1 rfl) ?_
            refine lv_iconst (v := 0) hx hb dX8_start_173 (by decide) ?_
            refine fp_Wr_entriesLeft hx hb hts hown hK G (hts _ lk_X8_26) dX8_start_174 (fun H locs G => ?_)
            refine lv_iload hx hb dX8_start_177 (lv_at hl 0 rfl) ?_
            exact rt_iC C G hf dX8_start_179
          · replace hf := if_p hf c12
            refine lv_iconst (v := (-1)) hx hb dX8_start_54 (by decide) ?_
            exact rt_iC C G hf dX8_start_55
def rm_Ma_function : Room := { frames := 2, cells := 0, slots := 0, locals := 45 }
set_option maxHeartbeats 4000000 in
set_option maxRecDepth 100000 in
theorem kx_Ma_function (l : Launch) (D : va_G) (k : Nat → Nat × ClassId) (h : Nat → Nat) (p1 : Int32) (p2 : Int32) (p3 : Int32) (st : rs_T) (r : Int32) (s' : rs_T) (hf : fx_Ma_function p1 p2 p3 st = some (r, s')) : mIC l D k h yX9_function cX9_function 4 .int rm_Ma_function [.ref (h 0), .int p1, .int p2, .int p3] st r s' := by
  refine mIC_of (by decide) ⟨rfl, rfl⟩ (Nat.le_of_ble_eq_true rfl) ?_
  intro p e s m below meth c ls C hl G
  obtain ⟨hx, hb, hml, hr, hown, hts, hK, hN, hlk⟩ := id C
  have hown : s.vm.findClass RX9 = some m.cls := hown
  have hl : lv_has ls 4 [(0, .ref (h 0)), (1, .int p1), (2, .int p2), (3, .int p3)] := hl
  unfold fx_Ma_function at hf
  refine lv_aload_n hx hb dX9_function_0 rfl (lv_at hl 0 rfl) ?_
  refine fg_Ma_writer hx hb hts hown hK G (hts _ lk_X9_21) dX9_function_1 ?_
  refine lv_iload_n hx hb dX9_function_4 rfl (lv_at hl 1 rfl) ?_
  refine lv_iload_n hx hb dX9_function_5 rfl (lv_at hl 2 rfl) ?_
  refine lv_iload_n hx hb dX9_function_6 rfl (lv_at hl 3 rfl) ?_
  obtain ⟨r2, st1, hst1, hf⟩ := bn_some hf
  refine cl_viC C hl G (As := [.int p1, .int p2, .int p3]) (rest := []) (kx_Wr_start l D k h p1 p2 p3 st _ _ hst1) gi_X9_84 (hwC_2 ..) rfl hd_X8_start ⟨Nat.le_of_ble_eq_true rfl, Nat.le_of_ble_eq_true rfl⟩ rfl rfl (Nat.le_of_ble_eq_true rfl) dX9_function_7 ⟨Nat.zero_le _, Nat.zero_le _⟩ (fun H locs e0 G => ?_)
  exact rt_iC C G hf dX9_function_10
set_option maxHeartbeats 4000000 in
set_option maxRecDepth 100000 in
theorem kx_Pr_makeRoom_b108 {p : Program} {l : Launch} {e : Env} {s : State} {m : MethodId} {args : Array Value} {below : List Frame} {meth : Method} {c : Code} {D : va_G} {h : Nat → Nat} {E : Nat → Nat} {k0 : Nat → Nat × ClassId} (st : rs_T) (r : Int32) (s' : rs_T) (hf : fx_Pr_makeRoom_b108 st = some (r, s')) : ∀ (k : Nat → Nat × ClassId) (C : cxC D k p s m args meth c cX3_makeRoom 2 (some .boolean) RX3), ∀ (H : Heap) (locs : List Loc) (ls : Array Slot), lv_has ls 2 [(0, .ref (h 1))] → gdC D k h (vA E) (arC k0 h s.heap.size) s.heap H locs st → W p l e (rmA 2 90 E) s m args below meth c H locs (st.2.2.2 4 - E 4) (st.2.2.2 5 - E 5) (MQ below (uIC D k0 h E s.heap.size r s') args s (s'.2.2.2 4 - E 4) (s'.2.2.2 5 - E 5) (arC k0 h s.heap.size)) (F0 m 108 ls []) := by
  intro k C H locs ls hl G
  obtain ⟨hx, hb, hml, hr, hown, hts, hK, hN, hlk⟩ := id C
  unfold fx_Pr_makeRoom_b108 at hf
  refine lv_aload_n hx hb dX3_makeRoom_108 rfl (lv_at hl 0 rfl) ?_
  refine fg_Pr_size (v := rI st 4) hx hb hts hown hK G (hts _ lk_X3_58) rfl dX3_makeRoom_109 ?_
  refine lv_aload_n hx hb dX3_makeRoom_112 rfl (lv_at hl 0 rfl) ?_
  refine fg_Pr_operation hx hb hts hown hK G (hts _ lk_X3_33) dX3_makeRoom_113 ?_
  refine va_alen (v := nI (rN st 0)) hx hb hK G.1 17 8 (waC_17 ..) rfl rfl dX3_makeRoom_116 ?_
  refine lv_icmp_ge (tgt := 124) hx hb dX3_makeRoom_117 (by decide) (fun c2 => ?_) (fun c2 => ?_)
  · replace hf := if_p hf c2
    refine lv_iconst (v := 0) hx hb dX3_makeRoom_124 (by decide) ?_
    exact rt_zCA C rfl G hf dX3_makeRoom_125
  · replace hf := if_n hf c2
    refine lv_iconst (v := 1) hx hb dX3_makeRoom_120 (by decide) ?_
    refine lv_goto (tgt := 125) hx hb dX3_makeRoom_121 (by decide) ?_
    exact rt_zCA C rfl G hf dX3_makeRoom_125
set_option maxHeartbeats 4000000 in
set_option maxRecDepth 100000 in
theorem kx_Pr_makeRoom (l : Launch) (D : va_G) (k : Nat → Nat × ClassId) (h : Nat → Nat) (st : rs_T) (r : Int32) (s' : rs_T) (hf : fx_Pr_makeRoom st = some (r, s')) : nIC l D k h yX3_makeRoom cX3_makeRoom 2 .boolean 2 90 [.ref (h 1)] st r s' := by
  refine nIC_of (by decide) (Nat.le_of_ble_eq_true rfl) ?_
  intro p e s m below meth c ls C hl G
  obtain ⟨hx, hb, hml, hr, hown, hts, hK, hN, hlk⟩ := id C
  have hown : s.vm.findClass RX3 = some m.cls := hown
  have hl : lv_has ls 2 [(0, .ref (h 1))] := hl
  unfold fx_Pr_makeRoom at hf
  refine lv_aload_n hx hb dX3_makeRoom_0 rfl (lv_at hl 0 rfl) ?_
  refine fg_Pr_size (v := rI st 4) hx hb hts hown hK G (hts _ lk_X3_58) rfl dX3_makeRoom_1 ?_
  refine lv_aload_n hx hb dX3_makeRoom_4 rfl (lv_at hl 0 rfl) ?_
  refine fg_Pr_operation hx hb hts hown hK G (hts _ lk_X3_33) dX3_makeRoom_5 ?_
  refine va_alen (v := nI (rN st 0)) hx hb hK G.1 17 8 (waC_17 ..) rfl rfl dX3_makeRoom_8 ?_
  refine lv_icmp_lt (tgt := 108) hx hb dX3_makeRoom_9 (by decide) (fun c1 => ?_) (fun c1 => ?_)
  · replace hf := if_p hf c1
    exact kx_Pr_makeRoom_b108 st _ _ hf _ C _ _ _ (lv_sub hl [0] rfl) G
  · replace hf := if_n hf c1
    refine lv_aload_n hx hb dX3_makeRoom_12 rfl (lv_at hl 0 rfl) ?_
    refine fg_Pr_size (v := rI st 4) hx hb hts hown hK G (hts _ lk_X3_58) rfl dX3_makeRoom_13 ?_
    refine lv_sipush (v := 1500) hx hb dX3_makeRoom_16 (by decide) ?_
    refine lv_icmp_ge (tgt := 108) hx hb dX3_makeRoom_19 (by decide) (fun c3 => ?_) (fun c3 => ?_)
    · replace hf := if_p hf c3
      exact kx_Pr_makeRoom_b108 st _ _ hf _ C _ _ _ (lv_sub hl [0] rfl) G
    · replace hf := if_n hf c3
      refine lv_iconst (v := 2) hx hb dX3_makeRoom_22 (by decide) ?_
      refine lv_aload_n hx hb dX3_makeRoom_23 rfl (lv_at hl 0 rfl) ?_
      refine fg_Pr_operation hx hb hts hown hK G (hts _ lk_X3_33) dX3_makeRoom_24 ?_
      refine va_alen (v := nI (rN st 0)) hx hb hK G.1 17 8 (waC_17 ..) rfl rfl dX3_makeRoom_27 ?_
      refine lv_imul hx hb dX3_makeRoom_28 ?_
      refine lv_sipush (v := 1500) hx hb dX3_makeRoom_29 (by decide) ?_
      have hc9 := hcA G
      refine cm_mminC C hl lk_X3_61 (Nat.le_of_ble_eq_true rfl) (Nat.le_of_ble_eq_true rfl) dX3_makeRoom_32 hc9 ?_
      refine lv_topi (fun v4 e_v4 => ?_)
      replace hf := bd_some hf v4 e_v4
      refine lv_istore_n (lv' := [(1, .int v4), (0, .ref (h 1))]) hx hb dX3_makeRoom_35 rfl hl (by decide) rfl (fun ls hl => ?_)
      obtain ⟨h_gm, hf⟩ := gm_some hf
      refine mid_Pr C (lv_sub hl [0, 1] rfl) G h_gm (Nat.le_of_ble_eq_true rfl) (Nat.le_of_ble_eq_true rfl) (fun k hK H locs ls hl G => ?_)
      have C := cxk C hK
      exact kx_Pr_makeRoom_b108 (gN st 0 v4.toNatClampNeg 6) _ _ hf _ C _ _ _ (lv_sub hl [0] rfl) G
def rm_Pr_wantedBy : Room := { frames := 0, cells := 0, slots := 0, locals := 0 }
set_option maxHeartbeats 4000000 in
set_option maxRecDepth 100000 in
theorem kx_Pr_wantedBy (l : Launch) (D : va_G) (k : Nat → Nat × ClassId) (h : Nat → Nat) (p1 : Int32) (p2 : Int32) (st : rs_T) (r : Int32) (s' : rs_T) (hf : fx_Pr_wantedBy p1 p2 st = some (r, s')) : mIC l D k h yX3_wantedBy cX3_wantedBy 3 .int rm_Pr_wantedBy [.ref (h 1), .int p1, .int p2] st r s' := by
  refine mIC_of (by decide) ⟨rfl, rfl⟩ (Nat.le_of_ble_eq_true rfl) ?_
  intro p e s m below meth c ls C hl G
  obtain ⟨hx, hb, hml, hr, hown, hts, hK, hN, hlk⟩ := id C
  have hown : s.vm.findClass RX3 = some m.cls := hown
  have hl : lv_has ls 3 [(0, .ref (h 1)), (1, .int p1), (2, .int p2)] := hl
  unfold fx_Pr_wantedBy at hf
  refine lv_iload_n hx hb dX3_wantedBy_0 rfl (lv_at hl 1 rfl) ?_
  refine lv_iconst (v := (-1)) hx hb dX3_wantedBy_1 (by decide) ?_
  refine lv_icmp_ne (tgt := 12) hx hb dX3_wantedBy_2 (by decide) (fun c1 => ?_) (fun c1 => ?_)
  · replace hf := if_n hf c1
    refine lv_aload_n hx hb dX3_wantedBy_12 rfl (lv_at hl 0 rfl) ?_
    refine fg_Pr_operation hx hb hts hown hK G (hts _ lk_X3_33) dX3_wantedBy_13 ?_
    refine lv_iload_n hx hb dX3_wantedBy_16 rfl (lv_at hl 1 rfl) ?_
    obtain ⟨h_g2, hf⟩ := gd_some hf
    refine ra_IC (v := rA st 7 p1.toNatClampNeg) hx hb hK G (waC_17 ..) (t0 := 8) rfl rfl h_g2 dX3_wantedBy_17 ?_
    refine lv_iconst (v := 3) hx hb dX3_wantedBy_18 (by decide) ?_
    refine lv_icmp_ne (tgt := 31) hx hb dX3_wantedBy_19 (by decide) (fun c3 => ?_) (fun c3 => ?_)
    · replace hf := if_n hf c3
      refine lv_aload_n hx hb dX3_wantedBy_31 rfl (lv_at hl 0 rfl) ?_
      refine fg_Pr_b hx hb hts hown hK G (hts _ lk_X3_39) dX3_wantedBy_32 ?_
      refine lv_iload_n hx hb dX3_wantedBy_35 rfl (lv_at hl 1 rfl) ?_
      obtain ⟨h_g4, hf⟩ := gd_some hf
      refine ra_IC (v := rA st 9 p1.toNatClampNeg) hx hb hK G (waC_19 ..) (t0 := 10) rfl rfl h_g4 dX3_wantedBy_36 ?_
      exact rt_iC C G hf dX3_wantedBy_37
    · replace hf := if_p hf c3
      refine lv_aload_n hx hb dX3_wantedBy_22 rfl (lv_at hl 0 rfl) ?_
      refine fg_Pr_a hx hb hts hown hK G (hts _ lk_X3_36) dX3_wantedBy_23 ?_
      refine lv_iload_n hx hb dX3_wantedBy_26 rfl (lv_at hl 1 rfl) ?_
      obtain ⟨h_g5, hf⟩ := gd_some hf
      refine ra_IC (v := rA st 8 p1.toNatClampNeg) hx hb hK G (waC_18 ..) (t0 := 9) rfl rfl h_g5 dX3_wantedBy_27 ?_
      refine lv_goto (tgt := 37) hx hb dX3_wantedBy_28 (by decide) ?_
      exact rt_iC C G hf dX3_wantedBy_37
  · replace hf := if_p hf c1
    refine lv_aload_n hx hb dX3_wantedBy_5 rfl (lv_at hl 0 rfl) ?_
    refine fg_Pr_results hx hb hts hown hK G (hts _ lk_X3_15) dX3_wantedBy_6 ?_
    refine lv_iload_n hx hb dX3_wantedBy_9 rfl (lv_at hl 2 rfl) ?_
    obtain ⟨h_g6, hf⟩ := gd_some hf
    refine ra_IC (v := rA st 1 p2.toNatClampNeg) hx hb hK G (waC_11 ..) (t0 := 2) rfl rfl h_g6 dX3_wantedBy_10 ?_
    exact rt_iC C G hf dX3_wantedBy_11
def rm_Wr_wantedBy : Room := { frames := 1, cells := 0, slots := 0, locals := 22 }
set_option maxHeartbeats 4000000 in
set_option maxRecDepth 100000 in
theorem kx_Wr_wantedBy (l : Launch) (D : va_G) (k : Nat → Nat × ClassId) (h : Nat → Nat) (p1 : Int32) (st : rs_T) (r : Int32) (s' : rs_T) (hf : fx_Wr_wantedBy p1 st = some (r, s')) : mIC l D k h yX8_wantedBy cX8_wantedBy 2 .int rm_Wr_wantedBy [.ref (h 2), .int p1] st r s' := by
  refine mIC_of (by decide) ⟨rfl, rfl⟩ (Nat.le_of_ble_eq_true rfl) ?_
  intro p e s m below meth c ls C hl G
  obtain ⟨hx, hb, hml, hr, hown, hts, hK, hN, hlk⟩ := id C
  have hown : s.vm.findClass RX8 = some m.cls := hown
  have hl : lv_has ls 2 [(0, .ref (h 2)), (1, .int p1)] := hl
  unfold fx_Wr_wantedBy at hf
  refine lv_aload_n hx hb dX8_wantedBy_0 rfl (lv_at hl 0 rfl) ?_
  refine fg_Wr_program hx hb hts hown hK G (hts _ lk_X8_32) dX8_wantedBy_1 ?_
  refine lv_aload_n hx hb dX8_wantedBy_4 rfl (lv_at hl 0 rfl) ?_
  refine fg_Wr_begins hx hb hts hown hK G (hts _ lk_X8_9) dX8_wantedBy_5 ?_
  refine lv_aload_n hx hb dX8_wantedBy_8 rfl (lv_at hl 0 rfl) ?_
  refine fg_Wr_labels (v := rI st 5) hx hb hts hown hK G (hts _ lk_X8_19) rfl dX8_wantedBy_9 ?_
  refine lv_iconst (v := 1) hx hb dX8_wantedBy_12 (by decide) ?_
  refine lv_isub hx hb dX8_wantedBy_13 ?_
  refine lv_iload_n hx hb dX8_wantedBy_14 rfl (lv_at hl 1 rfl) ?_
  refine lv_isub hx hb dX8_wantedBy_15 ?_
  obtain ⟨h_g1, hf⟩ := gd_some hf
  refine ra_IC (v := rA st 13 ((((rI st 5) - 1) - p1).toNatClampNeg)) hx hb hK G (waC_23 ..) (t0 := 14) rfl rfl h_g1 dX8_wantedBy_16 ?_
  refine lv_aload_n hx hb dX8_wantedBy_17 rfl (lv_at hl 0 rfl) ?_
  refine fg_Wr_program hx hb hts hown hK G (hts _ lk_X8_32) dX8_wantedBy_18 ?_
  refine fg_Pr_written (v := rI st 3) hx hb hts hown hK G (hts _ lk_X8_41) rfl dX8_wantedBy_21 ?_
  obtain ⟨r3, st2, hst2, hf⟩ := bn_some hf
  refine cl_viC C hl G (As := [.int (rA st 13 ((((rI st 5) - 1) - p1).toNatClampNeg)), .int (rI st 3)]) (rest := []) (kx_Pr_wantedBy l D k h (rA st 13 ((((rI st 5) - 1) - p1).toNatClampNeg)) (rI st 3) st _ _ hst2) gi_X8_185 (hwC_1 ..) rfl hd_X3_wantedBy ⟨Nat.le_of_ble_eq_true rfl, Nat.le_of_ble_eq_true rfl⟩ rfl rfl (Nat.le_of_ble_eq_true rfl) dX8_wantedBy_24 ⟨Nat.zero_le _, Nat.zero_le _⟩ (fun H locs e0 G => ?_)
  exact rt_iC C G hf dX8_wantedBy_27
def rm_Wr_height : Room := { frames := 0, cells := 0, slots := 0, locals := 0 }
set_option maxHeartbeats 4000000 in
set_option maxRecDepth 100000 in
theorem kx_Wr_height (l : Launch) (D : va_G) (k : Nat → Nat × ClassId) (h : Nat → Nat) (st : rs_T) (r : Int32) (s' : rs_T) (hf : fx_Wr_height st = some (r, s')) : mIC l D k h yX8_height cX8_height 2 .int rm_Wr_height [.ref (h 2)] st r s' := by
  refine mIC_of (by decide) ⟨rfl, rfl⟩ (Nat.le_of_ble_eq_true rfl) ?_
  intro p e s m below meth c ls C hl G
  obtain ⟨hx, hb, hml, hr, hown, hts, hK, hN, hlk⟩ := id C
  have hown : s.vm.findClass RX8 = some m.cls := hown
  have hl : lv_has ls 2 [(0, .ref (h 2))] := hl
  unfold fx_Wr_height at hf
  refine lv_aload_n hx hb dX8_height_0 rfl (lv_at hl 0 rfl) ?_
  refine fg_Wr_begins hx hb hts hown hK G (hts _ lk_X8_9) dX8_height_1 ?_
  refine lv_aload_n hx hb dX8_height_4 rfl (lv_at hl 0 rfl) ?_
  refine fg_Wr_labels (v := rI st 5) hx hb hts hown hK G (hts _ lk_X8_19) rfl dX8_height_5 ?_
  refine lv_iconst (v := 1) hx hb dX8_height_8 (by decide) ?_
  refine lv_isub hx hb dX8_height_9 ?_
  obtain ⟨h_g1, hf⟩ := gd_some hf
  refine ra_IC (v := rA st 13 (((rI st 5) - 1).toNatClampNeg)) hx hb hK G (waC_23 ..) (t0 := 14) rfl rfl h_g1 dX8_height_10 ?_
  refine lv_topi (fun v2 e_v2 => ?_)
  replace hf := bd_some hf v2 e_v2
  refine lv_istore_n (lv' := [(1, .int v2), (0, .ref (h 2))]) hx hb dX8_height_11 rfl hl (by decide) rfl (fun ls hl => ?_)
  refine lv_iload_n hx hb dX8_height_12 rfl (lv_at hl 0 rfl) ?_
  refine lv_iconst (v := (-1)) hx hb dX8_height_13 (by decide) ?_
  refine lv_icmp_ne (tgt := 21) hx hb dX8_height_14 (by decide) (fun c3 => ?_) (fun c3 => ?_)
  · replace hf := if_n hf c3
    refine lv_aload_n hx hb dX8_height_21 rfl (lv_at hl 1 rfl) ?_
    refine fg_Wr_program hx hb hts hown hK G (hts _ lk_X8_32) dX8_height_22 ?_
    refine fg_Pr_height hx hb hts hown hK G (hts _ lk_X8_135) dX8_height_25 ?_
    refine lv_iload_n hx hb dX8_height_28 rfl (lv_at hl 0 rfl) ?_
    obtain ⟨h_g4, hf⟩ := gd_some hf
    refine ra_IC (v := rA st 12 v2.toNatClampNeg) hx hb hK G (waC_22 ..) (t0 := 13) rfl rfl h_g4 dX8_height_29 ?_
    exact rt_iC C G hf dX8_height_30
  · replace hf := if_p hf c3
    refine lv_iconst (v := 0) hx hb dX8_height_17 (by decide) ?_
    refine lv_goto (tgt := 30) hx hb dX8_height_18 (by decide) ?_
    exact rt_iC C G hf dX8_height_30
def rm_Wr_has : Room := { frames := 1, cells := 0, slots := 0, locals := 21 }
set_option maxHeartbeats 4000000 in
set_option maxRecDepth 100000 in
theorem kx_Wr_has_b27 {p : Program} {l : Launch} {e : Env} {s : State} {m : MethodId} {args : Array Value} {below : List Frame} {meth : Method} {c : Code} {D : va_G} {h : Nat → Nat} {E : Nat → Nat} {k : Nat → Nat × ClassId} (C : cxC D k p s m args meth c cX8_has 2 (some .boolean) RX8) (st : rs_T) (r : Int32) (s' : rs_T) (hf : fx_Wr_has_b27 st = some (r, s')) : ∀ (H : Heap) (locs : List Loc) (ls : Array Slot), lv_has ls 2 [] → gdC D k h (vE E) (arC k h s.heap.size) s.heap H locs st → W p l e rm_Wr_has s m args below meth c H locs 0 0 (MQ below (qIC D k h E s.heap.size r s') args s 0 0 (arC k h s.heap.size)) (F0 m 27 ls []) := by
  obtain ⟨hx, hb, hml, hr, hown, hts, hK, hN, hlk⟩ := id C
  intro H locs ls hl G
  unfold fx_Wr_has_b27 at hf
  refine lv_iconst (v := 1) hx hb dX8_has_27 (by decide) ?_
  refine lv_goto (tgt := 32) hx hb dX8_has_28 (by decide) ?_
  exact rt_zC C rfl G hf dX8_has_32
set_option maxHeartbeats 4000000 in
set_option maxRecDepth 100000 in
theorem kx_Wr_has (l : Launch) (D : va_G) (k : Nat → Nat × ClassId) (h : Nat → Nat) (p1 : Int32) (st : rs_T) (r : Int32) (s' : rs_T) (hf : fx_Wr_has p1 st = some (r, s')) : mIC l D k h yX8_has cX8_has 2 .boolean rm_Wr_has [.ref (h 2), .int p1] st r s' := by
  refine mIC_of (by decide) ⟨rfl, rfl⟩ (Nat.le_of_ble_eq_true rfl) ?_
  intro p e s m below meth c ls C hl G
  obtain ⟨hx, hb, hml, hr, hown, hts, hK, hN, hlk⟩ := id C
  have hown : s.vm.findClass RX8 = some m.cls := hown
  have hl : lv_has ls 2 [(0, .ref (h 2)), (1, .int p1)] := hl
  unfold fx_Wr_has at hf
  refine lv_aload_n hx hb dX8_has_0 rfl (lv_at hl 0 rfl) ?_
  refine fg_Wr_dead hx hb hts hown hK G (hts _ lk_X8_15) dX8_has_1 ?_
  refine lv_aload_n hx hb dX8_has_4 rfl (lv_at hl 0 rfl) ?_
  refine fg_Wr_labels (v := rI st 5) hx hb hts hown hK G (hts _ lk_X8_19) rfl dX8_has_5 ?_
  refine lv_iconst (v := 1) hx hb dX8_has_8 (by decide) ?_
  refine lv_isub hx hb dX8_has_9 ?_
  obtain ⟨h_g1, hf⟩ := gd_some hf
  refine ra_ZC (v := rA st 14 (((rI st 5) - 1).toNatClampNeg)) hx hb hK G (waC_24 ..) (t0 := 15) rfl rfl h_g1 dX8_has_10 ?_
  refine lv_if_ne (tgt := 27) hx hb dX8_has_11 (by decide) (fun c2 => ?_) (fun c2 => ?_)
  · replace hf := if_n hf c2
    exact kx_Wr_has_b27 C st _ _ hf _ _ _ (lv_sub hl [] rfl) G
  · replace hf := if_p hf c2
    refine lv_aload_n hx hb dX8_has_14 rfl (lv_at hl 0 rfl) ?_
    refine fg_Wr_operands (v := rI st 6) hx hb hts hown hK G (hts _ lk_X8_23) rfl dX8_has_15 ?_
    refine lv_aload_n hx hb dX8_has_18 rfl (lv_at hl 0 rfl) ?_
    obtain ⟨r4, st3, hst3, hf⟩ := bn_some hf
    refine cl_viC C hl G (As := []) (rest := [.int (rI st 6)]) (kx_Wr_height l D k h st _ _ hst3) gi_X8_89 (hwC_2 ..) rfl hd_X8_height ⟨Nat.le_of_ble_eq_true rfl, Nat.le_of_ble_eq_true rfl⟩ rfl rfl (Nat.le_of_ble_eq_true rfl) dX8_has_19 ⟨Nat.zero_le _, Nat.zero_le _⟩ (fun H locs e0 G => ?_)
    refine lv_isub hx hb dX8_has_22 ?_
    refine lv_iload_n hx hb dX8_has_23 rfl (lv_at hl 1 rfl) ?_
    refine lv_icmp_lt (tgt := 31) hx hb dX8_has_24 (by decide) (fun c5 => ?_) (fun c5 => ?_)
    · replace hf := if_p hf c5
      refine lv_iconst (v := 0) hx hb dX8_has_31 (by decide) ?_
      exact rt_zC C rfl G hf dX8_has_32
    · replace hf := if_n hf c5
      exact kx_Wr_has_b27 C st3 _ _ hf _ _ _ (lv_sub hl [] rfl) G
def rm_Wr_die : Room := { frames := 1, cells := 0, slots := 0, locals := 21 }
set_option maxHeartbeats 4000000 in
set_option maxRecDepth 100000 in
theorem kx_Wr_die (l : Launch) (D : va_G) (k : Nat → Nat × ClassId) (h : Nat → Nat) (st : rs_T) (s' : rs_T) (hf : fx_Wr_die st = some s') : mVC l D k h yX8_die cX8_die 1 rm_Wr_die [.ref (h 2)] st s' := by
  refine mVC_of (by decide) ⟨rfl, rfl⟩ (Nat.le_of_ble_eq_true rfl) ?_
  intro p e s m below meth c ls C hl G
  obtain ⟨hx, hb, hml, hr, hown, hts, hK, hN, hlk⟩ := id C
  have hown : s.vm.findClass RX8 = some m.cls := hown
  have hl : lv_has ls 1 [(0, .ref (h 2))] := hl
  unfold fx_Wr_die at hf
  refine lv_aload_n hx hb dX8_die_0 rfl (lv_at hl 0 rfl) ?_
  refine lv_aload_n hx hb dX8_die_1 rfl (lv_at hl 0 rfl) ?_
  obtain ⟨r2, st1, hst1, hf⟩ := bn_some hf
  refine cl_viC C hl G (As := []) (rest := [.ref (h 2)]) (kx_Wr_height l D k h st _ _ hst1) gi_X8_89 (hwC_2 ..) rfl hd_X8_height ⟨Nat.le_of_ble_eq_true rfl, Nat.le_of_ble_eq_true rfl⟩ rfl rfl (Nat.le_of_ble_eq_true rfl) dX8_die_2 ⟨Nat.zero_le _, Nat.zero_le _⟩ (fun H locs e0 G => ?_)
  refine fp_Wr_operands hx hb hts hown hK G (hts _ lk_X8_23) dX8_die_5 (fun H locs G => ?_)
  refine lv_aload_n hx hb dX8_die_8 rfl (lv_at hl 0 rfl) ?_
  refine fg_Wr_dead hx hb hts hown hK G (hts _ lk_X8_15) dX8_die_9 ?_
  refine lv_aload_n hx hb dX8_die_12 rfl (lv_at hl 0 rfl) ?_
  refine fg_Wr_labels (v := rI st1 5) hx hb hts hown hK G (hts _ lk_X8_19) rfl dX8_die_13 ?_
  refine lv_iconst (v := 1) hx hb dX8_die_16 (by decide) ?_
  refine lv_isub hx hb dX8_die_17 ?_
  refine lv_iconst (v := 1) hx hb dX8_die_18 (by decide) ?_
  obtain ⟨h_g3, hf⟩ := gd_some hf
  refine rw_ZC hx hb hK G (waC_24 ..) (t0 := 15) rfl (wsC_24 ..) (zw_24 h_g3 rfl) rfl rfl h_g3 dX8_die_19 (fun H locs G => ?_)
  exact rt_vC C G hf dX8_die_20
def rm_Wr_admitsTableEntry : Room := { frames := 2, cells := 0, slots := 0, locals := 43 }
set_option maxHeartbeats 4000000 in
set_option maxRecDepth 100000 in
theorem kx_Wr_admitsTableEntry_b47 {p : Program} {l : Launch} {e : Env} {s : State} {m : MethodId} {args : Array Value} {below : List Frame} {meth : Method} {c : Code} {D : va_G} {h : Nat → Nat} {E : Nat → Nat} {k : Nat → Nat × ClassId} (C : cxC D k p s m args meth c cX8_admitsTableEntry 3 (some .boolean) RX8) (x1 : Int32) (x2 : Int32) (st : rs_T) (r : Int32) (s' : rs_T) (hf : fx_Wr_admitsTableEntry_b47 x1 x2 st = some (r, s')) : ∀ (H : Heap) (locs : List Loc) (ls : Array Slot), lv_has ls 3 [(0, .ref (h 2)), (1, .int x1), (2, .int x2)] → gdC D k h (vE E) (arC k h s.heap.size) s.heap H locs st → W p l e rm_Wr_admitsTableEntry s m args below meth c H locs 0 0 (MQ below (qIC D k h E s.heap.size r s') args s 0 0 (arC k h s.heap.size)) (F0 m 47 ls []) := by
  obtain ⟨hx, hb, hml, hr, hown, hts, hK, hN, hlk⟩ := id C
  intro H locs ls hl G
  unfold fx_Wr_admitsTableEntry_b47 at hf
  refine lv_aload_n hx hb dX8_admitsTableEntry_47 rfl (lv_at hl 0 rfl) ?_
  refine fg_Wr_program hx hb hts hown hK G (hts _ lk_X8_32) dX8_admitsTableEntry_48 ?_
  refine fg_Pr_link hx hb hts hown hK G (hts _ lk_X8_137) dX8_admitsTableEntry_51 ?_
  refine lv_aload_n hx hb dX8_admitsTableEntry_54 rfl (lv_at hl 0 rfl) ?_
  refine fg_Wr_program hx hb hts hown hK G (hts _ lk_X8_32) dX8_admitsTableEntry_55 ?_
  refine fg_Pr_size (v := rI st 4) hx hb hts hown hK G (hts _ lk_X8_66) rfl dX8_admitsTableEntry_58 ?_
  refine lv_aload_n hx hb dX8_admitsTableEntry_61 rfl (lv_at hl 0 rfl) ?_
  refine fg_Wr_begins hx hb hts hown hK G (hts _ lk_X8_9) dX8_admitsTableEntry_62 ?_
  refine lv_aload_n hx hb dX8_admitsTableEntry_65 rfl (lv_at hl 0 rfl) ?_
  refine fg_Wr_labels (v := rI st 5) hx hb hts hown hK G (hts _ lk_X8_19) rfl dX8_admitsTableEntry_66 ?_
  refine lv_iconst (v := 1) hx hb dX8_admitsTableEntry_69 (by decide) ?_
  refine lv_isub hx hb dX8_admitsTableEntry_70 ?_
  refine lv_iload_n hx hb dX8_admitsTableEntry_71 rfl (lv_at hl 1 rfl) ?_
  refine lv_isub hx hb dX8_admitsTableEntry_72 ?_
  obtain ⟨h_g10, hf⟩ := gd_some hf
  refine ra_IC (v := rA st 13 ((((rI st 5) - 1) - x1).toNatClampNeg)) hx hb hK G (waC_23 ..) (t0 := 14) rfl rfl h_g10 dX8_admitsTableEntry_73 ?_
  obtain ⟨h_g11, hf⟩ := gd_some hf
  refine rw_IC hx hb hK G (waC_20 ..) (t0 := 11) rfl (wsC_20 ..) (zw_20 h_g11) rfl h_g11 dX8_admitsTableEntry_74 (fun H locs G => ?_)
  refine lv_aload_n hx hb dX8_admitsTableEntry_75 rfl (lv_at hl 0 rfl) ?_
  refine lv_iload_n hx hb dX8_admitsTableEntry_76 rfl (lv_at hl 2 rfl) ?_
  refine fp_Wr_entriesWant hx hb hts hown hK G (hts _ lk_X8_29) dX8_admitsTableEntry_77 (fun H locs G => ?_)
  refine lv_aload_n hx hb dX8_admitsTableEntry_80 rfl (lv_at hl 0 rfl) ?_
  refine lv_dup hx hb dX8_admitsTableEntry_81 rfl ?_
  refine fg_Wr_entriesLeft (v := rI st 7) hx hb hts hown hK G (hts _ lk_X8_26) rfl dX8_admitsTableEntry_82 ?_
  refine lv_iconst (v := 1) hx hb dX8_admitsTableEntry_85 (by decide) ?_
  refine lv_isub hx hb dX8_admitsTableEntry_86 ?_
  refine fp_Wr_entriesLeft hx hb hts hown hK G (hts _ lk_X8_26) dX8_admitsTableEntry_87 (fun H locs G => ?_)
  refine lv_aload_n hx hb dX8_admitsTableEntry_90 rfl (lv_at hl 0 rfl) ?_
  refine fg_Wr_entriesLeft (v := (rI st 7) - 1) hx hb hts hown hK G (hts _ lk_X8_26) rfl dX8_admitsTableEntry_91 ?_
  refine lv_if_ne (tgt := 101) hx hb dX8_admitsTableEntry_94 (by decide) (fun c12 => ?_) (fun c12 => ?_)
  · replace hf := if_n hf c12
    refine lv_iconst (v := 1) hx hb dX8_admitsTableEntry_101 (by decide) ?_
    exact rt_zC C rfl G hf dX8_admitsTableEntry_102
  · replace hf := if_p hf c12
    refine lv_aload_n hx hb dX8_admitsTableEntry_97 rfl (lv_at hl 0 rfl) ?_
    obtain ⟨st13, hst13, hf⟩ := bv_some hf
    refine cl_vvC C hl G (As := []) (rest := []) (kx_Wr_die l D k h (wI (wI (wA st 10 ((rI st 4).toNatClampNeg) (rA st 13 ((((rI st 5) - 1) - x1).toNatClampNeg))) 8 x2) 7 ((rI st 7) - 1)) _ hst13) gi_X8_97 (hwC_2 ..) rfl hd_X8_die ⟨Nat.le_of_ble_eq_true rfl, Nat.le_of_ble_eq_true rfl⟩ rfl rfl (Nat.le_of_ble_eq_true rfl) dX8_admitsTableEntry_98 ⟨Nat.zero_le _, Nat.zero_le _⟩ (fun H locs e0 G => ?_)
    refine lv_iconst (v := 1) hx hb dX8_admitsTableEntry_101 (by decide) ?_
    exact rt_zC C rfl G hf dX8_admitsTableEntry_102
set_option maxHeartbeats 4000000 in
set_option maxRecDepth 100000 in
theorem kx_Wr_admitsTableEntry (l : Launch) (D : va_G) (k : Nat → Nat × ClassId) (h : Nat → Nat) (p1 : Int32) (st : rs_T) (r : Int32) (s' : rs_T) (hf : fx_Wr_admitsTableEntry p1 st = some (r, s')) : mIC l D k h yX8_admitsTableEntry cX8_admitsTableEntry 3 .boolean rm_Wr_admitsTableEntry [.ref (h 2), .int p1] st r s' := by
  refine mIC_of (by decide) ⟨rfl, rfl⟩ (Nat.le_of_ble_eq_true rfl) ?_
  intro p e s m below meth c ls C hl G
  obtain ⟨hx, hb, hml, hr, hown, hts, hK, hN, hlk⟩ := id C
  have hown : s.vm.findClass RX8 = some m.cls := hown
  have hl : lv_has ls 3 [(0, .ref (h 2)), (1, .int p1)] := hl
  unfold fx_Wr_admitsTableEntry at hf
  refine lv_iload_n hx hb dX8_admitsTableEntry_0 rfl (lv_at hl 1 rfl) ?_
  refine lv_aload_n hx hb dX8_admitsTableEntry_1 rfl (lv_at hl 0 rfl) ?_
  refine fg_Wr_labels (v := rI st 5) hx hb hts hown hK G (hts _ lk_X8_19) rfl dX8_admitsTableEntry_2 ?_
  refine lv_iconst (v := 1) hx hb dX8_admitsTableEntry_5 (by decide) ?_
  refine lv_isub hx hb dX8_admitsTableEntry_6 ?_
  obtain ⟨r2, st1, hst1, hf⟩ := bn_some hf
  refine cl_niC C hl G (As := [.int p1, .int ((rI st 5) - 1)]) (rest := []) (kx_Ma_isWithin l D k h p1 ((rI st 5) - 1) st _ _ hst1) lk_X8_44 st_X9_isWithin in_X9 gj_X9_isWithin hd_X9_isWithin ⟨Nat.le_of_ble_eq_true rfl, Nat.le_of_ble_eq_true rfl⟩ rfl rfl (Nat.le_of_ble_eq_true rfl) dX8_admitsTableEntry_7 ⟨Nat.zero_le _, Nat.zero_le _⟩ (fun H locs e0 G => ?_)
  refine lv_if_ne (tgt := 15) hx hb dX8_admitsTableEntry_10 (by decide) (fun c3 => ?_) (fun c3 => ?_)
  · replace hf := if_n hf c3
    refine lv_aload_n hx hb dX8_admitsTableEntry_15 rfl (lv_at hl 0 rfl) ?_
    refine lv_iload_n hx hb dX8_admitsTableEntry_16 rfl (lv_at hl 1 rfl) ?_
    obtain ⟨r5, st4, hst4, hf⟩ := bn_some hf
    refine cl_viC C hl G (As := [.int p1]) (rest := []) (kx_Wr_wantedBy l D k h p1 st1 _ _ hst4) gi_X8_167 (hwC_2 ..) rfl hd_X8_wantedBy ⟨Nat.le_of_ble_eq_true rfl, Nat.le_of_ble_eq_true rfl⟩ rfl rfl (Nat.le_of_ble_eq_true rfl) dX8_admitsTableEntry_17 ⟨Nat.zero_le _, Nat.zero_le _⟩ (fun H locs e0 G => ?_)
    refine lv_istore_n (lv' := [(2, .int r5), (0, .ref (h 2)), (1, .int p1)]) hx hb dX8_admitsTableEntry_20 rfl hl (by decide) rfl (fun ls hl => ?_)
    refine lv_aload_n hx hb dX8_admitsTableEntry_21 rfl (lv_at hl 1 rfl) ?_
    refine lv_iload_n hx hb dX8_admitsTableEntry_22 rfl (lv_at hl 0 rfl) ?_
    obtain ⟨r7, st6, hst6, hf⟩ := bn_some hf
    refine cl_viC C hl G (As := [.int r5]) (rest := []) (kx_Wr_has l D k h r5 st4 _ _ hst6) gi_X8_127 (hwC_2 ..) rfl hd_X8_has ⟨Nat.le_of_ble_eq_true rfl, Nat.le_of_ble_eq_true rfl⟩ rfl rfl (Nat.le_of_ble_eq_true rfl) dX8_admitsTableEntry_23 ⟨Nat.zero_le _, Nat.zero_le _⟩ (fun H locs e0 G => ?_)
    refine lv_if_eq (tgt := 45) hx hb dX8_admitsTableEntry_26 (by decide) (fun c8 => ?_) (fun c8 => ?_)
    · replace hf := if_p hf c8
      refine lv_iconst (v := 0) hx hb dX8_admitsTableEntry_45 (by decide) ?_
      exact rt_zC C rfl G hf dX8_admitsTableEntry_46
    · replace hf := if_n hf c8
      refine lv_aload_n hx hb dX8_admitsTableEntry_29 rfl (lv_at hl 1 rfl) ?_
      refine fg_Wr_entriesWant (v := rI st6 8) hx hb hts hown hK G (hts _ lk_X8_29) rfl dX8_admitsTableEntry_30 ?_
      refine lv_iconst (v := (-1)) hx hb dX8_admitsTableEntry_33 (by decide) ?_
      refine lv_icmp_eq (tgt := 47) hx hb dX8_admitsTableEntry_34 (by decide) (fun c9 => ?_) (fun c9 => ?_)
      · replace hf := if_p hf c9
        exact kx_Wr_admitsTableEntry_b47 C p1 r5 st6 _ _ hf _ _ _ (lv_sub hl [1, 2, 0] rfl) G
      · replace hf := if_n hf c9
        refine lv_aload_n hx hb dX8_admitsTableEntry_37 rfl (lv_at hl 1 rfl) ?_
        refine fg_Wr_entriesWant (v := rI st6 8) hx hb hts hown hK G (hts _ lk_X8_29) rfl dX8_admitsTableEntry_38 ?_
        refine lv_iload_n hx hb dX8_admitsTableEntry_41 rfl (lv_at hl 0 rfl) ?_
        refine lv_icmp_eq (tgt := 47) hx hb dX8_admitsTableEntry_42 (by decide) (fun c14 => ?_) (fun c14 => ?_)
        · replace hf := if_p hf c14
          exact kx_Wr_admitsTableEntry_b47 C p1 r5 st6 _ _ hf _ _ _ (lv_sub hl [1, 2, 0] rfl) G
        · replace hf := if_n hf c14
          refine lv_iconst (v := 0) hx hb dX8_admitsTableEntry_45 (by decide) ?_
          exact rt_zC C rfl G hf dX8_admitsTableEntry_46
  · replace hf := if_p hf c3
    refine lv_iconst (v := 0) hx hb dX8_admitsTableEntry_13 (by decide) ?_
    exact rt_zC C rfl G hf dX8_admitsTableEntry_14
set_option maxHeartbeats 4000000 in
set_option maxRecDepth 100000 in
theorem kx_Wr_makeRoom_b84 {p : Program} {l : Launch} {e : Env} {s : State} {m : MethodId} {args : Array Value} {below : List Frame} {meth : Method} {c : Code} {D : va_G} {h : Nat → Nat} {E : Nat → Nat} {k0 : Nat → Nat × ClassId} (st : rs_T) (r : Int32) (s' : rs_T) (hf : fx_Wr_makeRoom_b84 st = some (r, s')) : ∀ (k : Nat → Nat × ClassId) (C : cxC D k p s m args meth c cX8_makeRoom 5 (some .boolean) RX8), ∀ (H : Heap) (locs : List Loc) (ls : Array Slot), lv_has ls 5 [(0, .ref (h 2))] → gdC D k h (vA E) (arC k0 h s.heap.size) s.heap H locs st → W p l e (rmA 2 90 E) s m args below meth c H locs (st.2.2.2 4 - E 4) (st.2.2.2 5 - E 5) (MQ below (uIC D k0 h E s.heap.size r s') args s (s'.2.2.2 4 - E 4) (s'.2.2.2 5 - E 5) (arC k0 h s.heap.size)) (F0 m 84 ls []) := by
  intro k C H locs ls hl G
  obtain ⟨hx, hb, hml, hr, hown, hts, hK, hN, hlk⟩ := id C
  unfold fx_Wr_makeRoom_b84 at hf
  refine lv_aload_n hx hb dX8_makeRoom_84 rfl (lv_at hl 0 rfl) ?_
  refine fg_Wr_labels (v := rI st 5) hx hb hts hown hK G (hts _ lk_X8_19) rfl dX8_makeRoom_85 ?_
  refine lv_aload_n hx hb dX8_makeRoom_88 rfl (lv_at hl 0 rfl) ?_
  refine fg_Wr_begins hx hb hts hown hK G (hts _ lk_X8_9) dX8_makeRoom_89 ?_
  refine va_alen (v := nI (rN st 1)) hx hb hK G.1 23 14 (waC_23 ..) rfl rfl dX8_makeRoom_92 ?_
  refine lv_icmp_ge (tgt := 100) hx hb dX8_makeRoom_93 (by decide) (fun c3 => ?_) (fun c3 => ?_)
  · replace hf := if_p hf c3
    refine lv_iconst (v := 0) hx hb dX8_makeRoom_100 (by decide) ?_
    exact rt_zCA C rfl G hf dX8_makeRoom_101
  · replace hf := if_n hf c3
    refine lv_iconst (v := 1) hx hb dX8_makeRoom_96 (by decide) ?_
    refine lv_goto (tgt := 101) hx hb dX8_makeRoom_97 (by decide) ?_
    exact rt_zCA C rfl G hf dX8_makeRoom_101
set_option maxHeartbeats 4000000 in
set_option maxRecDepth 100000 in
theorem kx_Wr_makeRoom (l : Launch) (D : va_G) (k : Nat → Nat × ClassId) (h : Nat → Nat) (st : rs_T) (r : Int32) (s' : rs_T) (hf : fx_Wr_makeRoom st = some (r, s')) : nIC l D k h yX8_makeRoom cX8_makeRoom 5 .boolean 2 90 [.ref (h 2)] st r s' := by
  refine nIC_of (by decide) (Nat.le_of_ble_eq_true rfl) ?_
  intro p e s m below meth c ls C hl G
  obtain ⟨hx, hb, hml, hr, hown, hts, hK, hN, hlk⟩ := id C
  have hown : s.vm.findClass RX8 = some m.cls := hown
  have hl : lv_has ls 5 [(0, .ref (h 2))] := hl
  unfold fx_Wr_makeRoom at hf
  refine lv_aload_n hx hb dX8_makeRoom_0 rfl (lv_at hl 0 rfl) ?_
  refine fg_Wr_begins hx hb hts hown hK G (hts _ lk_X8_9) dX8_makeRoom_1 ?_
  refine va_alen (v := nI (rN st 1)) hx hb hK G.1 23 14 (waC_23 ..) rfl rfl dX8_makeRoom_4 ?_
  refine lv_topi (fun v1 e_v1 => ?_)
  replace hf := bd_some hf v1 e_v1
  refine lv_istore_n (lv' := [(1, .int v1), (0, .ref (h 2))]) hx hb dX8_makeRoom_5 rfl hl (by decide) rfl (fun ls hl => ?_)
  refine lv_aload_n hx hb dX8_makeRoom_6 rfl (lv_at hl 1 rfl) ?_
  refine fg_Wr_labels (v := rI st 5) hx hb hts hown hK G (hts _ lk_X8_19) rfl dX8_makeRoom_7 ?_
  refine lv_iload_n hx hb dX8_makeRoom_10 rfl (lv_at hl 0 rfl) ?_
  refine lv_icmp_lt (tgt := 84) hx hb dX8_makeRoom_11 (by decide) (fun c2 => ?_) (fun c2 => ?_)
  · replace hf := if_p hf c2
    exact kx_Wr_makeRoom_b84 st _ _ hf _ C _ _ _ (lv_sub hl [1] rfl) G
  · replace hf := if_n hf c2
    refine lv_aload_n hx hb dX8_makeRoom_14 rfl (lv_at hl 1 rfl) ?_
    refine fg_Wr_labels (v := rI st 5) hx hb hts hown hK G (hts _ lk_X8_19) rfl dX8_makeRoom_15 ?_
    refine lv_sipush (v := 1501) hx hb dX8_makeRoom_18 (by decide) ?_
    refine lv_icmp_ge (tgt := 84) hx hb dX8_makeRoom_21 (by decide) (fun c4 => ?_) (fun c4 => ?_)
    · replace hf := if_p hf c4
      exact kx_Wr_makeRoom_b84 st _ _ hf _ C _ _ _ (lv_sub hl [1] rfl) G
    · replace hf := if_n hf c4
      refine lv_iconst (v := 2) hx hb dX8_makeRoom_24 (by decide) ?_
      refine lv_iload_n hx hb dX8_makeRoom_25 rfl (lv_at hl 0 rfl) ?_
      refine lv_imul hx hb dX8_makeRoom_26 ?_
      refine lv_sipush (v := 1501) hx hb dX8_makeRoom_27 (by decide) ?_
      have hc9 := hcA G
      refine cm_mminC C hl lk_X8_146 (Nat.le_of_ble_eq_true rfl) (Nat.le_of_ble_eq_true rfl) dX8_makeRoom_30 hc9 ?_
      refine lv_topi (fun v5 e_v5 => ?_)
      replace hf := bd_some hf v5 e_v5
      refine lv_istore_n (lv' := [(2, .int v5), (1, .int v1), (0, .ref (h 2))]) hx hb dX8_makeRoom_33 rfl hl (by decide) rfl (fun ls hl => ?_)
      obtain ⟨h_gm, hf⟩ := gm_some hf
      refine mid_Wr C (lv_sub hl [0, 1, 2] rfl) G h_gm e_v1 (Nat.le_of_ble_eq_true rfl) (Nat.le_of_ble_eq_true rfl) (fun k hK H locs ls hl G => ?_)
      have C := cxk C hK
      exact kx_Wr_makeRoom_b84 (gN st 1 v5.toNatClampNeg 2) _ _ hf _ C _ _ _ (lv_sub hl [0] rfl) G
def rm_Wr_take : Room := { frames := 1, cells := 0, slots := 0, locals := 23 }
set_option maxHeartbeats 4000000 in
set_option maxRecDepth 100000 in
theorem kx_Wr_take (l : Launch) (D : va_G) (k : Nat → Nat × ClassId) (h : Nat → Nat) (p1 : Int32) (st : rs_T) (s' : rs_T) (hf : fx_Wr_take p1 st = some s') : mVC l D k h yX8_take cX8_take 2 rm_Wr_take [.ref (h 2), .int p1] st s' := by
  refine mVC_of (by decide) ⟨rfl, rfl⟩ (Nat.le_of_ble_eq_true rfl) ?_
  intro p e s m below meth c ls C hl G
  obtain ⟨hx, hb, hml, hr, hown, hts, hK, hN, hlk⟩ := id C
  have hown : s.vm.findClass RX8 = some m.cls := hown
  have hl : lv_has ls 2 [(0, .ref (h 2)), (1, .int p1)] := hl
  unfold fx_Wr_take at hf
  refine lv_aload_n hx hb dX8_take_0 rfl (lv_at hl 0 rfl) ?_
  refine lv_aload_n hx hb dX8_take_1 rfl (lv_at hl 0 rfl) ?_
  obtain ⟨r2, st1, hst1, hf⟩ := bn_some hf
  refine cl_viC C hl G (As := []) (rest := [.ref (h 2)]) (kx_Wr_height l D k h st _ _ hst1) gi_X8_89 (hwC_2 ..) rfl hd_X8_height ⟨Nat.le_of_ble_eq_true rfl, Nat.le_of_ble_eq_true rfl⟩ rfl rfl (Nat.le_of_ble_eq_true rfl) dX8_take_2 ⟨Nat.zero_le _, Nat.zero_le _⟩ (fun H locs e0 G => ?_)
  refine lv_aload_n hx hb dX8_take_5 rfl (lv_at hl 0 rfl) ?_
  refine fg_Wr_operands (v := rI st1 6) hx hb hts hown hK G (hts _ lk_X8_23) rfl dX8_take_6 ?_
  refine lv_iload_n hx hb dX8_take_9 rfl (lv_at hl 1 rfl) ?_
  refine lv_isub hx hb dX8_take_10 ?_
  refine cm_mmaxC C hl lk_X8_187 (Nat.le_of_ble_eq_true rfl) (Nat.le_of_ble_eq_true rfl) dX8_take_11 ⟨Nat.zero_le _, Nat.zero_le _⟩ ?_
  refine fp_Wr_operands hx hb hts hown hK G (hts _ lk_X8_23) dX8_take_14 (fun H locs G => ?_)
  exact rt_vC C G hf dX8_take_17
def rm_Wr_put : Room := { frames := 1, cells := 0, slots := 0, locals := 23 }
set_option maxHeartbeats 4000000 in
set_option maxRecDepth 100000 in
theorem kx_Wr_put (l : Launch) (D : va_G) (k : Nat → Nat × ClassId) (h : Nat → Nat) (p1 : Int32) (st : rs_T) (s' : rs_T) (hf : fx_Wr_put p1 st = some s') : mVC l D k h yX8_put cX8_put 2 rm_Wr_put [.ref (h 2), .int p1] st s' := by
  refine mVC_of (by decide) ⟨rfl, rfl⟩ (Nat.le_of_ble_eq_true rfl) ?_
  intro p e s m below meth c ls C hl G
  obtain ⟨hx, hb, hml, hr, hown, hts, hK, hN, hlk⟩ := id C
  have hown : s.vm.findClass RX8 = some m.cls := hown
  have hl : lv_has ls 2 [(0, .ref (h 2)), (1, .int p1)] := hl
  unfold fx_Wr_put at hf
  refine lv_aload_n hx hb dX8_put_0 rfl (lv_at hl 0 rfl) ?_
  refine lv_dup hx hb dX8_put_1 rfl ?_
  refine fg_Wr_operands (v := rI st 6) hx hb hts hown hK G (hts _ lk_X8_23) rfl dX8_put_2 ?_
  refine lv_iload_n hx hb dX8_put_5 rfl (lv_at hl 1 rfl) ?_
  refine lv_iadd hx hb dX8_put_6 ?_
  refine fp_Wr_operands hx hb hts hown hK G (hts _ lk_X8_23) dX8_put_7 (fun H locs G => ?_)
  refine lv_aload_n hx hb dX8_put_10 rfl (lv_at hl 0 rfl) ?_
  refine fg_Wr_program hx hb hts hown hK G (hts _ lk_X8_32) dX8_put_11 ?_
  refine fg_Pr_most hx hb hts hown hK G (hts _ lk_X8_57) dX8_put_14 ?_
  refine lv_aload_n hx hb dX8_put_17 rfl (lv_at hl 0 rfl) ?_
  refine fg_Wr_program hx hb hts hown hK G (hts _ lk_X8_32) dX8_put_18 ?_
  refine fg_Pr_written (v := rI st 3) hx hb hts hown hK G (hts _ lk_X8_41) rfl dX8_put_21 ?_
  refine lv_aload_n hx hb dX8_put_24 rfl (lv_at hl 0 rfl) ?_
  refine fg_Wr_program hx hb hts hown hK G (hts _ lk_X8_32) dX8_put_25 ?_
  refine fg_Pr_most hx hb hts hown hK G (hts _ lk_X8_57) dX8_put_28 ?_
  refine lv_aload_n hx hb dX8_put_31 rfl (lv_at hl 0 rfl) ?_
  refine fg_Wr_program hx hb hts hown hK G (hts _ lk_X8_32) dX8_put_32 ?_
  refine fg_Pr_written (v := rI st 3) hx hb hts hown hK G (hts _ lk_X8_41) rfl dX8_put_35 ?_
  obtain ⟨h_g1, hf⟩ := gd_some hf
  refine ra_IC (v := rA st 3 ((rI st 3).toNatClampNeg)) hx hb hK G (waC_13 ..) (t0 := 4) rfl rfl h_g1 dX8_put_38 ?_
  refine lv_aload_n hx hb dX8_put_39 rfl (lv_at hl 0 rfl) ?_
  refine fg_Wr_operands (v := (rI st 6) + p1) hx hb hts hown hK G (hts _ lk_X8_23) rfl dX8_put_40 ?_
  refine cm_mmaxC C hl lk_X8_187 (Nat.le_of_ble_eq_true rfl) (Nat.le_of_ble_eq_true rfl) dX8_put_43 ⟨Nat.zero_le _, Nat.zero_le _⟩ ?_
  obtain ⟨h_g2, hf⟩ := gd_some hf
  refine rw_IC hx hb hK G (waC_13 ..) (t0 := 4) rfl (wsC_13 ..) (zw_13 h_g2) rfl h_g2 dX8_put_46 (fun H locs G => ?_)
  exact rt_vC C G hf dX8_put_47
set_option maxHeartbeats 4000000 in
set_option maxRecDepth 100000 in
theorem kx_Wr_admitsBegin (l : Launch) (D : va_G) (k : Nat → Nat × ClassId) (h : Nat → Nat) (p1 : Int32) (p2 : Int32) (p3 : Int32) (st : rs_T) (r : Int32) (s' : rs_T) (hf : fx_Wr_admitsBegin p1 p2 p3 st = some (r, s')) : nIC l D k h yX8_admitsBegin cX8_admitsBegin 5 .boolean 3 114 [.ref (h 2), .int p1, .int p2, .int p3] st r s' := by
  refine nIC_of (by decide) (Nat.le_of_ble_eq_true rfl) ?_
  intro p e s m below meth c ls C hl G
  obtain ⟨hx, hb, hml, hr, hown, hts, hK, hN, hlk⟩ := id C
  have hown : s.vm.findClass RX8 = some m.cls := hown
  have hl : lv_has ls 5 [(0, .ref (h 2)), (1, .int p1), (2, .int p2), (3, .int p3)] := hl
  unfold fx_Wr_admitsBegin at hf
  refine lv_iload_n hx hb dX8_admitsBegin_0 rfl (lv_at hl 1 rfl) ?_
  refine lv_iconst (v := 4) hx hb dX8_admitsBegin_1 (by decide) ?_
  have hc9 := hcA G
  obtain ⟨r2, st1, hst1, hf⟩ := bn_some hf
  refine cl_niC C hl G (As := [.int p1, .int 4]) (rest := []) (kx_Ma_isWithin l D k h p1 4 st _ _ hst1) lk_X8_44 st_X9_isWithin in_X9 gj_X9_isWithin hd_X9_isWithin ⟨Nat.le_of_ble_eq_true rfl, Nat.le_of_ble_eq_true rfl⟩ rfl rfl (Nat.le_of_ble_eq_true rfl) dX8_admitsBegin_2 hc9 (fun H locs e0 G => ?_)
  refine cs_eq e0 ?_
  refine lv_if_eq (tgt := 33) hx hb dX8_admitsBegin_5 (by decide) (fun c3 => ?_) (fun c3 => ?_)
  · replace hf := if_p hf c3
    refine lv_iconst (v := 0) hx hb dX8_admitsBegin_33 (by decide) ?_
    exact rt_zCA C rfl G hf dX8_admitsBegin_34
  · replace hf := if_n hf c3
    refine lv_iload_n hx hb dX8_admitsBegin_8 rfl (lv_at hl 2 rfl) ?_
    refine lv_iconst (v := 4) hx hb dX8_admitsBegin_9 (by decide) ?_
    have hc9 := hcA G
    obtain ⟨r5, st4, hst4, hf⟩ := bn_some hf
    refine cl_niC C hl G (As := [.int p2, .int 4]) (rest := []) (kx_Ma_isWithin l D k h p2 4 st1 _ _ hst4) lk_X8_44 st_X9_isWithin in_X9 gj_X9_isWithin hd_X9_isWithin ⟨Nat.le_of_ble_eq_true rfl, Nat.le_of_ble_eq_true rfl⟩ rfl rfl (Nat.le_of_ble_eq_true rfl) dX8_admitsBegin_10 hc9 (fun H locs e0 G => ?_)
    refine cs_eq e0 ?_
    refine lv_if_eq (tgt := 33) hx hb dX8_admitsBegin_13 (by decide) (fun c6 => ?_) (fun c6 => ?_)
    · replace hf := if_p hf c6
      refine lv_iconst (v := 0) hx hb dX8_admitsBegin_33 (by decide) ?_
      exact rt_zCA C rfl G hf dX8_admitsBegin_34
    · replace hf := if_n hf c6
      refine lv_aload_n hx hb dX8_admitsBegin_16 rfl (lv_at hl 0 rfl) ?_
      refine lv_iload_n hx hb dX8_admitsBegin_17 rfl (lv_at hl 1 rfl) ?_
      refine lv_iload_n hx hb dX8_admitsBegin_18 rfl (lv_at hl 3 rfl) ?_
      refine lv_iadd hx hb dX8_admitsBegin_19 ?_
      have hc9 := hcA G
      obtain ⟨r8, st7, hst7, hf⟩ := bn_some hf
      refine cl_viC C hl G (As := [.int (p1 + p3)]) (rest := []) (kx_Wr_has l D k h (p1 + p3) st4 _ _ hst7) gi_X8_127 (hwC_2 ..) rfl hd_X8_has ⟨Nat.le_of_ble_eq_true rfl, Nat.le_of_ble_eq_true rfl⟩ rfl rfl (Nat.le_of_ble_eq_true rfl) dX8_admitsBegin_20 hc9 (fun H locs e0 G => ?_)
      refine cs_eq e0 ?_
      refine lv_if_eq (tgt := 33) hx hb dX8_admitsBegin_23 (by decide) (fun c9 => ?_) (fun c9 => ?_)
      · replace hf := if_p hf c9
        refine lv_iconst (v := 0) hx hb dX8_admitsBegin_33 (by decide) ?_
        exact rt_zCA C rfl G hf dX8_admitsBegin_34
      · replace hf := if_n hf c9
        refine lv_aload_n hx hb dX8_admitsBegin_26 rfl (lv_at hl 0 rfl) ?_
        have hc9 := hcA G
        obtain ⟨r11, st10, hst10, hf⟩ := bn_some hf
        refine cb_viC C hl G (As := []) (rest := []) (kx_Wr_makeRoom l D k h st7 _ _ hst10) gi_X8_130 (hwC_2 ..) rfl hd_X8_makeRoom ⟨Nat.le_of_ble_eq_true rfl, Nat.le_of_ble_eq_true rfl⟩ rfl rfl (Nat.le_of_ble_eq_true rfl) dX8_admitsBegin_27 (fun k hK H locs G => ?_)
        have C := cxk C hK
        refine lv_if_ne (tgt := 35) hx hb dX8_admitsBegin_30 (by decide) (fun c12 => ?_) (fun c12 => ?_)
        · replace hf := if_n hf c12
          refine lv_aload_n hx hb dX8_admitsBegin_35 rfl (lv_at hl 0 rfl) ?_
          refine fg_Wr_program hx hb hts hown hK G (hts _ lk_X8_32) dX8_admitsBegin_36 ?_
          refine fg_Pr_size (v := rI st10 4) hx hb hts hown hK G (hts _ lk_X8_66) rfl dX8_admitsBegin_39 ?_
          refine lv_topi (fun v13 e_v13 => ?_)
          replace hf := bd_some hf v13 e_v13
          refine lv_istore (lv' := [(4, .int v13), (0, .ref (h 2)), (1, .int p1), (2, .int p2), (3, .int p3)]) hx hb dX8_admitsBegin_42 hl (by decide) rfl (fun ls hl => ?_)
          refine lv_aload_n hx hb dX8_admitsBegin_44 rfl (lv_at hl 1 rfl) ?_
          refine lv_iload_n hx hb dX8_admitsBegin_45 rfl (lv_at hl 2 rfl) ?_
          refine lv_iload_n hx hb dX8_admitsBegin_46 rfl (lv_at hl 4 rfl) ?_
          refine lv_iadd hx hb dX8_admitsBegin_47 ?_
          have hc9 := hcA G
          obtain ⟨st14, hst14, hf⟩ := bv_some hf
          refine cl_vvC C hl G (As := [.int (p1 + p3)]) (rest := []) (kx_Wr_take l D k h (p1 + p3) st10 _ hst14) gi_X8_131 (hwC_2 ..) rfl hd_X8_take ⟨Nat.le_of_ble_eq_true rfl, Nat.le_of_ble_eq_true rfl⟩ rfl rfl (Nat.le_of_ble_eq_true rfl) dX8_admitsBegin_48 hc9 (fun H locs e0 G => ?_)
          refine cs_eq e0 ?_
          refine lv_aload_n hx hb dX8_admitsBegin_51 rfl (lv_at hl 1 rfl) ?_
          refine fg_Wr_program hx hb hts hown hK G (hts _ lk_X8_32) dX8_admitsBegin_52 ?_
          refine fg_Pr_height hx hb hts hown hK G (hts _ lk_X8_135) dX8_admitsBegin_55 ?_
          refine lv_iload hx hb dX8_admitsBegin_58 (lv_at hl 0 rfl) ?_
          refine lv_aload_n hx hb dX8_admitsBegin_60 rfl (lv_at hl 1 rfl) ?_
          refine fg_Wr_operands (v := rI st14 6) hx hb hts hown hK G (hts _ lk_X8_23) rfl dX8_admitsBegin_61 ?_
          obtain ⟨h_g15, hf⟩ := gd_some hf
          refine rw_IC hx hb hK G (waC_22 ..) (t0 := 13) rfl (wsC_22 ..) (zw_22 h_g15) rfl h_g15 dX8_admitsBegin_64 (fun H locs G => ?_)
          refine lv_aload_n hx hb dX8_admitsBegin_65 rfl (lv_at hl 1 rfl) ?_
          refine fg_Wr_program hx hb hts hown hK G (hts _ lk_X8_32) dX8_admitsBegin_66 ?_
          refine fg_Pr_link hx hb hts hown hK G (hts _ lk_X8_137) dX8_admitsBegin_69 ?_
          refine lv_iload hx hb dX8_admitsBegin_72 (lv_at hl 0 rfl) ?_
          refine lv_iconst (v := (-1)) hx hb dX8_admitsBegin_74 (by decide) ?_
          obtain ⟨h_g16, hf⟩ := gd_some hf
          refine rw_IC hx hb hK G (waC_20 ..) (t0 := 11) rfl (wsC_20 ..) (zw_20 h_g16) rfl h_g16 dX8_admitsBegin_75 (fun H locs G => ?_)
          refine lv_aload_n hx hb dX8_admitsBegin_76 rfl (lv_at hl 1 rfl) ?_
          refine fg_Wr_program hx hb hts hown hK G (hts _ lk_X8_32) dX8_admitsBegin_77 ?_
          refine fg_Pr_other hx hb hts hown hK G (hts _ lk_X8_140) dX8_admitsBegin_80 ?_
          refine lv_iload hx hb dX8_admitsBegin_83 (lv_at hl 0 rfl) ?_
          refine lv_iconst (v := (-1)) hx hb dX8_admitsBegin_85 (by decide) ?_
          obtain ⟨h_g17, hf⟩ := gd_some hf
          refine rw_IC hx hb hK G (waC_21 ..) (t0 := 12) rfl (wsC_21 ..) (zw_21 h_g17) rfl h_g17 dX8_admitsBegin_86 (fun H locs G => ?_)
          refine lv_aload_n hx hb dX8_admitsBegin_87 rfl (lv_at hl 1 rfl) ?_
          refine fg_Wr_begins hx hb hts hown hK G (hts _ lk_X8_9) dX8_admitsBegin_88 ?_
          refine lv_aload_n hx hb dX8_admitsBegin_91 rfl (lv_at hl 1 rfl) ?_
          refine fg_Wr_labels (v := rI st14 5) hx hb hts hown hK G (hts _ lk_X8_19) rfl dX8_admitsBegin_92 ?_
          refine lv_iload hx hb dX8_admitsBegin_95 (lv_at hl 0 rfl) ?_
          obtain ⟨h_g18, hf⟩ := gd_some hf
          refine rw_IC hx hb hK G (waC_23 ..) (t0 := 14) rfl (wsC_23 ..) (zw_23 h_g18) rfl h_g18 dX8_admitsBegin_97 (fun H locs G => ?_)
          refine lv_aload_n hx hb dX8_admitsBegin_98 rfl (lv_at hl 1 rfl) ?_
          refine fg_Wr_dead hx hb hts hown hK G (hts _ lk_X8_15) dX8_admitsBegin_99 ?_
          refine lv_aload_n hx hb dX8_admitsBegin_102 rfl (lv_at hl 1 rfl) ?_
          refine fg_Wr_labels (v := rI st14 5) hx hb hts hown hK G (hts _ lk_X8_19) rfl dX8_admitsBegin_103 ?_
          refine lv_iconst (v := 0) hx hb dX8_admitsBegin_106 (by decide) ?_
          obtain ⟨h_g19, hf⟩ := gd_some hf
          refine rw_ZC hx hb hK G (waC_24 ..) (t0 := 15) rfl (wsC_24 ..) (zw_24 h_g19 rfl) rfl rfl h_g19 dX8_admitsBegin_107 (fun H locs G => ?_)
          refine lv_aload_n hx hb dX8_admitsBegin_108 rfl (lv_at hl 1 rfl) ?_
          refine lv_dup hx hb dX8_admitsBegin_109 rfl ?_
          refine fg_Wr_labels (v := rI st14 5) hx hb hts hown hK G (hts _ lk_X8_19) rfl dX8_admitsBegin_110 ?_
          refine lv_iconst (v := 1) hx hb dX8_admitsBegin_113 (by decide) ?_
          refine lv_iadd hx hb dX8_admitsBegin_114 ?_
          refine fp_Wr_labels hx hb hts hown hK G (hts _ lk_X8_19) dX8_admitsBegin_115 (fun H locs G => ?_)
          refine lv_aload_n hx hb dX8_admitsBegin_118 rfl (lv_at hl 1 rfl) ?_
          refine lv_iload_n hx hb dX8_admitsBegin_119 rfl (lv_at hl 2 rfl) ?_
          have hc9 := hcA G
          obtain ⟨st20, hst20, hf⟩ := bv_some hf
          refine cl_vvC C hl G (As := [.int p1]) (rest := []) (kx_Wr_put l D k h p1 (wI (wA (wA (wA (wA (wA st14 12 v13.toNatClampNeg (rI st14 6)) 10 v13.toNatClampNeg (-1)) 11 v13.toNatClampNeg (-1)) 13 ((rI st14 5).toNatClampNeg) v13) 14 ((rI st14 5).toNatClampNeg) 0) 5 ((rI st14 5) + 1)) _ hst20) gi_X8_143 (hwC_2 ..) rfl hd_X8_put ⟨Nat.le_of_ble_eq_true rfl, Nat.le_of_ble_eq_true rfl⟩ rfl rfl (Nat.le_of_ble_eq_true rfl) dX8_admitsBegin_120 hc9 (fun H locs e0 G => ?_)
          refine cs_eq e0 ?_
          refine lv_iconst (v := 1) hx hb dX8_admitsBegin_123 (by decide) ?_
          exact rt_zCA C rfl G hf dX8_admitsBegin_124
        · replace hf := if_p hf c12
          refine lv_iconst (v := 0) hx hb dX8_admitsBegin_33 (by decide) ?_
          exact rt_zCA C rfl G hf dX8_admitsBegin_34
def rm_Wr_isIfWithoutElse : Room := { frames := 0, cells := 0, slots := 0, locals := 0 }
set_option maxHeartbeats 4000000 in
set_option maxRecDepth 100000 in
theorem kx_Wr_isIfWithoutElse (l : Launch) (D : va_G) (k : Nat → Nat × ClassId) (h : Nat → Nat) (p1 : Int32) (st : rs_T) (r : Int32) (s' : rs_T) (hf : fx_Wr_isIfWithoutElse p1 st = some (r, s')) : mIC l D k h yX8_isIfWithoutElse cX8_isIfWithoutElse 2 .boolean rm_Wr_isIfWithoutElse [.ref (h 2), .int p1] st r s' := by
  refine mIC_of (by decide) ⟨rfl, rfl⟩ (Nat.le_of_ble_eq_true rfl) ?_
  intro p e s m below meth c ls C hl G
  obtain ⟨hx, hb, hml, hr, hown, hts, hK, hN, hlk⟩ := id C
  have hown : s.vm.findClass RX8 = some m.cls := hown
  have hl : lv_has ls 2 [(0, .ref (h 2)), (1, .int p1)] := hl
  unfold fx_Wr_isIfWithoutElse at hf
  refine lv_iload_n hx hb dX8_isIfWithoutElse_0 rfl (lv_at hl 1 rfl) ?_
  refine lv_iconst (v := (-1)) hx hb dX8_isIfWithoutElse_1 (by decide) ?_
  refine lv_icmp_eq (tgt := 35) hx hb dX8_isIfWithoutElse_2 (by decide) (fun c1 => ?_) (fun c1 => ?_)
  · replace hf := if_p hf c1
    refine lv_iconst (v := 0) hx hb dX8_isIfWithoutElse_35 (by decide) ?_
    exact rt_zC C rfl G hf dX8_isIfWithoutElse_36
  · replace hf := if_n hf c1
    refine lv_aload_n hx hb dX8_isIfWithoutElse_5 rfl (lv_at hl 0 rfl) ?_
    refine fg_Wr_program hx hb hts hown hK G (hts _ lk_X8_32) dX8_isIfWithoutElse_6 ?_
    refine fg_Pr_operation hx hb hts hown hK G (hts _ lk_X8_80) dX8_isIfWithoutElse_9 ?_
    refine lv_iload_n hx hb dX8_isIfWithoutElse_12 rfl (lv_at hl 1 rfl) ?_
    obtain ⟨h_g2, hf⟩ := gd_some hf
    refine ra_IC (v := rA st 7 p1.toNatClampNeg) hx hb hK G (waC_17 ..) (t0 := 8) rfl rfl h_g2 dX8_isIfWithoutElse_13 ?_
    refine lv_iconst (v := 4) hx hb dX8_isIfWithoutElse_14 (by decide) ?_
    refine lv_icmp_ne (tgt := 35) hx hb dX8_isIfWithoutElse_15 (by decide) (fun c3 => ?_) (fun c3 => ?_)
    · replace hf := if_n hf c3
      refine lv_iconst (v := 0) hx hb dX8_isIfWithoutElse_35 (by decide) ?_
      exact rt_zC C rfl G hf dX8_isIfWithoutElse_36
    · replace hf := if_p hf c3
      refine lv_aload_n hx hb dX8_isIfWithoutElse_18 rfl (lv_at hl 0 rfl) ?_
      refine fg_Wr_program hx hb hts hown hK G (hts _ lk_X8_32) dX8_isIfWithoutElse_19 ?_
      refine fg_Pr_other hx hb hts hown hK G (hts _ lk_X8_140) dX8_isIfWithoutElse_22 ?_
      refine lv_iload_n hx hb dX8_isIfWithoutElse_25 rfl (lv_at hl 1 rfl) ?_
      obtain ⟨h_g4, hf⟩ := gd_some hf
      refine ra_IC (v := rA st 11 p1.toNatClampNeg) hx hb hK G (waC_21 ..) (t0 := 12) rfl rfl h_g4 dX8_isIfWithoutElse_26 ?_
      refine lv_iconst (v := (-1)) hx hb dX8_isIfWithoutElse_27 (by decide) ?_
      refine lv_icmp_ne (tgt := 35) hx hb dX8_isIfWithoutElse_28 (by decide) (fun c5 => ?_) (fun c5 => ?_)
      · replace hf := if_n hf c5
        refine lv_iconst (v := 0) hx hb dX8_isIfWithoutElse_35 (by decide) ?_
        exact rt_zC C rfl G hf dX8_isIfWithoutElse_36
      · replace hf := if_p hf c5
        refine lv_iconst (v := 1) hx hb dX8_isIfWithoutElse_31 (by decide) ?_
        refine lv_goto (tgt := 36) hx hb dX8_isIfWithoutElse_32 (by decide) ?_
        exact rt_zC C rfl G hf dX8_isIfWithoutElse_36
def rm_Pr_resultsOf : Room := { frames := 0, cells := 0, slots := 0, locals := 0 }
set_option maxHeartbeats 4000000 in
set_option maxRecDepth 100000 in
theorem kx_Pr_resultsOf (l : Launch) (D : va_G) (k : Nat → Nat × ClassId) (h : Nat → Nat) (p1 : Int32) (p2 : Int32) (st : rs_T) (r : Int32) (s' : rs_T) (hf : fx_Pr_resultsOf p1 p2 st = some (r, s')) : mIC l D k h yX3_resultsOf cX3_resultsOf 3 .int rm_Pr_resultsOf [.ref (h 1), .int p1, .int p2] st r s' := by
  refine mIC_of (by decide) ⟨rfl, rfl⟩ (Nat.le_of_ble_eq_true rfl) ?_
  intro p e s m below meth c ls C hl G
  obtain ⟨hx, hb, hml, hr, hown, hts, hK, hN, hlk⟩ := id C
  have hown : s.vm.findClass RX3 = some m.cls := hown
  have hl : lv_has ls 3 [(0, .ref (h 1)), (1, .int p1), (2, .int p2)] := hl
  unfold fx_Pr_resultsOf at hf
  refine lv_iload_n hx hb dX3_resultsOf_0 rfl (lv_at hl 1 rfl) ?_
  refine lv_iconst (v := (-1)) hx hb dX3_resultsOf_1 (by decide) ?_
  refine lv_icmp_ne (tgt := 14) hx hb dX3_resultsOf_2 (by decide) (fun c1 => ?_) (fun c1 => ?_)
  · replace hf := if_n hf c1
    refine lv_aload_n hx hb dX3_resultsOf_14 rfl (lv_at hl 0 rfl) ?_
    refine fg_Pr_b hx hb hts hown hK G (hts _ lk_X3_39) dX3_resultsOf_15 ?_
    refine lv_iload_n hx hb dX3_resultsOf_18 rfl (lv_at hl 1 rfl) ?_
    obtain ⟨h_g2, hf⟩ := gd_some hf
    refine ra_IC (v := rA st 9 p1.toNatClampNeg) hx hb hK G (waC_19 ..) (t0 := 10) rfl rfl h_g2 dX3_resultsOf_19 ?_
    exact rt_iC C G hf dX3_resultsOf_20
  · replace hf := if_p hf c1
    refine lv_aload_n hx hb dX3_resultsOf_5 rfl (lv_at hl 0 rfl) ?_
    refine fg_Pr_results hx hb hts hown hK G (hts _ lk_X3_15) dX3_resultsOf_6 ?_
    refine lv_iload_n hx hb dX3_resultsOf_9 rfl (lv_at hl 2 rfl) ?_
    obtain ⟨h_g3, hf⟩ := gd_some hf
    refine ra_IC (v := rA st 1 p2.toNatClampNeg) hx hb hK G (waC_11 ..) (t0 := 2) rfl rfl h_g3 dX3_resultsOf_10 ?_
    refine lv_goto (tgt := 20) hx hb dX3_resultsOf_11 (by decide) ?_
    exact rt_iC C G hf dX3_resultsOf_20
def rm_Wr_isReadyToEnd : Room := { frames := 1, cells := 0, slots := 0, locals := 22 }
set_option maxHeartbeats 4000000 in
set_option maxRecDepth 100000 in
theorem kx_Wr_isReadyToEnd (l : Launch) (D : va_G) (k : Nat → Nat × ClassId) (h : Nat → Nat) (st : rs_T) (r : Int32) (s' : rs_T) (hf : fx_Wr_isReadyToEnd st = some (r, s')) : mIC l D k h yX8_isReadyToEnd cX8_isReadyToEnd 3 .boolean rm_Wr_isReadyToEnd [.ref (h 2)] st r s' := by
  refine mIC_of (by decide) ⟨rfl, rfl⟩ (Nat.le_of_ble_eq_true rfl) ?_
  intro p e s m below meth c ls C hl G
  obtain ⟨hx, hb, hml, hr, hown, hts, hK, hN, hlk⟩ := id C
  have hown : s.vm.findClass RX8 = some m.cls := hown
  have hl : lv_has ls 3 [(0, .ref (h 2))] := hl
  unfold fx_Wr_isReadyToEnd at hf
  refine lv_aload_n hx hb dX8_isReadyToEnd_0 rfl (lv_at hl 0 rfl) ?_
  refine fg_Wr_program hx hb hts hown hK G (hts _ lk_X8_32) dX8_isReadyToEnd_1 ?_
  refine lv_aload_n hx hb dX8_isReadyToEnd_4 rfl (lv_at hl 0 rfl) ?_
  refine fg_Wr_begins hx hb hts hown hK G (hts _ lk_X8_9) dX8_isReadyToEnd_5 ?_
  refine lv_aload_n hx hb dX8_isReadyToEnd_8 rfl (lv_at hl 0 rfl) ?_
  refine fg_Wr_labels (v := rI st 5) hx hb hts hown hK G (hts _ lk_X8_19) rfl dX8_isReadyToEnd_9 ?_
  refine lv_iconst (v := 1) hx hb dX8_isReadyToEnd_12 (by decide) ?_
  refine lv_isub hx hb dX8_isReadyToEnd_13 ?_
  obtain ⟨h_g1, hf⟩ := gd_some hf
  refine ra_IC (v := rA st 13 (((rI st 5) - 1).toNatClampNeg)) hx hb hK G (waC_23 ..) (t0 := 14) rfl rfl h_g1 dX8_isReadyToEnd_14 ?_
  refine lv_aload_n hx hb dX8_isReadyToEnd_15 rfl (lv_at hl 0 rfl) ?_
  refine fg_Wr_program hx hb hts hown hK G (hts _ lk_X8_32) dX8_isReadyToEnd_16 ?_
  refine fg_Pr_written (v := rI st 3) hx hb hts hown hK G (hts _ lk_X8_41) rfl dX8_isReadyToEnd_19 ?_
  obtain ⟨r3, st2, hst2, hf⟩ := bn_some hf
  refine cl_viC C hl G (As := [.int (rA st 13 (((rI st 5) - 1).toNatClampNeg)), .int (rI st 3)]) (rest := []) (kx_Pr_resultsOf l D k h (rA st 13 (((rI st 5) - 1).toNatClampNeg)) (rI st 3) st _ _ hst2) gi_X8_182 (hwC_1 ..) rfl hd_X3_resultsOf ⟨Nat.le_of_ble_eq_true rfl, Nat.le_of_ble_eq_true rfl⟩ rfl rfl (Nat.le_of_ble_eq_true rfl) dX8_isReadyToEnd_22 ⟨Nat.zero_le _, Nat.zero_le _⟩ (fun H locs e0 G => ?_)
  refine lv_istore_n (lv' := [(1, .int r3), (0, .ref (h 2))]) hx hb dX8_isReadyToEnd_25 rfl hl (by decide) rfl (fun ls hl => ?_)
  refine lv_aload_n hx hb dX8_isReadyToEnd_26 rfl (lv_at hl 1 rfl) ?_
  refine fg_Wr_operands (v := rI st2 6) hx hb hts hown hK G (hts _ lk_X8_23) rfl dX8_isReadyToEnd_27 ?_
  refine lv_aload_n hx hb dX8_isReadyToEnd_30 rfl (lv_at hl 1 rfl) ?_
  obtain ⟨r5, st4, hst4, hf⟩ := bn_some hf
  refine cl_viC C hl G (As := []) (rest := [.int (rI st2 6)]) (kx_Wr_height l D k h st2 _ _ hst4) gi_X8_89 (hwC_2 ..) rfl hd_X8_height ⟨Nat.le_of_ble_eq_true rfl, Nat.le_of_ble_eq_true rfl⟩ rfl rfl (Nat.le_of_ble_eq_true rfl) dX8_isReadyToEnd_31 ⟨Nat.zero_le _, Nat.zero_le _⟩ (fun H locs e0 G => ?_)
  refine lv_isub hx hb dX8_isReadyToEnd_34 ?_
  refine lv_topi (fun v6 e_v6 => ?_)
  replace hf := bd_some hf v6 e_v6
  refine lv_istore_n (lv' := [(2, .int v6), (1, .int r3), (0, .ref (h 2))]) hx hb dX8_isReadyToEnd_35 rfl hl (by decide) rfl (fun ls hl => ?_)
  refine lv_aload_n hx hb dX8_isReadyToEnd_36 rfl (lv_at hl 2 rfl) ?_
  refine fg_Wr_dead hx hb hts hown hK G (hts _ lk_X8_15) dX8_isReadyToEnd_37 ?_
  refine lv_aload_n hx hb dX8_isReadyToEnd_40 rfl (lv_at hl 2 rfl) ?_
  refine fg_Wr_labels (v := rI st4 5) hx hb hts hown hK G (hts _ lk_X8_19) rfl dX8_isReadyToEnd_41 ?_
  refine lv_iconst (v := 1) hx hb dX8_isReadyToEnd_44 (by decide) ?_
  refine lv_isub hx hb dX8_isReadyToEnd_45 ?_
  obtain ⟨h_g7, hf⟩ := gd_some hf
  refine ra_ZC (v := rA st4 14 (((rI st4 5) - 1).toNatClampNeg)) hx hb hK G (waC_24 ..) (t0 := 15) rfl rfl h_g7 dX8_isReadyToEnd_46 ?_
  refine lv_if_eq (tgt := 63) hx hb dX8_isReadyToEnd_47 (by decide) (fun c8 => ?_) (fun c8 => ?_)
  · replace hf := if_p hf c8
    refine lv_iload_n hx hb dX8_isReadyToEnd_63 rfl (lv_at hl 0 rfl) ?_
    refine lv_iload_n hx hb dX8_isReadyToEnd_64 rfl (lv_at hl 1 rfl) ?_
    refine lv_icmp_ne (tgt := 72) hx hb dX8_isReadyToEnd_65 (by decide) (fun c9 => ?_) (fun c9 => ?_)
    · replace hf := if_n hf c9
      refine lv_iconst (v := 0) hx hb dX8_isReadyToEnd_72 (by decide) ?_
      exact rt_zC C rfl G hf dX8_isReadyToEnd_73
    · replace hf := if_p hf c9
      refine lv_iconst (v := 1) hx hb dX8_isReadyToEnd_68 (by decide) ?_
      refine lv_goto (tgt := 73) hx hb dX8_isReadyToEnd_69 (by decide) ?_
      exact rt_zC C rfl G hf dX8_isReadyToEnd_73
  · replace hf := if_n hf c8
    refine lv_iload_n hx hb dX8_isReadyToEnd_50 rfl (lv_at hl 0 rfl) ?_
    refine lv_iload_n hx hb dX8_isReadyToEnd_51 rfl (lv_at hl 1 rfl) ?_
    refine lv_icmp_gt (tgt := 59) hx hb dX8_isReadyToEnd_52 (by decide) (fun c10 => ?_) (fun c10 => ?_)
    · replace hf := if_p hf c10
      refine lv_iconst (v := 0) hx hb dX8_isReadyToEnd_59 (by decide) ?_
      refine lv_goto (tgt := 73) hx hb dX8_isReadyToEnd_60 (by decide) ?_
      exact rt_zC C rfl G hf dX8_isReadyToEnd_73
    · replace hf := if_n hf c10
      refine lv_iconst (v := 1) hx hb dX8_isReadyToEnd_55 (by decide) ?_
      refine lv_goto (tgt := 73) hx hb dX8_isReadyToEnd_56 (by decide) ?_
      exact rt_zC C rfl G hf dX8_isReadyToEnd_73
