def rm_Wr_admitsElse : Room := { frames := 2, cells := 0, slots := 0, locals := 44 }
set_option maxHeartbeats 4000000 in
set_option maxRecDepth 100000 in
theorem kx_Wr_admitsElse (l : Launch) (D : va_G) (k : Nat → Nat × ClassId) (h : Nat → Nat) (st : rs_T) (r : Int32) (s' : rs_T) (hf : fx_Wr_admitsElse st = some (r, s')) : mIC l D k h yX8_admitsElse cX8_admitsElse 3 .boolean rm_Wr_admitsElse [.ref (h 2)] st r s' := by
  refine mIC_of (by decide) ⟨rfl, rfl⟩ (Nat.le_of_ble_eq_true rfl) ?_
  intro p e s m below meth c ls C hl G
  obtain ⟨hx, hb, hml, hr, hown, hts, hK, hN, hlk⟩ := id C
  have hown : s.vm.findClass RX8 = some m.cls := hown
  have hl : lv_has ls 3 [(0, .ref (h 2))] := hl
  unfold fx_Wr_admitsElse at hf
  refine lv_aload_n hx hb dX8_admitsElse_0 rfl (lv_at hl 0 rfl) ?_
  refine fg_Wr_begins hx hb hts hown hK G (hts _ lk_X8_9) dX8_admitsElse_1 ?_
  refine lv_aload_n hx hb dX8_admitsElse_4 rfl (lv_at hl 0 rfl) ?_
  refine fg_Wr_labels (v := rI st 5) hx hb hts hown hK G (hts _ lk_X8_19) rfl dX8_admitsElse_5 ?_
  refine lv_iconst (v := 1) hx hb dX8_admitsElse_8 (by decide) ?_
  refine lv_isub hx hb dX8_admitsElse_9 ?_
  obtain ⟨h_g1, hf⟩ := gd_some hf
  refine ra_IC (v := rA st 13 (((rI st 5) - 1).toNatClampNeg)) hx hb hK G (waC_23 ..) (t0 := 14) rfl rfl h_g1 dX8_admitsElse_10 ?_
  refine lv_topi (fun v2 e_v2 => ?_)
  replace hf := bd_some hf v2 e_v2
  refine lv_istore_n (lv' := [(1, .int v2), (0, .ref (h 2))]) hx hb dX8_admitsElse_11 rfl hl (by decide) rfl (fun ls hl => ?_)
  refine lv_aload_n hx hb dX8_admitsElse_12 rfl (lv_at hl 1 rfl) ?_
  refine lv_iload_n hx hb dX8_admitsElse_13 rfl (lv_at hl 0 rfl) ?_
  obtain ⟨r4, st3, hst3, hf⟩ := bn_some hf
  refine cl_viC C hl G (As := [.int v2]) (rest := []) (kx_Wr_isIfWithoutElse l D k h v2 st _ _ hst3) gi_X8_158 (hwC_2 ..) rfl hd_X8_isIfWithoutElse ⟨Nat.le_of_ble_eq_true rfl, Nat.le_of_ble_eq_true rfl⟩ rfl rfl (Nat.le_of_ble_eq_true rfl) dX8_admitsElse_14 ⟨Nat.zero_le _, Nat.zero_le _⟩ (fun H locs e0 G => ?_)
  refine lv_if_eq (tgt := 27) hx hb dX8_admitsElse_17 (by decide) (fun c5 => ?_) (fun c5 => ?_)
  · replace hf := if_p hf c5
    refine lv_iconst (v := 0) hx hb dX8_admitsElse_27 (by decide) ?_
    exact rt_zC C rfl G hf dX8_admitsElse_28
  · replace hf := if_n hf c5
    refine lv_aload_n hx hb dX8_admitsElse_20 rfl (lv_at hl 1 rfl) ?_
    obtain ⟨r7, st6, hst6, hf⟩ := bn_some hf
    refine cl_viC C hl G (As := []) (rest := []) (kx_Wr_isReadyToEnd l D k h st3 _ _ hst6) gi_X8_161 (hwC_2 ..) rfl hd_X8_isReadyToEnd ⟨Nat.le_of_ble_eq_true rfl, Nat.le_of_ble_eq_true rfl⟩ rfl rfl (Nat.le_of_ble_eq_true rfl) dX8_admitsElse_21 ⟨Nat.zero_le _, Nat.zero_le _⟩ (fun H locs e0 G => ?_)
    refine lv_if_ne (tgt := 29) hx hb dX8_admitsElse_24 (by decide) (fun c8 => ?_) (fun c8 => ?_)
    · replace hf := if_n hf c8
      refine lv_aload_n hx hb dX8_admitsElse_29 rfl (lv_at hl 1 rfl) ?_
      refine fg_Wr_program hx hb hts hown hK G (hts _ lk_X8_32) dX8_admitsElse_30 ?_
      refine fg_Pr_size (v := rI st6 4) hx hb hts hown hK G (hts _ lk_X8_66) rfl dX8_admitsElse_33 ?_
      refine lv_topi (fun v9 e_v9 => ?_)
      replace hf := bd_some hf v9 e_v9
      refine lv_istore_n (lv' := [(2, .int v9), (1, .int v2), (0, .ref (h 2))]) hx hb dX8_admitsElse_36 rfl hl (by decide) rfl (fun ls hl => ?_)
      refine lv_aload_n hx hb dX8_admitsElse_37 rfl (lv_at hl 2 rfl) ?_
      refine fg_Wr_program hx hb hts hown hK G (hts _ lk_X8_32) dX8_admitsElse_38 ?_
      refine fg_Pr_other hx hb hts hown hK G (hts _ lk_X8_140) dX8_admitsElse_41 ?_
      refine lv_iload_n hx hb dX8_admitsElse_44 rfl (lv_at hl 1 rfl) ?_
      refine lv_iload_n hx hb dX8_admitsElse_45 rfl (lv_at hl 0 rfl) ?_
      obtain ⟨h_g10, hf⟩ := gd_some hf
      refine rw_IC hx hb hK G (waC_21 ..) (t0 := 12) rfl (wsC_21 ..) (zw_21 h_g10) rfl h_g10 dX8_admitsElse_46 (fun H locs G => ?_)
      refine lv_aload_n hx hb dX8_admitsElse_47 rfl (lv_at hl 2 rfl) ?_
      refine fg_Wr_program hx hb hts hown hK G (hts _ lk_X8_32) dX8_admitsElse_48 ?_
      refine fg_Pr_other hx hb hts hown hK G (hts _ lk_X8_140) dX8_admitsElse_51 ?_
      refine lv_iload_n hx hb dX8_admitsElse_54 rfl (lv_at hl 0 rfl) ?_
      refine lv_iload_n hx hb dX8_admitsElse_55 rfl (lv_at hl 1 rfl) ?_
      obtain ⟨h_g11, hf⟩ := gd_some hf
      refine rw_IC hx hb hK G (waC_21 ..) (t0 := 12) rfl (wsC_21 ..) (zw_21 h_g11) rfl h_g11 dX8_admitsElse_56 (fun H locs G => ?_)
      refine lv_aload_n hx hb dX8_admitsElse_57 rfl (lv_at hl 2 rfl) ?_
      refine fg_Wr_program hx hb hts hown hK G (hts _ lk_X8_32) dX8_admitsElse_58 ?_
      refine fg_Pr_link hx hb hts hown hK G (hts _ lk_X8_137) dX8_admitsElse_61 ?_
      refine lv_iload_n hx hb dX8_admitsElse_64 rfl (lv_at hl 0 rfl) ?_
      refine lv_iconst (v := (-1)) hx hb dX8_admitsElse_65 (by decide) ?_
      obtain ⟨h_g12, hf⟩ := gd_some hf
      refine rw_IC hx hb hK G (waC_20 ..) (t0 := 11) rfl (wsC_20 ..) (zw_20 h_g12) rfl h_g12 dX8_admitsElse_66 (fun H locs G => ?_)
      refine lv_aload_n hx hb dX8_admitsElse_67 rfl (lv_at hl 2 rfl) ?_
      refine lv_aload_n hx hb dX8_admitsElse_68 rfl (lv_at hl 2 rfl) ?_
      refine fg_Wr_program hx hb hts hown hK G (hts _ lk_X8_32) dX8_admitsElse_69 ?_
      refine fg_Pr_height hx hb hts hown hK G (hts _ lk_X8_135) dX8_admitsElse_72 ?_
      refine lv_iload_n hx hb dX8_admitsElse_75 rfl (lv_at hl 1 rfl) ?_
      obtain ⟨h_g13, hf⟩ := gd_some hf
      refine ra_IC (v := rA st6 12 v2.toNatClampNeg) hx hb hK G (waC_22 ..) (t0 := 13) rfl rfl h_g13 dX8_admitsElse_76 ?_
      refine fp_Wr_operands hx hb hts hown hK G (hts _ lk_X8_23) dX8_admitsElse_77 (fun H locs G => ?_)
      refine lv_aload_n hx hb dX8_admitsElse_80 rfl (lv_at hl 2 rfl) ?_
      refine fg_Wr_dead hx hb hts hown hK G (hts _ lk_X8_15) dX8_admitsElse_81 ?_
      refine lv_aload_n hx hb dX8_admitsElse_84 rfl (lv_at hl 2 rfl) ?_
      refine fg_Wr_labels (v := rI st6 5) hx hb hts hown hK G (hts _ lk_X8_19) rfl dX8_admitsElse_85 ?_
      refine lv_iconst (v := 1) hx hb dX8_admitsElse_88 (by decide) ?_
      refine lv_isub hx hb dX8_admitsElse_89 ?_
      refine lv_iconst (v := 0) hx hb dX8_admitsElse_90 (by decide) ?_
      obtain ⟨h_g14, hf⟩ := gd_some hf
      refine rw_ZC hx hb hK G (waC_24 ..) (t0 := 15) rfl (wsC_24 ..) (zw_24 h_g14 rfl) rfl rfl h_g14 dX8_admitsElse_91 (fun H locs G => ?_)
      refine lv_aload_n hx hb dX8_admitsElse_92 rfl (lv_at hl 2 rfl) ?_
      refine lv_aload_n hx hb dX8_admitsElse_93 rfl (lv_at hl 2 rfl) ?_
      refine fg_Wr_program hx hb hts hown hK G (hts _ lk_X8_32) dX8_admitsElse_94 ?_
      refine fg_Pr_a hx hb hts hown hK G (hts _ lk_X8_83) dX8_admitsElse_97 ?_
      refine lv_iload_n hx hb dX8_admitsElse_100 rfl (lv_at hl 1 rfl) ?_
      obtain ⟨h_g15, hf⟩ := gd_some hf
      refine ra_IC (v := rA st6 8 v2.toNatClampNeg) hx hb hK G (waC_18 ..) (t0 := 9) rfl rfl h_g15 dX8_admitsElse_101 ?_
      obtain ⟨st16, hst16, hf⟩ := bv_some hf
      refine cl_vvC C hl G (As := [.int (rA st6 8 v2.toNatClampNeg)]) (rest := []) (kx_Wr_put l D k h (rA st6 8 v2.toNatClampNeg) (wA (wI (wA (wA (wA st6 11 v2.toNatClampNeg v9) 11 v9.toNatClampNeg v2) 10 v9.toNatClampNeg (-1)) 6 (rA st6 12 v2.toNatClampNeg)) 14 (((rI st6 5) - 1).toNatClampNeg) 0) _ hst16) gi_X8_143 (hwC_2 ..) rfl hd_X8_put ⟨Nat.le_of_ble_eq_true rfl, Nat.le_of_ble_eq_true rfl⟩ rfl rfl (Nat.le_of_ble_eq_true rfl) dX8_admitsElse_102 ⟨Nat.zero_le _, Nat.zero_le _⟩ (fun H locs e0 G => ?_)
      refine lv_iconst (v := 1) hx hb dX8_admitsElse_105 (by decide) ?_
      exact rt_zC C rfl G hf dX8_admitsElse_106
    · replace hf := if_p hf c8
      refine lv_iconst (v := 0) hx hb dX8_admitsElse_27 (by decide) ?_
      exact rt_zC C rfl G hf dX8_admitsElse_28
def rm_Wr_stop : Room := { frames := 0, cells := 0, slots := 0, locals := 0 }
set_option maxHeartbeats 4000000 in
set_option maxRecDepth 100000 in
theorem kx_Wr_stop (l : Launch) (D : va_G) (k : Nat → Nat × ClassId) (h : Nat → Nat) (st : rs_T) (s' : rs_T) (hf : fx_Wr_stop st = some s') : mVC l D k h yX8_stop cX8_stop 1 rm_Wr_stop [.ref (h 2)] st s' := by
  refine mVC_of (by decide) ⟨rfl, rfl⟩ (Nat.le_of_ble_eq_true rfl) ?_
  intro p e s m below meth c ls C hl G
  obtain ⟨hx, hb, hml, hr, hown, hts, hK, hN, hlk⟩ := id C
  have hown : s.vm.findClass RX8 = some m.cls := hown
  have hl : lv_has ls 1 [(0, .ref (h 2))] := hl
  unfold fx_Wr_stop at hf
  refine lv_aload_n hx hb dX8_stop_0 rfl (lv_at hl 0 rfl) ?_
  refine fg_Wr_program hx hb hts hown hK G (hts _ lk_X8_32) dX8_stop_1 ?_
  refine lv_iconst (v := (-1)) hx hb dX8_stop_4 (by decide) ?_
  refine fp_Pr_written hx hb hts hown hK G (hts _ lk_X8_41) dX8_stop_5 (fun H locs G => ?_)
  refine lv_aload_n hx hb dX8_stop_8 rfl (lv_at hl 0 rfl) ?_
  refine lv_iconst (v := 0) hx hb dX8_stop_9 (by decide) ?_
  refine fp_Wr_labels hx hb hts hown hK G (hts _ lk_X8_19) dX8_stop_10 (fun H locs G => ?_)
  refine lv_aload_n hx hb dX8_stop_13 rfl (lv_at hl 0 rfl) ?_
  refine lv_iconst (v := 0) hx hb dX8_stop_14 (by decide) ?_
  refine fp_Wr_operands hx hb hts hown hK G (hts _ lk_X8_23) dX8_stop_15 (fun H locs G => ?_)
  refine lv_aload_n hx hb dX8_stop_18 rfl (lv_at hl 0 rfl) ?_
  refine lv_iconst (v := 0) hx hb dX8_stop_19 (by decide) ?_
  refine fp_Wr_entriesLeft hx hb hts hown hK G (hts _ lk_X8_26) dX8_stop_20 (fun H locs G => ?_)
  exact rt_vC C G hf dX8_stop_23
def rm_Wr_admitsEnd : Room := { frames := 2, cells := 0, slots := 0, locals := 44 }
set_option maxHeartbeats 4000000 in
set_option maxRecDepth 100000 in
theorem kx_Wr_admitsEnd_b146 {p : Program} {l : Launch} {e : Env} {s : State} {m : MethodId} {args : Array Value} {below : List Frame} {meth : Method} {c : Code} {D : va_G} {h : Nat → Nat} {E : Nat → Nat} {k : Nat → Nat × ClassId} (C : cxC D k p s m args meth c cX8_admitsEnd 4 (some .boolean) RX8) (x1 : Int32) (st : rs_T) (r : Int32) (s' : rs_T) (hf : fx_Wr_admitsEnd_b146 x1 st = some (r, s')) : ∀ (H : Heap) (locs : List Loc) (ls : Array Slot), lv_has ls 4 [(0, .ref (h 2)), (1, .int x1)] → gdC D k h (vE E) (arC k h s.heap.size) s.heap H locs st → W p l e rm_Wr_admitsEnd s m args below meth c H locs 0 0 (MQ below (qIC D k h E s.heap.size r s') args s 0 0 (arC k h s.heap.size)) (F0 m 146 ls []) := by
  obtain ⟨hx, hb, hml, hr, hown, hts, hK, hN, hlk⟩ := id C
  intro H locs ls hl G
  unfold fx_Wr_admitsEnd_b146 at hf
  refine lv_aload_n hx hb dX8_admitsEnd_146 rfl (lv_at hl 0 rfl) ?_
  refine lv_aload_n hx hb dX8_admitsEnd_147 rfl (lv_at hl 0 rfl) ?_
  obtain ⟨r17, st16, hst16, hf⟩ := bn_some hf
  refine cl_viC C hl G (As := []) (rest := [.ref (h 2)]) (kx_Wr_height l D k h st _ _ hst16) gi_X8_89 (hwC_2 ..) rfl hd_X8_height ⟨Nat.le_of_ble_eq_true rfl, Nat.le_of_ble_eq_true rfl⟩ rfl rfl (Nat.le_of_ble_eq_true rfl) dX8_admitsEnd_148 ⟨Nat.zero_le _, Nat.zero_le _⟩ (fun H locs e0 G => ?_)
  refine fp_Wr_operands hx hb hts hown hK G (hts _ lk_X8_23) dX8_admitsEnd_151 (fun H locs G => ?_)
  refine lv_aload_n hx hb dX8_admitsEnd_154 rfl (lv_at hl 0 rfl) ?_
  refine lv_dup hx hb dX8_admitsEnd_155 rfl ?_
  refine fg_Wr_labels (v := rI st16 5) hx hb hts hown hK G (hts _ lk_X8_19) rfl dX8_admitsEnd_156 ?_
  refine lv_iconst (v := 1) hx hb dX8_admitsEnd_159 (by decide) ?_
  refine lv_isub hx hb dX8_admitsEnd_160 ?_
  refine fp_Wr_labels hx hb hts hown hK G (hts _ lk_X8_19) dX8_admitsEnd_161 (fun H locs G => ?_)
  refine lv_aload_n hx hb dX8_admitsEnd_164 rfl (lv_at hl 0 rfl) ?_
  refine lv_aload_n hx hb dX8_admitsEnd_165 rfl (lv_at hl 0 rfl) ?_
  refine fg_Wr_program hx hb hts hown hK G (hts _ lk_X8_32) dX8_admitsEnd_166 ?_
  refine fg_Pr_b hx hb hts hown hK G (hts _ lk_X8_86) dX8_admitsEnd_169 ?_
  refine lv_iload_n hx hb dX8_admitsEnd_172 rfl (lv_at hl 1 rfl) ?_
  obtain ⟨h_g18, hf⟩ := gd_some hf
  refine ra_IC (v := rA st16 9 x1.toNatClampNeg) hx hb hK G (waC_19 ..) (t0 := 10) rfl rfl h_g18 dX8_admitsEnd_173 ?_
  obtain ⟨st19, hst19, hf⟩ := bv_some hf
  refine cl_vvC C hl G (As := [.int (rA st16 9 x1.toNatClampNeg)]) (rest := []) (kx_Wr_put l D k h (rA st16 9 x1.toNatClampNeg) (wI (wI st16 6 r17) 5 ((rI st16 5) - 1)) _ hst19) gi_X8_143 (hwC_2 ..) rfl hd_X8_put ⟨Nat.le_of_ble_eq_true rfl, Nat.le_of_ble_eq_true rfl⟩ rfl rfl (Nat.le_of_ble_eq_true rfl) dX8_admitsEnd_174 ⟨Nat.zero_le _, Nat.zero_le _⟩ (fun H locs e0 G => ?_)
  refine lv_iconst (v := 1) hx hb dX8_admitsEnd_177 (by decide) ?_
  exact rt_zC C rfl G hf dX8_admitsEnd_178
set_option maxHeartbeats 4000000 in
set_option maxRecDepth 100000 in
theorem kx_Wr_admitsEnd_b46 {p : Program} {l : Launch} {e : Env} {s : State} {m : MethodId} {args : Array Value} {below : List Frame} {meth : Method} {c : Code} {D : va_G} {h : Nat → Nat} {E : Nat → Nat} {k : Nat → Nat × ClassId} (C : cxC D k p s m args meth c cX8_admitsEnd 4 (some .boolean) RX8) (x1 : Int32) (y0 : Int32) (st : rs_T) (r : Int32) (s' : rs_T) (hf : fx_Wr_admitsEnd_b46 x1 y0 st = some (r, s')) : ∀ (H : Heap) (locs : List Loc) (ls : Array Slot), lv_has ls 4 [(0, .ref (h 2)), (1, .int x1)] → gdC D k h (vE E) (arC k h s.heap.size) s.heap H locs st → W p l e rm_Wr_admitsEnd s m args below meth c H locs 0 0 (MQ below (qIC D k h E s.heap.size r s') args s 0 0 (arC k h s.heap.size)) (F0 m 46 ls [.int y0]) := by
  obtain ⟨hx, hb, hml, hr, hown, hts, hK, hN, hlk⟩ := id C
  intro H locs ls hl G
  unfold fx_Wr_admitsEnd_b46 at hf
  refine lv_istore_n (lv' := [(2, .int y0), (0, .ref (h 2)), (1, .int x1)]) hx hb dX8_admitsEnd_46 rfl hl (by decide) rfl (fun ls hl => ?_)
  refine lv_iload_n hx hb dX8_admitsEnd_47 rfl (lv_at hl 0 rfl) ?_
  refine lv_if_ne (tgt := 58) hx hb dX8_admitsEnd_48 (by decide) (fun c6 => ?_) (fun c6 => ?_)
  · replace hf := if_n hf c6
    refine lv_iconst (v := 0) hx hb dX8_admitsEnd_58 (by decide) ?_
    exact rt_zC C rfl G hf dX8_admitsEnd_59
  · replace hf := if_p hf c6
    refine lv_aload_n hx hb dX8_admitsEnd_51 rfl (lv_at hl 1 rfl) ?_
    obtain ⟨r8, st7, hst7, hf⟩ := bn_some hf
    refine cl_viC C hl G (As := []) (rest := []) (kx_Wr_isReadyToEnd l D k h st _ _ hst7) gi_X8_161 (hwC_2 ..) rfl hd_X8_isReadyToEnd ⟨Nat.le_of_ble_eq_true rfl, Nat.le_of_ble_eq_true rfl⟩ rfl rfl (Nat.le_of_ble_eq_true rfl) dX8_admitsEnd_52 ⟨Nat.zero_le _, Nat.zero_le _⟩ (fun H locs e0 G => ?_)
    refine lv_if_ne (tgt := 60) hx hb dX8_admitsEnd_55 (by decide) (fun c9 => ?_) (fun c9 => ?_)
    · replace hf := if_n hf c9
      refine lv_aload_n hx hb dX8_admitsEnd_60 rfl (lv_at hl 1 rfl) ?_
      refine fg_Wr_program hx hb hts hown hK G (hts _ lk_X8_32) dX8_admitsEnd_61 ?_
      refine fg_Pr_size (v := rI st7 4) hx hb hts hown hK G (hts _ lk_X8_66) rfl dX8_admitsEnd_64 ?_
      refine lv_topi (fun v10 e_v10 => ?_)
      replace hf := bd_some hf v10 e_v10
      refine lv_istore_n (lv' := [(3, .int v10), (2, .int y0), (0, .ref (h 2)), (1, .int x1)]) hx hb dX8_admitsEnd_67 rfl hl (by decide) rfl (fun ls hl => ?_)
      refine lv_aload_n hx hb dX8_admitsEnd_68 rfl (lv_at hl 2 rfl) ?_
      refine fg_Wr_program hx hb hts hown hK G (hts _ lk_X8_32) dX8_admitsEnd_69 ?_
      refine fg_Pr_link hx hb hts hown hK G (hts _ lk_X8_137) dX8_admitsEnd_72 ?_
      refine lv_iload_n hx hb dX8_admitsEnd_75 rfl (lv_at hl 0 rfl) ?_
      refine lv_iload_n hx hb dX8_admitsEnd_76 rfl (lv_at hl 3 rfl) ?_
      obtain ⟨h_g11, hf⟩ := gd_some hf
      refine rw_IC hx hb hK G (waC_20 ..) (t0 := 11) rfl (wsC_20 ..) (zw_20 h_g11) rfl h_g11 dX8_admitsEnd_77 (fun H locs G => ?_)
      refine lv_iload_n hx hb dX8_admitsEnd_78 rfl (lv_at hl 3 rfl) ?_
      refine lv_iconst (v := (-1)) hx hb dX8_admitsEnd_79 (by decide) ?_
      refine lv_icmp_ne (tgt := 105) hx hb dX8_admitsEnd_80 (by decide) (fun c12 => ?_) (fun c12 => ?_)
      · replace hf := if_n hf c12
        refine lv_aload_n hx hb dX8_admitsEnd_105 rfl (lv_at hl 2 rfl) ?_
        refine fg_Wr_program hx hb hts hown hK G (hts _ lk_X8_32) dX8_admitsEnd_106 ?_
        refine fg_Pr_link hx hb hts hown hK G (hts _ lk_X8_137) dX8_admitsEnd_109 ?_
        refine lv_iload_n hx hb dX8_admitsEnd_112 rfl (lv_at hl 3 rfl) ?_
        refine lv_iload_n hx hb dX8_admitsEnd_113 rfl (lv_at hl 0 rfl) ?_
        obtain ⟨h_g13, hf⟩ := gd_some hf
        refine rw_IC hx hb hK G (waC_20 ..) (t0 := 11) rfl (wsC_20 ..) (zw_20 h_g13) rfl h_g13 dX8_admitsEnd_114 (fun H locs G => ?_)
        refine lv_aload_n hx hb dX8_admitsEnd_115 rfl (lv_at hl 2 rfl) ?_
        refine fg_Wr_program hx hb hts hown hK G (hts _ lk_X8_32) dX8_admitsEnd_116 ?_
        refine fg_Pr_other hx hb hts hown hK G (hts _ lk_X8_140) dX8_admitsEnd_119 ?_
        refine lv_iload_n hx hb dX8_admitsEnd_122 rfl (lv_at hl 3 rfl) ?_
        obtain ⟨h_g14, hf⟩ := gd_some hf
        refine ra_IC (v := rA st7 11 x1.toNatClampNeg) hx hb hK G (waC_21 ..) (t0 := 12) rfl rfl h_g14 dX8_admitsEnd_123 ?_
        refine lv_iconst (v := (-1)) hx hb dX8_admitsEnd_124 (by decide) ?_
        refine lv_icmp_eq (tgt := 146) hx hb dX8_admitsEnd_125 (by decide) (fun c15 => ?_) (fun c15 => ?_)
        · replace hf := if_p hf c15
          exact kx_Wr_admitsEnd_b146 C x1 (wA (wA st7 10 v10.toNatClampNeg x1) 10 x1.toNatClampNeg v10) _ _ hf _ _ _ (lv_sub hl [2, 3] rfl) G
        · replace hf := if_n hf c15
          refine lv_aload_n hx hb dX8_admitsEnd_128 rfl (lv_at hl 2 rfl) ?_
          refine fg_Wr_program hx hb hts hown hK G (hts _ lk_X8_32) dX8_admitsEnd_129 ?_
          refine fg_Pr_link hx hb hts hown hK G (hts _ lk_X8_137) dX8_admitsEnd_132 ?_
          refine lv_aload_n hx hb dX8_admitsEnd_135 rfl (lv_at hl 2 rfl) ?_
          refine fg_Wr_program hx hb hts hown hK G (hts _ lk_X8_32) dX8_admitsEnd_136 ?_
          refine fg_Pr_other hx hb hts hown hK G (hts _ lk_X8_140) dX8_admitsEnd_139 ?_
          refine lv_iload_n hx hb dX8_admitsEnd_142 rfl (lv_at hl 3 rfl) ?_
          obtain ⟨h_g20, hf⟩ := gd_some hf
          refine ra_IC (v := rA st7 11 x1.toNatClampNeg) hx hb hK G (waC_21 ..) (t0 := 12) rfl rfl h_g20 dX8_admitsEnd_143 ?_
          refine lv_iload_n hx hb dX8_admitsEnd_144 rfl (lv_at hl 0 rfl) ?_
          obtain ⟨h_g21, hf⟩ := gd_some hf
          refine rw_IC hx hb hK G (waC_20 ..) (t0 := 11) rfl (wsC_20 ..) (zw_20 h_g21) rfl h_g21 dX8_admitsEnd_145 (fun H locs G => ?_)
          exact kx_Wr_admitsEnd_b146 C x1 (wA (wA (wA st7 10 v10.toNatClampNeg x1) 10 x1.toNatClampNeg v10) 10 ((rA st7 11 x1.toNatClampNeg).toNatClampNeg) v10) _ _ hf _ _ _ (lv_sub hl [2, 3] rfl) G
      · replace hf := if_p hf c12
        refine lv_aload_n hx hb dX8_admitsEnd_83 rfl (lv_at hl 2 rfl) ?_
        refine fg_Wr_program hx hb hts hown hK G (hts _ lk_X8_32) dX8_admitsEnd_84 ?_
        refine fg_Pr_last hx hb hts hown hK G (hts _ lk_X8_164) dX8_admitsEnd_87 ?_
        refine lv_aload_n hx hb dX8_admitsEnd_90 rfl (lv_at hl 2 rfl) ?_
        refine fg_Wr_program hx hb hts hown hK G (hts _ lk_X8_32) dX8_admitsEnd_91 ?_
        refine fg_Pr_written (v := rI st7 3) hx hb hts hown hK G (hts _ lk_X8_41) rfl dX8_admitsEnd_94 ?_
        refine lv_iload_n hx hb dX8_admitsEnd_97 rfl (lv_at hl 0 rfl) ?_
        obtain ⟨h_g22, hf⟩ := gd_some hf
        refine rw_IC hx hb hK G (waC_15 ..) (t0 := 6) rfl (wsC_15 ..) (zw_15 h_g22) rfl h_g22 dX8_admitsEnd_98 (fun H locs G => ?_)
        refine lv_aload_n hx hb dX8_admitsEnd_99 rfl (lv_at hl 2 rfl) ?_
        obtain ⟨st23, hst23, hf⟩ := bv_some hf
        refine cl_vvC C hl G (As := []) (rest := []) (kx_Wr_stop l D k h (wA (wA st7 10 v10.toNatClampNeg x1) 5 ((rI st7 3).toNatClampNeg) v10) _ hst23) gi_X8_69 (hwC_2 ..) rfl hd_X8_stop ⟨Nat.le_of_ble_eq_true rfl, Nat.le_of_ble_eq_true rfl⟩ rfl rfl (Nat.le_of_ble_eq_true rfl) dX8_admitsEnd_100 ⟨Nat.zero_le _, Nat.zero_le _⟩ (fun H locs e0 G => ?_)
        refine lv_iconst (v := 1) hx hb dX8_admitsEnd_103 (by decide) ?_
        exact rt_zC C rfl G hf dX8_admitsEnd_104
    · replace hf := if_p hf c9
      refine lv_iconst (v := 0) hx hb dX8_admitsEnd_58 (by decide) ?_
      exact rt_zC C rfl G hf dX8_admitsEnd_59
set_option maxHeartbeats 4000000 in
set_option maxRecDepth 100000 in
theorem kx_Wr_admitsEnd_b45 {p : Program} {l : Launch} {e : Env} {s : State} {m : MethodId} {args : Array Value} {below : List Frame} {meth : Method} {c : Code} {D : va_G} {h : Nat → Nat} {E : Nat → Nat} {k : Nat → Nat × ClassId} (C : cxC D k p s m args meth c cX8_admitsEnd 4 (some .boolean) RX8) (x1 : Int32) (st : rs_T) (r : Int32) (s' : rs_T) (hf : fx_Wr_admitsEnd_b45 x1 st = some (r, s')) : ∀ (H : Heap) (locs : List Loc) (ls : Array Slot), lv_has ls 4 [(0, .ref (h 2)), (1, .int x1)] → gdC D k h (vE E) (arC k h s.heap.size) s.heap H locs st → W p l e rm_Wr_admitsEnd s m args below meth c H locs 0 0 (MQ below (qIC D k h E s.heap.size r s') args s 0 0 (arC k h s.heap.size)) (F0 m 45 ls []) := by
  obtain ⟨hx, hb, hml, hr, hown, hts, hK, hN, hlk⟩ := id C
  intro H locs ls hl G
  unfold fx_Wr_admitsEnd_b45 at hf
  refine lv_iconst (v := 0) hx hb dX8_admitsEnd_45 (by decide) ?_
  exact kx_Wr_admitsEnd_b46 C x1 0 st _ _ hf _ _ _ (lv_sub hl [0, 1] rfl) G
set_option maxHeartbeats 4000000 in
set_option maxRecDepth 100000 in
theorem kx_Wr_admitsEnd (l : Launch) (D : va_G) (k : Nat → Nat × ClassId) (h : Nat → Nat) (st : rs_T) (r : Int32) (s' : rs_T) (hf : fx_Wr_admitsEnd st = some (r, s')) : mIC l D k h yX8_admitsEnd cX8_admitsEnd 4 .boolean rm_Wr_admitsEnd [.ref (h 2)] st r s' := by
  refine mIC_of (by decide) ⟨rfl, rfl⟩ (Nat.le_of_ble_eq_true rfl) ?_
  intro p e s m below meth c ls C hl G
  obtain ⟨hx, hb, hml, hr, hown, hts, hK, hN, hlk⟩ := id C
  have hown : s.vm.findClass RX8 = some m.cls := hown
  have hl : lv_has ls 4 [(0, .ref (h 2))] := hl
  unfold fx_Wr_admitsEnd at hf
  refine lv_aload_n hx hb dX8_admitsEnd_0 rfl (lv_at hl 0 rfl) ?_
  refine fg_Wr_begins hx hb hts hown hK G (hts _ lk_X8_9) dX8_admitsEnd_1 ?_
  refine lv_aload_n hx hb dX8_admitsEnd_4 rfl (lv_at hl 0 rfl) ?_
  refine fg_Wr_labels (v := rI st 5) hx hb hts hown hK G (hts _ lk_X8_19) rfl dX8_admitsEnd_5 ?_
  refine lv_iconst (v := 1) hx hb dX8_admitsEnd_8 (by decide) ?_
  refine lv_isub hx hb dX8_admitsEnd_9 ?_
  obtain ⟨h_g1, hf⟩ := gd_some hf
  refine ra_IC (v := rA st 13 (((rI st 5) - 1).toNatClampNeg)) hx hb hK G (waC_23 ..) (t0 := 14) rfl rfl h_g1 dX8_admitsEnd_10 ?_
  refine lv_topi (fun v2 e_v2 => ?_)
  replace hf := bd_some hf v2 e_v2
  refine lv_istore_n (lv' := [(1, .int v2), (0, .ref (h 2))]) hx hb dX8_admitsEnd_11 rfl hl (by decide) rfl (fun ls hl => ?_)
  refine lv_aload_n hx hb dX8_admitsEnd_12 rfl (lv_at hl 1 rfl) ?_
  refine lv_iload_n hx hb dX8_admitsEnd_13 rfl (lv_at hl 0 rfl) ?_
  obtain ⟨r4, st3, hst3, hf⟩ := bn_some hf
  refine cl_viC C hl G (As := [.int v2]) (rest := []) (kx_Wr_isIfWithoutElse l D k h v2 st _ _ hst3) gi_X8_158 (hwC_2 ..) rfl hd_X8_isIfWithoutElse ⟨Nat.le_of_ble_eq_true rfl, Nat.le_of_ble_eq_true rfl⟩ rfl rfl (Nat.le_of_ble_eq_true rfl) dX8_admitsEnd_14 ⟨Nat.zero_le _, Nat.zero_le _⟩ (fun H locs e0 G => ?_)
  refine lv_if_eq (tgt := 45) hx hb dX8_admitsEnd_17 (by decide) (fun c5 => ?_) (fun c5 => ?_)
  · replace hf := if_p hf c5
    exact kx_Wr_admitsEnd_b45 C v2 st3 _ _ hf _ _ _ (lv_sub hl [1, 0] rfl) G
  · replace hf := if_n hf c5
    refine lv_aload_n hx hb dX8_admitsEnd_20 rfl (lv_at hl 1 rfl) ?_
    refine fg_Wr_program hx hb hts hown hK G (hts _ lk_X8_32) dX8_admitsEnd_21 ?_
    refine fg_Pr_a hx hb hts hown hK G (hts _ lk_X8_83) dX8_admitsEnd_24 ?_
    refine lv_iload_n hx hb dX8_admitsEnd_27 rfl (lv_at hl 0 rfl) ?_
    obtain ⟨h_g24, hf⟩ := gd_some hf
    refine ra_IC (v := rA st3 8 v2.toNatClampNeg) hx hb hK G (waC_18 ..) (t0 := 9) rfl rfl h_g24 dX8_admitsEnd_28 ?_
    refine lv_aload_n hx hb dX8_admitsEnd_29 rfl (lv_at hl 1 rfl) ?_
    refine fg_Wr_program hx hb hts hown hK G (hts _ lk_X8_32) dX8_admitsEnd_30 ?_
    refine fg_Pr_b hx hb hts hown hK G (hts _ lk_X8_86) dX8_admitsEnd_33 ?_
    refine lv_iload_n hx hb dX8_admitsEnd_36 rfl (lv_at hl 0 rfl) ?_
    obtain ⟨h_g25, hf⟩ := gd_some hf
    refine ra_IC (v := rA st3 9 v2.toNatClampNeg) hx hb hK G (waC_19 ..) (t0 := 10) rfl rfl h_g25 dX8_admitsEnd_37 ?_
    refine lv_icmp_eq (tgt := 45) hx hb dX8_admitsEnd_38 (by decide) (fun c26 => ?_) (fun c26 => ?_)
    · replace hf := if_p hf c26
      exact kx_Wr_admitsEnd_b45 C v2 st3 _ _ hf _ _ _ (lv_sub hl [1, 0] rfl) G
    · replace hf := if_n hf c26
      refine lv_iconst (v := 1) hx hb dX8_admitsEnd_41 (by decide) ?_
      refine lv_goto (tgt := 46) hx hb dX8_admitsEnd_42 (by decide) ?_
      exact kx_Wr_admitsEnd_b46 C v2 1 st3 _ _ hf _ _ _ (lv_sub hl [1, 0] rfl) G
def rm_Wr_admitsBranch : Room := { frames := 2, cells := 0, slots := 0, locals := 43 }
set_option maxHeartbeats 4000000 in
set_option maxRecDepth 100000 in
theorem kx_Wr_admitsBranch (l : Launch) (D : va_G) (k : Nat → Nat × ClassId) (h : Nat → Nat) (p1 : Int32) (st : rs_T) (r : Int32) (s' : rs_T) (hf : fx_Wr_admitsBranch p1 st = some (r, s')) : mIC l D k h yX8_admitsBranch cX8_admitsBranch 2 .boolean rm_Wr_admitsBranch [.ref (h 2), .int p1] st r s' := by
  refine mIC_of (by decide) ⟨rfl, rfl⟩ (Nat.le_of_ble_eq_true rfl) ?_
  intro p e s m below meth c ls C hl G
  obtain ⟨hx, hb, hml, hr, hown, hts, hK, hN, hlk⟩ := id C
  have hown : s.vm.findClass RX8 = some m.cls := hown
  have hl : lv_has ls 2 [(0, .ref (h 2)), (1, .int p1)] := hl
  unfold fx_Wr_admitsBranch at hf
  refine lv_iload_n hx hb dX8_admitsBranch_0 rfl (lv_at hl 1 rfl) ?_
  refine lv_aload_n hx hb dX8_admitsBranch_1 rfl (lv_at hl 0 rfl) ?_
  refine fg_Wr_labels (v := rI st 5) hx hb hts hown hK G (hts _ lk_X8_19) rfl dX8_admitsBranch_2 ?_
  refine lv_iconst (v := 1) hx hb dX8_admitsBranch_5 (by decide) ?_
  refine lv_isub hx hb dX8_admitsBranch_6 ?_
  obtain ⟨r2, st1, hst1, hf⟩ := bn_some hf
  refine cl_niC C hl G (As := [.int p1, .int ((rI st 5) - 1)]) (rest := []) (kx_Ma_isWithin l D k h p1 ((rI st 5) - 1) st _ _ hst1) lk_X8_44 st_X9_isWithin in_X9 gj_X9_isWithin hd_X9_isWithin ⟨Nat.le_of_ble_eq_true rfl, Nat.le_of_ble_eq_true rfl⟩ rfl rfl (Nat.le_of_ble_eq_true rfl) dX8_admitsBranch_7 ⟨Nat.zero_le _, Nat.zero_le _⟩ (fun H locs e0 G => ?_)
  refine lv_if_eq (tgt := 25) hx hb dX8_admitsBranch_10 (by decide) (fun c3 => ?_) (fun c3 => ?_)
  · replace hf := if_p hf c3
    refine lv_iconst (v := 0) hx hb dX8_admitsBranch_25 (by decide) ?_
    exact rt_zC C rfl G hf dX8_admitsBranch_26
  · replace hf := if_n hf c3
    refine lv_aload_n hx hb dX8_admitsBranch_13 rfl (lv_at hl 0 rfl) ?_
    refine lv_aload_n hx hb dX8_admitsBranch_14 rfl (lv_at hl 0 rfl) ?_
    refine lv_iload_n hx hb dX8_admitsBranch_15 rfl (lv_at hl 1 rfl) ?_
    obtain ⟨r5, st4, hst4, hf⟩ := bn_some hf
    refine cl_viC C hl G (As := [.int p1]) (rest := [.ref (h 2)]) (kx_Wr_wantedBy l D k h p1 st1 _ _ hst4) gi_X8_167 (hwC_2 ..) rfl hd_X8_wantedBy ⟨Nat.le_of_ble_eq_true rfl, Nat.le_of_ble_eq_true rfl⟩ rfl rfl (Nat.le_of_ble_eq_true rfl) dX8_admitsBranch_16 ⟨Nat.zero_le _, Nat.zero_le _⟩ (fun H locs e0 G => ?_)
    obtain ⟨r7, st6, hst6, hf⟩ := bn_some hf
    refine cl_viC C hl G (As := [.int r5]) (rest := []) (kx_Wr_has l D k h r5 st4 _ _ hst6) gi_X8_127 (hwC_2 ..) rfl hd_X8_has ⟨Nat.le_of_ble_eq_true rfl, Nat.le_of_ble_eq_true rfl⟩ rfl rfl (Nat.le_of_ble_eq_true rfl) dX8_admitsBranch_19 ⟨Nat.zero_le _, Nat.zero_le _⟩ (fun H locs e0 G => ?_)
    refine lv_if_ne (tgt := 27) hx hb dX8_admitsBranch_22 (by decide) (fun c8 => ?_) (fun c8 => ?_)
    · replace hf := if_n hf c8
      refine lv_aload_n hx hb dX8_admitsBranch_27 rfl (lv_at hl 0 rfl) ?_
      refine fg_Wr_program hx hb hts hown hK G (hts _ lk_X8_32) dX8_admitsBranch_28 ?_
      refine fg_Pr_link hx hb hts hown hK G (hts _ lk_X8_137) dX8_admitsBranch_31 ?_
      refine lv_aload_n hx hb dX8_admitsBranch_34 rfl (lv_at hl 0 rfl) ?_
      refine fg_Wr_program hx hb hts hown hK G (hts _ lk_X8_32) dX8_admitsBranch_35 ?_
      refine fg_Pr_size (v := rI st6 4) hx hb hts hown hK G (hts _ lk_X8_66) rfl dX8_admitsBranch_38 ?_
      refine lv_aload_n hx hb dX8_admitsBranch_41 rfl (lv_at hl 0 rfl) ?_
      refine fg_Wr_begins hx hb hts hown hK G (hts _ lk_X8_9) dX8_admitsBranch_42 ?_
      refine lv_aload_n hx hb dX8_admitsBranch_45 rfl (lv_at hl 0 rfl) ?_
      refine fg_Wr_labels (v := rI st6 5) hx hb hts hown hK G (hts _ lk_X8_19) rfl dX8_admitsBranch_46 ?_
      refine lv_iconst (v := 1) hx hb dX8_admitsBranch_49 (by decide) ?_
      refine lv_isub hx hb dX8_admitsBranch_50 ?_
      refine lv_iload_n hx hb dX8_admitsBranch_51 rfl (lv_at hl 1 rfl) ?_
      refine lv_isub hx hb dX8_admitsBranch_52 ?_
      obtain ⟨h_g9, hf⟩ := gd_some hf
      refine ra_IC (v := rA st6 13 ((((rI st6 5) - 1) - p1).toNatClampNeg)) hx hb hK G (waC_23 ..) (t0 := 14) rfl rfl h_g9 dX8_admitsBranch_53 ?_
      obtain ⟨h_g10, hf⟩ := gd_some hf
      refine rw_IC hx hb hK G (waC_20 ..) (t0 := 11) rfl (wsC_20 ..) (zw_20 h_g10) rfl h_g10 dX8_admitsBranch_54 (fun H locs G => ?_)
      refine lv_aload_n hx hb dX8_admitsBranch_55 rfl (lv_at hl 0 rfl) ?_
      obtain ⟨st11, hst11, hf⟩ := bv_some hf
      refine cl_vvC C hl G (As := []) (rest := []) (kx_Wr_die l D k h (wA st6 10 ((rI st6 4).toNatClampNeg) (rA st6 13 ((((rI st6 5) - 1) - p1).toNatClampNeg))) _ hst11) gi_X8_97 (hwC_2 ..) rfl hd_X8_die ⟨Nat.le_of_ble_eq_true rfl, Nat.le_of_ble_eq_true rfl⟩ rfl rfl (Nat.le_of_ble_eq_true rfl) dX8_admitsBranch_56 ⟨Nat.zero_le _, Nat.zero_le _⟩ (fun H locs e0 G => ?_)
      refine lv_iconst (v := 1) hx hb dX8_admitsBranch_59 (by decide) ?_
      exact rt_zC C rfl G hf dX8_admitsBranch_60
    · replace hf := if_p hf c8
      refine lv_iconst (v := 0) hx hb dX8_admitsBranch_25 (by decide) ?_
      exact rt_zC C rfl G hf dX8_admitsBranch_26
def rm_Wr_exchanges : Room := { frames := 2, cells := 0, slots := 0, locals := 44 }
set_option maxHeartbeats 4000000 in
set_option maxRecDepth 100000 in
theorem kx_Wr_exchanges (l : Launch) (D : va_G) (k : Nat → Nat × ClassId) (h : Nat → Nat) (p1 : Int32) (p2 : Int32) (st : rs_T) (r : Int32) (s' : rs_T) (hf : fx_Wr_exchanges p1 p2 st = some (r, s')) : mIC l D k h yX8_exchanges cX8_exchanges 3 .boolean rm_Wr_exchanges [.ref (h 2), .int p1, .int p2] st r s' := by
  refine mIC_of (by decide) ⟨rfl, rfl⟩ (Nat.le_of_ble_eq_true rfl) ?_
  intro p e s m below meth c ls C hl G
  obtain ⟨hx, hb, hml, hr, hown, hts, hK, hN, hlk⟩ := id C
  have hown : s.vm.findClass RX8 = some m.cls := hown
  have hl : lv_has ls 3 [(0, .ref (h 2)), (1, .int p1), (2, .int p2)] := hl
  unfold fx_Wr_exchanges at hf
  refine lv_aload_n hx hb dX8_exchanges_0 rfl (lv_at hl 0 rfl) ?_
  refine lv_iload_n hx hb dX8_exchanges_1 rfl (lv_at hl 1 rfl) ?_
  obtain ⟨r2, st1, hst1, hf⟩ := bn_some hf
  refine cl_viC C hl G (As := [.int p1]) (rest := []) (kx_Wr_has l D k h p1 st _ _ hst1) gi_X8_127 (hwC_2 ..) rfl hd_X8_has ⟨Nat.le_of_ble_eq_true rfl, Nat.le_of_ble_eq_true rfl⟩ rfl rfl (Nat.le_of_ble_eq_true rfl) dX8_exchanges_2 ⟨Nat.zero_le _, Nat.zero_le _⟩ (fun H locs e0 G => ?_)
  refine lv_if_ne (tgt := 10) hx hb dX8_exchanges_5 (by decide) (fun c3 => ?_) (fun c3 => ?_)
  · replace hf := if_n hf c3
    refine lv_aload_n hx hb dX8_exchanges_10 rfl (lv_at hl 0 rfl) ?_
    refine lv_iload_n hx hb dX8_exchanges_11 rfl (lv_at hl 1 rfl) ?_
    obtain ⟨st4, hst4, hf⟩ := bv_some hf
    refine cl_vvC C hl G (As := [.int p1]) (rest := []) (kx_Wr_take l D k h p1 st1 _ hst4) gi_X8_131 (hwC_2 ..) rfl hd_X8_take ⟨Nat.le_of_ble_eq_true rfl, Nat.le_of_ble_eq_true rfl⟩ rfl rfl (Nat.le_of_ble_eq_true rfl) dX8_exchanges_12 ⟨Nat.zero_le _, Nat.zero_le _⟩ (fun H locs e0 G => ?_)
    refine lv_aload_n hx hb dX8_exchanges_15 rfl (lv_at hl 0 rfl) ?_
    refine lv_iload_n hx hb dX8_exchanges_16 rfl (lv_at hl 2 rfl) ?_
    obtain ⟨st5, hst5, hf⟩ := bv_some hf
    refine cl_vvC C hl G (As := [.int p2]) (rest := []) (kx_Wr_put l D k h p2 st4 _ hst5) gi_X8_143 (hwC_2 ..) rfl hd_X8_put ⟨Nat.le_of_ble_eq_true rfl, Nat.le_of_ble_eq_true rfl⟩ rfl rfl (Nat.le_of_ble_eq_true rfl) dX8_exchanges_17 ⟨Nat.zero_le _, Nat.zero_le _⟩ (fun H locs e0 G => ?_)
    refine lv_iconst (v := 1) hx hb dX8_exchanges_20 (by decide) ?_
    exact rt_zC C rfl G hf dX8_exchanges_21
  · replace hf := if_p hf c3
    refine lv_iconst (v := 0) hx hb dX8_exchanges_8 (by decide) ?_
    exact rt_zC C rfl G hf dX8_exchanges_9
def rm_Wr_admitsBranchIf : Room := { frames := 3, cells := 0, slots := 0, locals := 66 }
set_option maxHeartbeats 4000000 in
set_option maxRecDepth 100000 in
theorem kx_Wr_admitsBranchIf (l : Launch) (D : va_G) (k : Nat → Nat × ClassId) (h : Nat → Nat) (p1 : Int32) (st : rs_T) (r : Int32) (s' : rs_T) (hf : fx_Wr_admitsBranchIf p1 st = some (r, s')) : mIC l D k h yX8_admitsBranchIf cX8_admitsBranchIf 2 .boolean rm_Wr_admitsBranchIf [.ref (h 2), .int p1] st r s' := by
  refine mIC_of (by decide) ⟨rfl, rfl⟩ (Nat.le_of_ble_eq_true rfl) ?_
  intro p e s m below meth c ls C hl G
  obtain ⟨hx, hb, hml, hr, hown, hts, hK, hN, hlk⟩ := id C
  have hown : s.vm.findClass RX8 = some m.cls := hown
  have hl : lv_has ls 2 [(0, .ref (h 2)), (1, .int p1)] := hl
  unfold fx_Wr_admitsBranchIf at hf
  refine lv_iload_n hx hb dX8_admitsBranchIf_0 rfl (lv_at hl 1 rfl) ?_
  refine lv_aload_n hx hb dX8_admitsBranchIf_1 rfl (lv_at hl 0 rfl) ?_
  refine fg_Wr_labels (v := rI st 5) hx hb hts hown hK G (hts _ lk_X8_19) rfl dX8_admitsBranchIf_2 ?_
  refine lv_iconst (v := 1) hx hb dX8_admitsBranchIf_5 (by decide) ?_
  refine lv_isub hx hb dX8_admitsBranchIf_6 ?_
  obtain ⟨r2, st1, hst1, hf⟩ := bn_some hf
  refine cl_niC C hl G (As := [.int p1, .int ((rI st 5) - 1)]) (rest := []) (kx_Ma_isWithin l D k h p1 ((rI st 5) - 1) st _ _ hst1) lk_X8_44 st_X9_isWithin in_X9 gj_X9_isWithin hd_X9_isWithin ⟨Nat.le_of_ble_eq_true rfl, Nat.le_of_ble_eq_true rfl⟩ rfl rfl (Nat.le_of_ble_eq_true rfl) dX8_admitsBranchIf_7 ⟨Nat.zero_le _, Nat.zero_le _⟩ (fun H locs e0 G => ?_)
  refine lv_if_eq (tgt := 32) hx hb dX8_admitsBranchIf_10 (by decide) (fun c3 => ?_) (fun c3 => ?_)
  · replace hf := if_p hf c3
    refine lv_iconst (v := 0) hx hb dX8_admitsBranchIf_32 (by decide) ?_
    exact rt_zC C rfl G hf dX8_admitsBranchIf_33
  · replace hf := if_n hf c3
    refine lv_aload_n hx hb dX8_admitsBranchIf_13 rfl (lv_at hl 0 rfl) ?_
    refine lv_aload_n hx hb dX8_admitsBranchIf_14 rfl (lv_at hl 0 rfl) ?_
    refine lv_iload_n hx hb dX8_admitsBranchIf_15 rfl (lv_at hl 1 rfl) ?_
    obtain ⟨r5, st4, hst4, hf⟩ := bn_some hf
    refine cl_viC C hl G (As := [.int p1]) (rest := [.ref (h 2)]) (kx_Wr_wantedBy l D k h p1 st1 _ _ hst4) gi_X8_167 (hwC_2 ..) rfl hd_X8_wantedBy ⟨Nat.le_of_ble_eq_true rfl, Nat.le_of_ble_eq_true rfl⟩ rfl rfl (Nat.le_of_ble_eq_true rfl) dX8_admitsBranchIf_16 ⟨Nat.zero_le _, Nat.zero_le _⟩ (fun H locs e0 G => ?_)
    refine lv_iconst (v := 1) hx hb dX8_admitsBranchIf_19 (by decide) ?_
    refine lv_iadd hx hb dX8_admitsBranchIf_20 ?_
    refine lv_aload_n hx hb dX8_admitsBranchIf_21 rfl (lv_at hl 0 rfl) ?_
    refine lv_iload_n hx hb dX8_admitsBranchIf_22 rfl (lv_at hl 1 rfl) ?_
    obtain ⟨r7, st6, hst6, hf⟩ := bn_some hf
    refine cl_viC C hl G (As := [.int p1]) (rest := [.int (r5 + 1), .ref (h 2)]) (kx_Wr_wantedBy l D k h p1 st4 _ _ hst6) gi_X8_167 (hwC_2 ..) rfl hd_X8_wantedBy ⟨Nat.le_of_ble_eq_true rfl, Nat.le_of_ble_eq_true rfl⟩ rfl rfl (Nat.le_of_ble_eq_true rfl) dX8_admitsBranchIf_23 ⟨Nat.zero_le _, Nat.zero_le _⟩ (fun H locs e0 G => ?_)
    obtain ⟨r9, st8, hst8, hf⟩ := bn_some hf
    refine cl_viC C hl G (As := [.int (r5 + 1), .int r7]) (rest := []) (kx_Wr_exchanges l D k h (r5 + 1) r7 st6 _ _ hst8) gi_X8_121 (hwC_2 ..) rfl hd_X8_exchanges ⟨Nat.le_of_ble_eq_true rfl, Nat.le_of_ble_eq_true rfl⟩ rfl rfl (Nat.le_of_ble_eq_true rfl) dX8_admitsBranchIf_26 ⟨Nat.zero_le _, Nat.zero_le _⟩ (fun H locs e0 G => ?_)
    refine lv_if_ne (tgt := 34) hx hb dX8_admitsBranchIf_29 (by decide) (fun c10 => ?_) (fun c10 => ?_)
    · replace hf := if_n hf c10
      refine lv_aload_n hx hb dX8_admitsBranchIf_34 rfl (lv_at hl 0 rfl) ?_
      refine fg_Wr_program hx hb hts hown hK G (hts _ lk_X8_32) dX8_admitsBranchIf_35 ?_
      refine fg_Pr_link hx hb hts hown hK G (hts _ lk_X8_137) dX8_admitsBranchIf_38 ?_
      refine lv_aload_n hx hb dX8_admitsBranchIf_41 rfl (lv_at hl 0 rfl) ?_
      refine fg_Wr_program hx hb hts hown hK G (hts _ lk_X8_32) dX8_admitsBranchIf_42 ?_
      refine fg_Pr_size (v := rI st8 4) hx hb hts hown hK G (hts _ lk_X8_66) rfl dX8_admitsBranchIf_45 ?_
      refine lv_aload_n hx hb dX8_admitsBranchIf_48 rfl (lv_at hl 0 rfl) ?_
      refine fg_Wr_begins hx hb hts hown hK G (hts _ lk_X8_9) dX8_admitsBranchIf_49 ?_
      refine lv_aload_n hx hb dX8_admitsBranchIf_52 rfl (lv_at hl 0 rfl) ?_
      refine fg_Wr_labels (v := rI st8 5) hx hb hts hown hK G (hts _ lk_X8_19) rfl dX8_admitsBranchIf_53 ?_
      refine lv_iconst (v := 1) hx hb dX8_admitsBranchIf_56 (by decide) ?_
      refine lv_isub hx hb dX8_admitsBranchIf_57 ?_
      refine lv_iload_n hx hb dX8_admitsBranchIf_58 rfl (lv_at hl 1 rfl) ?_
      refine lv_isub hx hb dX8_admitsBranchIf_59 ?_
      obtain ⟨h_g11, hf⟩ := gd_some hf
      refine ra_IC (v := rA st8 13 ((((rI st8 5) - 1) - p1).toNatClampNeg)) hx hb hK G (waC_23 ..) (t0 := 14) rfl rfl h_g11 dX8_admitsBranchIf_60 ?_
      obtain ⟨h_g12, hf⟩ := gd_some hf
      refine rw_IC hx hb hK G (waC_20 ..) (t0 := 11) rfl (wsC_20 ..) (zw_20 h_g12) rfl h_g12 dX8_admitsBranchIf_61 (fun H locs G => ?_)
      refine lv_iconst (v := 1) hx hb dX8_admitsBranchIf_62 (by decide) ?_
      exact rt_zC C rfl G hf dX8_admitsBranchIf_63
    · replace hf := if_p hf c10
      refine lv_iconst (v := 0) hx hb dX8_admitsBranchIf_32 (by decide) ?_
      exact rt_zC C rfl G hf dX8_admitsBranchIf_33
def rm_Wr_admitsTable : Room := { frames := 3, cells := 0, slots := 0, locals := 66 }
set_option maxHeartbeats 4000000 in
set_option maxRecDepth 100000 in
theorem kx_Wr_admitsTable (l : Launch) (D : va_G) (k : Nat → Nat × ClassId) (h : Nat → Nat) (p1 : Int32) (st : rs_T) (r : Int32) (s' : rs_T) (hf : fx_Wr_admitsTable p1 st = some (r, s')) : mIC l D k h yX8_admitsTable cX8_admitsTable 2 .boolean rm_Wr_admitsTable [.ref (h 2), .int p1] st r s' := by
  refine mIC_of (by decide) ⟨rfl, rfl⟩ (Nat.le_of_ble_eq_true rfl) ?_
  intro p e s m below meth c ls C hl G
  obtain ⟨hx, hb, hml, hr, hown, hts, hK, hN, hlk⟩ := id C
  have hown : s.vm.findClass RX8 = some m.cls := hown
  have hl : lv_has ls 2 [(0, .ref (h 2)), (1, .int p1)] := hl
  unfold fx_Wr_admitsTable at hf
  refine lv_iload_n hx hb dX8_admitsTable_0 rfl (lv_at hl 1 rfl) ?_
  refine lv_bipush (v := 20) hx hb dX8_admitsTable_1 (by decide) ?_
  obtain ⟨r2, st1, hst1, hf⟩ := bn_some hf
  refine cl_niC C hl G (As := [.int p1, .int 20]) (rest := []) (kx_Ma_isWithin l D k h p1 20 st _ _ hst1) lk_X8_44 st_X9_isWithin in_X9 gj_X9_isWithin hd_X9_isWithin ⟨Nat.le_of_ble_eq_true rfl, Nat.le_of_ble_eq_true rfl⟩ rfl rfl (Nat.le_of_ble_eq_true rfl) dX8_admitsTable_3 ⟨Nat.zero_le _, Nat.zero_le _⟩ (fun H locs e0 G => ?_)
  refine lv_if_eq (tgt := 18) hx hb dX8_admitsTable_6 (by decide) (fun c3 => ?_) (fun c3 => ?_)
  · replace hf := if_p hf c3
    refine lv_iconst (v := 0) hx hb dX8_admitsTable_18 (by decide) ?_
    exact rt_zC C rfl G hf dX8_admitsTable_19
  · replace hf := if_n hf c3
    refine lv_aload_n hx hb dX8_admitsTable_9 rfl (lv_at hl 0 rfl) ?_
    refine lv_iconst (v := 1) hx hb dX8_admitsTable_10 (by decide) ?_
    refine lv_iconst (v := 0) hx hb dX8_admitsTable_11 (by decide) ?_
    obtain ⟨r5, st4, hst4, hf⟩ := bn_some hf
    refine cl_viC C hl G (As := [.int 1, .int 0]) (rest := []) (kx_Wr_exchanges l D k h 1 0 st1 _ _ hst4) gi_X8_121 (hwC_2 ..) rfl hd_X8_exchanges ⟨Nat.le_of_ble_eq_true rfl, Nat.le_of_ble_eq_true rfl⟩ rfl rfl (Nat.le_of_ble_eq_true rfl) dX8_admitsTable_12 ⟨Nat.zero_le _, Nat.zero_le _⟩ (fun H locs e0 G => ?_)
    refine lv_if_ne (tgt := 20) hx hb dX8_admitsTable_15 (by decide) (fun c6 => ?_) (fun c6 => ?_)
    · replace hf := if_n hf c6
      refine lv_aload_n hx hb dX8_admitsTable_20 rfl (lv_at hl 0 rfl) ?_
      refine lv_iload_n hx hb dX8_admitsTable_21 rfl (lv_at hl 1 rfl) ?_
      refine lv_iconst (v := 1) hx hb dX8_admitsTable_22 (by decide) ?_
      refine lv_iadd hx hb dX8_admitsTable_23 ?_
      refine fp_Wr_entriesLeft hx hb hts hown hK G (hts _ lk_X8_26) dX8_admitsTable_24 (fun H locs G => ?_)
      refine lv_aload_n hx hb dX8_admitsTable_27 rfl (lv_at hl 0 rfl) ?_
      refine lv_iconst (v := (-1)) hx hb dX8_admitsTable_28 (by decide) ?_
      refine fp_Wr_entriesWant hx hb hts hown hK G (hts _ lk_X8_29) dX8_admitsTable_29 (fun H locs G => ?_)
      refine lv_iconst (v := 1) hx hb dX8_admitsTable_32 (by decide) ?_
      exact rt_zC C rfl G hf dX8_admitsTable_33
    · replace hf := if_p hf c6
      refine lv_iconst (v := 0) hx hb dX8_admitsTable_18 (by decide) ?_
      exact rt_zC C rfl G hf dX8_admitsTable_19
def rm_Wr_admitsReturn : Room := { frames := 2, cells := 0, slots := 0, locals := 42 }
set_option maxHeartbeats 4000000 in
set_option maxRecDepth 100000 in
theorem kx_Wr_admitsReturn (l : Launch) (D : va_G) (k : Nat → Nat × ClassId) (h : Nat → Nat) (st : rs_T) (r : Int32) (s' : rs_T) (hf : fx_Wr_admitsReturn st = some (r, s')) : mIC l D k h yX8_admitsReturn cX8_admitsReturn 1 .boolean rm_Wr_admitsReturn [.ref (h 2)] st r s' := by
  refine mIC_of (by decide) ⟨rfl, rfl⟩ (Nat.le_of_ble_eq_true rfl) ?_
  intro p e s m below meth c ls C hl G
  obtain ⟨hx, hb, hml, hr, hown, hts, hK, hN, hlk⟩ := id C
  have hown : s.vm.findClass RX8 = some m.cls := hown
  have hl : lv_has ls 1 [(0, .ref (h 2))] := hl
  unfold fx_Wr_admitsReturn at hf
  refine lv_aload_n hx hb dX8_admitsReturn_0 rfl (lv_at hl 0 rfl) ?_
  refine lv_aload_n hx hb dX8_admitsReturn_1 rfl (lv_at hl 0 rfl) ?_
  refine fg_Wr_program hx hb hts hown hK G (hts _ lk_X8_32) dX8_admitsReturn_2 ?_
  refine fg_Pr_results hx hb hts hown hK G (hts _ lk_X8_51) dX8_admitsReturn_5 ?_
  refine lv_aload_n hx hb dX8_admitsReturn_8 rfl (lv_at hl 0 rfl) ?_
  refine fg_Wr_program hx hb hts hown hK G (hts _ lk_X8_32) dX8_admitsReturn_9 ?_
  refine fg_Pr_written (v := rI st 3) hx hb hts hown hK G (hts _ lk_X8_41) rfl dX8_admitsReturn_12 ?_
  obtain ⟨h_g1, hf⟩ := gd_some hf
  refine ra_IC (v := rA st 1 ((rI st 3).toNatClampNeg)) hx hb hK G (waC_11 ..) (t0 := 2) rfl rfl h_g1 dX8_admitsReturn_15 ?_
  obtain ⟨r3, st2, hst2, hf⟩ := bn_some hf
  refine cl_viC C hl G (As := [.int (rA st 1 ((rI st 3).toNatClampNeg))]) (rest := []) (kx_Wr_has l D k h (rA st 1 ((rI st 3).toNatClampNeg)) st _ _ hst2) gi_X8_127 (hwC_2 ..) rfl hd_X8_has ⟨Nat.le_of_ble_eq_true rfl, Nat.le_of_ble_eq_true rfl⟩ rfl rfl (Nat.le_of_ble_eq_true rfl) dX8_admitsReturn_16 ⟨Nat.zero_le _, Nat.zero_le _⟩ (fun H locs e0 G => ?_)
  refine lv_if_ne (tgt := 24) hx hb dX8_admitsReturn_19 (by decide) (fun c4 => ?_) (fun c4 => ?_)
  · replace hf := if_n hf c4
    refine lv_aload_n hx hb dX8_admitsReturn_24 rfl (lv_at hl 0 rfl) ?_
    obtain ⟨st5, hst5, hf⟩ := bv_some hf
    refine cl_vvC C hl G (As := []) (rest := []) (kx_Wr_die l D k h st2 _ hst5) gi_X8_97 (hwC_2 ..) rfl hd_X8_die ⟨Nat.le_of_ble_eq_true rfl, Nat.le_of_ble_eq_true rfl⟩ rfl rfl (Nat.le_of_ble_eq_true rfl) dX8_admitsReturn_25 ⟨Nat.zero_le _, Nat.zero_le _⟩ (fun H locs e0 G => ?_)
    refine lv_iconst (v := 1) hx hb dX8_admitsReturn_28 (by decide) ?_
    exact rt_zC C rfl G hf dX8_admitsReturn_29
  · replace hf := if_p hf c4
    refine lv_iconst (v := 0) hx hb dX8_admitsReturn_22 (by decide) ?_
    exact rt_zC C rfl G hf dX8_admitsReturn_23
def rm_Op_operatorTakes : Room := { frames := 0, cells := 0, slots := 0, locals := 0 }
set_option maxHeartbeats 4000000 in
set_option maxRecDepth 100000 in
theorem kx_Op_operatorTakes (l : Launch) (D : va_G) (k : Nat → Nat × ClassId) (h : Nat → Nat) (p0 : Int32) (st : rs_T) (r : Int32) (s' : rs_T) (hf : fx_Op_operatorTakes p0 st = some (r, s')) : mIC l D k h yX2_operatorTakes cX2_operatorTakes 1 .int rm_Op_operatorTakes [.int p0] st r s' := by
  refine mIC_of (by decide) ⟨rfl, rfl⟩ (Nat.le_of_ble_eq_true rfl) ?_
  intro p e s m below meth c ls C hl G
  obtain ⟨hx, hb, hml, hr, hown, hts, hK, hN, hlk⟩ := id C
  have hown : s.vm.findClass RX2 = some m.cls := hown
  have hl : lv_has ls 1 [(0, .int p0)] := hl
  unfold fx_Op_operatorTakes at hf
  refine lv_iload_n hx hb dX2_operatorTakes_0 rfl (lv_at hl 0 rfl) ?_
  by_cases s1_0 : p0 ∈ ([69, 80, 167, 173] : List Int32)
  · replace hf := if_p hf s1_0
    refine sw_lu (tgt := 164) (off := 163) hx hb dX2_operatorTakes_1 (by decide) (sw_lut s1_0 (by decide)) (by decide) ?_
    refine lv_iconst (v := 1) hx hb dX2_operatorTakes_164 (by decide) ?_
    exact rt_iC C G hf dX2_operatorTakes_165
  replace hf := if_n hf s1_0
  by_cases s1_1 : p0 ∈ ([70, 71, 72, 73, 81, 83, 106, 107, 108, 110, 113, 116, 124, 125, 126] : List Int32)
  · replace hf := if_p hf s1_1
    refine sw_lu (tgt := 166) (off := 165) hx hb dX2_operatorTakes_1 (by decide) (sw_lut s1_1 (by decide)) (by decide) ?_
    refine lv_iconst (v := 2) hx hb dX2_operatorTakes_166 (by decide) ?_
    exact rt_iC C G hf dX2_operatorTakes_167
  replace hf := if_n hf s1_1
  refine sw_lu (tgt := 168) (off := 167) hx hb dX2_operatorTakes_1 (by decide) (sw_lud (sw_cons s1_0 (sw_cons s1_1 sw_nil)) (by decide)) (by decide) ?_
  refine lv_iconst (v := (-1)) hx hb dX2_operatorTakes_168 (by decide) ?_
  exact rt_iC C G hf dX2_operatorTakes_169
def rm_Op_takes : Room := { frames := 1, cells := 0, slots := 0, locals := 20 }
set_option maxHeartbeats 4000000 in
set_option maxRecDepth 100000 in
theorem kx_Op_takes_b39 {p : Program} {l : Launch} {e : Env} {s : State} {m : MethodId} {args : Array Value} {below : List Frame} {meth : Method} {c : Code} {D : va_G} {h : Nat → Nat} {E : Nat → Nat} {k : Nat → Nat × ClassId} (C : cxC D k p s m args meth c cX2_takes 1 (some .int) RX2) (x0 : Int32) (st : rs_T) (r : Int32) (s' : rs_T) (hf : fx_Op_takes_b39 x0 st = some (r, s')) : ∀ (H : Heap) (locs : List Loc) (ls : Array Slot), lv_has ls 1 [(0, .int x0)] → gdC D k h (vE E) (arC k h s.heap.size) s.heap H locs st → W p l e rm_Op_takes s m args below meth c H locs 0 0 (MQ below (qIC D k h E s.heap.size r s') args s 0 0 (arC k h s.heap.size)) (F0 m 39 ls []) := by
  obtain ⟨hx, hb, hml, hr, hown, hts, hK, hN, hlk⟩ := id C
  intro H locs ls hl G
  unfold fx_Op_takes_b39 at hf
  refine lv_iload_n hx hb dX2_takes_39 rfl (lv_at hl 0 rfl) ?_
  by_cases s4_0 : x0 ∈ ([1, 32, 35, 63, 65, 66] : List Int32)
  · replace hf := if_p hf s4_0
    refine sw_lu (tgt := 148) (off := 108) hx hb dX2_takes_40 (by decide) (sw_lut s4_0 (by decide)) (by decide) ?_
    refine lv_iconst (v := 0) hx hb dX2_takes_148 (by decide) ?_
    exact rt_iC C G hf dX2_takes_149
  replace hf := if_n hf s4_0
  by_cases s4_1 : x0 ∈ ([26, 33, 34, 36, 64] : List Int32)
  · replace hf := if_p hf s4_1
    refine sw_lu (tgt := 150) (off := 110) hx hb dX2_takes_40 (by decide) (sw_lut s4_1 (by decide)) (by decide) ?_
    refine lv_iconst (v := 1) hx hb dX2_takes_150 (by decide) ?_
    exact rt_iC C G hf dX2_takes_151
  replace hf := if_n hf s4_1
  by_cases s4_2 : x0 ∈ ([27] : List Int32)
  · replace hf := if_p hf s4_2
    refine sw_lu (tgt := 152) (off := 112) hx hb dX2_takes_40 (by decide) (sw_lut s4_2 (by decide)) (by decide) ?_
    refine lv_iconst (v := 3) hx hb dX2_takes_152 (by decide) ?_
    exact rt_iC C G hf dX2_takes_153
  replace hf := if_n hf s4_2
  refine sw_lu (tgt := 154) (off := 114) hx hb dX2_takes_40 (by decide) (sw_lud (sw_cons s4_0 (sw_cons s4_1 (sw_cons s4_2 sw_nil))) (by decide)) (by decide) ?_
  refine lv_iconst (v := (-1)) hx hb dX2_takes_154 (by decide) ?_
  exact rt_iC C G hf dX2_takes_155
set_option maxHeartbeats 4000000 in
set_option maxRecDepth 100000 in
theorem kx_Op_takes_b25 {p : Program} {l : Launch} {e : Env} {s : State} {m : MethodId} {args : Array Value} {below : List Frame} {meth : Method} {c : Code} {D : va_G} {h : Nat → Nat} {E : Nat → Nat} {k : Nat → Nat × ClassId} (C : cxC D k p s m args meth c cX2_takes 1 (some .int) RX2) (x0 : Int32) (st : rs_T) (r : Int32) (s' : rs_T) (hf : fx_Op_takes_b25 x0 st = some (r, s')) : ∀ (H : Heap) (locs : List Loc) (ls : Array Slot), lv_has ls 1 [(0, .int x0)] → gdC D k h (vE E) (arC k h s.heap.size) s.heap H locs st → W p l e rm_Op_takes s m args below meth c H locs 0 0 (MQ below (qIC D k h E s.heap.size r s') args s 0 0 (arC k h s.heap.size)) (F0 m 25 ls []) := by
  obtain ⟨hx, hb, hml, hr, hown, hts, hK, hN, hlk⟩ := id C
  intro H locs ls hl G
  unfold fx_Op_takes_b25 at hf
  refine lv_iload_n hx hb dX2_takes_25 rfl (lv_at hl 0 rfl) ?_
  refine lv_bipush (v := 54) hx hb dX2_takes_26 (by decide) ?_
  refine lv_icmp_lt (tgt := 39) hx hb dX2_takes_28 (by decide) (fun c3 => ?_) (fun c3 => ?_)
  · replace hf := if_p hf c3
    exact kx_Op_takes_b39 C x0 st _ _ hf _ _ _ (lv_sub hl [0] rfl) G
  · replace hf := if_n hf c3
    refine lv_iload_n hx hb dX2_takes_31 rfl (lv_at hl 0 rfl) ?_
    refine lv_bipush (v := 62) hx hb dX2_takes_32 (by decide) ?_
    refine lv_icmp_gt (tgt := 39) hx hb dX2_takes_34 (by decide) (fun c5 => ?_) (fun c5 => ?_)
    · replace hf := if_p hf c5
      exact kx_Op_takes_b39 C x0 st _ _ hf _ _ _ (lv_sub hl [0] rfl) G
    · replace hf := if_n hf c5
      refine lv_iconst (v := 2) hx hb dX2_takes_37 (by decide) ?_
      exact rt_iC C G hf dX2_takes_38
set_option maxHeartbeats 4000000 in
set_option maxRecDepth 100000 in
theorem kx_Op_takes (l : Launch) (D : va_G) (k : Nat → Nat × ClassId) (h : Nat → Nat) (p0 : Int32) (st : rs_T) (r : Int32) (s' : rs_T) (hf : fx_Op_takes p0 st = some (r, s')) : mIC l D k h yX2_takes cX2_takes 1 .int rm_Op_takes [.int p0] st r s' := by
  refine mIC_of (by decide) ⟨rfl, rfl⟩ (Nat.le_of_ble_eq_true rfl) ?_
  intro p e s m below meth c ls C hl G
  obtain ⟨hx, hb, hml, hr, hown, hts, hK, hN, hlk⟩ := id C
  have hown : s.vm.findClass RX2 = some m.cls := hown
  have hl : lv_has ls 1 [(0, .int p0)] := hl
  unfold fx_Op_takes at hf
  refine lv_iload_n hx hb dX2_takes_0 rfl (lv_at hl 0 rfl) ?_
  refine lv_bipush (v := 69) hx hb dX2_takes_1 (by decide) ?_
  refine lv_icmp_lt (tgt := 11) hx hb dX2_takes_3 (by decide) (fun c1 => ?_) (fun c1 => ?_)
  · replace hf := if_p hf c1
    refine lv_iload_n hx hb dX2_takes_11 rfl (lv_at hl 0 rfl) ?_
    refine lv_bipush (v := 40) hx hb dX2_takes_12 (by decide) ?_
    refine lv_icmp_lt (tgt := 25) hx hb dX2_takes_14 (by decide) (fun c2 => ?_) (fun c2 => ?_)
    · replace hf := if_p hf c2
      exact kx_Op_takes_b25 C p0 st _ _ hf _ _ _ (lv_sub hl [0] rfl) G
    · replace hf := if_n hf c2
      refine lv_iload_n hx hb dX2_takes_17 rfl (lv_at hl 0 rfl) ?_
      refine lv_bipush (v := 53) hx hb dX2_takes_18 (by decide) ?_
      refine lv_icmp_gt (tgt := 25) hx hb dX2_takes_20 (by decide) (fun c6 => ?_) (fun c6 => ?_)
      · replace hf := if_p hf c6
        exact kx_Op_takes_b25 C p0 st _ _ hf _ _ _ (lv_sub hl [0] rfl) G
      · replace hf := if_n hf c6
        refine lv_iconst (v := 1) hx hb dX2_takes_23 (by decide) ?_
        exact rt_iC C G hf dX2_takes_24
  · replace hf := if_n hf c1
    refine lv_iload_n hx hb dX2_takes_6 rfl (lv_at hl 0 rfl) ?_
    obtain ⟨r8, st7, hst7, hf⟩ := bn_some hf
    refine cl_siC C hl G (As := [.int p0]) (rest := []) (kx_Op_operatorTakes l D k h p0 st _ _ hst7) gi_X2_9 hd_X2_operatorTakes ⟨Nat.le_of_ble_eq_true rfl, Nat.le_of_ble_eq_true rfl⟩ rfl rfl (Nat.le_of_ble_eq_true rfl) dX2_takes_7 ⟨Nat.zero_le _, Nat.zero_le _⟩ (fun H locs e0 G => ?_)
    exact rt_iC C G hf dX2_takes_10
def rm_Op_puts : Room := { frames := 0, cells := 0, slots := 0, locals := 0 }
set_option maxHeartbeats 4000000 in
set_option maxRecDepth 100000 in
theorem kx_Op_puts_b55 {p : Program} {l : Launch} {e : Env} {s : State} {m : MethodId} {args : Array Value} {below : List Frame} {meth : Method} {c : Code} {D : va_G} {h : Nat → Nat} {E : Nat → Nat} {k : Nat → Nat × ClassId} (C : cxC D k p s m args meth c cX2_puts 3 (some .int) RX2) (st : rs_T) (r : Int32) (s' : rs_T) (hf : fx_Op_puts_b55 st = some (r, s')) : ∀ (H : Heap) (locs : List Loc) (ls : Array Slot), lv_has ls 3 [] → gdC D k h (vE E) (arC k h s.heap.size) s.heap H locs st → W p l e rm_Op_puts s m args below meth c H locs 0 0 (MQ below (qIC D k h E s.heap.size r s') args s 0 0 (arC k h s.heap.size)) (F0 m 55 ls []) := by
  obtain ⟨hx, hb, hml, hr, hown, hts, hK, hN, hlk⟩ := id C
  intro H locs ls hl G
  unfold fx_Op_puts_b55 at hf
  refine lv_iconst (v := 0) hx hb dX2_puts_55 (by decide) ?_
  refine lv_goto (tgt := 60) hx hb dX2_puts_56 (by decide) ?_
  exact rt_iC C G hf dX2_puts_60
set_option maxHeartbeats 4000000 in
set_option maxRecDepth 100000 in
theorem kx_Op_puts_b41 {p : Program} {l : Launch} {e : Env} {s : State} {m : MethodId} {args : Array Value} {below : List Frame} {meth : Method} {c : Code} {D : va_G} {h : Nat → Nat} {E : Nat → Nat} {k : Nat → Nat × ClassId} (C : cxC D k p s m args meth c cX2_puts 3 (some .int) RX2) (x0 : Int32) (x1 : Int32) (y0 : Int32) (st : rs_T) (r : Int32) (s' : rs_T) (hf : fx_Op_puts_b41 x0 x1 y0 st = some (r, s')) : ∀ (H : Heap) (locs : List Loc) (ls : Array Slot), lv_has ls 3 [(0, .int x0), (1, .int x1)] → gdC D k h (vE E) (arC k h s.heap.size) s.heap H locs st → W p l e rm_Op_puts s m args below meth c H locs 0 0 (MQ below (qIC D k h E s.heap.size r s') args s 0 0 (arC k h s.heap.size)) (F0 m 41 ls [.int y0]) := by
  obtain ⟨hx, hb, hml, hr, hown, hts, hK, hN, hlk⟩ := id C
  intro H locs ls hl G
  unfold fx_Op_puts_b41 at hf
  refine lv_istore_n (lv' := [(2, .int y0), (0, .int x0), (1, .int x1)]) hx hb dX2_puts_41 rfl hl (by decide) rfl (fun ls hl => ?_)
  refine lv_iload_n hx hb dX2_puts_42 rfl (lv_at hl 2 rfl) ?_
  refine lv_if_ne (tgt := 55) hx hb dX2_puts_43 (by decide) (fun c3 => ?_) (fun c3 => ?_)
  · replace hf := if_n hf c3
    exact kx_Op_puts_b55 C st _ _ hf _ _ _ (lv_sub hl [] rfl) G
  · replace hf := if_p hf c3
    refine lv_iload_n hx hb dX2_puts_46 rfl (lv_at hl 0 rfl) ?_
    refine lv_if_ne (tgt := 55) hx hb dX2_puts_47 (by decide) (fun c4 => ?_) (fun c4 => ?_)
    · replace hf := if_n hf c4
      exact kx_Op_puts_b55 C st _ _ hf _ _ _ (lv_sub hl [] rfl) G
    · replace hf := if_p hf c4
      refine lv_iload_n hx hb dX2_puts_50 rfl (lv_at hl 1 rfl) ?_
      refine lv_iconst (v := 1) hx hb dX2_puts_51 (by decide) ?_
      refine lv_icmp_ne (tgt := 59) hx hb dX2_puts_52 (by decide) (fun c5 => ?_) (fun c5 => ?_)
      · replace hf := if_n hf c5
        refine lv_iconst (v := 1) hx hb dX2_puts_59 (by decide) ?_
        exact rt_iC C G hf dX2_puts_60
      · replace hf := if_p hf c5
        exact kx_Op_puts_b55 C st _ _ hf _ _ _ (lv_sub hl [] rfl) G
set_option maxHeartbeats 4000000 in
set_option maxRecDepth 100000 in
theorem kx_Op_puts_b36 {p : Program} {l : Launch} {e : Env} {s : State} {m : MethodId} {args : Array Value} {below : List Frame} {meth : Method} {c : Code} {D : va_G} {h : Nat → Nat} {E : Nat → Nat} {k : Nat → Nat × ClassId} (C : cxC D k p s m args meth c cX2_puts 3 (some .int) RX2) (x0 : Int32) (x1 : Int32) (st : rs_T) (r : Int32) (s' : rs_T) (hf : fx_Op_puts_b36 x0 x1 st = some (r, s')) : ∀ (H : Heap) (locs : List Loc) (ls : Array Slot), lv_has ls 3 [(0, .int x0), (1, .int x1)] → gdC D k h (vE E) (arC k h s.heap.size) s.heap H locs st → W p l e rm_Op_puts s m args below meth c H locs 0 0 (MQ below (qIC D k h E s.heap.size r s') args s 0 0 (arC k h s.heap.size)) (F0 m 36 ls []) := by
  obtain ⟨hx, hb, hml, hr, hown, hts, hK, hN, hlk⟩ := id C
  intro H locs ls hl G
  unfold fx_Op_puts_b36 at hf
  refine lv_iconst (v := 1) hx hb dX2_puts_36 (by decide) ?_
  refine lv_goto (tgt := 41) hx hb dX2_puts_37 (by decide) ?_
  exact kx_Op_puts_b41 C x0 x1 1 st _ _ hf _ _ _ (lv_sub hl [0, 1] rfl) G
set_option maxHeartbeats 4000000 in
set_option maxRecDepth 100000 in
theorem kx_Op_puts_b17 {p : Program} {l : Launch} {e : Env} {s : State} {m : MethodId} {args : Array Value} {below : List Frame} {meth : Method} {c : Code} {D : va_G} {h : Nat → Nat} {E : Nat → Nat} {k : Nat → Nat × ClassId} (C : cxC D k p s m args meth c cX2_puts 3 (some .int) RX2) (x0 : Int32) (y0 : Int32) (st : rs_T) (r : Int32) (s' : rs_T) (hf : fx_Op_puts_b17 x0 y0 st = some (r, s')) : ∀ (H : Heap) (locs : List Loc) (ls : Array Slot), lv_has ls 3 [(0, .int x0)] → gdC D k h (vE E) (arC k h s.heap.size) s.heap H locs st → W p l e rm_Op_puts s m args below meth c H locs 0 0 (MQ below (qIC D k h E s.heap.size r s') args s 0 0 (arC k h s.heap.size)) (F0 m 17 ls [.int y0]) := by
  obtain ⟨hx, hb, hml, hr, hown, hts, hK, hN, hlk⟩ := id C
  intro H locs ls hl G
  unfold fx_Op_puts_b17 at hf
  refine lv_istore_n (lv' := [(1, .int y0), (0, .int x0)]) hx hb dX2_puts_17 rfl hl (by decide) rfl (fun ls hl => ?_)
  refine lv_iload_n hx hb dX2_puts_18 rfl (lv_at hl 1 rfl) ?_
  refine lv_bipush (v := 26) hx hb dX2_puts_19 (by decide) ?_
  refine lv_icmp_eq (tgt := 36) hx hb dX2_puts_21 (by decide) (fun c2 => ?_) (fun c2 => ?_)
  · replace hf := if_p hf c2
    exact kx_Op_puts_b36 C x0 y0 st _ _ hf _ _ _ (lv_sub hl [1, 0] rfl) G
  · replace hf := if_n hf c2
    refine lv_iload_n hx hb dX2_puts_24 rfl (lv_at hl 1 rfl) ?_
    refine lv_bipush (v := 33) hx hb dX2_puts_25 (by decide) ?_
    refine lv_icmp_eq (tgt := 36) hx hb dX2_puts_27 (by decide) (fun c6 => ?_) (fun c6 => ?_)
    · replace hf := if_p hf c6
      exact kx_Op_puts_b36 C x0 y0 st _ _ hf _ _ _ (lv_sub hl [1, 0] rfl) G
    · replace hf := if_n hf c6
      refine lv_iload_n hx hb dX2_puts_30 rfl (lv_at hl 1 rfl) ?_
      refine lv_bipush (v := 36) hx hb dX2_puts_31 (by decide) ?_
      refine lv_icmp_ne (tgt := 40) hx hb dX2_puts_33 (by decide) (fun c7 => ?_) (fun c7 => ?_)
      · replace hf := if_n hf c7
        refine lv_iconst (v := 0) hx hb dX2_puts_40 (by decide) ?_
        exact kx_Op_puts_b41 C x0 y0 0 st _ _ hf _ _ _ (lv_sub hl [1, 0] rfl) G
      · replace hf := if_p hf c7
        exact kx_Op_puts_b36 C x0 y0 st _ _ hf _ _ _ (lv_sub hl [1, 0] rfl) G
set_option maxHeartbeats 4000000 in
set_option maxRecDepth 100000 in
theorem kx_Op_puts_b16 {p : Program} {l : Launch} {e : Env} {s : State} {m : MethodId} {args : Array Value} {below : List Frame} {meth : Method} {c : Code} {D : va_G} {h : Nat → Nat} {E : Nat → Nat} {k : Nat → Nat × ClassId} (C : cxC D k p s m args meth c cX2_puts 3 (some .int) RX2) (x0 : Int32) (st : rs_T) (r : Int32) (s' : rs_T) (hf : fx_Op_puts_b16 x0 st = some (r, s')) : ∀ (H : Heap) (locs : List Loc) (ls : Array Slot), lv_has ls 3 [(0, .int x0)] → gdC D k h (vE E) (arC k h s.heap.size) s.heap H locs st → W p l e rm_Op_puts s m args below meth c H locs 0 0 (MQ below (qIC D k h E s.heap.size r s') args s 0 0 (arC k h s.heap.size)) (F0 m 16 ls []) := by
  obtain ⟨hx, hb, hml, hr, hown, hts, hK, hN, hlk⟩ := id C
  intro H locs ls hl G
  unfold fx_Op_puts_b16 at hf
  refine lv_iconst (v := 0) hx hb dX2_puts_16 (by decide) ?_
  exact kx_Op_puts_b17 C x0 0 st _ _ hf _ _ _ (lv_sub hl [0] rfl) G
set_option maxHeartbeats 4000000 in
set_option maxRecDepth 100000 in
theorem kx_Op_puts (l : Launch) (D : va_G) (k : Nat → Nat × ClassId) (h : Nat → Nat) (p0 : Int32) (st : rs_T) (r : Int32) (s' : rs_T) (hf : fx_Op_puts p0 st = some (r, s')) : mIC l D k h yX2_puts cX2_puts 3 .int rm_Op_puts [.int p0] st r s' := by
  refine mIC_of (by decide) ⟨rfl, rfl⟩ (Nat.le_of_ble_eq_true rfl) ?_
  intro p e s m below meth c ls C hl G
  obtain ⟨hx, hb, hml, hr, hown, hts, hK, hN, hlk⟩ := id C
  have hown : s.vm.findClass RX2 = some m.cls := hown
  have hl : lv_has ls 3 [(0, .int p0)] := hl
  unfold fx_Op_puts at hf
  refine lv_iload_n hx hb dX2_puts_0 rfl (lv_at hl 0 rfl) ?_
  refine lv_bipush (v := 54) hx hb dX2_puts_1 (by decide) ?_
  refine lv_icmp_lt (tgt := 16) hx hb dX2_puts_3 (by decide) (fun c1 => ?_) (fun c1 => ?_)
  · replace hf := if_p hf c1
    exact kx_Op_puts_b16 C p0 st _ _ hf _ _ _ (lv_sub hl [0] rfl) G
  · replace hf := if_n hf c1
    refine lv_iload_n hx hb dX2_puts_6 rfl (lv_at hl 0 rfl) ?_
    refine lv_bipush (v := 62) hx hb dX2_puts_7 (by decide) ?_
    refine lv_icmp_gt (tgt := 16) hx hb dX2_puts_9 (by decide) (fun c8 => ?_) (fun c8 => ?_)
    · replace hf := if_p hf c8
      exact kx_Op_puts_b16 C p0 st _ _ hf _ _ _ (lv_sub hl [0] rfl) G
    · replace hf := if_n hf c8
      refine lv_iconst (v := 1) hx hb dX2_puts_12 (by decide) ?_
      refine lv_goto (tgt := 17) hx hb dX2_puts_13 (by decide) ?_
      exact kx_Op_puts_b17 C p0 1 st _ _ hf _ _ _ (lv_sub hl [0] rfl) G
def rm_Pr_allLocals : Room := { frames := 0, cells := 0, slots := 0, locals := 0 }
set_option maxHeartbeats 4000000 in
set_option maxRecDepth 100000 in
theorem kx_Pr_allLocals (l : Launch) (D : va_G) (k : Nat → Nat × ClassId) (h : Nat → Nat) (p1 : Int32) (st : rs_T) (r : Int32) (s' : rs_T) (hf : fx_Pr_allLocals p1 st = some (r, s')) : mIC l D k h yX3_allLocals cX3_allLocals 2 .int rm_Pr_allLocals [.ref (h 1), .int p1] st r s' := by
  refine mIC_of (by decide) ⟨rfl, rfl⟩ (Nat.le_of_ble_eq_true rfl) ?_
  intro p e s m below meth c ls C hl G
  obtain ⟨hx, hb, hml, hr, hown, hts, hK, hN, hlk⟩ := id C
  have hown : s.vm.findClass RX3 = some m.cls := hown
  have hl : lv_has ls 2 [(0, .ref (h 1)), (1, .int p1)] := hl
  unfold fx_Pr_allLocals at hf
  refine lv_aload_n hx hb dX3_allLocals_0 rfl (lv_at hl 0 rfl) ?_
  refine fg_Pr_parameters hx hb hts hown hK G (hts _ lk_X3_9) dX3_allLocals_1 ?_
  refine lv_iload_n hx hb dX3_allLocals_4 rfl (lv_at hl 1 rfl) ?_
  obtain ⟨h_g1, hf⟩ := gd_some hf
  refine ra_IC (v := rA st 0 p1.toNatClampNeg) hx hb hK G (waC_10 ..) (t0 := 1) rfl rfl h_g1 dX3_allLocals_5 ?_
  refine lv_aload_n hx hb dX3_allLocals_6 rfl (lv_at hl 0 rfl) ?_
  refine fg_Pr_locals hx hb hts hown hK G (hts _ lk_X3_18) dX3_allLocals_7 ?_
  refine lv_iload_n hx hb dX3_allLocals_10 rfl (lv_at hl 1 rfl) ?_
  obtain ⟨h_g2, hf⟩ := gd_some hf
  refine ra_IC (v := rA st 2 p1.toNatClampNeg) hx hb hK G (waC_12 ..) (t0 := 3) rfl rfl h_g2 dX3_allLocals_11 ?_
  refine lv_iadd hx hb dX3_allLocals_12 ?_
  exact rt_iC C G hf dX3_allLocals_13
def rm_Wr_admitsPlain : Room := { frames := 3, cells := 0, slots := 0, locals := 66 }
set_option maxHeartbeats 4000000 in
set_option maxRecDepth 100000 in
theorem kx_Wr_admitsPlain_b82 {p : Program} {l : Launch} {e : Env} {s : State} {m : MethodId} {args : Array Value} {below : List Frame} {meth : Method} {c : Code} {D : va_G} {h : Nat → Nat} {E : Nat → Nat} {k : Nat → Nat × ClassId} (C : cxC D k p s m args meth c cX8_admitsPlain 6 (some .boolean) RX8) (x1 : Int32) (st : rs_T) (r : Int32) (s' : rs_T) (hf : fx_Wr_admitsPlain_b82 x1 st = some (r, s')) : ∀ (H : Heap) (locs : List Loc) (ls : Array Slot), lv_has ls 6 [(0, .ref (h 2)), (1, .int x1)] → gdC D k h (vE E) (arC k h s.heap.size) s.heap H locs st → W p l e rm_Wr_admitsPlain s m args below meth c H locs 0 0 (MQ below (qIC D k h E s.heap.size r s') args s 0 0 (arC k h s.heap.size)) (F0 m 82 ls []) := by
  obtain ⟨hx, hb, hml, hr, hown, hts, hK, hN, hlk⟩ := id C
  intro H locs ls hl G
  unfold fx_Wr_admitsPlain_b82 at hf
  refine lv_iload_n hx hb dX8_admitsPlain_82 rfl (lv_at hl 1 rfl) ?_
  obtain ⟨r6, st5, hst5, hf⟩ := bn_some hf
  refine cl_siC C hl G (As := [.int x1]) (rest := []) (kx_Op_takes l D k h x1 st _ _ hst5) gi_X8_174 hd_X2_takes ⟨Nat.le_of_ble_eq_true rfl, Nat.le_of_ble_eq_true rfl⟩ rfl rfl (Nat.le_of_ble_eq_true rfl) dX8_admitsPlain_83 ⟨Nat.zero_le _, Nat.zero_le _⟩ (fun H locs e0 G => ?_)
  refine lv_istore (lv' := [(5, .int r6), (0, .ref (h 2)), (1, .int x1)]) hx hb dX8_admitsPlain_86 hl (by decide) rfl (fun ls hl => ?_)
  refine lv_iload hx hb dX8_admitsPlain_88 (lv_at hl 0 rfl) ?_
  refine lv_iconst (v := (-1)) hx hb dX8_admitsPlain_90 (by decide) ?_
  refine lv_icmp_eq (tgt := 111) hx hb dX8_admitsPlain_91 (by decide) (fun c7 => ?_) (fun c7 => ?_)
  · replace hf := if_p hf c7
    refine lv_iconst (v := 0) hx hb dX8_admitsPlain_111 (by decide) ?_
    exact rt_zC C rfl G hf dX8_admitsPlain_112
  · replace hf := if_n hf c7
    refine lv_aload_n hx hb dX8_admitsPlain_94 rfl (lv_at hl 1 rfl) ?_
    refine lv_iload hx hb dX8_admitsPlain_95 (lv_at hl 0 rfl) ?_
    refine lv_iload_n hx hb dX8_admitsPlain_97 rfl (lv_at hl 2 rfl) ?_
    obtain ⟨r9, st8, hst8, hf⟩ := bn_some hf
    refine cl_siC C hl G (As := [.int x1]) (rest := [.int r6, .ref (h 2)]) (kx_Op_puts l D k h x1 st5 _ _ hst8) gi_X8_179 hd_X2_puts ⟨Nat.le_of_ble_eq_true rfl, Nat.le_of_ble_eq_true rfl⟩ rfl rfl (Nat.le_of_ble_eq_true rfl) dX8_admitsPlain_98 ⟨Nat.zero_le _, Nat.zero_le _⟩ (fun H locs e0 G => ?_)
    obtain ⟨r11, st10, hst10, hf⟩ := bn_some hf
    refine cl_viC C hl G (As := [.int r6, .int r9]) (rest := []) (kx_Wr_exchanges l D k h r6 r9 st8 _ _ hst10) gi_X8_121 (hwC_2 ..) rfl hd_X8_exchanges ⟨Nat.le_of_ble_eq_true rfl, Nat.le_of_ble_eq_true rfl⟩ rfl rfl (Nat.le_of_ble_eq_true rfl) dX8_admitsPlain_101 ⟨Nat.zero_le _, Nat.zero_le _⟩ (fun H locs e0 G => ?_)
    refine lv_if_eq (tgt := 111) hx hb dX8_admitsPlain_104 (by decide) (fun c12 => ?_) (fun c12 => ?_)
    · replace hf := if_p hf c12
      refine lv_iconst (v := 0) hx hb dX8_admitsPlain_111 (by decide) ?_
      exact rt_zC C rfl G hf dX8_admitsPlain_112
    · replace hf := if_n hf c12
      refine lv_iconst (v := 1) hx hb dX8_admitsPlain_107 (by decide) ?_
      refine lv_goto (tgt := 112) hx hb dX8_admitsPlain_108 (by decide) ?_
      exact rt_zC C rfl G hf dX8_admitsPlain_112
set_option maxHeartbeats 4000000 in
set_option maxRecDepth 100000 in
theorem kx_Wr_admitsPlain_b66 {p : Program} {l : Launch} {e : Env} {s : State} {m : MethodId} {args : Array Value} {below : List Frame} {meth : Method} {c : Code} {D : va_G} {h : Nat → Nat} {E : Nat → Nat} {k : Nat → Nat × ClassId} (C : cxC D k p s m args meth c cX8_admitsPlain 6 (some .boolean) RX8) (x1 : Int32) (x2 : Int32) (x4 : Int32) (st : rs_T) (r : Int32) (s' : rs_T) (hf : fx_Wr_admitsPlain_b66 x1 x2 x4 st = some (r, s')) : ∀ (H : Heap) (locs : List Loc) (ls : Array Slot), lv_has ls 6 [(0, .ref (h 2)), (1, .int x1), (2, .int x2), (4, .int x4)] → gdC D k h (vE E) (arC k h s.heap.size) s.heap H locs st → W p l e rm_Wr_admitsPlain s m args below meth c H locs 0 0 (MQ below (qIC D k h E s.heap.size r s') args s 0 0 (arC k h s.heap.size)) (F0 m 66 ls []) := by
  obtain ⟨hx, hb, hml, hr, hown, hts, hK, hN, hlk⟩ := id C
  intro H locs ls hl G
  unfold fx_Wr_admitsPlain_b66 at hf
  refine lv_iload hx hb dX8_admitsPlain_66 (lv_at hl 3 rfl) ?_
  refine lv_if_eq (tgt := 82) hx hb dX8_admitsPlain_68 (by decide) (fun c4 => ?_) (fun c4 => ?_)
  · replace hf := if_p hf c4
    exact kx_Wr_admitsPlain_b82 C x1 st _ _ hf _ _ _ (lv_sub hl [0, 1] rfl) G
  · replace hf := if_n hf c4
    refine lv_iload_n hx hb dX8_admitsPlain_71 rfl (lv_at hl 2 rfl) ?_
    refine lv_bipush (v := 7) hx hb dX8_admitsPlain_72 (by decide) ?_
    obtain ⟨r14, st13, hst13, hf⟩ := bn_some hf
    refine cl_niC C hl G (As := [.int x2, .int 7]) (rest := []) (kx_Ma_isWithin l D k h x2 7 st _ _ hst13) lk_X8_44 st_X9_isWithin in_X9 gj_X9_isWithin hd_X9_isWithin ⟨Nat.le_of_ble_eq_true rfl, Nat.le_of_ble_eq_true rfl⟩ rfl rfl (Nat.le_of_ble_eq_true rfl) dX8_admitsPlain_74 ⟨Nat.zero_le _, Nat.zero_le _⟩ (fun H locs e0 G => ?_)
    refine lv_if_ne (tgt := 82) hx hb dX8_admitsPlain_77 (by decide) (fun c15 => ?_) (fun c15 => ?_)
    · replace hf := if_n hf c15
      exact kx_Wr_admitsPlain_b82 C x1 st13 _ _ hf _ _ _ (lv_sub hl [0, 1] rfl) G
    · replace hf := if_p hf c15
      refine lv_iconst (v := 0) hx hb dX8_admitsPlain_80 (by decide) ?_
      exact rt_zC C rfl G hf dX8_admitsPlain_81
set_option maxHeartbeats 4000000 in
set_option maxRecDepth 100000 in
theorem kx_Wr_admitsPlain_b35 {p : Program} {l : Launch} {e : Env} {s : State} {m : MethodId} {args : Array Value} {below : List Frame} {meth : Method} {c : Code} {D : va_G} {h : Nat → Nat} {E : Nat → Nat} {k : Nat → Nat × ClassId} (C : cxC D k p s m args meth c cX8_admitsPlain 6 (some .boolean) RX8) (x1 : Int32) (x2 : Int32) (x3 : Int32) (y0 : Int32) (st : rs_T) (r : Int32) (s' : rs_T) (hf : fx_Wr_admitsPlain_b35 x1 x2 x3 y0 st = some (r, s')) : ∀ (H : Heap) (locs : List Loc) (ls : Array Slot), lv_has ls 6 [(0, .ref (h 2)), (1, .int x1), (2, .int x2), (3, .int x3)] → gdC D k h (vE E) (arC k h s.heap.size) s.heap H locs st → W p l e rm_Wr_admitsPlain s m args below meth c H locs 0 0 (MQ below (qIC D k h E s.heap.size r s') args s 0 0 (arC k h s.heap.size)) (F0 m 35 ls [.int y0]) := by
  obtain ⟨hx, hb, hml, hr, hown, hts, hK, hN, hlk⟩ := id C
  intro H locs ls hl G
  unfold fx_Wr_admitsPlain_b35 at hf
  refine lv_istore (lv' := [(4, .int y0), (0, .ref (h 2)), (1, .int x1), (2, .int x2), (3, .int x3)]) hx hb dX8_admitsPlain_35 hl (by decide) rfl (fun ls hl => ?_)
  refine lv_iload_n hx hb dX8_admitsPlain_37 rfl (lv_at hl 4 rfl) ?_
  refine lv_if_eq (tgt := 66) hx hb dX8_admitsPlain_38 (by decide) (fun c3 => ?_) (fun c3 => ?_)
  · replace hf := if_p hf c3
    exact kx_Wr_admitsPlain_b66 C x1 x2 y0 st _ _ hf _ _ _ (lv_sub hl [1, 2, 3, 0] rfl) G
  · replace hf := if_n hf c3
    refine lv_iload_n hx hb dX8_admitsPlain_41 rfl (lv_at hl 3 rfl) ?_
    refine lv_aload_n hx hb dX8_admitsPlain_42 rfl (lv_at hl 1 rfl) ?_
    refine fg_Wr_program hx hb hts hown hK G (hts _ lk_X8_32) dX8_admitsPlain_43 ?_
    refine lv_aload_n hx hb dX8_admitsPlain_46 rfl (lv_at hl 1 rfl) ?_
    refine fg_Wr_program hx hb hts hown hK G (hts _ lk_X8_32) dX8_admitsPlain_47 ?_
    refine fg_Pr_written (v := rI st 3) hx hb hts hown hK G (hts _ lk_X8_41) rfl dX8_admitsPlain_50 ?_
    obtain ⟨r17, st16, hst16, hf⟩ := bn_some hf
    refine cl_viC C hl G (As := [.int (rI st 3)]) (rest := [.int x2]) (kx_Pr_allLocals l D k h (rI st 3) st _ _ hst16) gi_X8_171 (hwC_1 ..) rfl hd_X3_allLocals ⟨Nat.le_of_ble_eq_true rfl, Nat.le_of_ble_eq_true rfl⟩ rfl rfl (Nat.le_of_ble_eq_true rfl) dX8_admitsPlain_53 ⟨Nat.zero_le _, Nat.zero_le _⟩ (fun H locs e0 G => ?_)
    refine lv_iconst (v := 1) hx hb dX8_admitsPlain_56 (by decide) ?_
    refine lv_isub hx hb dX8_admitsPlain_57 ?_
    obtain ⟨r19, st18, hst18, hf⟩ := bn_some hf
    refine cl_niC C hl G (As := [.int x2, .int (r17 - 1)]) (rest := []) (kx_Ma_isWithin l D k h x2 (r17 - 1) st16 _ _ hst18) lk_X8_44 st_X9_isWithin in_X9 gj_X9_isWithin hd_X9_isWithin ⟨Nat.le_of_ble_eq_true rfl, Nat.le_of_ble_eq_true rfl⟩ rfl rfl (Nat.le_of_ble_eq_true rfl) dX8_admitsPlain_58 ⟨Nat.zero_le _, Nat.zero_le _⟩ (fun H locs e0 G => ?_)
    refine lv_if_ne (tgt := 66) hx hb dX8_admitsPlain_61 (by decide) (fun c20 => ?_) (fun c20 => ?_)
    · replace hf := if_n hf c20
      exact kx_Wr_admitsPlain_b66 C x1 x2 y0 st18 _ _ hf _ _ _ (lv_sub hl [1, 2, 3, 0] rfl) G
    · replace hf := if_p hf c20
      refine lv_iconst (v := 0) hx hb dX8_admitsPlain_64 (by decide) ?_
      exact rt_zC C rfl G hf dX8_admitsPlain_65
set_option maxHeartbeats 4000000 in
set_option maxRecDepth 100000 in
theorem kx_Wr_admitsPlain_b30 {p : Program} {l : Launch} {e : Env} {s : State} {m : MethodId} {args : Array Value} {below : List Frame} {meth : Method} {c : Code} {D : va_G} {h : Nat → Nat} {E : Nat → Nat} {k : Nat → Nat × ClassId} (C : cxC D k p s m args meth c cX8_admitsPlain 6 (some .boolean) RX8) (x1 : Int32) (x2 : Int32) (x3 : Int32) (st : rs_T) (r : Int32) (s' : rs_T) (hf : fx_Wr_admitsPlain_b30 x1 x2 x3 st = some (r, s')) : ∀ (H : Heap) (locs : List Loc) (ls : Array Slot), lv_has ls 6 [(0, .ref (h 2)), (1, .int x1), (2, .int x2), (3, .int x3)] → gdC D k h (vE E) (arC k h s.heap.size) s.heap H locs st → W p l e rm_Wr_admitsPlain s m args below meth c H locs 0 0 (MQ below (qIC D k h E s.heap.size r s') args s 0 0 (arC k h s.heap.size)) (F0 m 30 ls []) := by
  obtain ⟨hx, hb, hml, hr, hown, hts, hK, hN, hlk⟩ := id C
  intro H locs ls hl G
  unfold fx_Wr_admitsPlain_b30 at hf
  refine lv_iconst (v := 1) hx hb dX8_admitsPlain_30 (by decide) ?_
  refine lv_goto (tgt := 35) hx hb dX8_admitsPlain_31 (by decide) ?_
  exact kx_Wr_admitsPlain_b35 C x1 x2 x3 1 st _ _ hf _ _ _ (lv_sub hl [0, 1, 2, 3] rfl) G
set_option maxHeartbeats 4000000 in
set_option maxRecDepth 100000 in
theorem kx_Wr_admitsPlain_b17 {p : Program} {l : Launch} {e : Env} {s : State} {m : MethodId} {args : Array Value} {below : List Frame} {meth : Method} {c : Code} {D : va_G} {h : Nat → Nat} {E : Nat → Nat} {k : Nat → Nat × ClassId} (C : cxC D k p s m args meth c cX8_admitsPlain 6 (some .boolean) RX8) (x1 : Int32) (x2 : Int32) (y0 : Int32) (st : rs_T) (r : Int32) (s' : rs_T) (hf : fx_Wr_admitsPlain_b17 x1 x2 y0 st = some (r, s')) : ∀ (H : Heap) (locs : List Loc) (ls : Array Slot), lv_has ls 6 [(0, .ref (h 2)), (1, .int x1), (2, .int x2)] → gdC D k h (vE E) (arC k h s.heap.size) s.heap H locs st → W p l e rm_Wr_admitsPlain s m args below meth c H locs 0 0 (MQ below (qIC D k h E s.heap.size r s') args s 0 0 (arC k h s.heap.size)) (F0 m 17 ls [.int y0]) := by
  obtain ⟨hx, hb, hml, hr, hown, hts, hK, hN, hlk⟩ := id C
  intro H locs ls hl G
  unfold fx_Wr_admitsPlain_b17 at hf
  refine lv_istore_n (lv' := [(3, .int y0), (0, .ref (h 2)), (1, .int x1), (2, .int x2)]) hx hb dX8_admitsPlain_17 rfl hl (by decide) rfl (fun ls hl => ?_)
  refine lv_iload_n hx hb dX8_admitsPlain_18 rfl (lv_at hl 2 rfl) ?_
  refine lv_bipush (v := 35) hx hb dX8_admitsPlain_19 (by decide) ?_
  refine lv_icmp_eq (tgt := 30) hx hb dX8_admitsPlain_21 (by decide) (fun c2 => ?_) (fun c2 => ?_)
  · replace hf := if_p hf c2
    exact kx_Wr_admitsPlain_b30 C x1 x2 y0 st _ _ hf _ _ _ (lv_sub hl [1, 2, 3, 0] rfl) G
  · replace hf := if_n hf c2
    refine lv_iload_n hx hb dX8_admitsPlain_24 rfl (lv_at hl 2 rfl) ?_
    refine lv_bipush (v := 36) hx hb dX8_admitsPlain_25 (by decide) ?_
    refine lv_icmp_ne (tgt := 34) hx hb dX8_admitsPlain_27 (by decide) (fun c21 => ?_) (fun c21 => ?_)
    · replace hf := if_n hf c21
      refine lv_iconst (v := 0) hx hb dX8_admitsPlain_34 (by decide) ?_
      exact kx_Wr_admitsPlain_b35 C x1 x2 y0 0 st _ _ hf _ _ _ (lv_sub hl [1, 2, 3, 0] rfl) G
    · replace hf := if_p hf c21
      exact kx_Wr_admitsPlain_b30 C x1 x2 y0 st _ _ hf _ _ _ (lv_sub hl [1, 2, 3, 0] rfl) G
set_option maxHeartbeats 4000000 in
set_option maxRecDepth 100000 in
theorem kx_Wr_admitsPlain_b16 {p : Program} {l : Launch} {e : Env} {s : State} {m : MethodId} {args : Array Value} {below : List Frame} {meth : Method} {c : Code} {D : va_G} {h : Nat → Nat} {E : Nat → Nat} {k : Nat → Nat × ClassId} (C : cxC D k p s m args meth c cX8_admitsPlain 6 (some .boolean) RX8) (x1 : Int32) (x2 : Int32) (st : rs_T) (r : Int32) (s' : rs_T) (hf : fx_Wr_admitsPlain_b16 x1 x2 st = some (r, s')) : ∀ (H : Heap) (locs : List Loc) (ls : Array Slot), lv_has ls 6 [(0, .ref (h 2)), (1, .int x1), (2, .int x2)] → gdC D k h (vE E) (arC k h s.heap.size) s.heap H locs st → W p l e rm_Wr_admitsPlain s m args below meth c H locs 0 0 (MQ below (qIC D k h E s.heap.size r s') args s 0 0 (arC k h s.heap.size)) (F0 m 16 ls []) := by
  obtain ⟨hx, hb, hml, hr, hown, hts, hK, hN, hlk⟩ := id C
  intro H locs ls hl G
  unfold fx_Wr_admitsPlain_b16 at hf
  refine lv_iconst (v := 0) hx hb dX8_admitsPlain_16 (by decide) ?_
  exact kx_Wr_admitsPlain_b17 C x1 x2 0 st _ _ hf _ _ _ (lv_sub hl [0, 1, 2] rfl) G
set_option maxHeartbeats 4000000 in
set_option maxRecDepth 100000 in
theorem kx_Wr_admitsPlain (l : Launch) (D : va_G) (k : Nat → Nat × ClassId) (h : Nat → Nat) (p1 : Int32) (p2 : Int32) (st : rs_T) (r : Int32) (s' : rs_T) (hf : fx_Wr_admitsPlain p1 p2 st = some (r, s')) : mIC l D k h yX8_admitsPlain cX8_admitsPlain 6 .boolean rm_Wr_admitsPlain [.ref (h 2), .int p1, .int p2] st r s' := by
  refine mIC_of (by decide) ⟨rfl, rfl⟩ (Nat.le_of_ble_eq_true rfl) ?_
  intro p e s m below meth c ls C hl G
  obtain ⟨hx, hb, hml, hr, hown, hts, hK, hN, hlk⟩ := id C
  have hown : s.vm.findClass RX8 = some m.cls := hown
  have hl : lv_has ls 6 [(0, .ref (h 2)), (1, .int p1), (2, .int p2)] := hl
  unfold fx_Wr_admitsPlain at hf
  refine lv_iload_n hx hb dX8_admitsPlain_0 rfl (lv_at hl 1 rfl) ?_
  refine lv_bipush (v := 32) hx hb dX8_admitsPlain_1 (by decide) ?_
  refine lv_icmp_lt (tgt := 16) hx hb dX8_admitsPlain_3 (by decide) (fun c1 => ?_) (fun c1 => ?_)
  · replace hf := if_p hf c1
    exact kx_Wr_admitsPlain_b16 C p1 p2 st _ _ hf _ _ _ (lv_sub hl [0, 1, 2] rfl) G
  · replace hf := if_n hf c1
    refine lv_iload_n hx hb dX8_admitsPlain_6 rfl (lv_at hl 1 rfl) ?_
    refine lv_bipush (v := 34) hx hb dX8_admitsPlain_7 (by decide) ?_
    refine lv_icmp_gt (tgt := 16) hx hb dX8_admitsPlain_9 (by decide) (fun c22 => ?_) (fun c22 => ?_)
    · replace hf := if_p hf c22
      exact kx_Wr_admitsPlain_b16 C p1 p2 st _ _ hf _ _ _ (lv_sub hl [0, 1, 2] rfl) G
    · replace hf := if_n hf c22
      refine lv_iconst (v := 1) hx hb dX8_admitsPlain_12 (by decide) ?_
      refine lv_goto (tgt := 17) hx hb dX8_admitsPlain_13 (by decide) ?_
      exact kx_Wr_admitsPlain_b17 C p1 p2 1 st _ _ hf _ _ _ (lv_sub hl [0, 1, 2] rfl) G
