def rm_Rr_useMemory : Room := { frames := 2, cells := 0, slots := 0, locals := 47 }
set_option maxHeartbeats 4000000 in
set_option maxRecDepth 100000 in
theorem kx_Rr_useMemory (l : Launch) (D : va_G) (k : Nat → Nat × ClassId) (h : Nat → Nat) (N : Nat) (p1 : Int32) (p2 : Int32) (p3 : Int32) (st : rs_T) (s' : rs_T) (hf : fx_Rr_useMemory N p1 p2 p3 st = some s') : mVC l D k h yX5_useMemory cX5_useMemory 8 rm_Rr_useMemory [.ref (h 8), .int p1, .int p2, .int p3] st s' := by
  refine mVC_of (by decide) ⟨rfl, rfl⟩ (Nat.le_of_ble_eq_true rfl) ?_
  intro p e s m below meth c ls C hl G
  obtain ⟨hx, hb, hml, hr, hown, hts, hK, hN, hlk⟩ := id C
  have hown : s.vm.findClass RX5 = some m.cls := hown
  have hl : lv_has ls 8 [(0, .ref (h 8)), (1, .int p1), (2, .int p2), (3, .int p3)] := hl
  unfold fx_Rr_useMemory at hf
  refine lv_iload_n hx hb dX5_useMemory_0 rfl (lv_at hl 2 rfl) ?_
  refine lv_bipush (v := 63) hx hb dX5_useMemory_1 (by decide) ?_
  refine lv_icmp_ne (tgt := 29) hx hb dX5_useMemory_3 (by decide) (fun c1 => ?_) (fun c1 => ?_)
  · replace hf := if_n hf c1
    refine lv_aload_n hx hb dX5_useMemory_29 rfl (lv_at hl 0 rfl) ?_
    refine lv_iload_n hx hb dX5_useMemory_30 rfl (lv_at hl 1 rfl) ?_
    refine lv_aload_n hx hb dX5_useMemory_31 rfl (lv_at hl 0 rfl) ?_
    refine fg_Rr_code hx hb hts hown hK G (hts _ lk_X5_15) dX5_useMemory_32 ?_
    refine fg_Rc_x hx hb hts hown hK G (hts _ lk_X5_62) dX5_useMemory_35 ?_
    refine lv_iload_n hx hb dX5_useMemory_38 rfl (lv_at hl 3 rfl) ?_
    obtain ⟨h_g2, hf⟩ := gd_some hf
    refine ra_IC (v := rA st 26 p3.toNatClampNeg) hx hb hK G (waC_39 ..) (t0 := 30) rfl rfl h_g2 dX5_useMemory_39 ?_
    obtain ⟨r4, st3, hst3, hf⟩ := bn_some hf
    refine cl_vlC C hl G (As := [.int p1, .int (rA st 26 p3.toNatClampNeg)]) (rest := []) (kx_Rr_read l D k h p1 (rA st 26 p3.toNatClampNeg) st _ _ hst3) gi_X5_65 (hwC_8 ..) rfl hd_X5_read ⟨Nat.le_of_ble_eq_true rfl, Nat.le_of_ble_eq_true rfl⟩ rfl rfl (Nat.le_of_ble_eq_true rfl) dX5_useMemory_40 ⟨Nat.zero_le _, Nat.zero_le _⟩ (fun H locs e0 G => ?_)
    refine lv_lstore (lv' := [(4, .long r4), (0, .ref (h 8)), (1, .int p1), (2, .int p2), (3, .int p3)]) hx hb dX5_useMemory_43 hl (by decide) rfl (fun ls hl => ?_)
    refine lv_iload_n hx hb dX5_useMemory_45 rfl (lv_at hl 3 rfl) ?_
    refine lv_bipush (v := 64) hx hb dX5_useMemory_46 (by decide) ?_
    refine lv_icmp_ne (tgt := 75) hx hb dX5_useMemory_48 (by decide) (fun c5 => ?_) (fun c5 => ?_)
    · replace hf := if_n hf c5
      refine lv_lload hx hb dX5_useMemory_75 (lv_at hl 0 rfl) ?_
      refine lv_aload_n hx hb dX5_useMemory_77 rfl (lv_at hl 1 rfl) ?_
      refine fg_Rr_code hx hb hts hown hK G (hts _ lk_X5_15) dX5_useMemory_78 ?_
      refine fg_Rc_z hx hb hts hown hK G (hts _ lk_X5_111) dX5_useMemory_81 ?_
      refine lv_iload_n hx hb dX5_useMemory_84 rfl (lv_at hl 4 rfl) ?_
      obtain ⟨h_g6, hf⟩ := gd_some hf
      refine ra_IC (v := rA st3 28 p3.toNatClampNeg) hx hb hK G (waC_41 ..) (t0 := 32) rfl rfl h_g6 dX5_useMemory_85 ?_
      obtain ⟨r8, st7, hst7, hf⟩ := bn_some hf
      refine cl_slC C hl G (As := [.long r4, .int (rA st3 28 p3.toNatClampNeg)]) (rest := []) (kx_Wo_place l D k h r4 (rA st3 28 p3.toNatClampNeg) st3 _ _ hst7) gi_X5_114 hd_X7_place ⟨Nat.le_of_ble_eq_true rfl, Nat.le_of_ble_eq_true rfl⟩ rfl rfl (Nat.le_of_ble_eq_true rfl) dX5_useMemory_86 ⟨Nat.zero_le _, Nat.zero_le _⟩ (fun H locs e0 G => ?_)
      refine lv_lstore (lv' := [(6, .long r8), (4, .long r4), (0, .ref (h 8)), (1, .int p1), (2, .int p2), (3, .int p3)]) hx hb dX5_useMemory_89 hl (by decide) rfl (fun ls hl => ?_)
      refine lv_aload_n hx hb dX5_useMemory_91 rfl (lv_at hl 2 rfl) ?_
      refine fg_Rr_world hx hb hts hown hK G (hts _ lk_X5_19) dX5_useMemory_92 ?_
      refine lv_lload hx hb dX5_useMemory_95 (lv_at hl 0 rfl) ?_
      refine lv_iload_n hx hb dX5_useMemory_97 rfl (lv_at hl 4 rfl) ?_
      obtain ⟨r10, st9, hst9, hf⟩ := bn_some hf
      refine cl_siC C hl G (As := [.int p2]) (rest := [.long r8, .ref (h 3)]) (kx_Wo_width l D k h p2 st7 _ _ hst9) gi_X5_118 hd_X7_width ⟨Nat.le_of_ble_eq_true rfl, Nat.le_of_ble_eq_true rfl⟩ rfl rfl (Nat.le_of_ble_eq_true rfl) dX5_useMemory_98 ⟨Nat.zero_le _, Nat.zero_le _⟩ (fun H locs e0 G => ?_)
      obtain ⟨r12, st11, hst11, hf⟩ := bn_some hf
      refine cl_viC C hl G (As := [.long r8, .int r10]) (rest := []) (kx_Wo_holds l D k h r8 r10 st9 _ _ hst11) gi_X5_121 (hwC_3 ..) rfl hd_X7_holds ⟨Nat.le_of_ble_eq_true rfl, Nat.le_of_ble_eq_true rfl⟩ rfl rfl (Nat.le_of_ble_eq_true rfl) dX5_useMemory_101 ⟨Nat.zero_le _, Nat.zero_le _⟩ (fun H locs e0 G => ?_)
      refine lv_if_ne (tgt := 118) hx hb dX5_useMemory_104 (by decide) (fun c13 => ?_) (fun c13 => ?_)
      · replace hf := if_n hf c13
        refine lv_iload_n hx hb dX5_useMemory_118 rfl (lv_at hl 4 rfl) ?_
        refine lv_bipush (v := 54) hx hb dX5_useMemory_119 (by decide) ?_
        refine lv_icmp_lt (tgt := 152) hx hb dX5_useMemory_121 (by decide) (fun c14 => ?_) (fun c14 => ?_)
        · replace hf := if_p hf c14
          refine lv_aload_n hx hb dX5_useMemory_152 rfl (lv_at hl 2 rfl) ?_
          refine lv_iload_n hx hb dX5_useMemory_153 rfl (lv_at hl 3 rfl) ?_
          refine lv_aload_n hx hb dX5_useMemory_154 rfl (lv_at hl 2 rfl) ?_
          refine fg_Rr_code hx hb hts hown hK G (hts _ lk_X5_15) dX5_useMemory_155 ?_
          refine fg_Rc_to hx hb hts hown hK G (hts _ lk_X5_59) dX5_useMemory_158 ?_
          refine lv_iload_n hx hb dX5_useMemory_161 rfl (lv_at hl 5 rfl) ?_
          obtain ⟨h_g15, hf⟩ := gd_some hf
          refine ra_IC (v := rA st11 25 p3.toNatClampNeg) hx hb hK G (waC_38 ..) (t0 := 29) rfl rfl h_g15 dX5_useMemory_162 ?_
          refine lv_aload_n hx hb dX5_useMemory_163 rfl (lv_at hl 2 rfl) ?_
          refine fg_Rr_world hx hb hts hown hK G (hts _ lk_X5_19) dX5_useMemory_164 ?_
          refine lv_iload_n hx hb dX5_useMemory_167 rfl (lv_at hl 4 rfl) ?_
          refine lv_lload hx hb dX5_useMemory_168 (lv_at hl 0 rfl) ?_
          refine lv_l2i (v := r8.toInt32) hx hb dX5_useMemory_170 rfl ?_
          obtain ⟨r17, st16, hst16, hf⟩ := bn_some hf
          refine cl_vlC C hl G (As := [.int p2, .int r8.toInt32]) (rest := [.int (rA st11 25 p3.toNatClampNeg), .int p1, .ref (h 8)]) (kx_Wo_load l D k h N p2 r8.toInt32 st11 _ _ hst16) gi_X5_128 (hwC_3 ..) rfl hd_X7_load ⟨Nat.le_of_ble_eq_true rfl, Nat.le_of_ble_eq_true rfl⟩ rfl rfl (Nat.le_of_ble_eq_true rfl) dX5_useMemory_171 ⟨Nat.zero_le _, Nat.zero_le _⟩ (fun H locs e0 G => ?_)
          obtain ⟨st18, hst18, hf⟩ := bv_some hf
          refine cl_vvC C hl G (As := [.int p1, .int (rA st11 25 p3.toNatClampNeg), .long r17]) (rest := []) (kx_Rr_setRegister l D k h p1 (rA st11 25 p3.toNatClampNeg) r17 st16 _ hst18) gi_X5_69 (hwC_8 ..) rfl hd_X5_setRegister ⟨Nat.le_of_ble_eq_true rfl, Nat.le_of_ble_eq_true rfl⟩ rfl rfl (Nat.le_of_ble_eq_true rfl) dX5_useMemory_174 ⟨Nat.zero_le _, Nat.zero_le _⟩ (fun H locs e0 G => ?_)
          exact rt_vC C G hf dX5_useMemory_177
        · replace hf := if_n hf c14
          refine lv_aload_n hx hb dX5_useMemory_124 rfl (lv_at hl 2 rfl) ?_
          refine fg_Rr_world hx hb hts hown hK G (hts _ lk_X5_19) dX5_useMemory_125 ?_
          refine lv_iload_n hx hb dX5_useMemory_128 rfl (lv_at hl 4 rfl) ?_
          refine lv_lload hx hb dX5_useMemory_129 (lv_at hl 0 rfl) ?_
          refine lv_l2i (v := r8.toInt32) hx hb dX5_useMemory_131 rfl ?_
          refine lv_aload_n hx hb dX5_useMemory_132 rfl (lv_at hl 2 rfl) ?_
          refine lv_iload_n hx hb dX5_useMemory_133 rfl (lv_at hl 3 rfl) ?_
          refine lv_aload_n hx hb dX5_useMemory_134 rfl (lv_at hl 2 rfl) ?_
          refine fg_Rr_code hx hb hts hown hK G (hts _ lk_X5_15) dX5_useMemory_135 ?_
          refine fg_Rc_y hx hb hts hown hK G (hts _ lk_X5_86) dX5_useMemory_138 ?_
          refine lv_iload_n hx hb dX5_useMemory_141 rfl (lv_at hl 5 rfl) ?_
          obtain ⟨h_g19, hf⟩ := gd_some hf
          refine ra_IC (v := rA st11 27 p3.toNatClampNeg) hx hb hK G (waC_40 ..) (t0 := 31) rfl rfl h_g19 dX5_useMemory_142 ?_
          obtain ⟨r21, st20, hst20, hf⟩ := bn_some hf
          refine cl_vlC C hl G (As := [.int p1, .int (rA st11 27 p3.toNatClampNeg)]) (rest := [.int r8.toInt32, .int p2, .ref (h 3)]) (kx_Rr_read l D k h p1 (rA st11 27 p3.toNatClampNeg) st11 _ _ hst20) gi_X5_65 (hwC_8 ..) rfl hd_X5_read ⟨Nat.le_of_ble_eq_true rfl, Nat.le_of_ble_eq_true rfl⟩ rfl rfl (Nat.le_of_ble_eq_true rfl) dX5_useMemory_143 ⟨Nat.zero_le _, Nat.zero_le _⟩ (fun H locs e0 G => ?_)
          obtain ⟨st22, hst22, hf⟩ := bv_some hf
          refine cl_vvC C hl G (As := [.int p2, .int r8.toInt32, .long r21]) (rest := []) (kx_Wo_store l D k h N p2 r8.toInt32 r21 st20 _ hst22) gi_X5_125 (hwC_3 ..) rfl hd_X7_store ⟨Nat.le_of_ble_eq_true rfl, Nat.le_of_ble_eq_true rfl⟩ rfl rfl (Nat.le_of_ble_eq_true rfl) dX5_useMemory_146 ⟨Nat.zero_le _, Nat.zero_le _⟩ (fun H locs e0 G => ?_)
          refine lv_goto (tgt := 177) hx hb dX5_useMemory_149 (by decide) ?_
          exact rt_vC C G hf dX5_useMemory_177
      · replace hf := if_p hf c13
        refine lv_aload_n hx hb dX5_useMemory_107 rfl (lv_at hl 2 rfl) ?_
        refine fg_Rr_activity hx hb hts hown hK G (hts _ lk_X5_23) dX5_useMemory_108 ?_
        refine lv_iconst (v := 4) hx hb dX5_useMemory_111 (by decide) ?_
        obtain ⟨st23, hst23, hf⟩ := bv_some hf
        refine cl_vvC C hl G (As := [.int 4]) (rest := []) (kx_Ac_fail l D k h 4 st11 _ hst23) gi_X5_95 (hwC_4 ..) rfl hd_X0_fail ⟨Nat.le_of_ble_eq_true rfl, Nat.le_of_ble_eq_true rfl⟩ rfl rfl (Nat.le_of_ble_eq_true rfl) dX5_useMemory_112 ⟨Nat.zero_le _, Nat.zero_le _⟩ (fun H locs e0 G => ?_)
        refine lv_goto (tgt := 177) hx hb dX5_useMemory_115 (by decide) ?_
        exact rt_vC C G hf dX5_useMemory_177
    · replace hf := if_p hf c5
      refine lv_aload_n hx hb dX5_useMemory_51 rfl (lv_at hl 1 rfl) ?_
      refine lv_iload_n hx hb dX5_useMemory_52 rfl (lv_at hl 2 rfl) ?_
      refine lv_aload_n hx hb dX5_useMemory_53 rfl (lv_at hl 1 rfl) ?_
      refine fg_Rr_code hx hb hts hown hK G (hts _ lk_X5_15) dX5_useMemory_54 ?_
      refine fg_Rc_to hx hb hts hown hK G (hts _ lk_X5_59) dX5_useMemory_57 ?_
      refine lv_iload_n hx hb dX5_useMemory_60 rfl (lv_at hl 4 rfl) ?_
      obtain ⟨h_g24, hf⟩ := gd_some hf
      refine ra_IC (v := rA st3 25 p3.toNatClampNeg) hx hb hK G (waC_38 ..) (t0 := 29) rfl rfl h_g24 dX5_useMemory_61 ?_
      refine lv_aload_n hx hb dX5_useMemory_62 rfl (lv_at hl 1 rfl) ?_
      refine fg_Rr_world hx hb hts hown hK G (hts _ lk_X5_19) dX5_useMemory_63 ?_
      refine lv_lload hx hb dX5_useMemory_66 (lv_at hl 0 rfl) ?_
      obtain ⟨r26, st25, hst25, hf⟩ := bn_some hf
      refine cl_vlC C hl G (As := [.long r4]) (rest := [.int (rA st3 25 p3.toNatClampNeg), .int p1, .ref (h 8)]) (kx_Wo_grow l D k h r4 st3 _ _ hst25) gi_X5_107 (hwC_3 ..) rfl hd_X7_grow ⟨Nat.le_of_ble_eq_true rfl, Nat.le_of_ble_eq_true rfl⟩ rfl rfl (Nat.le_of_ble_eq_true rfl) dX5_useMemory_68 ⟨Nat.zero_le _, Nat.zero_le _⟩ (fun H locs e0 G => ?_)
      obtain ⟨st27, hst27, hf⟩ := bv_some hf
      refine cl_vvC C hl G (As := [.int p1, .int (rA st3 25 p3.toNatClampNeg), .long r26]) (rest := []) (kx_Rr_setRegister l D k h p1 (rA st3 25 p3.toNatClampNeg) r26 st25 _ hst27) gi_X5_69 (hwC_8 ..) rfl hd_X5_setRegister ⟨Nat.le_of_ble_eq_true rfl, Nat.le_of_ble_eq_true rfl⟩ rfl rfl (Nat.le_of_ble_eq_true rfl) dX5_useMemory_71 ⟨Nat.zero_le _, Nat.zero_le _⟩ (fun H locs e0 G => ?_)
      exact rt_vC C G hf dX5_useMemory_74
  · replace hf := if_p hf c1
    refine lv_aload_n hx hb dX5_useMemory_6 rfl (lv_at hl 0 rfl) ?_
    refine lv_iload_n hx hb dX5_useMemory_7 rfl (lv_at hl 1 rfl) ?_
    refine lv_aload_n hx hb dX5_useMemory_8 rfl (lv_at hl 0 rfl) ?_
    refine fg_Rr_code hx hb hts hown hK G (hts _ lk_X5_15) dX5_useMemory_9 ?_
    refine fg_Rc_to hx hb hts hown hK G (hts _ lk_X5_59) dX5_useMemory_12 ?_
    refine lv_iload_n hx hb dX5_useMemory_15 rfl (lv_at hl 3 rfl) ?_
    obtain ⟨h_g28, hf⟩ := gd_some hf
    refine ra_IC (v := rA st 25 p3.toNatClampNeg) hx hb hK G (waC_38 ..) (t0 := 29) rfl rfl h_g28 dX5_useMemory_16 ?_
    refine lv_aload_n hx hb dX5_useMemory_17 rfl (lv_at hl 0 rfl) ?_
    refine fg_Rr_world hx hb hts hown hK G (hts _ lk_X5_19) dX5_useMemory_18 ?_
    refine fg_Wo_pages (v := rI st 9) hx hb hts hown hK G (hts _ lk_X5_102) rfl dX5_useMemory_21 ?_
    refine lv_i2l (v := (rI st 9).toInt64) hx hb dX5_useMemory_24 rfl ?_
    obtain ⟨st29, hst29, hf⟩ := bv_some hf
    refine cl_vvC C hl G (As := [.int p1, .int (rA st 25 p3.toNatClampNeg), .long ((rI st 9).toInt64)]) (rest := []) (kx_Rr_setRegister l D k h p1 (rA st 25 p3.toNatClampNeg) ((rI st 9).toInt64) st _ hst29) gi_X5_69 (hwC_8 ..) rfl hd_X5_setRegister ⟨Nat.le_of_ble_eq_true rfl, Nat.le_of_ble_eq_true rfl⟩ rfl rfl (Nat.le_of_ble_eq_true rfl) dX5_useMemory_25 ⟨Nat.zero_le _, Nat.zero_le _⟩ (fun H locs e0 G => ?_)
    exact rt_vC C G hf dX5_useMemory_28
def rm_Op_dividesByZero : Room := { frames := 0, cells := 0, slots := 0, locals := 0 }
set_option maxHeartbeats 4000000 in
set_option maxRecDepth 100000 in
theorem kx_Op_dividesByZero (l : Launch) (D : va_G) (k : Nat → Nat × ClassId) (h : Nat → Nat) (p0 : Int32) (p1 : Int64) (st : rs_T) (r : Int32) (s' : rs_T) (hf : fx_Op_dividesByZero p0 p1 st = some (r, s')) : mIC l D k h yX2_dividesByZero cX2_dividesByZero 3 .boolean rm_Op_dividesByZero [.int p0, .long p1] st r s' := by
  refine mIC_of (by decide) ⟨rfl, rfl⟩ (Nat.le_of_ble_eq_true rfl) ?_
  intro p e s m below meth c ls C hl G
  obtain ⟨hx, hb, hml, hr, hown, hts, hK, hN, hlk⟩ := id C
  have hown : s.vm.findClass RX2 = some m.cls := hown
  have hl : lv_has ls 3 [(0, .int p0), (1, .long p1)] := hl
  unfold fx_Op_dividesByZero at hf
  refine lv_iload_n hx hb dX2_dividesByZero_0 rfl (lv_at hl 0 rfl) ?_
  refine lv_bipush (v := 110) hx hb dX2_dividesByZero_1 (by decide) ?_
  refine lv_icmp_ne (tgt := 15) hx hb dX2_dividesByZero_3 (by decide) (fun c1 => ?_) (fun c1 => ?_)
  · replace hf := if_n hf c1
    refine lv_iconst (v := 0) hx hb dX2_dividesByZero_15 (by decide) ?_
    exact rt_zC C rfl G hf dX2_dividesByZero_16
  · replace hf := if_p hf c1
    refine lv_lload_n hx hb dX2_dividesByZero_6 rfl (lv_at hl 1 rfl) ?_
    refine lv_l2i (v := p1.toInt32) hx hb dX2_dividesByZero_7 rfl ?_
    refine lv_if_ne (tgt := 15) hx hb dX2_dividesByZero_8 (by decide) (fun c2 => ?_) (fun c2 => ?_)
    · replace hf := if_n hf c2
      refine lv_iconst (v := 0) hx hb dX2_dividesByZero_15 (by decide) ?_
      exact rt_zC C rfl G hf dX2_dividesByZero_16
    · replace hf := if_p hf c2
      refine lv_iconst (v := 1) hx hb dX2_dividesByZero_11 (by decide) ?_
      refine lv_goto (tgt := 16) hx hb dX2_dividesByZero_12 (by decide) ?_
      exact rt_zC C rfl G hf dX2_dividesByZero_16
def rm_Op_bit : Room := { frames := 0, cells := 0, slots := 0, locals := 0 }
set_option maxHeartbeats 4000000 in
set_option maxRecDepth 100000 in
theorem kx_Op_bit (l : Launch) (D : va_G) (k : Nat → Nat × ClassId) (h : Nat → Nat) (p0 : Int32) (st : rs_T) (r : Int64) (s' : rs_T) (hf : fx_Op_bit p0 st = some (r, s')) : mLC l D k h yX2_bit cX2_bit 1 rm_Op_bit [.int p0] st r s' := by
  refine mLC_of (by decide) ⟨rfl, rfl⟩ (Nat.le_of_ble_eq_true rfl) ?_
  intro p e s m below meth c ls C hl G
  obtain ⟨hx, hb, hml, hr, hown, hts, hK, hN, hlk⟩ := id C
  have hown : s.vm.findClass RX2 = some m.cls := hown
  have hl : lv_has ls 1 [(0, .int p0)] := hl
  unfold fx_Op_bit at hf
  refine lv_iload_n hx hb dX2_bit_0 rfl (lv_at hl 0 rfl) ?_
  refine lv_if_eq (tgt := 8) hx hb dX2_bit_1 (by decide) (fun c1 => ?_) (fun c1 => ?_)
  · replace hf := if_p hf c1
    refine lv_lconst (v := 0) hx hb dX2_bit_8 (by decide) ?_
    exact rt_lC C G hf dX2_bit_9
  · replace hf := if_n hf c1
    refine lv_lconst (v := 1) hx hb dX2_bit_4 (by decide) ?_
    refine lv_goto (tgt := 9) hx hb dX2_bit_5 (by decide) ?_
    exact rt_lC C G hf dX2_bit_9
def rm_Op_compute : Room := { frames := 1, cells := 0, slots := 0, locals := 20 }
set_option maxHeartbeats 4000000 in
set_option maxRecDepth 100000 in
theorem kx_Op_compute_b174 {p : Program} {l : Launch} {e : Env} {s : State} {m : MethodId} {args : Array Value} {below : List Frame} {meth : Method} {c : Code} {D : va_G} {h : Nat → Nat} {E : Nat → Nat} {k : Nat → Nat × ClassId} (C : cxC D k p s m args meth c cX2_compute 5 (some .long) RX2) (y0 : Int32) (st : rs_T) (r : Int64) (s' : rs_T) (hf : fx_Op_compute_b174 y0 st = some (r, s')) : ∀ (H : Heap) (locs : List Loc) (ls : Array Slot), lv_has ls 5 [] → gdC D k h (vE E) (arC k h s.heap.size) s.heap H locs st → W p l e rm_Op_compute s m args below meth c H locs 0 0 (MQ below (qLC D k h E s.heap.size r s') args s 0 0 (arC k h s.heap.size)) (F0 m 174 ls [.int y0]) := by
  obtain ⟨hx, hb, hml, hr, hown, hts, hK, hN, hlk⟩ := id C
  intro H locs ls hl G
  unfold fx_Op_compute_b174 at hf
  obtain ⟨r4, st3, hst3, hf⟩ := bn_some hf
  refine cl_slC C hl G (As := [.int y0]) (rest := []) (kx_Op_bit l D k h y0 st _ _ hst3) gi_X2_15 hd_X2_bit ⟨Nat.le_of_ble_eq_true rfl, Nat.le_of_ble_eq_true rfl⟩ rfl rfl (Nat.le_of_ble_eq_true rfl) dX2_compute_174 ⟨Nat.zero_le _, Nat.zero_le _⟩ (fun H locs e0 G => ?_)
  exact rt_lC C G hf dX2_compute_177
set_option maxHeartbeats 4000000 in
set_option maxRecDepth 100000 in
theorem kx_Op_compute_b190 {p : Program} {l : Launch} {e : Env} {s : State} {m : MethodId} {args : Array Value} {below : List Frame} {meth : Method} {c : Code} {D : va_G} {h : Nat → Nat} {E : Nat → Nat} {k : Nat → Nat × ClassId} (C : cxC D k p s m args meth c cX2_compute 5 (some .long) RX2) (y0 : Int32) (st : rs_T) (r : Int64) (s' : rs_T) (hf : fx_Op_compute_b190 y0 st = some (r, s')) : ∀ (H : Heap) (locs : List Loc) (ls : Array Slot), lv_has ls 5 [] → gdC D k h (vE E) (arC k h s.heap.size) s.heap H locs st → W p l e rm_Op_compute s m args below meth c H locs 0 0 (MQ below (qLC D k h E s.heap.size r s') args s 0 0 (arC k h s.heap.size)) (F0 m 190 ls [.int y0]) := by
  obtain ⟨hx, hb, hml, hr, hown, hts, hK, hN, hlk⟩ := id C
  intro H locs ls hl G
  unfold fx_Op_compute_b190 at hf
  obtain ⟨r7, st6, hst6, hf⟩ := bn_some hf
  refine cl_slC C hl G (As := [.int y0]) (rest := []) (kx_Op_bit l D k h y0 st _ _ hst6) gi_X2_15 hd_X2_bit ⟨Nat.le_of_ble_eq_true rfl, Nat.le_of_ble_eq_true rfl⟩ rfl rfl (Nat.le_of_ble_eq_true rfl) dX2_compute_190 ⟨Nat.zero_le _, Nat.zero_le _⟩ (fun H locs e0 G => ?_)
  exact rt_lC C G hf dX2_compute_193
set_option maxHeartbeats 4000000 in
set_option maxRecDepth 100000 in
theorem kx_Op_compute_b206 {p : Program} {l : Launch} {e : Env} {s : State} {m : MethodId} {args : Array Value} {below : List Frame} {meth : Method} {c : Code} {D : va_G} {h : Nat → Nat} {E : Nat → Nat} {k : Nat → Nat × ClassId} (C : cxC D k p s m args meth c cX2_compute 5 (some .long) RX2) (y0 : Int32) (st : rs_T) (r : Int64) (s' : rs_T) (hf : fx_Op_compute_b206 y0 st = some (r, s')) : ∀ (H : Heap) (locs : List Loc) (ls : Array Slot), lv_has ls 5 [] → gdC D k h (vE E) (arC k h s.heap.size) s.heap H locs st → W p l e rm_Op_compute s m args below meth c H locs 0 0 (MQ below (qLC D k h E s.heap.size r s') args s 0 0 (arC k h s.heap.size)) (F0 m 206 ls [.int y0]) := by
  obtain ⟨hx, hb, hml, hr, hown, hts, hK, hN, hlk⟩ := id C
  intro H locs ls hl G
  unfold fx_Op_compute_b206 at hf
  obtain ⟨r10, st9, hst9, hf⟩ := bn_some hf
  refine cl_slC C hl G (As := [.int y0]) (rest := []) (kx_Op_bit l D k h y0 st _ _ hst9) gi_X2_15 hd_X2_bit ⟨Nat.le_of_ble_eq_true rfl, Nat.le_of_ble_eq_true rfl⟩ rfl rfl (Nat.le_of_ble_eq_true rfl) dX2_compute_206 ⟨Nat.zero_le _, Nat.zero_le _⟩ (fun H locs e0 G => ?_)
  exact rt_lC C G hf dX2_compute_209
set_option maxHeartbeats 4000000 in
set_option maxRecDepth 100000 in
theorem kx_Op_compute_b222 {p : Program} {l : Launch} {e : Env} {s : State} {m : MethodId} {args : Array Value} {below : List Frame} {meth : Method} {c : Code} {D : va_G} {h : Nat → Nat} {E : Nat → Nat} {k : Nat → Nat × ClassId} (C : cxC D k p s m args meth c cX2_compute 5 (some .long) RX2) (y0 : Int32) (st : rs_T) (r : Int64) (s' : rs_T) (hf : fx_Op_compute_b222 y0 st = some (r, s')) : ∀ (H : Heap) (locs : List Loc) (ls : Array Slot), lv_has ls 5 [] → gdC D k h (vE E) (arC k h s.heap.size) s.heap H locs st → W p l e rm_Op_compute s m args below meth c H locs 0 0 (MQ below (qLC D k h E s.heap.size r s') args s 0 0 (arC k h s.heap.size)) (F0 m 222 ls [.int y0]) := by
  obtain ⟨hx, hb, hml, hr, hown, hts, hK, hN, hlk⟩ := id C
  intro H locs ls hl G
  unfold fx_Op_compute_b222 at hf
  obtain ⟨r13, st12, hst12, hf⟩ := bn_some hf
  refine cl_slC C hl G (As := [.int y0]) (rest := []) (kx_Op_bit l D k h y0 st _ _ hst12) gi_X2_15 hd_X2_bit ⟨Nat.le_of_ble_eq_true rfl, Nat.le_of_ble_eq_true rfl⟩ rfl rfl (Nat.le_of_ble_eq_true rfl) dX2_compute_222 ⟨Nat.zero_le _, Nat.zero_le _⟩ (fun H locs e0 G => ?_)
  exact rt_lC C G hf dX2_compute_225
set_option maxHeartbeats 4000000 in
set_option maxRecDepth 100000 in
theorem kx_Op_compute_b245 {p : Program} {l : Launch} {e : Env} {s : State} {m : MethodId} {args : Array Value} {below : List Frame} {meth : Method} {c : Code} {D : va_G} {h : Nat → Nat} {E : Nat → Nat} {k : Nat → Nat × ClassId} (C : cxC D k p s m args meth c cX2_compute 5 (some .long) RX2) (y0 : Int32) (st : rs_T) (r : Int64) (s' : rs_T) (hf : fx_Op_compute_b245 y0 st = some (r, s')) : ∀ (H : Heap) (locs : List Loc) (ls : Array Slot), lv_has ls 5 [] → gdC D k h (vE E) (arC k h s.heap.size) s.heap H locs st → W p l e rm_Op_compute s m args below meth c H locs 0 0 (MQ below (qLC D k h E s.heap.size r s') args s 0 0 (arC k h s.heap.size)) (F0 m 245 ls [.int y0]) := by
  obtain ⟨hx, hb, hml, hr, hown, hts, hK, hN, hlk⟩ := id C
  intro H locs ls hl G
  unfold fx_Op_compute_b245 at hf
  obtain ⟨r16, st15, hst15, hf⟩ := bn_some hf
  refine cl_slC C hl G (As := [.int y0]) (rest := []) (kx_Op_bit l D k h y0 st _ _ hst15) gi_X2_15 hd_X2_bit ⟨Nat.le_of_ble_eq_true rfl, Nat.le_of_ble_eq_true rfl⟩ rfl rfl (Nat.le_of_ble_eq_true rfl) dX2_compute_245 ⟨Nat.zero_le _, Nat.zero_le _⟩ (fun H locs e0 G => ?_)
  exact rt_lC C G hf dX2_compute_248
set_option maxHeartbeats 4000000 in
set_option maxRecDepth 100000 in
theorem kx_Op_compute_b260 {p : Program} {l : Launch} {e : Env} {s : State} {m : MethodId} {args : Array Value} {below : List Frame} {meth : Method} {c : Code} {D : va_G} {h : Nat → Nat} {E : Nat → Nat} {k : Nat → Nat × ClassId} (C : cxC D k p s m args meth c cX2_compute 5 (some .long) RX2) (y0 : Int32) (st : rs_T) (r : Int64) (s' : rs_T) (hf : fx_Op_compute_b260 y0 st = some (r, s')) : ∀ (H : Heap) (locs : List Loc) (ls : Array Slot), lv_has ls 5 [] → gdC D k h (vE E) (arC k h s.heap.size) s.heap H locs st → W p l e rm_Op_compute s m args below meth c H locs 0 0 (MQ below (qLC D k h E s.heap.size r s') args s 0 0 (arC k h s.heap.size)) (F0 m 260 ls [.int y0]) := by
  obtain ⟨hx, hb, hml, hr, hown, hts, hK, hN, hlk⟩ := id C
  intro H locs ls hl G
  unfold fx_Op_compute_b260 at hf
  obtain ⟨r19, st18, hst18, hf⟩ := bn_some hf
  refine cl_slC C hl G (As := [.int y0]) (rest := []) (kx_Op_bit l D k h y0 st _ _ hst18) gi_X2_15 hd_X2_bit ⟨Nat.le_of_ble_eq_true rfl, Nat.le_of_ble_eq_true rfl⟩ rfl rfl (Nat.le_of_ble_eq_true rfl) dX2_compute_260 ⟨Nat.zero_le _, Nat.zero_le _⟩ (fun H locs e0 G => ?_)
  exact rt_lC C G hf dX2_compute_263
set_option maxHeartbeats 4000000 in
set_option maxRecDepth 100000 in
theorem kx_Op_compute_b275 {p : Program} {l : Launch} {e : Env} {s : State} {m : MethodId} {args : Array Value} {below : List Frame} {meth : Method} {c : Code} {D : va_G} {h : Nat → Nat} {E : Nat → Nat} {k : Nat → Nat × ClassId} (C : cxC D k p s m args meth c cX2_compute 5 (some .long) RX2) (y0 : Int32) (st : rs_T) (r : Int64) (s' : rs_T) (hf : fx_Op_compute_b275 y0 st = some (r, s')) : ∀ (H : Heap) (locs : List Loc) (ls : Array Slot), lv_has ls 5 [] → gdC D k h (vE E) (arC k h s.heap.size) s.heap H locs st → W p l e rm_Op_compute s m args below meth c H locs 0 0 (MQ below (qLC D k h E s.heap.size r s') args s 0 0 (arC k h s.heap.size)) (F0 m 275 ls [.int y0]) := by
  obtain ⟨hx, hb, hml, hr, hown, hts, hK, hN, hlk⟩ := id C
  intro H locs ls hl G
  unfold fx_Op_compute_b275 at hf
  obtain ⟨r22, st21, hst21, hf⟩ := bn_some hf
  refine cl_slC C hl G (As := [.int y0]) (rest := []) (kx_Op_bit l D k h y0 st _ _ hst21) gi_X2_15 hd_X2_bit ⟨Nat.le_of_ble_eq_true rfl, Nat.le_of_ble_eq_true rfl⟩ rfl rfl (Nat.le_of_ble_eq_true rfl) dX2_compute_275 ⟨Nat.zero_le _, Nat.zero_le _⟩ (fun H locs e0 G => ?_)
  exact rt_lC C G hf dX2_compute_278
set_option maxHeartbeats 4000000 in
set_option maxRecDepth 100000 in
theorem kx_Op_compute_b290 {p : Program} {l : Launch} {e : Env} {s : State} {m : MethodId} {args : Array Value} {below : List Frame} {meth : Method} {c : Code} {D : va_G} {h : Nat → Nat} {E : Nat → Nat} {k : Nat → Nat × ClassId} (C : cxC D k p s m args meth c cX2_compute 5 (some .long) RX2) (y0 : Int32) (st : rs_T) (r : Int64) (s' : rs_T) (hf : fx_Op_compute_b290 y0 st = some (r, s')) : ∀ (H : Heap) (locs : List Loc) (ls : Array Slot), lv_has ls 5 [] → gdC D k h (vE E) (arC k h s.heap.size) s.heap H locs st → W p l e rm_Op_compute s m args below meth c H locs 0 0 (MQ below (qLC D k h E s.heap.size r s') args s 0 0 (arC k h s.heap.size)) (F0 m 290 ls [.int y0]) := by
  obtain ⟨hx, hb, hml, hr, hown, hts, hK, hN, hlk⟩ := id C
  intro H locs ls hl G
  unfold fx_Op_compute_b290 at hf
  obtain ⟨r25, st24, hst24, hf⟩ := bn_some hf
  refine cl_slC C hl G (As := [.int y0]) (rest := []) (kx_Op_bit l D k h y0 st _ _ hst24) gi_X2_15 hd_X2_bit ⟨Nat.le_of_ble_eq_true rfl, Nat.le_of_ble_eq_true rfl⟩ rfl rfl (Nat.le_of_ble_eq_true rfl) dX2_compute_290 ⟨Nat.zero_le _, Nat.zero_le _⟩ (fun H locs e0 G => ?_)
  exact rt_lC C G hf dX2_compute_293
set_option maxHeartbeats 4000000 in
set_option maxRecDepth 100000 in
theorem kx_Op_compute (l : Launch) (D : va_G) (k : Nat → Nat × ClassId) (h : Nat → Nat) (p0 : Int32) (p1 : Int64) (p3 : Int64) (st : rs_T) (r : Int64) (s' : rs_T) (hf : fx_Op_compute p0 p1 p3 st = some (r, s')) : mLC l D k h yX2_compute cX2_compute 5 rm_Op_compute [.int p0, .long p1, .long p3] st r s' := by
  refine mLC_of (by decide) ⟨rfl, rfl⟩ (Nat.le_of_ble_eq_true rfl) ?_
  intro p e s m below meth c ls C hl G
  obtain ⟨hx, hb, hml, hr, hown, hts, hK, hN, hlk⟩ := id C
  have hown : s.vm.findClass RX2 = some m.cls := hown
  have hl : lv_has ls 5 [(0, .int p0), (1, .long p1), (3, .long p3)] := hl
  unfold fx_Op_compute at hf
  refine lv_iload_n hx hb dX2_compute_0 rfl (lv_at hl 0 rfl) ?_
  by_cases s1_0 : p0 ∈ ([69] : List Int32)
  · replace hf := if_p hf s1_0
    refine sw_lu (tgt := 164) (off := 163) hx hb dX2_compute_1 (by decide) (sw_lut s1_0 (by decide)) (by decide) ?_
    refine lv_lload_n hx hb dX2_compute_164 rfl (lv_at hl 1 rfl) ?_
    refine lv_l2i (v := p1.toInt32) hx hb dX2_compute_165 rfl ?_
    refine lv_if_ne (tgt := 173) hx hb dX2_compute_166 (by decide) (fun c2 => ?_) (fun c2 => ?_)
    · replace hf := if_n hf c2
      refine lv_iconst (v := 0) hx hb dX2_compute_173 (by decide) ?_
      exact kx_Op_compute_b174 C 0 st _ _ hf _ _ _ (lv_sub hl [] rfl) G
    · replace hf := if_p hf c2
      refine lv_iconst (v := 1) hx hb dX2_compute_169 (by decide) ?_
      refine lv_goto (tgt := 174) hx hb dX2_compute_170 (by decide) ?_
      exact kx_Op_compute_b174 C 1 st _ _ hf _ _ _ (lv_sub hl [] rfl) G
  replace hf := if_n hf s1_0
  by_cases s1_1 : p0 ∈ ([70] : List Int32)
  · replace hf := if_p hf s1_1
    refine sw_lu (tgt := 178) (off := 177) hx hb dX2_compute_1 (by decide) (sw_lut s1_1 (by decide)) (by decide) ?_
    refine lv_lload_n hx hb dX2_compute_178 rfl (lv_at hl 1 rfl) ?_
    refine lv_l2i (v := p1.toInt32) hx hb dX2_compute_179 rfl ?_
    refine lv_lload_n hx hb dX2_compute_180 rfl (lv_at hl 2 rfl) ?_
    refine lv_l2i (v := p3.toInt32) hx hb dX2_compute_181 rfl ?_
    refine lv_icmp_ne (tgt := 189) hx hb dX2_compute_182 (by decide) (fun c5 => ?_) (fun c5 => ?_)
    · replace hf := if_n hf c5
      refine lv_iconst (v := 0) hx hb dX2_compute_189 (by decide) ?_
      exact kx_Op_compute_b190 C 0 st _ _ hf _ _ _ (lv_sub hl [] rfl) G
    · replace hf := if_p hf c5
      refine lv_iconst (v := 1) hx hb dX2_compute_185 (by decide) ?_
      refine lv_goto (tgt := 190) hx hb dX2_compute_186 (by decide) ?_
      exact kx_Op_compute_b190 C 1 st _ _ hf _ _ _ (lv_sub hl [] rfl) G
  replace hf := if_n hf s1_1
  by_cases s1_2 : p0 ∈ ([71] : List Int32)
  · replace hf := if_p hf s1_2
    refine sw_lu (tgt := 194) (off := 193) hx hb dX2_compute_1 (by decide) (sw_lut s1_2 (by decide)) (by decide) ?_
    refine lv_lload_n hx hb dX2_compute_194 rfl (lv_at hl 1 rfl) ?_
    refine lv_l2i (v := p1.toInt32) hx hb dX2_compute_195 rfl ?_
    refine lv_lload_n hx hb dX2_compute_196 rfl (lv_at hl 2 rfl) ?_
    refine lv_l2i (v := p3.toInt32) hx hb dX2_compute_197 rfl ?_
    refine lv_icmp_eq (tgt := 205) hx hb dX2_compute_198 (by decide) (fun c8 => ?_) (fun c8 => ?_)
    · replace hf := if_p hf c8
      refine lv_iconst (v := 0) hx hb dX2_compute_205 (by decide) ?_
      exact kx_Op_compute_b206 C 0 st _ _ hf _ _ _ (lv_sub hl [] rfl) G
    · replace hf := if_n hf c8
      refine lv_iconst (v := 1) hx hb dX2_compute_201 (by decide) ?_
      refine lv_goto (tgt := 206) hx hb dX2_compute_202 (by decide) ?_
      exact kx_Op_compute_b206 C 1 st _ _ hf _ _ _ (lv_sub hl [] rfl) G
  replace hf := if_n hf s1_2
  by_cases s1_3 : p0 ∈ ([72] : List Int32)
  · replace hf := if_p hf s1_3
    refine sw_lu (tgt := 210) (off := 209) hx hb dX2_compute_1 (by decide) (sw_lut s1_3 (by decide)) (by decide) ?_
    refine lv_lload_n hx hb dX2_compute_210 rfl (lv_at hl 1 rfl) ?_
    refine lv_l2i (v := p1.toInt32) hx hb dX2_compute_211 rfl ?_
    refine lv_lload_n hx hb dX2_compute_212 rfl (lv_at hl 2 rfl) ?_
    refine lv_l2i (v := p3.toInt32) hx hb dX2_compute_213 rfl ?_
    refine lv_icmp_ge (tgt := 221) hx hb dX2_compute_214 (by decide) (fun c11 => ?_) (fun c11 => ?_)
    · replace hf := if_p hf c11
      refine lv_iconst (v := 0) hx hb dX2_compute_221 (by decide) ?_
      exact kx_Op_compute_b222 C 0 st _ _ hf _ _ _ (lv_sub hl [] rfl) G
    · replace hf := if_n hf c11
      refine lv_iconst (v := 1) hx hb dX2_compute_217 (by decide) ?_
      refine lv_goto (tgt := 222) hx hb dX2_compute_218 (by decide) ?_
      exact kx_Op_compute_b222 C 1 st _ _ hf _ _ _ (lv_sub hl [] rfl) G
  replace hf := if_n hf s1_3
  by_cases s1_4 : p0 ∈ ([73] : List Int32)
  · replace hf := if_p hf s1_4
    refine sw_lu (tgt := 226) (off := 225) hx hb dX2_compute_1 (by decide) (sw_lut s1_4 (by decide)) (by decide) ?_
    refine lv_lload_n hx hb dX2_compute_226 rfl (lv_at hl 1 rfl) ?_
    refine lv_ldc2 (v := 4294967295) hx hb hown (hts _ lk_X2_19) dX2_compute_227 ?_
    refine lv_land hx hb dX2_compute_230 ?_
    refine lv_lload_n hx hb dX2_compute_231 rfl (lv_at hl 2 rfl) ?_
    refine lv_ldc2 (v := 4294967295) hx hb hown (hts _ lk_X2_19) dX2_compute_232 ?_
    refine lv_land hx hb dX2_compute_235 ?_
    refine W.lcmp hx hb dX2_compute_236 ?_
    refine lv_if_ge (tgt := 244) hx hb dX2_compute_237 (by decide) (fun c14 => ?_) (fun c14 => ?_)
    · replace hf := if_p hf c14
      refine lv_iconst (v := 0) hx hb dX2_compute_244 (by decide) ?_
      exact kx_Op_compute_b245 C 0 st _ _ hf _ _ _ (lv_sub hl [] rfl) G
    · replace hf := if_n hf c14
      refine lv_iconst (v := 1) hx hb dX2_compute_240 (by decide) ?_
      refine lv_goto (tgt := 245) hx hb dX2_compute_241 (by decide) ?_
      exact kx_Op_compute_b245 C 1 st _ _ hf _ _ _ (lv_sub hl [] rfl) G
  replace hf := if_n hf s1_4
  by_cases s1_5 : p0 ∈ ([80] : List Int32)
  · replace hf := if_p hf s1_5
    refine sw_lu (tgt := 249) (off := 248) hx hb dX2_compute_1 (by decide) (sw_lut s1_5 (by decide)) (by decide) ?_
    refine lv_lload_n hx hb dX2_compute_249 rfl (lv_at hl 1 rfl) ?_
    refine lv_lconst (v := 0) hx hb dX2_compute_250 (by decide) ?_
    refine W.lcmp hx hb dX2_compute_251 ?_
    refine lv_if_ne (tgt := 259) hx hb dX2_compute_252 (by decide) (fun c17 => ?_) (fun c17 => ?_)
    · replace hf := if_n hf c17
      refine lv_iconst (v := 0) hx hb dX2_compute_259 (by decide) ?_
      exact kx_Op_compute_b260 C 0 st _ _ hf _ _ _ (lv_sub hl [] rfl) G
    · replace hf := if_p hf c17
      refine lv_iconst (v := 1) hx hb dX2_compute_255 (by decide) ?_
      refine lv_goto (tgt := 260) hx hb dX2_compute_256 (by decide) ?_
      exact kx_Op_compute_b260 C 1 st _ _ hf _ _ _ (lv_sub hl [] rfl) G
  replace hf := if_n hf s1_5
  by_cases s1_6 : p0 ∈ ([81] : List Int32)
  · replace hf := if_p hf s1_6
    refine sw_lu (tgt := 264) (off := 263) hx hb dX2_compute_1 (by decide) (sw_lut s1_6 (by decide)) (by decide) ?_
    refine lv_lload_n hx hb dX2_compute_264 rfl (lv_at hl 1 rfl) ?_
    refine lv_lload_n hx hb dX2_compute_265 rfl (lv_at hl 2 rfl) ?_
    refine W.lcmp hx hb dX2_compute_266 ?_
    refine lv_if_ne (tgt := 274) hx hb dX2_compute_267 (by decide) (fun c20 => ?_) (fun c20 => ?_)
    · replace hf := if_n hf c20
      refine lv_iconst (v := 0) hx hb dX2_compute_274 (by decide) ?_
      exact kx_Op_compute_b275 C 0 st _ _ hf _ _ _ (lv_sub hl [] rfl) G
    · replace hf := if_p hf c20
      refine lv_iconst (v := 1) hx hb dX2_compute_270 (by decide) ?_
      refine lv_goto (tgt := 275) hx hb dX2_compute_271 (by decide) ?_
      exact kx_Op_compute_b275 C 1 st _ _ hf _ _ _ (lv_sub hl [] rfl) G
  replace hf := if_n hf s1_6
  by_cases s1_7 : p0 ∈ ([83] : List Int32)
  · replace hf := if_p hf s1_7
    refine sw_lu (tgt := 279) (off := 278) hx hb dX2_compute_1 (by decide) (sw_lut s1_7 (by decide)) (by decide) ?_
    refine lv_lload_n hx hb dX2_compute_279 rfl (lv_at hl 1 rfl) ?_
    refine lv_lload_n hx hb dX2_compute_280 rfl (lv_at hl 2 rfl) ?_
    refine W.lcmp hx hb dX2_compute_281 ?_
    refine lv_if_ge (tgt := 289) hx hb dX2_compute_282 (by decide) (fun c23 => ?_) (fun c23 => ?_)
    · replace hf := if_p hf c23
      refine lv_iconst (v := 0) hx hb dX2_compute_289 (by decide) ?_
      exact kx_Op_compute_b290 C 0 st _ _ hf _ _ _ (lv_sub hl [] rfl) G
    · replace hf := if_n hf c23
      refine lv_iconst (v := 1) hx hb dX2_compute_285 (by decide) ?_
      refine lv_goto (tgt := 290) hx hb dX2_compute_286 (by decide) ?_
      exact kx_Op_compute_b290 C 1 st _ _ hf _ _ _ (lv_sub hl [] rfl) G
  replace hf := if_n hf s1_7
  by_cases s1_8 : p0 ∈ ([106] : List Int32)
  · replace hf := if_p hf s1_8
    refine sw_lu (tgt := 294) (off := 293) hx hb dX2_compute_1 (by decide) (sw_lut s1_8 (by decide)) (by decide) ?_
    refine lv_lload_n hx hb dX2_compute_294 rfl (lv_at hl 1 rfl) ?_
    refine lv_lload_n hx hb dX2_compute_295 rfl (lv_at hl 2 rfl) ?_
    refine lv_ladd hx hb dX2_compute_296 ?_
    refine lv_ldc2 (v := 4294967295) hx hb hown (hts _ lk_X2_19) dX2_compute_297 ?_
    refine lv_land hx hb dX2_compute_300 ?_
    exact rt_lC C G hf dX2_compute_301
  replace hf := if_n hf s1_8
  by_cases s1_9 : p0 ∈ ([107] : List Int32)
  · replace hf := if_p hf s1_9
    refine sw_lu (tgt := 302) (off := 301) hx hb dX2_compute_1 (by decide) (sw_lut s1_9 (by decide)) (by decide) ?_
    refine lv_lload_n hx hb dX2_compute_302 rfl (lv_at hl 1 rfl) ?_
    refine lv_lload_n hx hb dX2_compute_303 rfl (lv_at hl 2 rfl) ?_
    refine lv_lsub hx hb dX2_compute_304 ?_
    refine lv_ldc2 (v := 4294967295) hx hb hown (hts _ lk_X2_19) dX2_compute_305 ?_
    refine lv_land hx hb dX2_compute_308 ?_
    exact rt_lC C G hf dX2_compute_309
  replace hf := if_n hf s1_9
  by_cases s1_10 : p0 ∈ ([108] : List Int32)
  · replace hf := if_p hf s1_10
    refine sw_lu (tgt := 310) (off := 309) hx hb dX2_compute_1 (by decide) (sw_lut s1_10 (by decide)) (by decide) ?_
    refine lv_lload_n hx hb dX2_compute_310 rfl (lv_at hl 1 rfl) ?_
    refine lv_lload_n hx hb dX2_compute_311 rfl (lv_at hl 2 rfl) ?_
    refine lv_lmul hx hb dX2_compute_312 ?_
    refine lv_ldc2 (v := 4294967295) hx hb hown (hts _ lk_X2_19) dX2_compute_313 ?_
    refine lv_land hx hb dX2_compute_316 ?_
    exact rt_lC C G hf dX2_compute_317
  replace hf := if_n hf s1_10
  by_cases s1_11 : p0 ∈ ([110] : List Int32)
  · replace hf := if_p hf s1_11
    refine sw_lu (tgt := 318) (off := 317) hx hb dX2_compute_1 (by decide) (sw_lut s1_11 (by decide)) (by decide) ?_
    refine lv_lload_n hx hb dX2_compute_318 rfl (lv_at hl 2 rfl) ?_
    refine lv_l2i (v := p3.toInt32) hx hb dX2_compute_319 rfl ?_
    refine lv_if_ne (tgt := 327) hx hb dX2_compute_320 (by decide) (fun c26 => ?_) (fun c26 => ?_)
    · replace hf := if_n hf c26
      refine lv_lload_n hx hb dX2_compute_327 rfl (lv_at hl 1 rfl) ?_
      refine lv_ldc2 (v := 4294967295) hx hb hown (hts _ lk_X2_19) dX2_compute_328 ?_
      refine lv_land hx hb dX2_compute_331 ?_
      refine lv_lload_n hx hb dX2_compute_332 rfl (lv_at hl 2 rfl) ?_
      refine lv_ldc2 (v := 4294967295) hx hb hown (hts _ lk_X2_19) dX2_compute_333 ?_
      refine lv_land hx hb dX2_compute_336 ?_
      obtain ⟨h_g27, hf⟩ := gzl_some hf
      refine lv_ldiv hx hb dX2_compute_337 h_g27 ?_
      exact rt_lC C G hf dX2_compute_338
    · replace hf := if_p hf c26
      refine lv_lconst (v := 0) hx hb dX2_compute_323 (by decide) ?_
      refine lv_goto (tgt := 338) hx hb dX2_compute_324 (by decide) ?_
      exact rt_lC C G hf dX2_compute_338
  replace hf := if_n hf s1_11
  by_cases s1_12 : p0 ∈ ([113] : List Int32)
  · replace hf := if_p hf s1_12
    refine sw_lu (tgt := 339) (off := 338) hx hb dX2_compute_1 (by decide) (sw_lut s1_12 (by decide)) (by decide) ?_
    refine lv_lload_n hx hb dX2_compute_339 rfl (lv_at hl 1 rfl) ?_
    refine lv_lload_n hx hb dX2_compute_340 rfl (lv_at hl 2 rfl) ?_
    refine lv_land hx hb dX2_compute_341 ?_
    refine lv_ldc2 (v := 4294967295) hx hb hown (hts _ lk_X2_19) dX2_compute_342 ?_
    refine lv_land hx hb dX2_compute_345 ?_
    exact rt_lC C G hf dX2_compute_346
  replace hf := if_n hf s1_12
  by_cases s1_13 : p0 ∈ ([116] : List Int32)
  · replace hf := if_p hf s1_13
    refine sw_lu (tgt := 347) (off := 346) hx hb dX2_compute_1 (by decide) (sw_lut s1_13 (by decide)) (by decide) ?_
    refine lv_lload_n hx hb dX2_compute_347 rfl (lv_at hl 1 rfl) ?_
    refine lv_l2i (v := p1.toInt32) hx hb dX2_compute_348 rfl ?_
    refine lv_lload_n hx hb dX2_compute_349 rfl (lv_at hl 2 rfl) ?_
    refine lv_l2i (v := p3.toInt32) hx hb dX2_compute_350 rfl ?_
    refine lv_bipush (v := 31) hx hb dX2_compute_351 (by decide) ?_
    refine lv_iand hx hb dX2_compute_353 ?_
    refine lv_ishl hx hb dX2_compute_354 ?_
    refine lv_i2l (v := (p1.toInt32 <<< ((p3.toInt32 &&& 31) &&& 31)).toInt64) hx hb dX2_compute_355 rfl ?_
    refine lv_ldc2 (v := 4294967295) hx hb hown (hts _ lk_X2_19) dX2_compute_356 ?_
    refine lv_land hx hb dX2_compute_359 ?_
    exact rt_lC C G hf dX2_compute_360
  replace hf := if_n hf s1_13
  by_cases s1_14 : p0 ∈ ([124] : List Int32)
  · replace hf := if_p hf s1_14
    refine sw_lu (tgt := 361) (off := 360) hx hb dX2_compute_1 (by decide) (sw_lut s1_14 (by decide)) (by decide) ?_
    refine lv_lload_n hx hb dX2_compute_361 rfl (lv_at hl 1 rfl) ?_
    refine lv_lload_n hx hb dX2_compute_362 rfl (lv_at hl 2 rfl) ?_
    refine lv_ladd hx hb dX2_compute_363 ?_
    exact rt_lC C G hf dX2_compute_364
  replace hf := if_n hf s1_14
  by_cases s1_15 : p0 ∈ ([125] : List Int32)
  · replace hf := if_p hf s1_15
    refine sw_lu (tgt := 365) (off := 364) hx hb dX2_compute_1 (by decide) (sw_lut s1_15 (by decide)) (by decide) ?_
    refine lv_lload_n hx hb dX2_compute_365 rfl (lv_at hl 1 rfl) ?_
    refine lv_lload_n hx hb dX2_compute_366 rfl (lv_at hl 2 rfl) ?_
    refine lv_lsub hx hb dX2_compute_367 ?_
    exact rt_lC C G hf dX2_compute_368
  replace hf := if_n hf s1_15
  by_cases s1_16 : p0 ∈ ([126] : List Int32)
  · replace hf := if_p hf s1_16
    refine sw_lu (tgt := 369) (off := 368) hx hb dX2_compute_1 (by decide) (sw_lut s1_16 (by decide)) (by decide) ?_
    refine lv_lload_n hx hb dX2_compute_369 rfl (lv_at hl 1 rfl) ?_
    refine lv_lload_n hx hb dX2_compute_370 rfl (lv_at hl 2 rfl) ?_
    refine lv_lmul hx hb dX2_compute_371 ?_
    exact rt_lC C G hf dX2_compute_372
  replace hf := if_n hf s1_16
  by_cases s1_17 : p0 ∈ ([167, 173] : List Int32)
  · replace hf := if_p hf s1_17
    refine sw_lu (tgt := 373) (off := 372) hx hb dX2_compute_1 (by decide) (sw_lut s1_17 (by decide)) (by decide) ?_
    refine lv_lload_n hx hb dX2_compute_373 rfl (lv_at hl 1 rfl) ?_
    refine lv_ldc2 (v := 4294967295) hx hb hown (hts _ lk_X2_19) dX2_compute_374 ?_
    refine lv_land hx hb dX2_compute_377 ?_
    exact rt_lC C G hf dX2_compute_378
  replace hf := if_n hf s1_17
  refine sw_lu (tgt := 379) (off := 378) hx hb dX2_compute_1 (by decide) (sw_lud (sw_cons s1_0 (sw_cons s1_1 (sw_cons s1_2 (sw_cons s1_3 (sw_cons s1_4 (sw_cons s1_5 (sw_cons s1_6 (sw_cons s1_7 (sw_cons s1_8 (sw_cons s1_9 (sw_cons s1_10 (sw_cons s1_11 (sw_cons s1_12 (sw_cons s1_13 (sw_cons s1_14 (sw_cons s1_15 (sw_cons s1_16 (sw_cons s1_17 sw_nil)))))))))))))))))) (by decide)) (by decide) ?_
  refine lv_lconst (v := 0) hx hb dX2_compute_379 (by decide) ?_
  exact rt_lC C G hf dX2_compute_380
def rm_Rr_operate : Room := { frames := 2, cells := 0, slots := 0, locals := 47 }
set_option maxHeartbeats 4000000 in
set_option maxRecDepth 100000 in
theorem kx_Rr_operate (l : Launch) (D : va_G) (k : Nat → Nat × ClassId) (h : Nat → Nat) (p1 : Int32) (p2 : Int32) (p3 : Int32) (st : rs_T) (s' : rs_T) (hf : fx_Rr_operate p1 p2 p3 st = some s') : mVC l D k h yX5_operate cX5_operate 8 rm_Rr_operate [.ref (h 8), .int p1, .int p2, .int p3] st s' := by
  refine mVC_of (by decide) ⟨rfl, rfl⟩ (Nat.le_of_ble_eq_true rfl) ?_
  intro p e s m below meth c ls C hl G
  obtain ⟨hx, hb, hml, hr, hown, hts, hK, hN, hlk⟩ := id C
  have hown : s.vm.findClass RX5 = some m.cls := hown
  have hl : lv_has ls 8 [(0, .ref (h 8)), (1, .int p1), (2, .int p2), (3, .int p3)] := hl
  unfold fx_Rr_operate at hf
  refine lv_aload_n hx hb dX5_operate_0 rfl (lv_at hl 0 rfl) ?_
  refine lv_iload_n hx hb dX5_operate_1 rfl (lv_at hl 1 rfl) ?_
  refine lv_aload_n hx hb dX5_operate_2 rfl (lv_at hl 0 rfl) ?_
  refine fg_Rr_code hx hb hts hown hK G (hts _ lk_X5_15) dX5_operate_3 ?_
  refine fg_Rc_x hx hb hts hown hK G (hts _ lk_X5_62) dX5_operate_6 ?_
  refine lv_iload_n hx hb dX5_operate_9 rfl (lv_at hl 3 rfl) ?_
  obtain ⟨h_g1, hf⟩ := gd_some hf
  refine ra_IC (v := rA st 26 p3.toNatClampNeg) hx hb hK G (waC_39 ..) (t0 := 30) rfl rfl h_g1 dX5_operate_10 ?_
  obtain ⟨r3, st2, hst2, hf⟩ := bn_some hf
  refine cl_vlC C hl G (As := [.int p1, .int (rA st 26 p3.toNatClampNeg)]) (rest := []) (kx_Rr_read l D k h p1 (rA st 26 p3.toNatClampNeg) st _ _ hst2) gi_X5_65 (hwC_8 ..) rfl hd_X5_read ⟨Nat.le_of_ble_eq_true rfl, Nat.le_of_ble_eq_true rfl⟩ rfl rfl (Nat.le_of_ble_eq_true rfl) dX5_operate_11 ⟨Nat.zero_le _, Nat.zero_le _⟩ (fun H locs e0 G => ?_)
  refine lv_lstore (lv' := [(4, .long r3), (0, .ref (h 8)), (1, .int p1), (2, .int p2), (3, .int p3)]) hx hb dX5_operate_14 hl (by decide) rfl (fun ls hl => ?_)
  refine lv_aload_n hx hb dX5_operate_16 rfl (lv_at hl 1 rfl) ?_
  refine lv_iload_n hx hb dX5_operate_17 rfl (lv_at hl 2 rfl) ?_
  refine lv_aload_n hx hb dX5_operate_18 rfl (lv_at hl 1 rfl) ?_
  refine fg_Rr_code hx hb hts hown hK G (hts _ lk_X5_15) dX5_operate_19 ?_
  refine fg_Rc_y hx hb hts hown hK G (hts _ lk_X5_86) dX5_operate_22 ?_
  refine lv_iload_n hx hb dX5_operate_25 rfl (lv_at hl 4 rfl) ?_
  obtain ⟨h_g4, hf⟩ := gd_some hf
  refine ra_IC (v := rA st2 27 p3.toNatClampNeg) hx hb hK G (waC_40 ..) (t0 := 31) rfl rfl h_g4 dX5_operate_26 ?_
  obtain ⟨r6, st5, hst5, hf⟩ := bn_some hf
  refine cl_vlC C hl G (As := [.int p1, .int (rA st2 27 p3.toNatClampNeg)]) (rest := []) (kx_Rr_read l D k h p1 (rA st2 27 p3.toNatClampNeg) st2 _ _ hst5) gi_X5_65 (hwC_8 ..) rfl hd_X5_read ⟨Nat.le_of_ble_eq_true rfl, Nat.le_of_ble_eq_true rfl⟩ rfl rfl (Nat.le_of_ble_eq_true rfl) dX5_operate_27 ⟨Nat.zero_le _, Nat.zero_le _⟩ (fun H locs e0 G => ?_)
  refine lv_lstore (lv' := [(6, .long r6), (4, .long r3), (0, .ref (h 8)), (1, .int p1), (2, .int p2), (3, .int p3)]) hx hb dX5_operate_30 hl (by decide) rfl (fun ls hl => ?_)
  refine lv_iload_n hx hb dX5_operate_32 rfl (lv_at hl 4 rfl) ?_
  refine lv_lload hx hb dX5_operate_33 (lv_at hl 0 rfl) ?_
  obtain ⟨r8, st7, hst7, hf⟩ := bn_some hf
  refine cl_siC C hl G (As := [.int p2, .long r6]) (rest := []) (kx_Op_dividesByZero l D k h p2 r6 st5 _ _ hst7) gi_X5_89 hd_X2_dividesByZero ⟨Nat.le_of_ble_eq_true rfl, Nat.le_of_ble_eq_true rfl⟩ rfl rfl (Nat.le_of_ble_eq_true rfl) dX5_operate_35 ⟨Nat.zero_le _, Nat.zero_le _⟩ (fun H locs e0 G => ?_)
  refine lv_if_eq (tgt := 51) hx hb dX5_operate_38 (by decide) (fun c9 => ?_) (fun c9 => ?_)
  · replace hf := if_p hf c9
    refine lv_aload_n hx hb dX5_operate_51 rfl (lv_at hl 2 rfl) ?_
    refine lv_iload_n hx hb dX5_operate_52 rfl (lv_at hl 3 rfl) ?_
    refine lv_aload_n hx hb dX5_operate_53 rfl (lv_at hl 2 rfl) ?_
    refine fg_Rr_code hx hb hts hown hK G (hts _ lk_X5_15) dX5_operate_54 ?_
    refine fg_Rc_to hx hb hts hown hK G (hts _ lk_X5_59) dX5_operate_57 ?_
    refine lv_iload_n hx hb dX5_operate_60 rfl (lv_at hl 5 rfl) ?_
    obtain ⟨h_g10, hf⟩ := gd_some hf
    refine ra_IC (v := rA st7 25 p3.toNatClampNeg) hx hb hK G (waC_38 ..) (t0 := 29) rfl rfl h_g10 dX5_operate_61 ?_
    refine lv_iload_n hx hb dX5_operate_62 rfl (lv_at hl 4 rfl) ?_
    refine lv_lload hx hb dX5_operate_63 (lv_at hl 1 rfl) ?_
    refine lv_lload hx hb dX5_operate_65 (lv_at hl 0 rfl) ?_
    obtain ⟨r12, st11, hst11, hf⟩ := bn_some hf
    refine cl_slC C hl G (As := [.int p2, .long r3, .long r6]) (rest := [.int (rA st7 25 p3.toNatClampNeg), .int p1, .ref (h 8)]) (kx_Op_compute l D k h p2 r3 r6 st7 _ _ hst11) gi_X5_98 hd_X2_compute ⟨Nat.le_of_ble_eq_true rfl, Nat.le_of_ble_eq_true rfl⟩ rfl rfl (Nat.le_of_ble_eq_true rfl) dX5_operate_67 ⟨Nat.zero_le _, Nat.zero_le _⟩ (fun H locs e0 G => ?_)
    obtain ⟨st13, hst13, hf⟩ := bv_some hf
    refine cl_vvC C hl G (As := [.int p1, .int (rA st7 25 p3.toNatClampNeg), .long r12]) (rest := []) (kx_Rr_setRegister l D k h p1 (rA st7 25 p3.toNatClampNeg) r12 st11 _ hst13) gi_X5_69 (hwC_8 ..) rfl hd_X5_setRegister ⟨Nat.le_of_ble_eq_true rfl, Nat.le_of_ble_eq_true rfl⟩ rfl rfl (Nat.le_of_ble_eq_true rfl) dX5_operate_70 ⟨Nat.zero_le _, Nat.zero_le _⟩ (fun H locs e0 G => ?_)
    exact rt_vC C G hf dX5_operate_73
  · replace hf := if_n hf c9
    refine lv_aload_n hx hb dX5_operate_41 rfl (lv_at hl 2 rfl) ?_
    refine fg_Rr_activity hx hb hts hown hK G (hts _ lk_X5_23) dX5_operate_42 ?_
    refine lv_bipush (v := 11) hx hb dX5_operate_45 (by decide) ?_
    obtain ⟨st14, hst14, hf⟩ := bv_some hf
    refine cl_vvC C hl G (As := [.int 11]) (rest := []) (kx_Ac_fail l D k h 11 st7 _ hst14) gi_X5_95 (hwC_4 ..) rfl hd_X0_fail ⟨Nat.le_of_ble_eq_true rfl, Nat.le_of_ble_eq_true rfl⟩ rfl rfl (Nat.le_of_ble_eq_true rfl) dX5_operate_47 ⟨Nat.zero_le _, Nat.zero_le _⟩ (fun H locs e0 G => ?_)
    exact rt_vC C G hf dX5_operate_50
def rm_Rr_perform : Room := { frames := 4, cells := 0, slots := 0, locals := 96 }
set_option maxHeartbeats 4000000 in
set_option maxRecDepth 100000 in
theorem kx_Rr_perform (l : Launch) (D : va_G) (k : Nat → Nat × ClassId) (h : Nat → Nat) (N : Nat) (p1 : Int32) (st : rs_T) (s' : rs_T) (hf : fx_Rr_perform N p1 st = some s') : mVC l D k h yX5_perform cX5_perform 4 rm_Rr_perform [.ref (h 8), .int p1] st s' := by
  refine mVC_of (by decide) ⟨rfl, rfl⟩ (Nat.le_of_ble_eq_true rfl) ?_
  intro p e s m below meth c ls C hl G
  obtain ⟨hx, hb, hml, hr, hown, hts, hK, hN, hlk⟩ := id C
  have hown : s.vm.findClass RX5 = some m.cls := hown
  have hl : lv_has ls 4 [(0, .ref (h 8)), (1, .int p1)] := hl
  unfold fx_Rr_perform at hf
  refine lv_aload_n hx hb dX5_perform_0 rfl (lv_at hl 0 rfl) ?_
  refine fg_Rr_activity hx hb hts hown hK G (hts _ lk_X5_23) dX5_perform_1 ?_
  refine fg_Ac_frames (v := rI st 14) hx hb hts hown hK G (hts _ lk_X5_50) rfl dX5_perform_4 ?_
  refine lv_iconst (v := 1) hx hb dX5_perform_7 (by decide) ?_
  refine lv_isub hx hb dX5_perform_8 ?_
  refine lv_topi (fun v1 e_v1 => ?_)
  replace hf := bd_some hf v1 e_v1
  refine lv_istore_n (lv' := [(2, .int v1), (0, .ref (h 8)), (1, .int p1)]) hx hb dX5_perform_9 rfl hl (by decide) rfl (fun ls hl => ?_)
  refine lv_aload_n hx hb dX5_perform_10 rfl (lv_at hl 1 rfl) ?_
  refine fg_Rr_code hx hb hts hown hK G (hts _ lk_X5_15) dX5_perform_11 ?_
  refine fg_Rc_operation hx hb hts hown hK G (hts _ lk_X5_53) dX5_perform_14 ?_
  refine lv_iload_n hx hb dX5_perform_17 rfl (lv_at hl 2 rfl) ?_
  obtain ⟨h_g2, hf⟩ := gd_some hf
  refine ra_IC (v := rA st 23 p1.toNatClampNeg) hx hb hK G (waC_36 ..) (t0 := 27) rfl rfl h_g2 dX5_perform_18 ?_
  refine lv_topi (fun v3 e_v3 => ?_)
  replace hf := bd_some hf v3 e_v3
  refine lv_istore_n (lv' := [(3, .int v3), (2, .int v1), (0, .ref (h 8)), (1, .int p1)]) hx hb dX5_perform_19 rfl hl (by decide) rfl (fun ls hl => ?_)
  refine lv_aload_n hx hb dX5_perform_20 rfl (lv_at hl 2 rfl) ?_
  refine fg_Rr_activity hx hb hts hown hK G (hts _ lk_X5_23) dX5_perform_21 ?_
  refine fg_Ac_next hx hb hts hown hK G (hts _ lk_X5_56) dX5_perform_24 ?_
  refine lv_iload_n hx hb dX5_perform_27 rfl (lv_at hl 1 rfl) ?_
  refine lv_iload_n hx hb dX5_perform_28 rfl (lv_at hl 3 rfl) ?_
  refine lv_iconst (v := 1) hx hb dX5_perform_29 (by decide) ?_
  refine lv_iadd hx hb dX5_perform_30 ?_
  obtain ⟨h_g4, hf⟩ := gd_some hf
  refine rw_IC hx hb hK G (waC_29 ..) (t0 := 20) rfl (wsC_29 ..) (zw_29 h_g4) rfl h_g4 dX5_perform_31 (fun H locs G => ?_)
  refine lv_iload_n hx hb dX5_perform_32 rfl (lv_at hl 0 rfl) ?_
  refine lv_sipush (v := 200) hx hb dX5_perform_33 (by decide) ?_
  refine lv_icmp_ne (tgt := 70) hx hb dX5_perform_36 (by decide) (fun c5 => ?_) (fun c5 => ?_)
  · replace hf := if_n hf c5
    refine lv_iload_n hx hb dX5_perform_70 rfl (lv_at hl 0 rfl) ?_
    refine lv_bipush (v := 69) hx hb dX5_perform_71 (by decide) ?_
    refine lv_icmp_lt (tgt := 86) hx hb dX5_perform_73 (by decide) (fun c6 => ?_) (fun c6 => ?_)
    · replace hf := if_p hf c6
      refine lv_iload_n hx hb dX5_perform_86 rfl (lv_at hl 0 rfl) ?_
      refine lv_bipush (v := 40) hx hb dX5_perform_87 (by decide) ?_
      refine lv_icmp_lt (tgt := 102) hx hb dX5_perform_89 (by decide) (fun c7 => ?_) (fun c7 => ?_)
      · replace hf := if_p hf c7
        refine lv_iload_n hx hb dX5_perform_102 rfl (lv_at hl 0 rfl) ?_
        refine lv_bipush (v := 26) hx hb dX5_perform_103 (by decide) ?_
        refine lv_icmp_lt (tgt := 118) hx hb dX5_perform_105 (by decide) (fun c8 => ?_) (fun c8 => ?_)
        · replace hf := if_p hf c8
          refine lv_aload_n hx hb dX5_perform_118 rfl (lv_at hl 2 rfl) ?_
          refine lv_iload_n hx hb dX5_perform_119 rfl (lv_at hl 1 rfl) ?_
          refine lv_iload_n hx hb dX5_perform_120 rfl (lv_at hl 0 rfl) ?_
          refine lv_iload_n hx hb dX5_perform_121 rfl (lv_at hl 3 rfl) ?_
          obtain ⟨st9, hst9, hf⟩ := bv_some hf
          refine cl_vvC C hl G (As := [.int v1, .int v3, .int p1]) (rest := []) (kx_Rr_control l D k h N v1 v3 p1 (wA st 18 v1.toNatClampNeg (p1 + 1)) _ hst9) gi_X5_83 (hwC_8 ..) rfl hd_X5_control ⟨Nat.le_of_ble_eq_true rfl, Nat.le_of_ble_eq_true rfl⟩ rfl rfl (Nat.le_of_ble_eq_true rfl) dX5_perform_122 ⟨Nat.zero_le _, Nat.zero_le _⟩ (fun H locs e0 G => ?_)
          exact rt_vC C G hf dX5_perform_125
        · replace hf := if_n hf c8
          refine lv_aload_n hx hb dX5_perform_108 rfl (lv_at hl 2 rfl) ?_
          refine lv_iload_n hx hb dX5_perform_109 rfl (lv_at hl 1 rfl) ?_
          refine lv_iload_n hx hb dX5_perform_110 rfl (lv_at hl 0 rfl) ?_
          refine lv_iload_n hx hb dX5_perform_111 rfl (lv_at hl 3 rfl) ?_
          obtain ⟨st10, hst10, hf⟩ := bv_some hf
          refine cl_vvC C hl G (As := [.int v1, .int v3, .int p1]) (rest := []) (kx_Rr_useVariable l D k h v1 v3 p1 (wA st 18 v1.toNatClampNeg (p1 + 1)) _ hst10) gi_X5_80 (hwC_8 ..) rfl hd_X5_useVariable ⟨Nat.le_of_ble_eq_true rfl, Nat.le_of_ble_eq_true rfl⟩ rfl rfl (Nat.le_of_ble_eq_true rfl) dX5_perform_112 ⟨Nat.zero_le _, Nat.zero_le _⟩ (fun H locs e0 G => ?_)
          refine lv_goto (tgt := 125) hx hb dX5_perform_115 (by decide) ?_
          exact rt_vC C G hf dX5_perform_125
      · replace hf := if_n hf c7
        refine lv_aload_n hx hb dX5_perform_92 rfl (lv_at hl 2 rfl) ?_
        refine lv_iload_n hx hb dX5_perform_93 rfl (lv_at hl 1 rfl) ?_
        refine lv_iload_n hx hb dX5_perform_94 rfl (lv_at hl 0 rfl) ?_
        refine lv_iload_n hx hb dX5_perform_95 rfl (lv_at hl 3 rfl) ?_
        obtain ⟨st11, hst11, hf⟩ := bv_some hf
        refine cl_vvC C hl G (As := [.int v1, .int v3, .int p1]) (rest := []) (kx_Rr_useMemory l D k h N v1 v3 p1 (wA st 18 v1.toNatClampNeg (p1 + 1)) _ hst11) gi_X5_77 (hwC_8 ..) rfl hd_X5_useMemory ⟨Nat.le_of_ble_eq_true rfl, Nat.le_of_ble_eq_true rfl⟩ rfl rfl (Nat.le_of_ble_eq_true rfl) dX5_perform_96 ⟨Nat.zero_le _, Nat.zero_le _⟩ (fun H locs e0 G => ?_)
        refine lv_goto (tgt := 125) hx hb dX5_perform_99 (by decide) ?_
        exact rt_vC C G hf dX5_perform_125
    · replace hf := if_n hf c6
      refine lv_aload_n hx hb dX5_perform_76 rfl (lv_at hl 2 rfl) ?_
      refine lv_iload_n hx hb dX5_perform_77 rfl (lv_at hl 1 rfl) ?_
      refine lv_iload_n hx hb dX5_perform_78 rfl (lv_at hl 0 rfl) ?_
      refine lv_iload_n hx hb dX5_perform_79 rfl (lv_at hl 3 rfl) ?_
      obtain ⟨st12, hst12, hf⟩ := bv_some hf
      refine cl_vvC C hl G (As := [.int v1, .int v3, .int p1]) (rest := []) (kx_Rr_operate l D k h v1 v3 p1 (wA st 18 v1.toNatClampNeg (p1 + 1)) _ hst12) gi_X5_73 (hwC_8 ..) rfl hd_X5_operate ⟨Nat.le_of_ble_eq_true rfl, Nat.le_of_ble_eq_true rfl⟩ rfl rfl (Nat.le_of_ble_eq_true rfl) dX5_perform_80 ⟨Nat.zero_le _, Nat.zero_le _⟩ (fun H locs e0 G => ?_)
      refine lv_goto (tgt := 125) hx hb dX5_perform_83 (by decide) ?_
      exact rt_vC C G hf dX5_perform_125
  · replace hf := if_p hf c5
    refine lv_aload_n hx hb dX5_perform_39 rfl (lv_at hl 2 rfl) ?_
    refine lv_iload_n hx hb dX5_perform_40 rfl (lv_at hl 1 rfl) ?_
    refine lv_aload_n hx hb dX5_perform_41 rfl (lv_at hl 2 rfl) ?_
    refine fg_Rr_code hx hb hts hown hK G (hts _ lk_X5_15) dX5_perform_42 ?_
    refine fg_Rc_to hx hb hts hown hK G (hts _ lk_X5_59) dX5_perform_45 ?_
    refine lv_iload_n hx hb dX5_perform_48 rfl (lv_at hl 3 rfl) ?_
    obtain ⟨h_g13, hf⟩ := gd_some hf
    refine ra_IC (v := rA st 25 p1.toNatClampNeg) hx hb hK G (waC_38 ..) (t0 := 29) rfl rfl h_g13 dX5_perform_49 ?_
    refine lv_aload_n hx hb dX5_perform_50 rfl (lv_at hl 2 rfl) ?_
    refine lv_iload_n hx hb dX5_perform_51 rfl (lv_at hl 1 rfl) ?_
    refine lv_aload_n hx hb dX5_perform_52 rfl (lv_at hl 2 rfl) ?_
    refine fg_Rr_code hx hb hts hown hK G (hts _ lk_X5_15) dX5_perform_53 ?_
    refine fg_Rc_x hx hb hts hown hK G (hts _ lk_X5_62) dX5_perform_56 ?_
    refine lv_iload_n hx hb dX5_perform_59 rfl (lv_at hl 3 rfl) ?_
    obtain ⟨h_g14, hf⟩ := gd_some hf
    refine ra_IC (v := rA st 26 p1.toNatClampNeg) hx hb hK G (waC_39 ..) (t0 := 30) rfl rfl h_g14 dX5_perform_60 ?_
    obtain ⟨r16, st15, hst15, hf⟩ := bn_some hf
    refine cl_vlC C hl G (As := [.int v1, .int (rA st 26 p1.toNatClampNeg)]) (rest := [.int (rA st 25 p1.toNatClampNeg), .int v1, .ref (h 8)]) (kx_Rr_read l D k h v1 (rA st 26 p1.toNatClampNeg) (wA st 18 v1.toNatClampNeg (p1 + 1)) _ _ hst15) gi_X5_65 (hwC_8 ..) rfl hd_X5_read ⟨Nat.le_of_ble_eq_true rfl, Nat.le_of_ble_eq_true rfl⟩ rfl rfl (Nat.le_of_ble_eq_true rfl) dX5_perform_61 ⟨Nat.zero_le _, Nat.zero_le _⟩ (fun H locs e0 G => ?_)
    obtain ⟨st17, hst17, hf⟩ := bv_some hf
    refine cl_vvC C hl G (As := [.int v1, .int (rA st 25 p1.toNatClampNeg), .long r16]) (rest := []) (kx_Rr_setRegister l D k h v1 (rA st 25 p1.toNatClampNeg) r16 st15 _ hst17) gi_X5_69 (hwC_8 ..) rfl hd_X5_setRegister ⟨Nat.le_of_ble_eq_true rfl, Nat.le_of_ble_eq_true rfl⟩ rfl rfl (Nat.le_of_ble_eq_true rfl) dX5_perform_64 ⟨Nat.zero_le _, Nat.zero_le _⟩ (fun H locs e0 G => ?_)
    refine lv_goto (tgt := 125) hx hb dX5_perform_67 (by decide) ?_
    exact rt_vC C G hf dX5_perform_125
def rm_Rr_performFree : Room := { frames := 5, cells := 0, slots := 0, locals := 119 }
set_option maxHeartbeats 4000000 in
set_option maxRecDepth 100000 in
theorem kx_Rr_performFree_b37 {p : Program} {l : Launch} {e : Env} {s : State} {m : MethodId} {args : Array Value} {below : List Frame} {meth : Method} {c : Code} {D : va_G} {h : Nat → Nat} {E : Nat → Nat} {k : Nat → Nat × ClassId} (C : cxC D k p s m args meth c cX5_performFree 3 (some .boolean) RX5) (N : Nat) (x1 : Int32) (y0 : Int32) (st : rs_T) (r : Int32) (s' : rs_T) (hf : fx_Rr_performFree_b37 N x1 y0 st = some (r, s')) : ∀ (H : Heap) (locs : List Loc) (ls : Array Slot), lv_has ls 3 [(0, .ref (h 8)), (1, .int x1)] → gdC D k h (vE E) (arC k h s.heap.size) s.heap H locs st → W p l e rm_Rr_performFree s m args below meth c H locs 0 0 (MQ below (qIC D k h E s.heap.size r s') args s 0 0 (arC k h s.heap.size)) (F0 m 37 ls [.int y0]) := by
  obtain ⟨hx, hb, hml, hr, hown, hts, hK, hN, hlk⟩ := id C
  intro H locs ls hl G
  unfold fx_Rr_performFree_b37 at hf
  refine lv_istore_n (lv' := [(2, .int y0), (0, .ref (h 8)), (1, .int x1)]) hx hb dX5_performFree_37 rfl hl (by decide) rfl (fun ls hl => ?_)
  refine lv_iload_n hx hb dX5_performFree_38 rfl (lv_at hl 0 rfl) ?_
  refine lv_if_eq (tgt := 47) hx hb dX5_performFree_39 (by decide) (fun c4 => ?_) (fun c4 => ?_)
  · replace hf := if_p hf c4
    refine lv_iload_n hx hb dX5_performFree_47 rfl (lv_at hl 0 rfl) ?_
    obtain ⟨h_b, hf⟩ := gb_some hf
    exact rt_zC C (gb_nar h_b) G hf dX5_performFree_48
  · replace hf := if_n hf c4
    refine lv_aload_n hx hb dX5_performFree_42 rfl (lv_at hl 1 rfl) ?_
    refine lv_iload_n hx hb dX5_performFree_43 rfl (lv_at hl 2 rfl) ?_
    obtain ⟨st5, hst5, hf⟩ := bv_some hf
    refine cl_vvC C hl G (As := [.int x1]) (rest := []) (kx_Rr_perform l D k h N x1 st _ hst5) gi_X5_46 (hwC_8 ..) rfl hd_X5_perform ⟨Nat.le_of_ble_eq_true rfl, Nat.le_of_ble_eq_true rfl⟩ rfl rfl (Nat.le_of_ble_eq_true rfl) dX5_performFree_44 ⟨Nat.zero_le _, Nat.zero_le _⟩ (fun H locs e0 G => ?_)
    refine lv_iload_n hx hb dX5_performFree_47 rfl (lv_at hl 0 rfl) ?_
    obtain ⟨h_b, hf⟩ := gb_some hf
    exact rt_zC C (gb_nar h_b) G hf dX5_performFree_48
set_option maxHeartbeats 4000000 in
set_option maxRecDepth 100000 in
theorem kx_Rr_performFree_b36 {p : Program} {l : Launch} {e : Env} {s : State} {m : MethodId} {args : Array Value} {below : List Frame} {meth : Method} {c : Code} {D : va_G} {h : Nat → Nat} {E : Nat → Nat} {k : Nat → Nat × ClassId} (C : cxC D k p s m args meth c cX5_performFree 3 (some .boolean) RX5) (N : Nat) (x1 : Int32) (st : rs_T) (r : Int32) (s' : rs_T) (hf : fx_Rr_performFree_b36 N x1 st = some (r, s')) : ∀ (H : Heap) (locs : List Loc) (ls : Array Slot), lv_has ls 3 [(0, .ref (h 8)), (1, .int x1)] → gdC D k h (vE E) (arC k h s.heap.size) s.heap H locs st → W p l e rm_Rr_performFree s m args below meth c H locs 0 0 (MQ below (qIC D k h E s.heap.size r s') args s 0 0 (arC k h s.heap.size)) (F0 m 36 ls []) := by
  obtain ⟨hx, hb, hml, hr, hown, hts, hK, hN, hlk⟩ := id C
  intro H locs ls hl G
  unfold fx_Rr_performFree_b36 at hf
  refine lv_iconst (v := 0) hx hb dX5_performFree_36 (by decide) ?_
  exact kx_Rr_performFree_b37 C N x1 0 st _ _ hf _ _ _ (lv_sub hl [0, 1] rfl) G
set_option maxHeartbeats 4000000 in
set_option maxRecDepth 100000 in
theorem kx_Rr_performFree (l : Launch) (D : va_G) (k : Nat → Nat × ClassId) (h : Nat → Nat) (N : Nat) (st : rs_T) (r : Int32) (s' : rs_T) (hf : fx_Rr_performFree N st = some (r, s')) : mIC l D k h yX5_performFree cX5_performFree 3 .boolean rm_Rr_performFree [.ref (h 8)] st r s' := by
  refine mIC_of (by decide) ⟨rfl, rfl⟩ (Nat.le_of_ble_eq_true rfl) ?_
  intro p e s m below meth c ls C hl G
  obtain ⟨hx, hb, hml, hr, hown, hts, hK, hN, hlk⟩ := id C
  have hown : s.vm.findClass RX5 = some m.cls := hown
  have hl : lv_has ls 3 [(0, .ref (h 8))] := hl
  unfold fx_Rr_performFree at hf
  refine lv_aload_n hx hb dX5_performFree_0 rfl (lv_at hl 0 rfl) ?_
  refine fg_Rr_activity hx hb hts hown hK G (hts _ lk_X5_23) dX5_performFree_1 ?_
  refine lv_aload_n hx hb dX5_performFree_4 rfl (lv_at hl 0 rfl) ?_
  refine fg_Rr_code hx hb hts hown hK G (hts _ lk_X5_15) dX5_performFree_5 ?_
  refine fg_Rc_size (v := rI st 19) hx hb hts hown hK G (hts _ lk_X5_27) rfl dX5_performFree_8 ?_
  obtain ⟨r2, st1, hst1, hf⟩ := bn_some hf
  refine cl_viC C hl G (As := [.int (rI st 19)]) (rest := []) (kx_Ac_nextWithin l D k h (rI st 19) st _ _ hst1) gi_X5_33 (hwC_4 ..) rfl hd_X0_nextWithin ⟨Nat.le_of_ble_eq_true rfl, Nat.le_of_ble_eq_true rfl⟩ rfl rfl (Nat.le_of_ble_eq_true rfl) dX5_performFree_11 ⟨Nat.zero_le _, Nat.zero_le _⟩ (fun H locs e0 G => ?_)
  refine lv_istore_n (lv' := [(1, .int r2), (0, .ref (h 8))]) hx hb dX5_performFree_14 rfl hl (by decide) rfl (fun ls hl => ?_)
  refine lv_iload_n hx hb dX5_performFree_15 rfl (lv_at hl 0 rfl) ?_
  refine lv_iconst (v := (-1)) hx hb dX5_performFree_16 (by decide) ?_
  refine lv_icmp_eq (tgt := 36) hx hb dX5_performFree_17 (by decide) (fun c3 => ?_) (fun c3 => ?_)
  · replace hf := if_p hf c3
    exact kx_Rr_performFree_b36 C N r2 st1 _ _ hf _ _ _ (lv_sub hl [1, 0] rfl) G
  · replace hf := if_n hf c3
    refine lv_aload_n hx hb dX5_performFree_20 rfl (lv_at hl 1 rfl) ?_
    refine fg_Rr_code hx hb hts hown hK G (hts _ lk_X5_15) dX5_performFree_21 ?_
    refine fg_Rc_weight hx hb hts hown hK G (hts _ lk_X5_42) dX5_performFree_24 ?_
    refine lv_iload_n hx hb dX5_performFree_27 rfl (lv_at hl 0 rfl) ?_
    obtain ⟨h_g6, hf⟩ := gd_some hf
    refine ra_IC (v := rA st1 24 r2.toNatClampNeg) hx hb hK G (waC_37 ..) (t0 := 28) rfl rfl h_g6 dX5_performFree_28 ?_
    refine lv_if_ne (tgt := 36) hx hb dX5_performFree_29 (by decide) (fun c7 => ?_) (fun c7 => ?_)
    · replace hf := if_n hf c7
      exact kx_Rr_performFree_b36 C N r2 st1 _ _ hf _ _ _ (lv_sub hl [1, 0] rfl) G
    · replace hf := if_p hf c7
      refine lv_iconst (v := 1) hx hb dX5_performFree_32 (by decide) ?_
      refine lv_goto (tgt := 37) hx hb dX5_performFree_33 (by decide) ?_
      exact kx_Rr_performFree_b37 C N r2 1 st1 _ _ hf _ _ _ (lv_sub hl [1, 0] rfl) G
def rm_Ac_currentFunction : Room := { frames := 0, cells := 0, slots := 0, locals := 0 }
set_option maxHeartbeats 4000000 in
set_option maxRecDepth 100000 in
theorem kx_Ac_currentFunction (l : Launch) (D : va_G) (k : Nat → Nat × ClassId) (h : Nat → Nat) (st : rs_T) (r : Int32) (s' : rs_T) (hf : fx_Ac_currentFunction st = some (r, s')) : mIC l D k h yX0_currentFunction cX0_currentFunction 1 .int rm_Ac_currentFunction [.ref (h 4)] st r s' := by
  refine mIC_of (by decide) ⟨rfl, rfl⟩ (Nat.le_of_ble_eq_true rfl) ?_
  intro p e s m below meth c ls C hl G
  obtain ⟨hx, hb, hml, hr, hown, hts, hK, hN, hlk⟩ := id C
  have hown : s.vm.findClass RX0 = some m.cls := hown
  have hl : lv_has ls 1 [(0, .ref (h 4))] := hl
  unfold fx_Ac_currentFunction at hf
  refine lv_aload_n hx hb dX0_currentFunction_0 rfl (lv_at hl 0 rfl) ?_
  refine fg_Ac_frames (v := rI st 14) hx hb hts hown hK G (hts _ lk_X0_48) rfl dX0_currentFunction_1 ?_
  refine lv_if_le (tgt := 21) hx hb dX0_currentFunction_4 (by decide) (fun c1 => ?_) (fun c1 => ?_)
  · replace hf := if_p hf c1
    refine lv_iconst (v := 0) hx hb dX0_currentFunction_21 (by decide) ?_
    exact rt_iC C G hf dX0_currentFunction_22
  · replace hf := if_n hf c1
    refine lv_aload_n hx hb dX0_currentFunction_7 rfl (lv_at hl 0 rfl) ?_
    refine fg_Ac_function hx hb hts hown hK G (hts _ lk_X0_9) dX0_currentFunction_8 ?_
    refine lv_aload_n hx hb dX0_currentFunction_11 rfl (lv_at hl 0 rfl) ?_
    refine fg_Ac_frames (v := rI st 14) hx hb hts hown hK G (hts _ lk_X0_48) rfl dX0_currentFunction_12 ?_
    refine lv_iconst (v := 1) hx hb dX0_currentFunction_15 (by decide) ?_
    refine lv_isub hx hb dX0_currentFunction_16 ?_
    obtain ⟨h_g2, hf⟩ := gd_some hf
    refine ra_IC (v := rA st 17 (((rI st 14) - 1).toNatClampNeg)) hx hb hK G (waC_28 ..) (t0 := 19) rfl rfl h_g2 dX0_currentFunction_17 ?_
    refine lv_goto (tgt := 22) hx hb dX0_currentFunction_18 (by decide) ?_
    exact rt_iC C G hf dX0_currentFunction_22
def rm_Ma_isDueWhenCounted : Room := { frames := 0, cells := 0, slots := 0, locals := 0 }
set_option maxHeartbeats 4000000 in
set_option maxRecDepth 100000 in
theorem kx_Ma_isDueWhenCounted (l : Launch) (D : va_G) (k : Nat → Nat × ClassId) (h : Nat → Nat) (p1 : Int32) (st : rs_T) (r : Int32) (s' : rs_T) (hf : fx_Ma_isDueWhenCounted p1 st = some (r, s')) : mIC l D k h yX9_isDueWhenCounted cX9_isDueWhenCounted 2 .boolean rm_Ma_isDueWhenCounted [.ref (h 0), .int p1] st r s' := by
  refine mIC_of (by decide) ⟨rfl, rfl⟩ (Nat.le_of_ble_eq_true rfl) ?_
  intro p e s m below meth c ls C hl G
  obtain ⟨hx, hb, hml, hr, hown, hts, hK, hN, hlk⟩ := id C
  have hown : s.vm.findClass RX9 = some m.cls := hown
  have hl : lv_has ls 2 [(0, .ref (h 0)), (1, .int p1)] := hl
  unfold fx_Ma_isDueWhenCounted at hf
  refine lv_aload_n hx hb dX9_isDueWhenCounted_0 rfl (lv_at hl 0 rfl) ?_
  refine fg_Ma_program hx hb hts hown hK G (hts _ lk_X9_12) dX9_isDueWhenCounted_1 ?_
  refine fg_Pr_counted hx hb hts hown hK G (hts _ lk_X9_137) dX9_isDueWhenCounted_4 ?_
  refine lv_iload_n hx hb dX9_isDueWhenCounted_7 rfl (lv_at hl 1 rfl) ?_
  refine lv_dup2_11 hx hb dX9_isDueWhenCounted_8 rfl rfl ?_
  obtain ⟨h_g1, hf⟩ := gd_some hf
  refine ra_IC (v := rA st 6 p1.toNatClampNeg) hx hb hK G (waC_16 ..) (t0 := 7) rfl rfl h_g1 dX9_isDueWhenCounted_9 ?_
  refine lv_iconst (v := 1) hx hb dX9_isDueWhenCounted_10 (by decide) ?_
  refine lv_iadd hx hb dX9_isDueWhenCounted_11 ?_
  obtain ⟨h_g2, hf⟩ := gd_some hf
  refine rw_IC hx hb hK G (waC_16 ..) (t0 := 7) rfl (wsC_16 ..) (zw_16 h_g2) rfl h_g2 dX9_isDueWhenCounted_12 (fun H locs G => ?_)
  refine lv_aload_n hx hb dX9_isDueWhenCounted_13 rfl (lv_at hl 0 rfl) ?_
  refine fg_Ma_tier (v := rI st 1) hx hb hts hown hK G (hts _ lk_X9_81) rfl dX9_isDueWhenCounted_14 ?_
  refine lv_if_le (tgt := 53) hx hb dX9_isDueWhenCounted_17 (by decide) (fun c3 => ?_) (fun c3 => ?_)
  · replace hf := if_p hf c3
    refine lv_iconst (v := 0) hx hb dX9_isDueWhenCounted_53 (by decide) ?_
    exact rt_zC C rfl G hf dX9_isDueWhenCounted_54
  · replace hf := if_n hf c3
    refine lv_aload_n hx hb dX9_isDueWhenCounted_20 rfl (lv_at hl 0 rfl) ?_
    refine fg_Ma_program hx hb hts hown hK G (hts _ lk_X9_12) dX9_isDueWhenCounted_21 ?_
    refine fg_Pr_counted hx hb hts hown hK G (hts _ lk_X9_137) dX9_isDueWhenCounted_24 ?_
    refine lv_iload_n hx hb dX9_isDueWhenCounted_27 rfl (lv_at hl 1 rfl) ?_
    obtain ⟨h_g4, hf⟩ := gd_some hf
    refine ra_IC (v := rA (wA st 6 p1.toNatClampNeg ((rA st 6 p1.toNatClampNeg) + 1)) 6 p1.toNatClampNeg) hx hb hK G (waC_16 ..) (t0 := 7) rfl rfl h_g4 dX9_isDueWhenCounted_28 ?_
    refine lv_aload_n hx hb dX9_isDueWhenCounted_29 rfl (lv_at hl 0 rfl) ?_
    refine fg_Ma_tier (v := rI st 1) hx hb hts hown hK G (hts _ lk_X9_81) rfl dX9_isDueWhenCounted_30 ?_
    refine lv_icmp_lt (tgt := 53) hx hb dX9_isDueWhenCounted_33 (by decide) (fun c5 => ?_) (fun c5 => ?_)
    · replace hf := if_p hf c5
      refine lv_iconst (v := 0) hx hb dX9_isDueWhenCounted_53 (by decide) ?_
      exact rt_zC C rfl G hf dX9_isDueWhenCounted_54
    · replace hf := if_n hf c5
      refine lv_aload_n hx hb dX9_isDueWhenCounted_36 rfl (lv_at hl 0 rfl) ?_
      refine fg_Ma_registerCode hx hb hts hown hK G (hts _ lk_X9_42) dX9_isDueWhenCounted_37 ?_
      refine fg_Rc_start hx hb hts hown hK G (hts _ lk_X9_200) dX9_isDueWhenCounted_40 ?_
      refine lv_iload_n hx hb dX9_isDueWhenCounted_43 rfl (lv_at hl 1 rfl) ?_
      obtain ⟨h_g6, hf⟩ := gd_some hf
      refine ra_IC (v := rA st 22 p1.toNatClampNeg) hx hb hK G (waC_35 ..) (t0 := 26) rfl rfl h_g6 dX9_isDueWhenCounted_44 ?_
      refine lv_iconst (v := (-1)) hx hb dX9_isDueWhenCounted_45 (by decide) ?_
      refine lv_icmp_ne (tgt := 53) hx hb dX9_isDueWhenCounted_46 (by decide) (fun c7 => ?_) (fun c7 => ?_)
      · replace hf := if_n hf c7
        refine lv_iconst (v := 0) hx hb dX9_isDueWhenCounted_53 (by decide) ?_
        exact rt_zC C rfl G hf dX9_isDueWhenCounted_54
      · replace hf := if_p hf c7
        refine lv_iconst (v := 1) hx hb dX9_isDueWhenCounted_49 (by decide) ?_
        refine lv_goto (tgt := 54) hx hb dX9_isDueWhenCounted_50 (by decide) ?_
        exact rt_zC C rfl G hf dX9_isDueWhenCounted_54
def rm_Ac_settleFrame : Room := { frames := 0, cells := 0, slots := 0, locals := 0 }
set_option maxHeartbeats 4000000 in
set_option maxRecDepth 100000 in
theorem kx_Ac_settleFrame (l : Launch) (D : va_G) (k : Nat → Nat × ClassId) (h : Nat → Nat) (p1 : Int32) (st : rs_T) (s' : rs_T) (hf : fx_Ac_settleFrame p1 st = some s') : mVC l D k h yX0_settleFrame cX0_settleFrame 2 rm_Ac_settleFrame [.ref (h 4), .int p1] st s' := by
  refine mVC_of (by decide) ⟨rfl, rfl⟩ (Nat.le_of_ble_eq_true rfl) ?_
  intro p e s m below meth c ls C hl G
  obtain ⟨hx, hb, hml, hr, hown, hts, hK, hN, hlk⟩ := id C
  have hown : s.vm.findClass RX0 = some m.cls := hown
  have hl : lv_has ls 2 [(0, .ref (h 4)), (1, .int p1)] := hl
  unfold fx_Ac_settleFrame at hf
  refine lv_aload_n hx hb dX0_settleFrame_0 rfl (lv_at hl 0 rfl) ?_
  refine lv_iconst (v := 0) hx hb dX0_settleFrame_1 (by decide) ?_
  refine fp_Ac_isFresh hx hb hts hown hK G (hts _ lk_X0_54) rfl rfl dX0_settleFrame_2 (fun H locs G => ?_)
  refine lv_aload_n hx hb dX0_settleFrame_5 rfl (lv_at hl 0 rfl) ?_
  refine fg_Ac_frames (v := rI st 14) hx hb hts hown hK G (hts _ lk_X0_48) rfl dX0_settleFrame_6 ?_
  refine lv_if_le (tgt := 41) hx hb dX0_settleFrame_9 (by decide) (fun c1 => ?_) (fun c1 => ?_)
  · replace hf := if_p hf c1
    exact rt_vC C G hf dX0_settleFrame_41
  · replace hf := if_n hf c1
    refine lv_iload_n hx hb dX0_settleFrame_12 rfl (lv_at hl 1 rfl) ?_
    refine lv_iconst (v := (-1)) hx hb dX0_settleFrame_13 (by decide) ?_
    refine lv_icmp_eq (tgt := 41) hx hb dX0_settleFrame_14 (by decide) (fun c2 => ?_) (fun c2 => ?_)
    · replace hf := if_p hf c2
      exact rt_vC C G hf dX0_settleFrame_41
    · replace hf := if_n hf c2
      refine lv_aload_n hx hb dX0_settleFrame_17 rfl (lv_at hl 0 rfl) ?_
      refine fg_Ac_inRegisters hx hb hts hown hK G (hts _ lk_X0_24) dX0_settleFrame_18 ?_
      refine lv_aload_n hx hb dX0_settleFrame_21 rfl (lv_at hl 0 rfl) ?_
      refine fg_Ac_frames (v := rI st 14) hx hb hts hown hK G (hts _ lk_X0_48) rfl dX0_settleFrame_22 ?_
      refine lv_iconst (v := 1) hx hb dX0_settleFrame_25 (by decide) ?_
      refine lv_isub hx hb dX0_settleFrame_26 ?_
      refine lv_iconst (v := 1) hx hb dX0_settleFrame_27 (by decide) ?_
      obtain ⟨h_g3, hf⟩ := gd_some hf
      refine rw_ZC hx hb hK G (waC_32 ..) (t0 := 23) rfl (wsC_32 ..) (zw_32 h_g3) rfl rfl h_g3 dX0_settleFrame_28 (fun H locs G => ?_)
      refine lv_aload_n hx hb dX0_settleFrame_29 rfl (lv_at hl 0 rfl) ?_
      refine fg_Ac_next hx hb hts hown hK G (hts _ lk_X0_15) dX0_settleFrame_30 ?_
      refine lv_aload_n hx hb dX0_settleFrame_33 rfl (lv_at hl 0 rfl) ?_
      refine fg_Ac_frames (v := rI st 14) hx hb hts hown hK G (hts _ lk_X0_48) rfl dX0_settleFrame_34 ?_
      refine lv_iconst (v := 1) hx hb dX0_settleFrame_37 (by decide) ?_
      refine lv_isub hx hb dX0_settleFrame_38 ?_
      refine lv_iload_n hx hb dX0_settleFrame_39 rfl (lv_at hl 1 rfl) ?_
      obtain ⟨h_g4, hf⟩ := gd_some hf
      refine rw_IC hx hb hK G (waC_29 ..) (t0 := 20) rfl (wsC_29 ..) (zw_29 h_g4) rfl h_g4 dX0_settleFrame_40 (fun H locs G => ?_)
      exact rt_vC C G hf dX0_settleFrame_41
