def rm_Md_control : Room := { frames := 3, cells := 0, slots := 0, locals := 65 }
set_option maxHeartbeats 4000000 in
set_option maxRecDepth 100000 in
theorem kx_Md_control (l : Launch) (D : va_G) (k : Nat → ClassId) (h : Nat → Nat) (p1 : Int32) (p2 : Int32) (p3 : Int32) (st : rs_T) (r : Int32) (s' : rs_T) (hf : fx_Md_control p1 p2 p3 st = some (r, s')) : mIM l D k h yX10_control cX10_control 4 .boolean rm_Md_control [.ref (h 0), .int p1, .int p2, .int p3] st r s' := by
  refine mIM_of (by decide) ⟨rfl, rfl⟩ (Nat.le_of_ble_eq_true rfl) ?_
  intro p e s m below meth c ls C hl G
  obtain ⟨hx, hb, hml, hr, hown, hts, hK, hN, hlk⟩ := id C
  have hown : s.vm.findClass RX10 = some m.cls := hown
  have hl : lv_has ls 4 [(0, .ref (h 0)), (1, .int p1), (2, .int p2), (3, .int p3)] := hl
  unfold fx_Md_control at hf
  refine lv_iload_n hx hb dX10_control_0 rfl (lv_at hl 1 rfl) ?_
  by_cases s1_0 : p1 ∈ ([0] : List Int32)
  · replace hf := if_p hf s1_0
    refine sw_tb (tgt := 84) (off := 83) hx hb dX10_control_1 (sw_tbt s1_0 (by decide)) (by decide) (by decide) ?_
    refine lv_aload_n hx hb dX10_control_84 rfl (lv_at hl 0 rfl) ?_
    refine lv_iconst (v := 0) hx hb dX10_control_85 (by decide) ?_
    obtain ⟨r3, st2, hst2, hf⟩ := bn_some hf
    refine cl_viM C hl G (As := [.int 0]) (rest := []) (kx_Md_ends l D k h 0 st _ _ hst2) gi_X10_159 (hwM_0 ..) rfl hd_X10_ends ⟨Nat.le_of_ble_eq_true rfl, Nat.le_of_ble_eq_true rfl⟩ rfl rfl (Nat.le_of_ble_eq_true rfl) dX10_control_86 (fun H locs G => ?_)
    obtain ⟨h_b, hf⟩ := gb_some hf
    exact rt_zM C (gb_nar h_b) G hf dX10_control_89
  replace hf := if_n hf s1_0
  by_cases s1_1 : p1 ∈ ([1] : List Int32)
  · replace hf := if_p hf s1_1
    refine sw_tb (tgt := 90) (off := 89) hx hb dX10_control_1 (sw_tbt s1_1 (by decide)) (by decide) (by decide) ?_
    refine lv_iconst (v := 1) hx hb dX10_control_90 (by decide) ?_
    exact rt_zM C rfl G hf dX10_control_91
  replace hf := if_n hf s1_1
  by_cases s1_2 : p1 ∈ ([2, 3, 4] : List Int32)
  · replace hf := if_p hf s1_2
    refine sw_tb (tgt := 92) (off := 91) hx hb dX10_control_1 (sw_tbt s1_2 (by decide)) (by decide) (by decide) ?_
    refine lv_aload_n hx hb dX10_control_92 rfl (lv_at hl 0 rfl) ?_
    refine lv_iload_n hx hb dX10_control_93 rfl (lv_at hl 1 rfl) ?_
    refine lv_iload_n hx hb dX10_control_94 rfl (lv_at hl 2 rfl) ?_
    refine lv_iload_n hx hb dX10_control_95 rfl (lv_at hl 3 rfl) ?_
    obtain ⟨r5, st4, hst4, hf⟩ := bn_some hf
    refine cl_viM C hl G (As := [.int p1, .int p2, .int p3]) (rest := []) (kx_Md_block l D k h p1 p2 p3 st _ _ hst4) gi_X10_162 (hwM_0 ..) rfl hd_X10_block ⟨Nat.le_of_ble_eq_true rfl, Nat.le_of_ble_eq_true rfl⟩ rfl rfl (Nat.le_of_ble_eq_true rfl) dX10_control_96 (fun H locs G => ?_)
    obtain ⟨h_b, hf⟩ := gb_some hf
    exact rt_zM C (gb_nar h_b) G hf dX10_control_99
  replace hf := if_n hf s1_2
  by_cases s1_3 : p1 ∈ ([5] : List Int32)
  · replace hf := if_p hf s1_3
    refine sw_tb (tgt := 100) (off := 99) hx hb dX10_control_1 (sw_tbt s1_3 (by decide)) (by decide) (by decide) ?_
    refine lv_aload_n hx hb dX10_control_100 rfl (lv_at hl 0 rfl) ?_
    obtain ⟨r7, st6, hst6, hf⟩ := bn_some hf
    refine cl_viM C hl G (As := []) (rest := []) (kx_Md_otherwise l D k h st _ _ hst6) gi_X10_166 (hwM_0 ..) rfl hd_X10_otherwise ⟨Nat.le_of_ble_eq_true rfl, Nat.le_of_ble_eq_true rfl⟩ rfl rfl (Nat.le_of_ble_eq_true rfl) dX10_control_101 (fun H locs G => ?_)
    obtain ⟨h_b, hf⟩ := gb_some hf
    exact rt_zM C (gb_nar h_b) G hf dX10_control_104
  replace hf := if_n hf s1_3
  by_cases s1_4 : p1 ∈ ([11] : List Int32)
  · replace hf := if_p hf s1_4
    refine sw_tb (tgt := 105) (off := 104) hx hb dX10_control_1 (sw_tbt s1_4 (by decide)) (by decide) (by decide) ?_
    refine lv_aload_n hx hb dX10_control_105 rfl (lv_at hl 0 rfl) ?_
    obtain ⟨r9, st8, hst8, hf⟩ := bn_some hf
    refine cl_viM C hl G (As := []) (rest := []) (kx_Md_end l D k h st _ _ hst8) gi_X10_169 (hwM_0 ..) rfl hd_X10_end ⟨Nat.le_of_ble_eq_true rfl, Nat.le_of_ble_eq_true rfl⟩ rfl rfl (Nat.le_of_ble_eq_true rfl) dX10_control_106 (fun H locs G => ?_)
    obtain ⟨h_b, hf⟩ := gb_some hf
    exact rt_zM C (gb_nar h_b) G hf dX10_control_109
  replace hf := if_n hf s1_4
  by_cases s1_5 : p1 ∈ ([12] : List Int32)
  · replace hf := if_p hf s1_5
    refine sw_tb (tgt := 110) (off := 109) hx hb dX10_control_1 (sw_tbt s1_5 (by decide)) (by decide) (by decide) ?_
    refine lv_aload_n hx hb dX10_control_110 rfl (lv_at hl 0 rfl) ?_
    refine lv_iload_n hx hb dX10_control_111 rfl (lv_at hl 2 rfl) ?_
    obtain ⟨r11, st10, hst10, hf⟩ := bn_some hf
    refine cl_viM C hl G (As := [.int p2]) (rest := []) (kx_Md_isLabel l D k h p2 st _ _ hst10) gi_X10_149 (hwM_0 ..) rfl hd_X10_isLabel ⟨Nat.le_of_ble_eq_true rfl, Nat.le_of_ble_eq_true rfl⟩ rfl rfl (Nat.le_of_ble_eq_true rfl) dX10_control_112 (fun H locs G => ?_)
    refine lv_if_eq (tgt := 134) hx hb dX10_control_115 (by decide) (fun c12 => ?_) (fun c12 => ?_)
    · replace hf := if_p hf c12
      refine lv_iconst (v := 0) hx hb dX10_control_134 (by decide) ?_
      exact rt_zM C rfl G hf dX10_control_135
    · replace hf := if_n hf c12
      refine lv_aload_n hx hb dX10_control_118 rfl (lv_at hl 0 rfl) ?_
      refine lv_aload_n hx hb dX10_control_119 rfl (lv_at hl 0 rfl) ?_
      refine lv_iload_n hx hb dX10_control_120 rfl (lv_at hl 2 rfl) ?_
      obtain ⟨r14, st13, hst13, hf⟩ := bn_some hf
      refine cl_viM C hl G (As := [.int p2]) (rest := [.ref (h 0)]) (kx_Md_wants l D k h p2 st10 _ _ hst13) gi_X10_152 (hwM_0 ..) rfl hd_X10_wants ⟨Nat.le_of_ble_eq_true rfl, Nat.le_of_ble_eq_true rfl⟩ rfl rfl (Nat.le_of_ble_eq_true rfl) dX10_control_121 (fun H locs G => ?_)
      obtain ⟨r16, st15, hst15, hf⟩ := bn_some hf
      refine cl_viM C hl G (As := [.int r14]) (rest := []) (kx_Md_ends l D k h r14 st13 _ _ hst15) gi_X10_159 (hwM_0 ..) rfl hd_X10_ends ⟨Nat.le_of_ble_eq_true rfl, Nat.le_of_ble_eq_true rfl⟩ rfl rfl (Nat.le_of_ble_eq_true rfl) dX10_control_124 (fun H locs G => ?_)
      refine lv_if_eq (tgt := 134) hx hb dX10_control_127 (by decide) (fun c17 => ?_) (fun c17 => ?_)
      · replace hf := if_p hf c17
        refine lv_iconst (v := 0) hx hb dX10_control_134 (by decide) ?_
        exact rt_zM C rfl G hf dX10_control_135
      · replace hf := if_n hf c17
        refine lv_iconst (v := 1) hx hb dX10_control_130 (by decide) ?_
        refine lv_goto (tgt := 135) hx hb dX10_control_131 (by decide) ?_
        exact rt_zM C rfl G hf dX10_control_135
  replace hf := if_n hf s1_5
  by_cases s1_6 : p1 ∈ ([13] : List Int32)
  · replace hf := if_p hf s1_6
    refine sw_tb (tgt := 136) (off := 135) hx hb dX10_control_1 (sw_tbt s1_6 (by decide)) (by decide) (by decide) ?_
    refine lv_aload_n hx hb dX10_control_136 rfl (lv_at hl 0 rfl) ?_
    refine lv_iload_n hx hb dX10_control_137 rfl (lv_at hl 2 rfl) ?_
    obtain ⟨r19, st18, hst18, hf⟩ := bn_some hf
    refine cl_viM C hl G (As := [.int p2]) (rest := []) (kx_Md_isLabel l D k h p2 st _ _ hst18) gi_X10_149 (hwM_0 ..) rfl hd_X10_isLabel ⟨Nat.le_of_ble_eq_true rfl, Nat.le_of_ble_eq_true rfl⟩ rfl rfl (Nat.le_of_ble_eq_true rfl) dX10_control_138 (fun H locs G => ?_)
    refine lv_if_eq (tgt := 167) hx hb dX10_control_141 (by decide) (fun c20 => ?_) (fun c20 => ?_)
    · replace hf := if_p hf c20
      refine lv_iconst (v := 0) hx hb dX10_control_167 (by decide) ?_
      exact rt_zM C rfl G hf dX10_control_168
    · replace hf := if_n hf c20
      refine lv_aload_n hx hb dX10_control_144 rfl (lv_at hl 0 rfl) ?_
      refine lv_iconst (v := 1) hx hb dX10_control_145 (by decide) ?_
      refine lv_aload_n hx hb dX10_control_146 rfl (lv_at hl 0 rfl) ?_
      refine lv_iload_n hx hb dX10_control_147 rfl (lv_at hl 2 rfl) ?_
      obtain ⟨r22, st21, hst21, hf⟩ := bn_some hf
      refine cl_viM C hl G (As := [.int p2]) (rest := [.int 1, .ref (h 0)]) (kx_Md_wants l D k h p2 st18 _ _ hst21) gi_X10_152 (hwM_0 ..) rfl hd_X10_wants ⟨Nat.le_of_ble_eq_true rfl, Nat.le_of_ble_eq_true rfl⟩ rfl rfl (Nat.le_of_ble_eq_true rfl) dX10_control_148 (fun H locs G => ?_)
      refine lv_iadd hx hb dX10_control_151 ?_
      refine lv_aload_n hx hb dX10_control_152 rfl (lv_at hl 0 rfl) ?_
      refine lv_iload_n hx hb dX10_control_153 rfl (lv_at hl 2 rfl) ?_
      obtain ⟨r24, st23, hst23, hf⟩ := bn_some hf
      refine cl_viM C hl G (As := [.int p2]) (rest := [.int ((1 : Int32) + r22), .ref (h 0)]) (kx_Md_wants l D k h p2 st21 _ _ hst23) gi_X10_152 (hwM_0 ..) rfl hd_X10_wants ⟨Nat.le_of_ble_eq_true rfl, Nat.le_of_ble_eq_true rfl⟩ rfl rfl (Nat.le_of_ble_eq_true rfl) dX10_control_154 (fun H locs G => ?_)
      obtain ⟨r26, st25, hst25, hf⟩ := bn_some hf
      refine cl_viM C hl G (As := [.int ((1 : Int32) + r22), .int r24]) (rest := []) (kx_Md_turn l D k h ((1 : Int32) + r22) r24 st23 _ _ hst25) gi_X10_172 (hwM_0 ..) rfl hd_X10_turn ⟨Nat.le_of_ble_eq_true rfl, Nat.le_of_ble_eq_true rfl⟩ rfl rfl (Nat.le_of_ble_eq_true rfl) dX10_control_157 (fun H locs G => ?_)
      refine lv_if_eq (tgt := 167) hx hb dX10_control_160 (by decide) (fun c27 => ?_) (fun c27 => ?_)
      · replace hf := if_p hf c27
        refine lv_iconst (v := 0) hx hb dX10_control_167 (by decide) ?_
        exact rt_zM C rfl G hf dX10_control_168
      · replace hf := if_n hf c27
        refine lv_iconst (v := 1) hx hb dX10_control_163 (by decide) ?_
        refine lv_goto (tgt := 168) hx hb dX10_control_164 (by decide) ?_
        exact rt_zM C rfl G hf dX10_control_168
  replace hf := if_n hf s1_6
  by_cases s1_7 : p1 ∈ ([14] : List Int32)
  · replace hf := if_p hf s1_7
    refine sw_tb (tgt := 169) (off := 168) hx hb dX10_control_1 (sw_tbt s1_7 (by decide)) (by decide) (by decide) ?_
    refine lv_aload_n hx hb dX10_control_169 rfl (lv_at hl 0 rfl) ?_
    refine lv_iload_n hx hb dX10_control_170 rfl (lv_at hl 2 rfl) ?_
    obtain ⟨r29, st28, hst28, hf⟩ := bn_some hf
    refine cl_viM C hl G (As := [.int p2]) (rest := []) (kx_Md_entries l D k h p2 st _ _ hst28) gi_X10_175 (hwM_0 ..) rfl hd_X10_entries ⟨Nat.le_of_ble_eq_true rfl, Nat.le_of_ble_eq_true rfl⟩ rfl rfl (Nat.le_of_ble_eq_true rfl) dX10_control_171 (fun H locs G => ?_)
    obtain ⟨h_b, hf⟩ := gb_some hf
    exact rt_zM C (gb_nar h_b) G hf dX10_control_174
  replace hf := if_n hf s1_7
  by_cases s1_8 : p1 ∈ ([15] : List Int32)
  · replace hf := if_p hf s1_8
    refine sw_tb (tgt := 175) (off := 174) hx hb dX10_control_1 (sw_tbt s1_8 (by decide)) (by decide) (by decide) ?_
    refine lv_aload_n hx hb dX10_control_175 rfl (lv_at hl 0 rfl) ?_
    refine lv_aload_n hx hb dX10_control_176 rfl (lv_at hl 0 rfl) ?_
    refine fg_Md_gives hx hb hts hown hK G (hts _ lk_X10_46) dX10_control_177 ?_
    refine lv_iconst (v := 0) hx hb dX10_control_180 (by decide) ?_
    obtain ⟨h_g30, hf⟩ := gd_some hf
    refine ra_IM (v := rA st 12 ((0 : Int32).toNatClampNeg)) hx hb hK G (waM_13 ..) (t0 := 12) rfl rfl h_g30 dX10_control_181 ?_
    obtain ⟨r32, st31, hst31, hf⟩ := bn_some hf
    refine cl_viM C hl G (As := [.int (rA st 12 ((0 : Int32).toNatClampNeg))]) (rest := []) (kx_Md_ends l D k h (rA st 12 ((0 : Int32).toNatClampNeg)) st _ _ hst31) gi_X10_159 (hwM_0 ..) rfl hd_X10_ends ⟨Nat.le_of_ble_eq_true rfl, Nat.le_of_ble_eq_true rfl⟩ rfl rfl (Nat.le_of_ble_eq_true rfl) dX10_control_182 (fun H locs G => ?_)
    obtain ⟨h_b, hf⟩ := gb_some hf
    exact rt_zM C (gb_nar h_b) G hf dX10_control_185
  replace hf := if_n hf s1_8
  by_cases s1_9 : p1 ∈ ([16] : List Int32)
  · replace hf := if_p hf s1_9
    refine sw_tb (tgt := 186) (off := 185) hx hb dX10_control_1 (sw_tbt s1_9 (by decide)) (by decide) (by decide) ?_
    refine lv_iload_n hx hb dX10_control_186 rfl (lv_at hl 2 rfl) ?_
    refine lv_aload_n hx hb dX10_control_187 rfl (lv_at hl 0 rfl) ?_
    refine fg_Md_functions (v := rI st 0) hx hb hts hown hK G (hts _ lk_X10_107) rfl dX10_control_188 ?_
    refine lv_iconst (v := 1) hx hb dX10_control_191 (by decide) ?_
    refine lv_isub hx hb dX10_control_192 ?_
    obtain ⟨r34, st33, hst33, hf⟩ := bn_some hf
    refine cl_siM C hl G (As := [.int p2, .int ((rI st 0) - 1)]) (rest := []) (kx_Md_within l D k h p2 ((rI st 0) - 1) st _ _ hst33) gi_X10_110 hd_X10_within ⟨Nat.le_of_ble_eq_true rfl, Nat.le_of_ble_eq_true rfl⟩ rfl rfl (Nat.le_of_ble_eq_true rfl) dX10_control_193 (fun H locs G => ?_)
    refine lv_if_eq (tgt := 222) hx hb dX10_control_196 (by decide) (fun c35 => ?_) (fun c35 => ?_)
    · replace hf := if_p hf c35
      refine lv_iconst (v := 0) hx hb dX10_control_222 (by decide) ?_
      exact rt_zM C rfl G hf dX10_control_223
    · replace hf := if_n hf c35
      refine lv_aload_n hx hb dX10_control_199 rfl (lv_at hl 0 rfl) ?_
      refine lv_aload_n hx hb dX10_control_200 rfl (lv_at hl 0 rfl) ?_
      refine fg_Md_parameters hx hb hts hown hK G (hts _ lk_X10_16) dX10_control_201 ?_
      refine lv_iload_n hx hb dX10_control_204 rfl (lv_at hl 2 rfl) ?_
      obtain ⟨h_g36, hf⟩ := gd_some hf
      refine ra_IM (v := rA st33 2 p2.toNatClampNeg) hx hb hK G (waM_3 ..) (t0 := 2) rfl rfl h_g36 dX10_control_205 ?_
      refine lv_aload_n hx hb dX10_control_206 rfl (lv_at hl 0 rfl) ?_
      refine fg_Md_results hx hb hts hown hK G (hts _ lk_X10_19) dX10_control_207 ?_
      refine lv_iload_n hx hb dX10_control_210 rfl (lv_at hl 2 rfl) ?_
      obtain ⟨h_g37, hf⟩ := gd_some hf
      refine ra_IM (v := rA st33 3 p2.toNatClampNeg) hx hb hK G (waM_4 ..) (t0 := 3) rfl rfl h_g37 dX10_control_211 ?_
      obtain ⟨r39, st38, hst38, hf⟩ := bn_some hf
      refine cl_viM C hl G (As := [.int (rA st33 2 p2.toNatClampNeg), .int (rA st33 3 p2.toNatClampNeg)]) (rest := []) (kx_Md_turn l D k h (rA st33 2 p2.toNatClampNeg) (rA st33 3 p2.toNatClampNeg) st33 _ _ hst38) gi_X10_172 (hwM_0 ..) rfl hd_X10_turn ⟨Nat.le_of_ble_eq_true rfl, Nat.le_of_ble_eq_true rfl⟩ rfl rfl (Nat.le_of_ble_eq_true rfl) dX10_control_212 (fun H locs G => ?_)
      refine lv_if_eq (tgt := 222) hx hb dX10_control_215 (by decide) (fun c40 => ?_) (fun c40 => ?_)
      · replace hf := if_p hf c40
        refine lv_iconst (v := 0) hx hb dX10_control_222 (by decide) ?_
        exact rt_zM C rfl G hf dX10_control_223
      · replace hf := if_n hf c40
        refine lv_iconst (v := 1) hx hb dX10_control_218 (by decide) ?_
        refine lv_goto (tgt := 223) hx hb dX10_control_219 (by decide) ?_
        exact rt_zM C rfl G hf dX10_control_223
  replace hf := if_n hf s1_9
  refine sw_tb (tgt := 224) (off := 223) hx hb dX10_control_1 (sw_tbd (sw_cons s1_0 (sw_cons s1_1 (sw_cons s1_2 (sw_cons s1_3 (sw_cons s1_4 (sw_cons s1_5 (sw_cons s1_6 (sw_cons s1_7 (sw_cons s1_8 (sw_cons s1_9 sw_nil)))))))))) (by decide)) (by decide) (by decide) ?_
  refine lv_iload_n hx hb dX10_control_224 rfl (lv_at hl 2 rfl) ?_
  refine lv_bipush (v := 8) hx hb dX10_control_225 (by decide) ?_
  obtain ⟨r42, st41, hst41, hf⟩ := bn_some hf
  refine cl_siM C hl G (As := [.int p2, .int 8]) (rest := []) (kx_Md_within l D k h p2 8 st _ _ hst41) gi_X10_110 hd_X10_within ⟨Nat.le_of_ble_eq_true rfl, Nat.le_of_ble_eq_true rfl⟩ rfl rfl (Nat.le_of_ble_eq_true rfl) dX10_control_227 (fun H locs G => ?_)
  refine lv_if_eq (tgt := 257) hx hb dX10_control_230 (by decide) (fun c43 => ?_) (fun c43 => ?_)
  · replace hf := if_p hf c43
    refine lv_iconst (v := 0) hx hb dX10_control_257 (by decide) ?_
    exact rt_zM C rfl G hf dX10_control_258
  · replace hf := if_n hf c43
    refine lv_iload_n hx hb dX10_control_233 rfl (lv_at hl 3 rfl) ?_
    refine lv_bipush (v := 8) hx hb dX10_control_234 (by decide) ?_
    obtain ⟨r45, st44, hst44, hf⟩ := bn_some hf
    refine cl_siM C hl G (As := [.int p3, .int 8]) (rest := []) (kx_Md_within l D k h p3 8 st41 _ _ hst44) gi_X10_110 hd_X10_within ⟨Nat.le_of_ble_eq_true rfl, Nat.le_of_ble_eq_true rfl⟩ rfl rfl (Nat.le_of_ble_eq_true rfl) dX10_control_236 (fun H locs G => ?_)
    refine lv_if_eq (tgt := 257) hx hb dX10_control_239 (by decide) (fun c46 => ?_) (fun c46 => ?_)
    · replace hf := if_p hf c46
      refine lv_iconst (v := 0) hx hb dX10_control_257 (by decide) ?_
      exact rt_zM C rfl G hf dX10_control_258
    · replace hf := if_n hf c46
      refine lv_aload_n hx hb dX10_control_242 rfl (lv_at hl 0 rfl) ?_
      refine lv_iconst (v := 1) hx hb dX10_control_243 (by decide) ?_
      refine lv_iload_n hx hb dX10_control_244 rfl (lv_at hl 2 rfl) ?_
      refine lv_iadd hx hb dX10_control_245 ?_
      refine lv_iload_n hx hb dX10_control_246 rfl (lv_at hl 3 rfl) ?_
      obtain ⟨r48, st47, hst47, hf⟩ := bn_some hf
      refine cl_viM C hl G (As := [.int ((1 : Int32) + p2), .int p3]) (rest := []) (kx_Md_turn l D k h ((1 : Int32) + p2) p3 st44 _ _ hst47) gi_X10_172 (hwM_0 ..) rfl hd_X10_turn ⟨Nat.le_of_ble_eq_true rfl, Nat.le_of_ble_eq_true rfl⟩ rfl rfl (Nat.le_of_ble_eq_true rfl) dX10_control_247 (fun H locs G => ?_)
      refine lv_if_eq (tgt := 257) hx hb dX10_control_250 (by decide) (fun c49 => ?_) (fun c49 => ?_)
      · replace hf := if_p hf c49
        refine lv_iconst (v := 0) hx hb dX10_control_257 (by decide) ?_
        exact rt_zM C rfl G hf dX10_control_258
      · replace hf := if_n hf c49
        refine lv_iconst (v := 1) hx hb dX10_control_253 (by decide) ?_
        refine lv_goto (tgt := 258) hx hb dX10_control_254 (by decide) ?_
        exact rt_zM C rfl G hf dX10_control_258
def rm_Md_plain : Room := { frames := 3, cells := 0, slots := 0, locals := 63 }
set_option maxHeartbeats 4000000 in
set_option maxRecDepth 100000 in
theorem kx_Md_plain (l : Launch) (D : va_G) (k : Nat → ClassId) (h : Nat → Nat) (p1 : Int32) (p2 : Int32) (st : rs_T) (r : Int32) (s' : rs_T) (hf : fx_Md_plain p1 p2 st = some (r, s')) : mIM l D k h yX10_plain cX10_plain 4 .boolean rm_Md_plain [.ref (h 0), .int p1, .int p2] st r s' := by
  refine mIM_of (by decide) ⟨rfl, rfl⟩ (Nat.le_of_ble_eq_true rfl) ?_
  intro p e s m below meth c ls C hl G
  obtain ⟨hx, hb, hml, hr, hown, hts, hK, hN, hlk⟩ := id C
  have hown : s.vm.findClass RX10 = some m.cls := hown
  have hl : lv_has ls 4 [(0, .ref (h 0)), (1, .int p1), (2, .int p2)] := hl
  unfold fx_Md_plain at hf
  refine lv_aload_n hx hb dX10_plain_0 rfl (lv_at hl 0 rfl) ?_
  refine fg_Md_parameters hx hb hts hown hK G (hts _ lk_X10_16) dX10_plain_1 ?_
  refine lv_aload_n hx hb dX10_plain_4 rfl (lv_at hl 0 rfl) ?_
  refine fg_Md_functions (v := rI st 0) hx hb hts hown hK G (hts _ lk_X10_107) rfl dX10_plain_5 ?_
  refine lv_iconst (v := 1) hx hb dX10_plain_8 (by decide) ?_
  refine lv_isub hx hb dX10_plain_9 ?_
  obtain ⟨h_g1, hf⟩ := gd_some hf
  refine ra_IM (v := rA st 2 (((rI st 0) - 1).toNatClampNeg)) hx hb hK G (waM_3 ..) (t0 := 2) rfl rfl h_g1 dX10_plain_10 ?_
  refine lv_aload_n hx hb dX10_plain_11 rfl (lv_at hl 0 rfl) ?_
  refine fg_Md_locals hx hb hts hown hK G (hts _ lk_X10_22) dX10_plain_12 ?_
  refine lv_aload_n hx hb dX10_plain_15 rfl (lv_at hl 0 rfl) ?_
  refine fg_Md_functions (v := rI st 0) hx hb hts hown hK G (hts _ lk_X10_107) rfl dX10_plain_16 ?_
  refine lv_iconst (v := 1) hx hb dX10_plain_19 (by decide) ?_
  refine lv_isub hx hb dX10_plain_20 ?_
  obtain ⟨h_g2, hf⟩ := gd_some hf
  refine ra_IM (v := rA st 4 (((rI st 0) - 1).toNatClampNeg)) hx hb hK G (waM_5 ..) (t0 := 4) rfl rfl h_g2 dX10_plain_21 ?_
  refine lv_iadd hx hb dX10_plain_22 ?_
  refine lv_topi (fun v3 e_v3 => ?_)
  replace hf := bd_some hf v3 e_v3
  refine lv_istore_n (lv' := [(3, .int v3), (0, .ref (h 0)), (1, .int p1), (2, .int p2)]) hx hb dX10_plain_23 rfl hl (by decide) rfl (fun ls hl => ?_)
  refine lv_iload_n hx hb dX10_plain_24 rfl (lv_at hl 2 rfl) ?_
  by_cases s4_0 : p1 ∈ ([26] : List Int32)
  · replace hf := if_p hf s4_0
    refine sw_lu (tgt := 276) (off := 251) hx hb dX10_plain_25 (by decide) (sw_lut s4_0 (by decide)) (by decide) ?_
    refine lv_aload_n hx hb dX10_plain_276 rfl (lv_at hl 1 rfl) ?_
    refine lv_iconst (v := 1) hx hb dX10_plain_277 (by decide) ?_
    refine lv_iconst (v := 0) hx hb dX10_plain_278 (by decide) ?_
    obtain ⟨r6, st5, hst5, hf⟩ := bn_some hf
    refine cl_viM C hl G (As := [.int 1, .int 0]) (rest := []) (kx_Md_turn l D k h 1 0 st _ _ hst5) gi_X10_172 (hwM_0 ..) rfl hd_X10_turn ⟨Nat.le_of_ble_eq_true rfl, Nat.le_of_ble_eq_true rfl⟩ rfl rfl (Nat.le_of_ble_eq_true rfl) dX10_plain_279 (fun H locs G => ?_)
    obtain ⟨h_b, hf⟩ := gb_some hf
    exact rt_zM C (gb_nar h_b) G hf dX10_plain_282
  replace hf := if_n hf s4_0
  by_cases s4_1 : p1 ∈ ([27] : List Int32)
  · replace hf := if_p hf s4_1
    refine sw_lu (tgt := 283) (off := 258) hx hb dX10_plain_25 (by decide) (sw_lut s4_1 (by decide)) (by decide) ?_
    refine lv_aload_n hx hb dX10_plain_283 rfl (lv_at hl 1 rfl) ?_
    refine lv_iconst (v := 3) hx hb dX10_plain_284 (by decide) ?_
    refine lv_iconst (v := 1) hx hb dX10_plain_285 (by decide) ?_
    obtain ⟨r8, st7, hst7, hf⟩ := bn_some hf
    refine cl_viM C hl G (As := [.int 3, .int 1]) (rest := []) (kx_Md_turn l D k h 3 1 st _ _ hst7) gi_X10_172 (hwM_0 ..) rfl hd_X10_turn ⟨Nat.le_of_ble_eq_true rfl, Nat.le_of_ble_eq_true rfl⟩ rfl rfl (Nat.le_of_ble_eq_true rfl) dX10_plain_286 (fun H locs G => ?_)
    obtain ⟨h_b, hf⟩ := gb_some hf
    exact rt_zM C (gb_nar h_b) G hf dX10_plain_289
  replace hf := if_n hf s4_1
  by_cases s4_2 : p1 ∈ ([32] : List Int32)
  · replace hf := if_p hf s4_2
    refine sw_lu (tgt := 290) (off := 265) hx hb dX10_plain_25 (by decide) (sw_lut s4_2 (by decide)) (by decide) ?_
    refine lv_iload_n hx hb dX10_plain_290 rfl (lv_at hl 3 rfl) ?_
    refine lv_iload_n hx hb dX10_plain_291 rfl (lv_at hl 0 rfl) ?_
    refine lv_iconst (v := 1) hx hb dX10_plain_292 (by decide) ?_
    refine lv_isub hx hb dX10_plain_293 ?_
    obtain ⟨r10, st9, hst9, hf⟩ := bn_some hf
    refine cl_siM C hl G (As := [.int p2, .int (v3 - 1)]) (rest := []) (kx_Md_within l D k h p2 (v3 - 1) st _ _ hst9) gi_X10_110 hd_X10_within ⟨Nat.le_of_ble_eq_true rfl, Nat.le_of_ble_eq_true rfl⟩ rfl rfl (Nat.le_of_ble_eq_true rfl) dX10_plain_294 (fun H locs G => ?_)
    refine lv_if_eq (tgt := 313) hx hb dX10_plain_297 (by decide) (fun c11 => ?_) (fun c11 => ?_)
    · replace hf := if_p hf c11
      refine lv_iconst (v := 0) hx hb dX10_plain_313 (by decide) ?_
      exact rt_zM C rfl G hf dX10_plain_314
    · replace hf := if_n hf c11
      refine lv_aload_n hx hb dX10_plain_300 rfl (lv_at hl 1 rfl) ?_
      refine lv_iconst (v := 0) hx hb dX10_plain_301 (by decide) ?_
      refine lv_iconst (v := 1) hx hb dX10_plain_302 (by decide) ?_
      obtain ⟨r13, st12, hst12, hf⟩ := bn_some hf
      refine cl_viM C hl G (As := [.int 0, .int 1]) (rest := []) (kx_Md_turn l D k h 0 1 st9 _ _ hst12) gi_X10_172 (hwM_0 ..) rfl hd_X10_turn ⟨Nat.le_of_ble_eq_true rfl, Nat.le_of_ble_eq_true rfl⟩ rfl rfl (Nat.le_of_ble_eq_true rfl) dX10_plain_303 (fun H locs G => ?_)
      refine lv_if_eq (tgt := 313) hx hb dX10_plain_306 (by decide) (fun c14 => ?_) (fun c14 => ?_)
      · replace hf := if_p hf c14
        refine lv_iconst (v := 0) hx hb dX10_plain_313 (by decide) ?_
        exact rt_zM C rfl G hf dX10_plain_314
      · replace hf := if_n hf c14
        refine lv_iconst (v := 1) hx hb dX10_plain_309 (by decide) ?_
        refine lv_goto (tgt := 314) hx hb dX10_plain_310 (by decide) ?_
        exact rt_zM C rfl G hf dX10_plain_314
  replace hf := if_n hf s4_2
  by_cases s4_3 : p1 ∈ ([33] : List Int32)
  · replace hf := if_p hf s4_3
    refine sw_lu (tgt := 315) (off := 290) hx hb dX10_plain_25 (by decide) (sw_lut s4_3 (by decide)) (by decide) ?_
    refine lv_iload_n hx hb dX10_plain_315 rfl (lv_at hl 3 rfl) ?_
    refine lv_iload_n hx hb dX10_plain_316 rfl (lv_at hl 0 rfl) ?_
    refine lv_iconst (v := 1) hx hb dX10_plain_317 (by decide) ?_
    refine lv_isub hx hb dX10_plain_318 ?_
    obtain ⟨r16, st15, hst15, hf⟩ := bn_some hf
    refine cl_siM C hl G (As := [.int p2, .int (v3 - 1)]) (rest := []) (kx_Md_within l D k h p2 (v3 - 1) st _ _ hst15) gi_X10_110 hd_X10_within ⟨Nat.le_of_ble_eq_true rfl, Nat.le_of_ble_eq_true rfl⟩ rfl rfl (Nat.le_of_ble_eq_true rfl) dX10_plain_319 (fun H locs G => ?_)
    refine lv_if_eq (tgt := 338) hx hb dX10_plain_322 (by decide) (fun c17 => ?_) (fun c17 => ?_)
    · replace hf := if_p hf c17
      refine lv_iconst (v := 0) hx hb dX10_plain_338 (by decide) ?_
      exact rt_zM C rfl G hf dX10_plain_339
    · replace hf := if_n hf c17
      refine lv_aload_n hx hb dX10_plain_325 rfl (lv_at hl 1 rfl) ?_
      refine lv_iconst (v := 1) hx hb dX10_plain_326 (by decide) ?_
      refine lv_iconst (v := 0) hx hb dX10_plain_327 (by decide) ?_
      obtain ⟨r19, st18, hst18, hf⟩ := bn_some hf
      refine cl_viM C hl G (As := [.int 1, .int 0]) (rest := []) (kx_Md_turn l D k h 1 0 st15 _ _ hst18) gi_X10_172 (hwM_0 ..) rfl hd_X10_turn ⟨Nat.le_of_ble_eq_true rfl, Nat.le_of_ble_eq_true rfl⟩ rfl rfl (Nat.le_of_ble_eq_true rfl) dX10_plain_328 (fun H locs G => ?_)
      refine lv_if_eq (tgt := 338) hx hb dX10_plain_331 (by decide) (fun c20 => ?_) (fun c20 => ?_)
      · replace hf := if_p hf c20
        refine lv_iconst (v := 0) hx hb dX10_plain_338 (by decide) ?_
        exact rt_zM C rfl G hf dX10_plain_339
      · replace hf := if_n hf c20
        refine lv_iconst (v := 1) hx hb dX10_plain_334 (by decide) ?_
        refine lv_goto (tgt := 339) hx hb dX10_plain_335 (by decide) ?_
        exact rt_zM C rfl G hf dX10_plain_339
  replace hf := if_n hf s4_3
  by_cases s4_4 : p1 ∈ ([34] : List Int32)
  · replace hf := if_p hf s4_4
    refine sw_lu (tgt := 340) (off := 315) hx hb dX10_plain_25 (by decide) (sw_lut s4_4 (by decide)) (by decide) ?_
    refine lv_iload_n hx hb dX10_plain_340 rfl (lv_at hl 3 rfl) ?_
    refine lv_iload_n hx hb dX10_plain_341 rfl (lv_at hl 0 rfl) ?_
    refine lv_iconst (v := 1) hx hb dX10_plain_342 (by decide) ?_
    refine lv_isub hx hb dX10_plain_343 ?_
    obtain ⟨r22, st21, hst21, hf⟩ := bn_some hf
    refine cl_siM C hl G (As := [.int p2, .int (v3 - 1)]) (rest := []) (kx_Md_within l D k h p2 (v3 - 1) st _ _ hst21) gi_X10_110 hd_X10_within ⟨Nat.le_of_ble_eq_true rfl, Nat.le_of_ble_eq_true rfl⟩ rfl rfl (Nat.le_of_ble_eq_true rfl) dX10_plain_344 (fun H locs G => ?_)
    refine lv_if_eq (tgt := 363) hx hb dX10_plain_347 (by decide) (fun c23 => ?_) (fun c23 => ?_)
    · replace hf := if_p hf c23
      refine lv_iconst (v := 0) hx hb dX10_plain_363 (by decide) ?_
      exact rt_zM C rfl G hf dX10_plain_364
    · replace hf := if_n hf c23
      refine lv_aload_n hx hb dX10_plain_350 rfl (lv_at hl 1 rfl) ?_
      refine lv_iconst (v := 1) hx hb dX10_plain_351 (by decide) ?_
      refine lv_iconst (v := 1) hx hb dX10_plain_352 (by decide) ?_
      obtain ⟨r25, st24, hst24, hf⟩ := bn_some hf
      refine cl_viM C hl G (As := [.int 1, .int 1]) (rest := []) (kx_Md_turn l D k h 1 1 st21 _ _ hst24) gi_X10_172 (hwM_0 ..) rfl hd_X10_turn ⟨Nat.le_of_ble_eq_true rfl, Nat.le_of_ble_eq_true rfl⟩ rfl rfl (Nat.le_of_ble_eq_true rfl) dX10_plain_353 (fun H locs G => ?_)
      refine lv_if_eq (tgt := 363) hx hb dX10_plain_356 (by decide) (fun c26 => ?_) (fun c26 => ?_)
      · replace hf := if_p hf c26
        refine lv_iconst (v := 0) hx hb dX10_plain_363 (by decide) ?_
        exact rt_zM C rfl G hf dX10_plain_364
      · replace hf := if_n hf c26
        refine lv_iconst (v := 1) hx hb dX10_plain_359 (by decide) ?_
        refine lv_goto (tgt := 364) hx hb dX10_plain_360 (by decide) ?_
        exact rt_zM C rfl G hf dX10_plain_364
  replace hf := if_n hf s4_4
  by_cases s4_5 : p1 ∈ ([35] : List Int32)
  · replace hf := if_p hf s4_5
    refine sw_lu (tgt := 365) (off := 340) hx hb dX10_plain_25 (by decide) (sw_lut s4_5 (by decide)) (by decide) ?_
    refine lv_iload_n hx hb dX10_plain_365 rfl (lv_at hl 3 rfl) ?_
    refine lv_bipush (v := 7) hx hb dX10_plain_366 (by decide) ?_
    obtain ⟨r28, st27, hst27, hf⟩ := bn_some hf
    refine cl_siM C hl G (As := [.int p2, .int 7]) (rest := []) (kx_Md_within l D k h p2 7 st _ _ hst27) gi_X10_110 hd_X10_within ⟨Nat.le_of_ble_eq_true rfl, Nat.le_of_ble_eq_true rfl⟩ rfl rfl (Nat.le_of_ble_eq_true rfl) dX10_plain_368 (fun H locs G => ?_)
    refine lv_if_eq (tgt := 387) hx hb dX10_plain_371 (by decide) (fun c29 => ?_) (fun c29 => ?_)
    · replace hf := if_p hf c29
      refine lv_iconst (v := 0) hx hb dX10_plain_387 (by decide) ?_
      exact rt_zM C rfl G hf dX10_plain_388
    · replace hf := if_n hf c29
      refine lv_aload_n hx hb dX10_plain_374 rfl (lv_at hl 1 rfl) ?_
      refine lv_iconst (v := 0) hx hb dX10_plain_375 (by decide) ?_
      refine lv_iconst (v := 1) hx hb dX10_plain_376 (by decide) ?_
      obtain ⟨r31, st30, hst30, hf⟩ := bn_some hf
      refine cl_viM C hl G (As := [.int 0, .int 1]) (rest := []) (kx_Md_turn l D k h 0 1 st27 _ _ hst30) gi_X10_172 (hwM_0 ..) rfl hd_X10_turn ⟨Nat.le_of_ble_eq_true rfl, Nat.le_of_ble_eq_true rfl⟩ rfl rfl (Nat.le_of_ble_eq_true rfl) dX10_plain_377 (fun H locs G => ?_)
      refine lv_if_eq (tgt := 387) hx hb dX10_plain_380 (by decide) (fun c32 => ?_) (fun c32 => ?_)
      · replace hf := if_p hf c32
        refine lv_iconst (v := 0) hx hb dX10_plain_387 (by decide) ?_
        exact rt_zM C rfl G hf dX10_plain_388
      · replace hf := if_n hf c32
        refine lv_iconst (v := 1) hx hb dX10_plain_383 (by decide) ?_
        refine lv_goto (tgt := 388) hx hb dX10_plain_384 (by decide) ?_
        exact rt_zM C rfl G hf dX10_plain_388
  replace hf := if_n hf s4_5
  by_cases s4_6 : p1 ∈ ([36] : List Int32)
  · replace hf := if_p hf s4_6
    refine sw_lu (tgt := 389) (off := 364) hx hb dX10_plain_25 (by decide) (sw_lut s4_6 (by decide)) (by decide) ?_
    refine lv_iload_n hx hb dX10_plain_389 rfl (lv_at hl 3 rfl) ?_
    refine lv_bipush (v := 7) hx hb dX10_plain_390 (by decide) ?_
    obtain ⟨r34, st33, hst33, hf⟩ := bn_some hf
    refine cl_siM C hl G (As := [.int p2, .int 7]) (rest := []) (kx_Md_within l D k h p2 7 st _ _ hst33) gi_X10_110 hd_X10_within ⟨Nat.le_of_ble_eq_true rfl, Nat.le_of_ble_eq_true rfl⟩ rfl rfl (Nat.le_of_ble_eq_true rfl) dX10_plain_392 (fun H locs G => ?_)
    refine lv_if_eq (tgt := 411) hx hb dX10_plain_395 (by decide) (fun c35 => ?_) (fun c35 => ?_)
    · replace hf := if_p hf c35
      refine lv_iconst (v := 0) hx hb dX10_plain_411 (by decide) ?_
      exact rt_zM C rfl G hf dX10_plain_412
    · replace hf := if_n hf c35
      refine lv_aload_n hx hb dX10_plain_398 rfl (lv_at hl 1 rfl) ?_
      refine lv_iconst (v := 1) hx hb dX10_plain_399 (by decide) ?_
      refine lv_iconst (v := 0) hx hb dX10_plain_400 (by decide) ?_
      obtain ⟨r37, st36, hst36, hf⟩ := bn_some hf
      refine cl_viM C hl G (As := [.int 1, .int 0]) (rest := []) (kx_Md_turn l D k h 1 0 st33 _ _ hst36) gi_X10_172 (hwM_0 ..) rfl hd_X10_turn ⟨Nat.le_of_ble_eq_true rfl, Nat.le_of_ble_eq_true rfl⟩ rfl rfl (Nat.le_of_ble_eq_true rfl) dX10_plain_401 (fun H locs G => ?_)
      refine lv_if_eq (tgt := 411) hx hb dX10_plain_404 (by decide) (fun c38 => ?_) (fun c38 => ?_)
      · replace hf := if_p hf c38
        refine lv_iconst (v := 0) hx hb dX10_plain_411 (by decide) ?_
        exact rt_zM C rfl G hf dX10_plain_412
      · replace hf := if_n hf c38
        refine lv_iconst (v := 1) hx hb dX10_plain_407 (by decide) ?_
        refine lv_goto (tgt := 412) hx hb dX10_plain_408 (by decide) ?_
        exact rt_zM C rfl G hf dX10_plain_412
  replace hf := if_n hf s4_6
  by_cases s4_7 : p1 ∈ ([63, 65, 66] : List Int32)
  · replace hf := if_p hf s4_7
    refine sw_lu (tgt := 413) (off := 388) hx hb dX10_plain_25 (by decide) (sw_lut s4_7 (by decide)) (by decide) ?_
    refine lv_aload_n hx hb dX10_plain_413 rfl (lv_at hl 1 rfl) ?_
    refine lv_iconst (v := 0) hx hb dX10_plain_414 (by decide) ?_
    refine lv_iconst (v := 1) hx hb dX10_plain_415 (by decide) ?_
    obtain ⟨r40, st39, hst39, hf⟩ := bn_some hf
    refine cl_viM C hl G (As := [.int 0, .int 1]) (rest := []) (kx_Md_turn l D k h 0 1 st _ _ hst39) gi_X10_172 (hwM_0 ..) rfl hd_X10_turn ⟨Nat.le_of_ble_eq_true rfl, Nat.le_of_ble_eq_true rfl⟩ rfl rfl (Nat.le_of_ble_eq_true rfl) dX10_plain_416 (fun H locs G => ?_)
    obtain ⟨h_b, hf⟩ := gb_some hf
    exact rt_zM C (gb_nar h_b) G hf dX10_plain_419
  replace hf := if_n hf s4_7
  by_cases s4_8 : p1 ∈ ([64, 69, 80, 167, 173] : List Int32)
  · replace hf := if_p hf s4_8
    refine sw_lu (tgt := 420) (off := 395) hx hb dX10_plain_25 (by decide) (sw_lut s4_8 (by decide)) (by decide) ?_
    refine lv_aload_n hx hb dX10_plain_420 rfl (lv_at hl 1 rfl) ?_
    refine lv_iconst (v := 1) hx hb dX10_plain_421 (by decide) ?_
    refine lv_iconst (v := 1) hx hb dX10_plain_422 (by decide) ?_
    obtain ⟨r42, st41, hst41, hf⟩ := bn_some hf
    refine cl_viM C hl G (As := [.int 1, .int 1]) (rest := []) (kx_Md_turn l D k h 1 1 st _ _ hst41) gi_X10_172 (hwM_0 ..) rfl hd_X10_turn ⟨Nat.le_of_ble_eq_true rfl, Nat.le_of_ble_eq_true rfl⟩ rfl rfl (Nat.le_of_ble_eq_true rfl) dX10_plain_423 (fun H locs G => ?_)
    obtain ⟨h_b, hf⟩ := gb_some hf
    exact rt_zM C (gb_nar h_b) G hf dX10_plain_426
  replace hf := if_n hf s4_8
  by_cases s4_9 : p1 ∈ ([70, 71, 72, 73, 81, 83, 106, 107, 108, 110, 113, 116, 124, 125, 126] : List Int32)
  · replace hf := if_p hf s4_9
    refine sw_lu (tgt := 427) (off := 402) hx hb dX10_plain_25 (by decide) (sw_lut s4_9 (by decide)) (by decide) ?_
    refine lv_aload_n hx hb dX10_plain_427 rfl (lv_at hl 1 rfl) ?_
    refine lv_iconst (v := 2) hx hb dX10_plain_428 (by decide) ?_
    refine lv_iconst (v := 1) hx hb dX10_plain_429 (by decide) ?_
    obtain ⟨r44, st43, hst43, hf⟩ := bn_some hf
    refine cl_viM C hl G (As := [.int 2, .int 1]) (rest := []) (kx_Md_turn l D k h 2 1 st _ _ hst43) gi_X10_172 (hwM_0 ..) rfl hd_X10_turn ⟨Nat.le_of_ble_eq_true rfl, Nat.le_of_ble_eq_true rfl⟩ rfl rfl (Nat.le_of_ble_eq_true rfl) dX10_plain_430 (fun H locs G => ?_)
    obtain ⟨h_b, hf⟩ := gb_some hf
    exact rt_zM C (gb_nar h_b) G hf dX10_plain_433
  replace hf := if_n hf s4_9
  refine sw_lu (tgt := 434) (off := 409) hx hb dX10_plain_25 (by decide) (sw_lud (sw_cons s4_0 (sw_cons s4_1 (sw_cons s4_2 (sw_cons s4_3 (sw_cons s4_4 (sw_cons s4_5 (sw_cons s4_6 (sw_cons s4_7 (sw_cons s4_8 (sw_cons s4_9 sw_nil)))))))))) (by decide)) (by decide) ?_
  refine lv_iload_n hx hb dX10_plain_434 rfl (lv_at hl 2 rfl) ?_
  refine lv_bipush (v := 40) hx hb dX10_plain_435 (by decide) ?_
  refine lv_isub hx hb dX10_plain_437 ?_
  refine lv_bipush (v := 13) hx hb dX10_plain_438 (by decide) ?_
  obtain ⟨r46, st45, hst45, hf⟩ := bn_some hf
  refine cl_siM C hl G (As := [.int (p1 - 40), .int 13]) (rest := []) (kx_Md_within l D k h (p1 - 40) 13 st _ _ hst45) gi_X10_110 hd_X10_within ⟨Nat.le_of_ble_eq_true rfl, Nat.le_of_ble_eq_true rfl⟩ rfl rfl (Nat.le_of_ble_eq_true rfl) dX10_plain_440 (fun H locs G => ?_)
  refine lv_if_eq (tgt := 455) hx hb dX10_plain_443 (by decide) (fun c47 => ?_) (fun c47 => ?_)
  · replace hf := if_p hf c47
    refine lv_iload_n hx hb dX10_plain_455 rfl (lv_at hl 2 rfl) ?_
    refine lv_bipush (v := 54) hx hb dX10_plain_456 (by decide) ?_
    refine lv_isub hx hb dX10_plain_458 ?_
    refine lv_bipush (v := 8) hx hb dX10_plain_459 (by decide) ?_
    obtain ⟨r49, st48, hst48, hf⟩ := bn_some hf
    refine cl_siM C hl G (As := [.int (p1 - 54), .int 8]) (rest := []) (kx_Md_within l D k h (p1 - 54) 8 st45 _ _ hst48) gi_X10_110 hd_X10_within ⟨Nat.le_of_ble_eq_true rfl, Nat.le_of_ble_eq_true rfl⟩ rfl rfl (Nat.le_of_ble_eq_true rfl) dX10_plain_461 (fun H locs G => ?_)
    refine lv_if_eq (tgt := 480) hx hb dX10_plain_464 (by decide) (fun c50 => ?_) (fun c50 => ?_)
    · replace hf := if_p hf c50
      refine lv_iconst (v := 0) hx hb dX10_plain_480 (by decide) ?_
      exact rt_zM C rfl G hf dX10_plain_481
    · replace hf := if_n hf c50
      refine lv_aload_n hx hb dX10_plain_467 rfl (lv_at hl 1 rfl) ?_
      refine lv_iconst (v := 2) hx hb dX10_plain_468 (by decide) ?_
      refine lv_iconst (v := 0) hx hb dX10_plain_469 (by decide) ?_
      obtain ⟨r52, st51, hst51, hf⟩ := bn_some hf
      refine cl_viM C hl G (As := [.int 2, .int 0]) (rest := []) (kx_Md_turn l D k h 2 0 st48 _ _ hst51) gi_X10_172 (hwM_0 ..) rfl hd_X10_turn ⟨Nat.le_of_ble_eq_true rfl, Nat.le_of_ble_eq_true rfl⟩ rfl rfl (Nat.le_of_ble_eq_true rfl) dX10_plain_470 (fun H locs G => ?_)
      refine lv_if_eq (tgt := 480) hx hb dX10_plain_473 (by decide) (fun c53 => ?_) (fun c53 => ?_)
      · replace hf := if_p hf c53
        refine lv_iconst (v := 0) hx hb dX10_plain_480 (by decide) ?_
        exact rt_zM C rfl G hf dX10_plain_481
      · replace hf := if_n hf c53
        refine lv_iconst (v := 1) hx hb dX10_plain_476 (by decide) ?_
        refine lv_goto (tgt := 481) hx hb dX10_plain_477 (by decide) ?_
        exact rt_zM C rfl G hf dX10_plain_481
  · replace hf := if_n hf c47
    refine lv_aload_n hx hb dX10_plain_446 rfl (lv_at hl 1 rfl) ?_
    refine lv_iconst (v := 1) hx hb dX10_plain_447 (by decide) ?_
    refine lv_iconst (v := 1) hx hb dX10_plain_448 (by decide) ?_
    obtain ⟨r55, st54, hst54, hf⟩ := bn_some hf
    refine cl_viM C hl G (As := [.int 1, .int 1]) (rest := []) (kx_Md_turn l D k h 1 1 st45 _ _ hst54) gi_X10_172 (hwM_0 ..) rfl hd_X10_turn ⟨Nat.le_of_ble_eq_true rfl, Nat.le_of_ble_eq_true rfl⟩ rfl rfl (Nat.le_of_ble_eq_true rfl) dX10_plain_449 (fun H locs G => ?_)
    refine lv_goto (tgt := 481) hx hb dX10_plain_452 (by decide) ?_
    obtain ⟨h_b, hf⟩ := gb_some hf
    exact rt_zM C (gb_nar h_b) G hf dX10_plain_481
def rm_Md_entryTo : Room := { frames := 2, cells := 0, slots := 0, locals := 42 }
set_option maxHeartbeats 4000000 in
set_option maxRecDepth 100000 in
theorem kx_Md_entryTo_b53 {p : Program} {l : Launch} {e : Env} {s : State} {m : MethodId} {args : Array Value} {below : List Frame} {meth : Method} {c : Code} {D : va_G} {k : Nat → ClassId} {h : Nat → Nat} (C : cxM D k p s m args meth c cX10_entryTo 2 (some .boolean) RX10) (x1 : Int32) (st : rs_T) (r : Int32) (s' : rs_T) (hf : fx_Md_entryTo_b53 x1 st = some (r, s')) : ∀ (H : Heap) (locs : List Loc) (ls : Array Slot), lv_has ls 2 [(0, .ref (h 0)), (1, .int x1)] → gdM D k h (arM h s.heap.size) s.heap H locs st → W p l e rm_Md_entryTo s m args below meth c H locs 0 0 (MQ below (qIM D k h s.heap.size r s') args s 0 0 (arM h s.heap.size)) (F0 m 53 ls []) := by
  obtain ⟨hx, hb, hml, hr, hown, hts, hK, hN, hlk⟩ := id C
  intro H locs ls hl G
  unfold fx_Md_entryTo_b53 at hf
  refine lv_aload_n hx hb dX10_entryTo_53 rfl (lv_at hl 0 rfl) ?_
  refine lv_aload_n hx hb dX10_entryTo_54 rfl (lv_at hl 0 rfl) ?_
  refine lv_iload_n hx hb dX10_entryTo_55 rfl (lv_at hl 1 rfl) ?_
  obtain ⟨r10, st9, hst9, hf⟩ := bn_some hf
  refine cl_viM C hl G (As := [.int x1]) (rest := [.ref (h 0)]) (kx_Md_wants l D k h x1 st _ _ hst9) gi_X10_152 (hwM_0 ..) rfl hd_X10_wants ⟨Nat.le_of_ble_eq_true rfl, Nat.le_of_ble_eq_true rfl⟩ rfl rfl (Nat.le_of_ble_eq_true rfl) dX10_entryTo_56 (fun H locs G => ?_)
  refine fp_Md_wanted hx hb hts hown hK G (hts _ lk_X10_156) dX10_entryTo_59 (fun H locs G => ?_)
  refine lv_aload_n hx hb dX10_entryTo_62 rfl (lv_at hl 0 rfl) ?_
  refine lv_iconst (v := 0) hx hb dX10_entryTo_63 (by decide) ?_
  refine fp_Md_firstEntry hx hb hts hown hK G (hts _ lk_X10_146) rfl rfl dX10_entryTo_64 (fun H locs G => ?_)
  refine lv_aload_n hx hb dX10_entryTo_67 rfl (lv_at hl 0 rfl) ?_
  refine lv_dup hx hb dX10_entryTo_68 rfl ?_
  refine fg_Md_entriesLeft (v := rI st9 4) hx hb hts hown hK G (hts _ lk_X10_120) rfl dX10_entryTo_69 ?_
  refine lv_iconst (v := 1) hx hb dX10_entryTo_72 (by decide) ?_
  refine lv_isub hx hb dX10_entryTo_73 ?_
  refine fp_Md_entriesLeft hx hb hts hown hK G (hts _ lk_X10_120) dX10_entryTo_74 (fun H locs G => ?_)
  refine lv_aload_n hx hb dX10_entryTo_77 rfl (lv_at hl 0 rfl) ?_
  refine fg_Md_entriesLeft (v := (rI st9 4) - 1) hx hb hts hown hK G (hts _ lk_X10_120) rfl dX10_entryTo_78 ?_
  refine lv_if_ne (tgt := 88) hx hb dX10_entryTo_81 (by decide) (fun c11 => ?_) (fun c11 => ?_)
  · replace hf := if_n hf c11
    refine lv_iconst (v := 1) hx hb dX10_entryTo_88 (by decide) ?_
    exact rt_zM C rfl G hf dX10_entryTo_89
  · replace hf := if_p hf c11
    refine lv_aload_n hx hb dX10_entryTo_84 rfl (lv_at hl 0 rfl) ?_
    obtain ⟨st12, hst12, hf⟩ := bv_some hf
    refine cl_vvM C hl G (As := []) (rest := []) (kx_Md_die l D k h (wI (wI (wI st9 5 r10) 6 0) 4 ((rI st9 4) - 1)) _ hst12) gi_X10_139 (hwM_0 ..) rfl hd_X10_die ⟨Nat.le_of_ble_eq_true rfl, Nat.le_of_ble_eq_true rfl⟩ rfl rfl (Nat.le_of_ble_eq_true rfl) dX10_entryTo_85 (fun H locs G => ?_)
    refine lv_iconst (v := 1) hx hb dX10_entryTo_88 (by decide) ?_
    exact rt_zM C rfl G hf dX10_entryTo_89
set_option maxHeartbeats 4000000 in
set_option maxRecDepth 100000 in
theorem kx_Md_entryTo (l : Launch) (D : va_G) (k : Nat → ClassId) (h : Nat → Nat) (p1 : Int32) (st : rs_T) (r : Int32) (s' : rs_T) (hf : fx_Md_entryTo p1 st = some (r, s')) : mIM l D k h yX10_entryTo cX10_entryTo 2 .boolean rm_Md_entryTo [.ref (h 0), .int p1] st r s' := by
  refine mIM_of (by decide) ⟨rfl, rfl⟩ (Nat.le_of_ble_eq_true rfl) ?_
  intro p e s m below meth c ls C hl G
  obtain ⟨hx, hb, hml, hr, hown, hts, hK, hN, hlk⟩ := id C
  have hown : s.vm.findClass RX10 = some m.cls := hown
  have hl : lv_has ls 2 [(0, .ref (h 0)), (1, .int p1)] := hl
  unfold fx_Md_entryTo at hf
  refine lv_aload_n hx hb dX10_entryTo_0 rfl (lv_at hl 0 rfl) ?_
  refine fg_Md_entriesLeft (v := rI st 4) hx hb hts hown hK G (hts _ lk_X10_120) rfl dX10_entryTo_1 ?_
  refine lv_if_eq (tgt := 15) hx hb dX10_entryTo_4 (by decide) (fun c1 => ?_) (fun c1 => ?_)
  · replace hf := if_p hf c1
    refine lv_iconst (v := 0) hx hb dX10_entryTo_15 (by decide) ?_
    exact rt_zM C rfl G hf dX10_entryTo_16
  · replace hf := if_n hf c1
    refine lv_aload_n hx hb dX10_entryTo_7 rfl (lv_at hl 0 rfl) ?_
    refine lv_iload_n hx hb dX10_entryTo_8 rfl (lv_at hl 1 rfl) ?_
    obtain ⟨r3, st2, hst2, hf⟩ := bn_some hf
    refine cl_viM C hl G (As := [.int p1]) (rest := []) (kx_Md_isLabel l D k h p1 st _ _ hst2) gi_X10_149 (hwM_0 ..) rfl hd_X10_isLabel ⟨Nat.le_of_ble_eq_true rfl, Nat.le_of_ble_eq_true rfl⟩ rfl rfl (Nat.le_of_ble_eq_true rfl) dX10_entryTo_9 (fun H locs G => ?_)
    refine lv_if_ne (tgt := 17) hx hb dX10_entryTo_12 (by decide) (fun c4 => ?_) (fun c4 => ?_)
    · replace hf := if_n hf c4
      refine lv_aload_n hx hb dX10_entryTo_17 rfl (lv_at hl 0 rfl) ?_
      refine fg_Md_firstEntry (v := rI st2 6) hx hb hts hown hK G (hts _ lk_X10_146) rfl dX10_entryTo_18 ?_
      refine lv_if_eq (tgt := 39) hx hb dX10_entryTo_21 (by decide) (fun c5 => ?_) (fun c5 => ?_)
      · replace hf := if_p hf c5
        refine lv_aload_n hx hb dX10_entryTo_39 rfl (lv_at hl 0 rfl) ?_
        refine lv_iload_n hx hb dX10_entryTo_40 rfl (lv_at hl 1 rfl) ?_
        obtain ⟨r7, st6, hst6, hf⟩ := bn_some hf
        refine cl_viM C hl G (As := [.int p1]) (rest := []) (kx_Md_wants l D k h p1 st2 _ _ hst6) gi_X10_152 (hwM_0 ..) rfl hd_X10_wants ⟨Nat.le_of_ble_eq_true rfl, Nat.le_of_ble_eq_true rfl⟩ rfl rfl (Nat.le_of_ble_eq_true rfl) dX10_entryTo_41 (fun H locs G => ?_)
        refine lv_aload_n hx hb dX10_entryTo_44 rfl (lv_at hl 0 rfl) ?_
        refine fg_Md_wanted (v := rI st6 5) hx hb hts hown hK G (hts _ lk_X10_156) rfl dX10_entryTo_45 ?_
        refine lv_icmp_eq (tgt := 53) hx hb dX10_entryTo_48 (by decide) (fun c8 => ?_) (fun c8 => ?_)
        · replace hf := if_p hf c8
          exact kx_Md_entryTo_b53 C p1 st6 _ _ hf _ _ _ (lv_sub hl [0, 1] rfl) G
        · replace hf := if_n hf c8
          refine lv_iconst (v := 0) hx hb dX10_entryTo_51 (by decide) ?_
          exact rt_zM C rfl G hf dX10_entryTo_52
      · replace hf := if_n hf c5
        refine lv_aload_n hx hb dX10_entryTo_24 rfl (lv_at hl 0 rfl) ?_
        refine lv_aload_n hx hb dX10_entryTo_25 rfl (lv_at hl 0 rfl) ?_
        refine lv_iload_n hx hb dX10_entryTo_26 rfl (lv_at hl 1 rfl) ?_
        obtain ⟨r14, st13, hst13, hf⟩ := bn_some hf
        refine cl_viM C hl G (As := [.int p1]) (rest := [.ref (h 0)]) (kx_Md_wants l D k h p1 st2 _ _ hst13) gi_X10_152 (hwM_0 ..) rfl hd_X10_wants ⟨Nat.le_of_ble_eq_true rfl, Nat.le_of_ble_eq_true rfl⟩ rfl rfl (Nat.le_of_ble_eq_true rfl) dX10_entryTo_27 (fun H locs G => ?_)
        obtain ⟨r16, st15, hst15, hf⟩ := bn_some hf
        refine cl_viM C hl G (As := [.int r14]) (rest := []) (kx_Md_has l D k h r14 st13 _ _ hst15) gi_X10_131 (hwM_0 ..) rfl hd_X10_has ⟨Nat.le_of_ble_eq_true rfl, Nat.le_of_ble_eq_true rfl⟩ rfl rfl (Nat.le_of_ble_eq_true rfl) dX10_entryTo_30 (fun H locs G => ?_)
        refine lv_if_ne (tgt := 53) hx hb dX10_entryTo_33 (by decide) (fun c17 => ?_) (fun c17 => ?_)
        · replace hf := if_n hf c17
          exact kx_Md_entryTo_b53 C p1 st15 _ _ hf _ _ _ (lv_sub hl [0, 1] rfl) G
        · replace hf := if_p hf c17
          refine lv_goto (tgt := 51) hx hb dX10_entryTo_36 (by decide) ?_
          refine lv_iconst (v := 0) hx hb dX10_entryTo_51 (by decide) ?_
          exact rt_zM C rfl G hf dX10_entryTo_52
    · replace hf := if_p hf c4
      refine lv_iconst (v := 0) hx hb dX10_entryTo_15 (by decide) ?_
      exact rt_zM C rfl G hf dX10_entryTo_16
def rm_Md_code : Room := { frames := 4, cells := 0, slots := 0, locals := 88 }
set_option maxHeartbeats 4000000 in
set_option maxRecDepth 100000 in
theorem kx_Md_code_b250 {p : Program} {l : Launch} {e : Env} {s : State} {m : MethodId} {args : Array Value} {below : List Frame} {meth : Method} {c : Code} {D : va_G} {k : Nat → ClassId} {h : Nat → Nat} (C : cxM D k p s m args meth c cX10_code 7 (some .int) RX10) (y0 : Int32) (y1 : Int32) (st : rs_T) (r : Int32) (s' : rs_T) (hf : fx_Md_code_b250 y0 y1 st = some (r, s')) : ∀ (H : Heap) (locs : List Loc) (ls : Array Slot), lv_has ls 7 [(0, .ref (h 0))] → gdM D k h (arM h s.heap.size) s.heap H locs st → W p l e rm_Md_code s m args below meth c H locs 0 0 (MQ below (qIM D k h s.heap.size r s') args s 0 0 (arM h s.heap.size)) (F0 m 250 ls [.int y0, .int y1, .ref (h 6)]) := by
  obtain ⟨hx, hb, hml, hr, hown, hts, hK, hN, hlk⟩ := id C
  intro H locs ls hl G
  unfold fx_Md_code_b250 at hf
  obtain ⟨h_g26, hf⟩ := gd_some hf
  refine rw_IM hx hb hK G (waM_6 ..) (t0 := 5) rfl (wsM_6 ..) h_g26 dX10_code_250 (fun H locs G => ?_)
  refine lv_aload_n hx hb dX10_code_251 rfl (lv_at hl 0 rfl) ?_
  refine fg_Md_total (v := rI st 1) hx hb hts hown hK G (hts _ lk_X10_114) rfl dX10_code_252 ?_
  exact rt_iM C G hf dX10_code_255
set_option maxHeartbeats 4000000 in
set_option maxRecDepth 100000 in
theorem kx_Md_code_b108 {p : Program} {l : Launch} {e : Env} {s : State} {m : MethodId} {args : Array Value} {below : List Frame} {meth : Method} {c : Code} {D : va_G} {k : Nat → ClassId} {h : Nat → Nat} (C : cxM D k p s m args meth c cX10_code 7 (some .int) RX10) (x1 : Int32) (x2 : Int32) (x3 : Int32) (y0 : Int32) (st : rs_T) (r : Int32) (s' : rs_T) (hf : fx_Md_code_b108 x1 x2 x3 y0 st = some (r, s')) : ∀ (H : Heap) (locs : List Loc) (ls : Array Slot), lv_has ls 7 [(0, .ref (h 0)), (1, .int x1), (2, .int x2), (3, .int x3)] → gdM D k h (arM h s.heap.size) s.heap H locs st → W p l e rm_Md_code s m args below meth c H locs 0 0 (MQ below (qIM D k h s.heap.size r s') args s 0 0 (arM h s.heap.size)) (F0 m 108 ls [.int y0]) := by
  obtain ⟨hx, hb, hml, hr, hown, hts, hK, hN, hlk⟩ := id C
  intro H locs ls hl G
  unfold fx_Md_code_b108 at hf
  refine lv_istore (lv' := [(4, .int y0), (0, .ref (h 0)), (1, .int x1), (2, .int x2), (3, .int x3)]) hx hb dX10_code_108 hl (by decide) rfl (fun ls hl => ?_)
  refine lv_iload hx hb dX10_code_110 (lv_at hl 0 rfl) ?_
  refine lv_if_ne (tgt := 117) hx hb dX10_code_112 (by decide) (fun c8 => ?_) (fun c8 => ?_)
  · replace hf := if_n hf c8
    refine lv_aload_n hx hb dX10_code_117 rfl (lv_at hl 1 rfl) ?_
    refine fg_Md_op hx hb hts hown hK G (hts _ lk_X10_28) dX10_code_118 ?_
    refine lv_aload_n hx hb dX10_code_121 rfl (lv_at hl 1 rfl) ?_
    refine fg_Md_total (v := rI st 1) hx hb hts hown hK G (hts _ lk_X10_114) rfl dX10_code_122 ?_
    refine lv_iload_n hx hb dX10_code_125 rfl (lv_at hl 2 rfl) ?_
    obtain ⟨h_g9, hf⟩ := gd_some hf
    refine rw_IM hx hb hK G (waM_7 ..) (t0 := 6) rfl (wsM_7 ..) h_g9 dX10_code_126 (fun H locs G => ?_)
    refine lv_aload_n hx hb dX10_code_127 rfl (lv_at hl 1 rfl) ?_
    refine fg_Md_one hx hb hts hown hK G (hts _ lk_X10_31) dX10_code_128 ?_
    refine lv_aload_n hx hb dX10_code_131 rfl (lv_at hl 1 rfl) ?_
    refine fg_Md_total (v := rI st 1) hx hb hts hown hK G (hts _ lk_X10_114) rfl dX10_code_132 ?_
    refine lv_iload_n hx hb dX10_code_135 rfl (lv_at hl 3 rfl) ?_
    obtain ⟨h_g10, hf⟩ := gd_some hf
    refine rw_IM hx hb hK G (waM_8 ..) (t0 := 7) rfl (wsM_8 ..) h_g10 dX10_code_136 (fun H locs G => ?_)
    refine lv_aload_n hx hb dX10_code_137 rfl (lv_at hl 1 rfl) ?_
    refine fg_Md_two hx hb hts hown hK G (hts _ lk_X10_34) dX10_code_138 ?_
    refine lv_aload_n hx hb dX10_code_141 rfl (lv_at hl 1 rfl) ?_
    refine fg_Md_total (v := rI st 1) hx hb hts hown hK G (hts _ lk_X10_114) rfl dX10_code_142 ?_
    refine lv_iload_n hx hb dX10_code_145 rfl (lv_at hl 4 rfl) ?_
    obtain ⟨h_g11, hf⟩ := gd_some hf
    refine rw_IM hx hb hK G (waM_9 ..) (t0 := 8) rfl (wsM_9 ..) h_g11 dX10_code_146 (fun H locs G => ?_)
    refine lv_aload_n hx hb dX10_code_147 rfl (lv_at hl 1 rfl) ?_
    refine lv_dup hx hb dX10_code_148 rfl ?_
    refine fg_Md_total (v := rI st 1) hx hb hts hown hK G (hts _ lk_X10_114) rfl dX10_code_149 ?_
    refine lv_iconst (v := 1) hx hb dX10_code_152 (by decide) ?_
    refine lv_iadd hx hb dX10_code_153 ?_
    refine fp_Md_total hx hb hts hown hK G (hts _ lk_X10_114) dX10_code_154 (fun H locs G => ?_)
    refine lv_aload_n hx hb dX10_code_157 rfl (lv_at hl 1 rfl) ?_
    refine fg_Md_functions (v := rI st 0) hx hb hts hown hK G (hts _ lk_X10_107) rfl dX10_code_158 ?_
    refine lv_iconst (v := 1) hx hb dX10_code_161 (by decide) ?_
    refine lv_isub hx hb dX10_code_162 ?_
    refine lv_topi (fun v12 e_v12 => ?_)
    replace hf := bd_some hf v12 e_v12
    refine lv_istore (lv' := [(5, .int v12), (4, .int y0), (0, .ref (h 0)), (1, .int x1), (2, .int x2), (3, .int x3)]) hx hb dX10_code_163 hl (by decide) rfl (fun ls hl => ?_)
    refine lv_aload_n hx hb dX10_code_165 rfl (lv_at hl 2 rfl) ?_
    refine fg_Md_length hx hb hts hown hK G (hts _ lk_X10_13) dX10_code_166 ?_
    refine lv_iload hx hb dX10_code_169 (lv_at hl 0 rfl) ?_
    refine lv_aload_n hx hb dX10_code_171 rfl (lv_at hl 2 rfl) ?_
    refine fg_Md_total (v := (rI st 1) + 1) hx hb hts hown hK G (hts _ lk_X10_114) rfl dX10_code_172 ?_
    refine lv_aload_n hx hb dX10_code_175 rfl (lv_at hl 2 rfl) ?_
    refine fg_Md_start hx hb hts hown hK G (hts _ lk_X10_7) dX10_code_176 ?_
    refine lv_iload hx hb dX10_code_179 (lv_at hl 0 rfl) ?_
    obtain ⟨h_g13, hf⟩ := gd_some hf
    refine ra_IM (v := rA st 0 v12.toNatClampNeg) hx hb hK G (waM_1 ..) (t0 := 0) rfl rfl h_g13 dX10_code_181 ?_
    refine lv_isub hx hb dX10_code_182 ?_
    obtain ⟨h_g14, hf⟩ := gd_some hf
    refine rw_IM hx hb hK G (waM_2 ..) (t0 := 1) rfl (wsM_2 ..) h_g14 dX10_code_183 (fun H locs G => ?_)
    refine lv_aload_n hx hb dX10_code_184 rfl (lv_at hl 2 rfl) ?_
    refine fg_Md_labels (v := rI st 3) hx hb hts hown hK G (hts _ lk_X10_117) rfl dX10_code_185 ?_
    refine lv_if_ne (tgt := 199) hx hb dX10_code_188 (by decide) (fun c15 => ?_) (fun c15 => ?_)
    · replace hf := if_n hf c15
      refine lv_aload_n hx hb dX10_code_199 rfl (lv_at hl 2 rfl) ?_
      refine fg_Md_height hx hb hts hown hK G (hts _ lk_X10_49) dX10_code_200 ?_
      refine lv_aload_n hx hb dX10_code_203 rfl (lv_at hl 2 rfl) ?_
      obtain ⟨r17, st16, hst16, hf⟩ := bn_some hf
      refine cl_viM C hl G (As := []) (rest := [.ref (h 14)]) (kx_Md_inner l D k h (wA (wI (wA (wA (wA st 6 ((rI st 1).toNatClampNeg) x1) 7 ((rI st 1).toNatClampNeg) x2) 8 ((rI st 1).toNatClampNeg) x3) 1 ((rI st 1) + 1)) 1 v12.toNatClampNeg (((rI st 1) + 1) - (rA st 0 v12.toNatClampNeg))) _ _ hst16) gi_X10_127 (hwM_0 ..) rfl hd_X10_inner ⟨Nat.le_of_ble_eq_true rfl, Nat.le_of_ble_eq_true rfl⟩ rfl rfl (Nat.le_of_ble_eq_true rfl) dX10_code_204 (fun H locs G => ?_)
      obtain ⟨h_g18, hf⟩ := gd_some hf
      refine ra_IM (v := rA st16 13 r17.toNatClampNeg) hx hb hK G (waM_14 ..) (t0 := 13) rfl rfl h_g18 dX10_code_207 ?_
      refine lv_aload_n hx hb dX10_code_208 rfl (lv_at hl 2 rfl) ?_
      refine fg_Md_own hx hb hts hown hK G (hts _ lk_X10_52) dX10_code_209 ?_
      refine lv_aload_n hx hb dX10_code_212 rfl (lv_at hl 2 rfl) ?_
      obtain ⟨r20, st19, hst19, hf⟩ := bn_some hf
      refine cl_viM C hl G (As := []) (rest := [.ref (h 15), .int (rA st16 13 r17.toNatClampNeg)]) (kx_Md_inner l D k h st16 _ _ hst19) gi_X10_127 (hwM_0 ..) rfl hd_X10_inner ⟨Nat.le_of_ble_eq_true rfl, Nat.le_of_ble_eq_true rfl⟩ rfl rfl (Nat.le_of_ble_eq_true rfl) dX10_code_213 (fun H locs G => ?_)
      obtain ⟨h_g21, hf⟩ := gd_some hf
      refine ra_IM (v := rA st19 14 r20.toNatClampNeg) hx hb hK G (waM_15 ..) (t0 := 14) rfl rfl h_g21 dX10_code_216 ?_
      refine lv_iadd hx hb dX10_code_217 ?_
      refine lv_topi (fun v22 e_v22 => ?_)
      replace hf := bd_some hf v22 e_v22
      refine lv_istore (lv' := [(6, .int v22), (5, .int v12), (4, .int y0), (0, .ref (h 0)), (1, .int x1), (2, .int x2), (3, .int x3)]) hx hb dX10_code_218 hl (by decide) rfl (fun ls hl => ?_)
      refine lv_aload_n hx hb dX10_code_220 rfl (lv_at hl 3 rfl) ?_
      refine fg_Md_most hx hb hts hown hK G (hts _ lk_X10_25) dX10_code_221 ?_
      refine lv_iload hx hb dX10_code_224 (lv_at hl 1 rfl) ?_
      refine lv_iload hx hb dX10_code_226 (lv_at hl 0 rfl) ?_
      refine lv_aload_n hx hb dX10_code_228 rfl (lv_at hl 3 rfl) ?_
      refine fg_Md_most hx hb hts hown hK G (hts _ lk_X10_25) dX10_code_229 ?_
      refine lv_iload hx hb dX10_code_232 (lv_at hl 1 rfl) ?_
      obtain ⟨h_g23, hf⟩ := gd_some hf
      refine ra_IM (v := rA st19 5 v12.toNatClampNeg) hx hb hK G (waM_6 ..) (t0 := 5) rfl rfl h_g23 dX10_code_234 ?_
      refine lv_icmp_le (tgt := 243) hx hb dX10_code_235 (by decide) (fun c24 => ?_) (fun c24 => ?_)
      · replace hf := if_p hf c24
        refine lv_aload_n hx hb dX10_code_243 rfl (lv_at hl 3 rfl) ?_
        refine fg_Md_most hx hb hts hown hK G (hts _ lk_X10_25) dX10_code_244 ?_
        refine lv_iload hx hb dX10_code_247 (lv_at hl 1 rfl) ?_
        obtain ⟨h_g25, hf⟩ := gd_some hf
        refine ra_IM (v := rA st19 5 v12.toNatClampNeg) hx hb hK G (waM_6 ..) (t0 := 5) rfl rfl h_g25 dX10_code_249 ?_
        exact kx_Md_code_b250 C (rA st19 5 v12.toNatClampNeg) v12 st19 _ _ hf _ _ _ (lv_sub hl [3] rfl) G
      · replace hf := if_n hf c24
        refine lv_iload hx hb dX10_code_238 (lv_at hl 0 rfl) ?_
        refine lv_goto (tgt := 250) hx hb dX10_code_240 (by decide) ?_
        exact kx_Md_code_b250 C v22 v12 st19 _ _ hf _ _ _ (lv_sub hl [3] rfl) G
    · replace hf := if_p hf c15
      refine lv_aload_n hx hb dX10_code_191 rfl (lv_at hl 2 rfl) ?_
      refine lv_iconst (v := 0) hx hb dX10_code_192 (by decide) ?_
      refine fp_Md_writing hx hb hts hown hK G (hts _ lk_X10_103) rfl rfl dX10_code_193 (fun H locs G => ?_)
      refine lv_goto (tgt := 251) hx hb dX10_code_196 (by decide) ?_
      refine lv_aload_n hx hb dX10_code_251 rfl (lv_at hl 2 rfl) ?_
      refine fg_Md_total (v := (rI st 1) + 1) hx hb hts hown hK G (hts _ lk_X10_114) rfl dX10_code_252 ?_
      exact rt_iM C G hf dX10_code_255
  · replace hf := if_p hf c8
    refine lv_iconst (v := (-1)) hx hb dX10_code_115 (by decide) ?_
    exact rt_iM C G hf dX10_code_116
set_option maxHeartbeats 4000000 in
set_option maxRecDepth 100000 in
theorem kx_Md_code_b98 {p : Program} {l : Launch} {e : Env} {s : State} {m : MethodId} {args : Array Value} {below : List Frame} {meth : Method} {c : Code} {D : va_G} {k : Nat → ClassId} {h : Nat → Nat} (C : cxM D k p s m args meth c cX10_code 7 (some .int) RX10) (x1 : Int32) (x2 : Int32) (x3 : Int32) (st : rs_T) (r : Int32) (s' : rs_T) (hf : fx_Md_code_b98 x1 x2 x3 st = some (r, s')) : ∀ (H : Heap) (locs : List Loc) (ls : Array Slot), lv_has ls 7 [(0, .ref (h 0)), (1, .int x1), (2, .int x2), (3, .int x3)] → gdM D k h (arM h s.heap.size) s.heap H locs st → W p l e rm_Md_code s m args below meth c H locs 0 0 (MQ below (qIM D k h s.heap.size r s') args s 0 0 (arM h s.heap.size)) (F0 m 98 ls []) := by
  obtain ⟨hx, hb, hml, hr, hown, hts, hK, hN, hlk⟩ := id C
  intro H locs ls hl G
  unfold fx_Md_code_b98 at hf
  refine lv_iconst (v := 0) hx hb dX10_code_98 (by decide) ?_
  refine lv_goto (tgt := 108) hx hb dX10_code_99 (by decide) ?_
  exact kx_Md_code_b108 C x1 x2 x3 0 st _ _ hf _ _ _ (lv_sub hl [0, 1, 2, 3] rfl) G
set_option maxHeartbeats 4000000 in
set_option maxRecDepth 100000 in
theorem kx_Md_code_b80 {p : Program} {l : Launch} {e : Env} {s : State} {m : MethodId} {args : Array Value} {below : List Frame} {meth : Method} {c : Code} {D : va_G} {k : Nat → ClassId} {h : Nat → Nat} (C : cxM D k p s m args meth c cX10_code 7 (some .int) RX10) (x1 : Int32) (x2 : Int32) (x3 : Int32) (st : rs_T) (r : Int32) (s' : rs_T) (hf : fx_Md_code_b80 x1 x2 x3 st = some (r, s')) : ∀ (H : Heap) (locs : List Loc) (ls : Array Slot), lv_has ls 7 [(0, .ref (h 0)), (1, .int x1), (2, .int x2), (3, .int x3)] → gdM D k h (arM h s.heap.size) s.heap H locs st → W p l e rm_Md_code s m args below meth c H locs 0 0 (MQ below (qIM D k h s.heap.size r s') args s 0 0 (arM h s.heap.size)) (F0 m 80 ls []) := by
  obtain ⟨hx, hb, hml, hr, hown, hts, hK, hN, hlk⟩ := id C
  intro H locs ls hl G
  unfold fx_Md_code_b80 at hf
  refine lv_iload_n hx hb dX10_code_80 rfl (lv_at hl 1 rfl) ?_
  refine lv_if_lt (tgt := 98) hx hb dX10_code_81 (by decide) (fun c7 => ?_) (fun c7 => ?_)
  · replace hf := if_p hf c7
    exact kx_Md_code_b98 C x1 x2 x3 st _ _ hf _ _ _ (lv_sub hl [0, 1, 2, 3] rfl) G
  · replace hf := if_n hf c7
    refine lv_aload_n hx hb dX10_code_84 rfl (lv_at hl 0 rfl) ?_
    refine lv_iload_n hx hb dX10_code_85 rfl (lv_at hl 1 rfl) ?_
    refine lv_iload_n hx hb dX10_code_86 rfl (lv_at hl 2 rfl) ?_
    refine lv_iload_n hx hb dX10_code_87 rfl (lv_at hl 3 rfl) ?_
    obtain ⟨r28, st27, hst27, hf⟩ := bn_some hf
    refine cl_viM C hl G (As := [.int x1, .int x2, .int x3]) (rest := []) (kx_Md_control l D k h x1 x2 x3 st _ _ hst27) gi_X10_181 (hwM_0 ..) rfl hd_X10_control ⟨Nat.le_of_ble_eq_true rfl, Nat.le_of_ble_eq_true rfl⟩ rfl rfl (Nat.le_of_ble_eq_true rfl) dX10_code_88 (fun H locs G => ?_)
    refine lv_if_eq (tgt := 98) hx hb dX10_code_91 (by decide) (fun c29 => ?_) (fun c29 => ?_)
    · replace hf := if_p hf c29
      exact kx_Md_code_b98 C x1 x2 x3 st27 _ _ hf _ _ _ (lv_sub hl [0, 1, 2, 3] rfl) G
    · replace hf := if_n hf c29
      refine lv_iconst (v := 1) hx hb dX10_code_94 (by decide) ?_
      refine lv_goto (tgt := 108) hx hb dX10_code_95 (by decide) ?_
      exact kx_Md_code_b108 C x1 x2 x3 1 st27 _ _ hf _ _ _ (lv_sub hl [0, 1, 2, 3] rfl) G
set_option maxHeartbeats 4000000 in
set_option maxRecDepth 100000 in
theorem kx_Md_code_b43 {p : Program} {l : Launch} {e : Env} {s : State} {m : MethodId} {args : Array Value} {below : List Frame} {meth : Method} {c : Code} {D : va_G} {k : Nat → ClassId} {h : Nat → Nat} (C : cxM D k p s m args meth c cX10_code 7 (some .int) RX10) (x1 : Int32) (x2 : Int32) (x3 : Int32) (st : rs_T) (r : Int32) (s' : rs_T) (hf : fx_Md_code_b43 x1 x2 x3 st = some (r, s')) : ∀ (H : Heap) (locs : List Loc) (ls : Array Slot), lv_has ls 7 [(0, .ref (h 0)), (1, .int x1), (2, .int x2), (3, .int x3)] → gdM D k h (arM h s.heap.size) s.heap H locs st → W p l e rm_Md_code s m args below meth c H locs 0 0 (MQ below (qIM D k h s.heap.size r s') args s 0 0 (arM h s.heap.size)) (F0 m 43 ls []) := by
  obtain ⟨hx, hb, hml, hr, hown, hts, hK, hN, hlk⟩ := id C
  intro H locs ls hl G
  unfold fx_Md_code_b43 at hf
  refine lv_iload_n hx hb dX10_code_43 rfl (lv_at hl 1 rfl) ?_
  refine lv_bipush (v := 6) hx hb dX10_code_44 (by decide) ?_
  refine lv_icmp_ne (tgt := 57) hx hb dX10_code_46 (by decide) (fun c5 => ?_) (fun c5 => ?_)
  · replace hf := if_n hf c5
    refine lv_iload_n hx hb dX10_code_57 rfl (lv_at hl 1 rfl) ?_
    refine lv_bipush (v := 6) hx hb dX10_code_58 (by decide) ?_
    refine lv_icmp_lt (tgt := 80) hx hb dX10_code_60 (by decide) (fun c6 => ?_) (fun c6 => ?_)
    · replace hf := if_p hf c6
      exact kx_Md_code_b80 C x1 x2 x3 st _ _ hf _ _ _ (lv_sub hl [0, 1, 2, 3] rfl) G
    · replace hf := if_n hf c6
      refine lv_iload_n hx hb dX10_code_63 rfl (lv_at hl 1 rfl) ?_
      refine lv_bipush (v := 11) hx hb dX10_code_64 (by decide) ?_
      refine lv_icmp_eq (tgt := 80) hx hb dX10_code_66 (by decide) (fun c30 => ?_) (fun c30 => ?_)
      · replace hf := if_p hf c30
        exact kx_Md_code_b80 C x1 x2 x3 st _ _ hf _ _ _ (lv_sub hl [0, 1, 2, 3] rfl) G
      · replace hf := if_n hf c30
        refine lv_iload_n hx hb dX10_code_69 rfl (lv_at hl 1 rfl) ?_
        refine lv_bipush (v := 12) hx hb dX10_code_70 (by decide) ?_
        refine lv_isub hx hb dX10_code_72 ?_
        refine lv_iconst (v := 5) hx hb dX10_code_73 (by decide) ?_
        obtain ⟨r32, st31, hst31, hf⟩ := bn_some hf
        refine cl_siM C hl G (As := [.int (x1 - 12), .int 5]) (rest := []) (kx_Md_within l D k h (x1 - 12) 5 st _ _ hst31) gi_X10_110 hd_X10_within ⟨Nat.le_of_ble_eq_true rfl, Nat.le_of_ble_eq_true rfl⟩ rfl rfl (Nat.le_of_ble_eq_true rfl) dX10_code_74 (fun H locs G => ?_)
        refine lv_if_eq (tgt := 102) hx hb dX10_code_77 (by decide) (fun c33 => ?_) (fun c33 => ?_)
        · replace hf := if_p hf c33
          refine lv_aload_n hx hb dX10_code_102 rfl (lv_at hl 0 rfl) ?_
          refine lv_iload_n hx hb dX10_code_103 rfl (lv_at hl 1 rfl) ?_
          refine lv_iload_n hx hb dX10_code_104 rfl (lv_at hl 2 rfl) ?_
          obtain ⟨r35, st34, hst34, hf⟩ := bn_some hf
          refine cl_viM C hl G (As := [.int x1, .int x2]) (rest := []) (kx_Md_plain l D k h x1 x2 st31 _ _ hst34) gi_X10_184 (hwM_0 ..) rfl hd_X10_plain ⟨Nat.le_of_ble_eq_true rfl, Nat.le_of_ble_eq_true rfl⟩ rfl rfl (Nat.le_of_ble_eq_true rfl) dX10_code_105 (fun H locs G => ?_)
          exact kx_Md_code_b108 C x1 x2 x3 r35 st34 _ _ hf _ _ _ (lv_sub hl [0, 1, 2, 3] rfl) G
        · replace hf := if_n hf c33
          exact kx_Md_code_b80 C x1 x2 x3 st31 _ _ hf _ _ _ (lv_sub hl [0, 1, 2, 3] rfl) G
  · replace hf := if_p hf c5
    refine lv_aload_n hx hb dX10_code_49 rfl (lv_at hl 0 rfl) ?_
    refine lv_iload_n hx hb dX10_code_50 rfl (lv_at hl 2 rfl) ?_
    obtain ⟨r37, st36, hst36, hf⟩ := bn_some hf
    refine cl_viM C hl G (As := [.int x2]) (rest := []) (kx_Md_entryTo l D k h x2 st _ _ hst36) gi_X10_178 (hwM_0 ..) rfl hd_X10_entryTo ⟨Nat.le_of_ble_eq_true rfl, Nat.le_of_ble_eq_true rfl⟩ rfl rfl (Nat.le_of_ble_eq_true rfl) dX10_code_51 (fun H locs G => ?_)
    refine lv_goto (tgt := 108) hx hb dX10_code_54 (by decide) ?_
    exact kx_Md_code_b108 C x1 x2 x3 r37 st36 _ _ hf _ _ _ (lv_sub hl [0, 1, 2, 3] rfl) G
set_option maxHeartbeats 4000000 in
set_option maxRecDepth 100000 in
theorem kx_Md_code (l : Launch) (D : va_G) (k : Nat → ClassId) (h : Nat → Nat) (p1 : Int32) (p2 : Int32) (p3 : Int32) (st : rs_T) (r : Int32) (s' : rs_T) (hf : fx_Md_code p1 p2 p3 st = some (r, s')) : mIM l D k h yX10_code cX10_code 7 .int rm_Md_code [.ref (h 0), .int p1, .int p2, .int p3] st r s' := by
  refine mIM_of (by decide) ⟨rfl, rfl⟩ (Nat.le_of_ble_eq_true rfl) ?_
  intro p e s m below meth c ls C hl G
  obtain ⟨hx, hb, hml, hr, hown, hts, hK, hN, hlk⟩ := id C
  have hown : s.vm.findClass RX10 = some m.cls := hown
  have hl : lv_has ls 7 [(0, .ref (h 0)), (1, .int p1), (2, .int p2), (3, .int p3)] := hl
  unfold fx_Md_code at hf
  refine lv_aload_n hx hb dX10_code_0 rfl (lv_at hl 0 rfl) ?_
  refine fg_Md_writing (v := rI st 2) hx hb hts hown hK G (hts _ lk_X10_103) rfl dX10_code_1 ?_
  refine lv_if_eq (tgt := 17) hx hb dX10_code_4 (by decide) (fun c1 => ?_) (fun c1 => ?_)
  · replace hf := if_p hf c1
    refine lv_iconst (v := (-1)) hx hb dX10_code_17 (by decide) ?_
    exact rt_iM C G hf dX10_code_18
  · replace hf := if_n hf c1
    refine lv_aload_n hx hb dX10_code_7 rfl (lv_at hl 0 rfl) ?_
    refine fg_Md_total (v := rI st 1) hx hb hts hown hK G (hts _ lk_X10_114) rfl dX10_code_8 ?_
    refine lv_sipush (v := 1500) hx hb dX10_code_11 (by decide) ?_
    refine lv_icmp_ne (tgt := 19) hx hb dX10_code_14 (by decide) (fun c2 => ?_) (fun c2 => ?_)
    · replace hf := if_n hf c2
      refine lv_aload_n hx hb dX10_code_19 rfl (lv_at hl 0 rfl) ?_
      refine fg_Md_entriesLeft (v := rI st 4) hx hb hts hown hK G (hts _ lk_X10_120) rfl dX10_code_20 ?_
      refine lv_if_le (tgt := 35) hx hb dX10_code_23 (by decide) (fun c3 => ?_) (fun c3 => ?_)
      · replace hf := if_p hf c3
        refine lv_iload_n hx hb dX10_code_35 rfl (lv_at hl 1 rfl) ?_
        refine lv_bipush (v := 6) hx hb dX10_code_36 (by decide) ?_
        refine lv_icmp_ne (tgt := 43) hx hb dX10_code_38 (by decide) (fun c4 => ?_) (fun c4 => ?_)
        · replace hf := if_n hf c4
          exact kx_Md_code_b43 C p1 p2 p3 st _ _ hf _ _ _ (lv_sub hl [0, 1, 2, 3] rfl) G
        · replace hf := if_p hf c4
          refine lv_iconst (v := (-1)) hx hb dX10_code_41 (by decide) ?_
          exact rt_iM C G hf dX10_code_42
      · replace hf := if_n hf c3
        refine lv_iload_n hx hb dX10_code_26 rfl (lv_at hl 1 rfl) ?_
        refine lv_bipush (v := 6) hx hb dX10_code_27 (by decide) ?_
        refine lv_icmp_eq (tgt := 43) hx hb dX10_code_29 (by decide) (fun c38 => ?_) (fun c38 => ?_)
        · replace hf := if_p hf c38
          exact kx_Md_code_b43 C p1 p2 p3 st _ _ hf _ _ _ (lv_sub hl [0, 1, 2, 3] rfl) G
        · replace hf := if_n hf c38
          refine lv_goto (tgt := 41) hx hb dX10_code_32 (by decide) ?_
          refine lv_iconst (v := (-1)) hx hb dX10_code_41 (by decide) ?_
          exact rt_iM C G hf dX10_code_42
    · replace hf := if_p hf c2
      refine lv_iconst (v := (-1)) hx hb dX10_code_17 (by decide) ?_
      exact rt_iM C G hf dX10_code_18
def rm_Md_drop : Room := { frames := 0, cells := 0, slots := 0, locals := 0 }
set_option maxHeartbeats 4000000 in
set_option maxRecDepth 100000 in
theorem kx_Md_drop (l : Launch) (D : va_G) (k : Nat → ClassId) (h : Nat → Nat) (st : rs_T) (r : Int32) (s' : rs_T) (hf : fx_Md_drop st = some (r, s')) : mIM l D k h yX10_drop cX10_drop 1 .boolean rm_Md_drop [.ref (h 0)] st r s' := by
  refine mIM_of (by decide) ⟨rfl, rfl⟩ (Nat.le_of_ble_eq_true rfl) ?_
  intro p e s m below meth c ls C hl G
  obtain ⟨hx, hb, hml, hr, hown, hts, hK, hN, hlk⟩ := id C
  have hown : s.vm.findClass RX10 = some m.cls := hown
  have hl : lv_has ls 1 [(0, .ref (h 0))] := hl
  unfold fx_Md_drop at hf
  refine lv_aload_n hx hb dX10_drop_0 rfl (lv_at hl 0 rfl) ?_
  refine fg_Md_writing (v := rI st 2) hx hb hts hown hK G (hts _ lk_X10_103) rfl dX10_drop_1 ?_
  refine lv_if_ne (tgt := 9) hx hb dX10_drop_4 (by decide) (fun c1 => ?_) (fun c1 => ?_)
  · replace hf := if_n hf c1
    refine lv_aload_n hx hb dX10_drop_9 rfl (lv_at hl 0 rfl) ?_
    refine lv_dup hx hb dX10_drop_10 rfl ?_
    refine fg_Md_functions (v := rI st 0) hx hb hts hown hK G (hts _ lk_X10_107) rfl dX10_drop_11 ?_
    refine lv_iconst (v := 1) hx hb dX10_drop_14 (by decide) ?_
    refine lv_isub hx hb dX10_drop_15 ?_
    refine fp_Md_functions hx hb hts hown hK G (hts _ lk_X10_107) dX10_drop_16 (fun H locs G => ?_)
    refine lv_aload_n hx hb dX10_drop_19 rfl (lv_at hl 0 rfl) ?_
    refine lv_aload_n hx hb dX10_drop_20 rfl (lv_at hl 0 rfl) ?_
    refine fg_Md_start hx hb hts hown hK G (hts _ lk_X10_7) dX10_drop_21 ?_
    refine lv_aload_n hx hb dX10_drop_24 rfl (lv_at hl 0 rfl) ?_
    refine fg_Md_functions (v := (rI st 0) - 1) hx hb hts hown hK G (hts _ lk_X10_107) rfl dX10_drop_25 ?_
    obtain ⟨h_g2, hf⟩ := gd_some hf
    refine ra_IM (v := rA st 0 (((rI st 0) - 1).toNatClampNeg)) hx hb hK G (waM_1 ..) (t0 := 0) rfl rfl h_g2 dX10_drop_28 ?_
    refine fp_Md_total hx hb hts hown hK G (hts _ lk_X10_114) dX10_drop_29 (fun H locs G => ?_)
    refine lv_aload_n hx hb dX10_drop_32 rfl (lv_at hl 0 rfl) ?_
    refine lv_iconst (v := 0) hx hb dX10_drop_33 (by decide) ?_
    refine fp_Md_writing hx hb hts hown hK G (hts _ lk_X10_103) rfl rfl dX10_drop_34 (fun H locs G => ?_)
    refine lv_aload_n hx hb dX10_drop_37 rfl (lv_at hl 0 rfl) ?_
    refine lv_iconst (v := 0) hx hb dX10_drop_38 (by decide) ?_
    refine fp_Md_labels hx hb hts hown hK G (hts _ lk_X10_117) dX10_drop_39 (fun H locs G => ?_)
    refine lv_iconst (v := 1) hx hb dX10_drop_42 (by decide) ?_
    exact rt_zM C rfl G hf dX10_drop_43
  · replace hf := if_p hf c1
    refine lv_iconst (v := 0) hx hb dX10_drop_7 (by decide) ?_
    exact rt_zM C rfl G hf dX10_drop_8
def rm_Md_isWhole : Room := { frames := 0, cells := 0, slots := 0, locals := 0 }
set_option maxHeartbeats 4000000 in
set_option maxRecDepth 100000 in
theorem kx_Md_isWhole_b25 {p : Program} {l : Launch} {e : Env} {s : State} {m : MethodId} {args : Array Value} {below : List Frame} {meth : Method} {c : Code} {D : va_G} {k : Nat → ClassId} {h : Nat → Nat} (C : cxM D k p s m args meth c cX10_isWhole 2 (some .boolean) RX10) (y0 : Int32) (y1 : Int32) (st : rs_T) (r : Int32) (s' : rs_T) (hf : fx_Md_isWhole_b25 y0 y1 st = some (r, s')) : ∀ (H : Heap) (locs : List Loc) (ls : Array Slot), lv_has ls 2 [] → gdM D k h (arM h s.heap.size) s.heap H locs st → W p l e rm_Md_isWhole s m args below meth c H locs 0 0 (MQ below (qIM D k h s.heap.size r s') args s 0 0 (arM h s.heap.size)) (F0 m 25 ls [.int y0, .int y1]) := by
  obtain ⟨hx, hb, hml, hr, hown, hts, hK, hN, hlk⟩ := id C
  intro H locs ls hl G
  unfold fx_Md_isWhole_b25 at hf
  refine lv_icmp_ge (tgt := 32) hx hb dX10_isWhole_25 (by decide) (fun c3 => ?_) (fun c3 => ?_)
  · replace hf := if_p hf c3
    refine lv_iconst (v := 0) hx hb dX10_isWhole_32 (by decide) ?_
    exact rt_zM C rfl G hf dX10_isWhole_33
  · replace hf := if_n hf c3
    refine lv_iconst (v := 1) hx hb dX10_isWhole_28 (by decide) ?_
    refine lv_goto (tgt := 33) hx hb dX10_isWhole_29 (by decide) ?_
    exact rt_zM C rfl G hf dX10_isWhole_33
set_option maxHeartbeats 4000000 in
set_option maxRecDepth 100000 in
theorem kx_Md_isWhole (l : Launch) (D : va_G) (k : Nat → ClassId) (h : Nat → Nat) (p1 : Int32) (st : rs_T) (r : Int32) (s' : rs_T) (hf : fx_Md_isWhole p1 st = some (r, s')) : mIM l D k h yX10_isWhole cX10_isWhole 2 .boolean rm_Md_isWhole [.ref (h 0), .int p1] st r s' := by
  refine mIM_of (by decide) ⟨rfl, rfl⟩ (Nat.le_of_ble_eq_true rfl) ?_
  intro p e s m below meth c ls C hl G
  obtain ⟨hx, hb, hml, hr, hown, hts, hK, hN, hlk⟩ := id C
  have hown : s.vm.findClass RX10 = some m.cls := hown
  have hl : lv_has ls 2 [(0, .ref (h 0)), (1, .int p1)] := hl
  unfold fx_Md_isWhole at hf
  refine lv_iload_n hx hb dX10_isWhole_0 rfl (lv_at hl 1 rfl) ?_
  refine lv_if_lt (tgt := 32) hx hb dX10_isWhole_1 (by decide) (fun c1 => ?_) (fun c1 => ?_)
  · replace hf := if_p hf c1
    refine lv_iconst (v := 0) hx hb dX10_isWhole_32 (by decide) ?_
    exact rt_zM C rfl G hf dX10_isWhole_33
  · replace hf := if_n hf c1
    refine lv_iload_n hx hb dX10_isWhole_4 rfl (lv_at hl 1 rfl) ?_
    refine lv_aload_n hx hb dX10_isWhole_5 rfl (lv_at hl 0 rfl) ?_
    refine fg_Md_writing (v := rI st 2) hx hb hts hown hK G (hts _ lk_X10_103) rfl dX10_isWhole_6 ?_
    refine lv_if_eq (tgt := 21) hx hb dX10_isWhole_9 (by decide) (fun c2 => ?_) (fun c2 => ?_)
    · replace hf := if_p hf c2
      refine lv_aload_n hx hb dX10_isWhole_21 rfl (lv_at hl 0 rfl) ?_
      refine fg_Md_functions (v := rI st 0) hx hb hts hown hK G (hts _ lk_X10_107) rfl dX10_isWhole_22 ?_
      exact kx_Md_isWhole_b25 C (rI st 0) p1 st _ _ hf _ _ _ (lv_sub hl [] rfl) G
    · replace hf := if_n hf c2
      refine lv_aload_n hx hb dX10_isWhole_12 rfl (lv_at hl 0 rfl) ?_
      refine fg_Md_functions (v := rI st 0) hx hb hts hown hK G (hts _ lk_X10_107) rfl dX10_isWhole_13 ?_
      refine lv_iconst (v := 1) hx hb dX10_isWhole_16 (by decide) ?_
      refine lv_isub hx hb dX10_isWhole_17 ?_
      refine lv_goto (tgt := 25) hx hb dX10_isWhole_18 (by decide) ?_
      exact kx_Md_isWhole_b25 C ((rI st 0) - 1) p1 st _ _ hf _ _ _ (lv_sub hl [] rfl) G
