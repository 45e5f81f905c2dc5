def rm_Sr_useVariable : Room := { frames := 3, cells := 0, slots := 0, locals := 72 }
set_option maxHeartbeats 4000000 in
set_option maxRecDepth 100000 in
theorem kx_Sr_useVariable (l : Launch) (D : va_G) (k : Nat → Nat × ClassId) (h : Nat → Nat) (p1 : Int32) (p2 : Int32) (p3 : Int32) (st : rs_T) (s' : rs_T) (hf : fx_Sr_useVariable p1 p2 p3 st = some s') : mVC l D k h yX6_useVariable cX6_useVariable 5 rm_Sr_useVariable [.ref (h 7), .int p1, .int p2, .int p3] st s' := by
  refine mVC_of (by decide) ⟨rfl, rfl⟩ (Nat.le_of_ble_eq_true rfl) ?_
  intro p e s m below meth c ls C hl G
  obtain ⟨hx, hb, hml, hr, hown, hts, hK, hN, hlk⟩ := id C
  have hown : s.vm.findClass RX6 = some m.cls := hown
  have hl : lv_has ls 5 [(0, .ref (h 7)), (1, .int p1), (2, .int p2), (3, .int p3)] := hl
  unfold fx_Sr_useVariable at hf
  refine lv_aload_n hx hb dX6_useVariable_0 rfl (lv_at hl 0 rfl) ?_
  refine fg_Sr_activity hx hb hts hown hK G (hts _ lk_X6_19) dX6_useVariable_1 ?_
  refine fg_Ac_base hx hb hts hown hK G (hts _ lk_X6_124) dX6_useVariable_4 ?_
  refine lv_iload_n hx hb dX6_useVariable_7 rfl (lv_at hl 1 rfl) ?_
  obtain ⟨h_g1, hf⟩ := gd_some hf
  refine ra_IC (v := rA st 19 p1.toNatClampNeg) hx hb hK G (waC_30 ..) (t0 := 21) rfl rfl h_g1 dX6_useVariable_8 ?_
  refine lv_iload_n hx hb dX6_useVariable_9 rfl (lv_at hl 3 rfl) ?_
  refine lv_iadd hx hb dX6_useVariable_10 ?_
  refine lv_topi (fun v2 e_v2 => ?_)
  replace hf := bd_some hf v2 e_v2
  refine lv_istore (lv' := [(4, .int v2), (0, .ref (h 7)), (1, .int p1), (2, .int p2), (3, .int p3)]) hx hb dX6_useVariable_11 hl (by decide) rfl (fun ls hl => ?_)
  refine lv_iload_n hx hb dX6_useVariable_13 rfl (lv_at hl 3 rfl) ?_
  by_cases s3_0 : p2 ∈ ([26] : List Int32)
  · replace hf := if_p hf s3_0
    refine sw_tb (tgt := 72) (off := 58) hx hb dX6_useVariable_14 (sw_tbt s3_0 (by decide)) (by decide) (by decide) ?_
    refine lv_aload_n hx hb dX6_useVariable_72 rfl (lv_at hl 1 rfl) ?_
    refine lv_iload_n hx hb dX6_useVariable_73 rfl (lv_at hl 2 rfl) ?_
    obtain ⟨r5, st4, hst4, hf⟩ := bn_some hf
    refine cl_vlC C hl G (As := [.int p1]) (rest := []) (kx_Sr_pop l D k h p1 st _ _ hst4) gi_X6_82 (hwC_7 ..) rfl hd_X6_pop ⟨Nat.le_of_ble_eq_true rfl, Nat.le_of_ble_eq_true rfl⟩ rfl rfl (Nat.le_of_ble_eq_true rfl) dX6_useVariable_74 ⟨Nat.zero_le _, Nat.zero_le _⟩ (fun H locs e0 G => ?_)
    refine lv_pop2_2 hx hb dX6_useVariable_77 rfl ?_
    refine lv_goto (tgt := 187) hx hb dX6_useVariable_78 (by decide) ?_
    exact rt_vC C G hf dX6_useVariable_187
  replace hf := if_n hf s3_0
  by_cases s3_1 : p2 ∈ ([27] : List Int32)
  · replace hf := if_p hf s3_1
    refine sw_tb (tgt := 81) (off := 67) hx hb dX6_useVariable_14 (sw_tbt s3_1 (by decide)) (by decide) (by decide) ?_
    refine lv_aload_n hx hb dX6_useVariable_81 rfl (lv_at hl 1 rfl) ?_
    refine lv_iload_n hx hb dX6_useVariable_82 rfl (lv_at hl 2 rfl) ?_
    obtain ⟨st6, hst6, hf⟩ := bv_some hf
    refine cl_vvC C hl G (As := [.int p1]) (rest := []) (kx_Sr_select l D k h p1 st _ hst6) gi_X6_127 (hwC_7 ..) rfl hd_X6_select ⟨Nat.le_of_ble_eq_true rfl, Nat.le_of_ble_eq_true rfl⟩ rfl rfl (Nat.le_of_ble_eq_true rfl) dX6_useVariable_83 ⟨Nat.zero_le _, Nat.zero_le _⟩ (fun H locs e0 G => ?_)
    refine lv_goto (tgt := 187) hx hb dX6_useVariable_86 (by decide) ?_
    exact rt_vC C G hf dX6_useVariable_187
  replace hf := if_n hf s3_1
  by_cases s3_2 : p2 ∈ ([32] : List Int32)
  · replace hf := if_p hf s3_2
    refine sw_tb (tgt := 89) (off := 75) hx hb dX6_useVariable_14 (sw_tbt s3_2 (by decide)) (by decide) (by decide) ?_
    refine lv_aload_n hx hb dX6_useVariable_89 rfl (lv_at hl 1 rfl) ?_
    refine lv_iload_n hx hb dX6_useVariable_90 rfl (lv_at hl 2 rfl) ?_
    refine lv_aload_n hx hb dX6_useVariable_91 rfl (lv_at hl 1 rfl) ?_
    refine fg_Sr_activity hx hb hts hown hK G (hts _ lk_X6_19) dX6_useVariable_92 ?_
    refine lv_iload hx hb dX6_useVariable_95 (lv_at hl 0 rfl) ?_
    obtain ⟨r8, st7, hst7, hf⟩ := bn_some hf
    refine cl_vlC C hl G (As := [.int v2]) (rest := [.int p1, .ref (h 7)]) (kx_Ac_value l D k h v2 st _ _ hst7) gi_X6_130 (hwC_4 ..) rfl hd_X0_value ⟨Nat.le_of_ble_eq_true rfl, Nat.le_of_ble_eq_true rfl⟩ rfl rfl (Nat.le_of_ble_eq_true rfl) dX6_useVariable_97 ⟨Nat.zero_le _, Nat.zero_le _⟩ (fun H locs e0 G => ?_)
    obtain ⟨st9, hst9, hf⟩ := bv_some hf
    refine cl_vvC C hl G (As := [.int p1, .long r8]) (rest := []) (kx_Sr_push l D k h p1 r8 st7 _ hst9) gi_X6_60 (hwC_7 ..) rfl hd_X6_push ⟨Nat.le_of_ble_eq_true rfl, Nat.le_of_ble_eq_true rfl⟩ rfl rfl (Nat.le_of_ble_eq_true rfl) dX6_useVariable_100 ⟨Nat.zero_le _, Nat.zero_le _⟩ (fun H locs e0 G => ?_)
    refine lv_goto (tgt := 187) hx hb dX6_useVariable_103 (by decide) ?_
    exact rt_vC C G hf dX6_useVariable_187
  replace hf := if_n hf s3_2
  by_cases s3_3 : p2 ∈ ([33] : List Int32)
  · replace hf := if_p hf s3_3
    refine sw_tb (tgt := 106) (off := 92) hx hb dX6_useVariable_14 (sw_tbt s3_3 (by decide)) (by decide) (by decide) ?_
    refine lv_aload_n hx hb dX6_useVariable_106 rfl (lv_at hl 1 rfl) ?_
    refine fg_Sr_activity hx hb hts hown hK G (hts _ lk_X6_19) dX6_useVariable_107 ?_
    refine lv_iload hx hb dX6_useVariable_110 (lv_at hl 0 rfl) ?_
    refine lv_aload_n hx hb dX6_useVariable_112 rfl (lv_at hl 1 rfl) ?_
    refine lv_iload_n hx hb dX6_useVariable_113 rfl (lv_at hl 2 rfl) ?_
    obtain ⟨r11, st10, hst10, hf⟩ := bn_some hf
    refine cl_vlC C hl G (As := [.int p1]) (rest := [.int v2, .ref (h 4)]) (kx_Sr_pop l D k h p1 st _ _ hst10) gi_X6_82 (hwC_7 ..) rfl hd_X6_pop ⟨Nat.le_of_ble_eq_true rfl, Nat.le_of_ble_eq_true rfl⟩ rfl rfl (Nat.le_of_ble_eq_true rfl) dX6_useVariable_114 ⟨Nat.zero_le _, Nat.zero_le _⟩ (fun H locs e0 G => ?_)
    obtain ⟨st12, hst12, hf⟩ := bv_some hf
    refine cl_vvC C hl G (As := [.int v2, .long r11]) (rest := []) (kx_Ac_setValue l D k h v2 r11 st10 _ hst12) gi_X6_133 (hwC_4 ..) rfl hd_X0_setValue ⟨Nat.le_of_ble_eq_true rfl, Nat.le_of_ble_eq_true rfl⟩ rfl rfl (Nat.le_of_ble_eq_true rfl) dX6_useVariable_117 ⟨Nat.zero_le _, Nat.zero_le _⟩ (fun H locs e0 G => ?_)
    refine lv_goto (tgt := 187) hx hb dX6_useVariable_120 (by decide) ?_
    exact rt_vC C G hf dX6_useVariable_187
  replace hf := if_n hf s3_3
  by_cases s3_4 : p2 ∈ ([34] : List Int32)
  · replace hf := if_p hf s3_4
    refine sw_tb (tgt := 123) (off := 109) hx hb dX6_useVariable_14 (sw_tbt s3_4 (by decide)) (by decide) (by decide) ?_
    refine lv_aload_n hx hb dX6_useVariable_123 rfl (lv_at hl 1 rfl) ?_
    refine fg_Sr_activity hx hb hts hown hK G (hts _ lk_X6_19) dX6_useVariable_124 ?_
    refine lv_iload hx hb dX6_useVariable_127 (lv_at hl 0 rfl) ?_
    refine lv_aload_n hx hb dX6_useVariable_129 rfl (lv_at hl 1 rfl) ?_
    refine fg_Sr_activity hx hb hts hown hK G (hts _ lk_X6_19) dX6_useVariable_130 ?_
    refine lv_aload_n hx hb dX6_useVariable_133 rfl (lv_at hl 1 rfl) ?_
    refine fg_Sr_activity hx hb hts hown hK G (hts _ lk_X6_19) dX6_useVariable_134 ?_
    refine fg_Ac_top hx hb hts hown hK G (hts _ lk_X6_136) dX6_useVariable_137 ?_
    refine lv_iload_n hx hb dX6_useVariable_140 rfl (lv_at hl 2 rfl) ?_
    obtain ⟨h_g13, hf⟩ := gd_some hf
    refine ra_IC (v := rA st 20 p1.toNatClampNeg) hx hb hK G (waC_31 ..) (t0 := 22) rfl rfl h_g13 dX6_useVariable_141 ?_
    refine lv_iconst (v := 1) hx hb dX6_useVariable_142 (by decide) ?_
    refine lv_isub hx hb dX6_useVariable_143 ?_
    obtain ⟨r15, st14, hst14, hf⟩ := bn_some hf
    refine cl_vlC C hl G (As := [.int ((rA st 20 p1.toNatClampNeg) - 1)]) (rest := [.int v2, .ref (h 4)]) (kx_Ac_value l D k h ((rA st 20 p1.toNatClampNeg) - 1) st _ _ hst14) gi_X6_130 (hwC_4 ..) rfl hd_X0_value ⟨Nat.le_of_ble_eq_true rfl, Nat.le_of_ble_eq_true rfl⟩ rfl rfl (Nat.le_of_ble_eq_true rfl) dX6_useVariable_144 ⟨Nat.zero_le _, Nat.zero_le _⟩ (fun H locs e0 G => ?_)
    obtain ⟨st16, hst16, hf⟩ := bv_some hf
    refine cl_vvC C hl G (As := [.int v2, .long r15]) (rest := []) (kx_Ac_setValue l D k h v2 r15 st14 _ hst16) gi_X6_133 (hwC_4 ..) rfl hd_X0_setValue ⟨Nat.le_of_ble_eq_true rfl, Nat.le_of_ble_eq_true rfl⟩ rfl rfl (Nat.le_of_ble_eq_true rfl) dX6_useVariable_147 ⟨Nat.zero_le _, Nat.zero_le _⟩ (fun H locs e0 G => ?_)
    refine lv_goto (tgt := 187) hx hb dX6_useVariable_150 (by decide) ?_
    exact rt_vC C G hf dX6_useVariable_187
  replace hf := if_n hf s3_4
  by_cases s3_5 : p2 ∈ ([35] : List Int32)
  · replace hf := if_p hf s3_5
    refine sw_tb (tgt := 153) (off := 139) hx hb dX6_useVariable_14 (sw_tbt s3_5 (by decide)) (by decide) (by decide) ?_
    refine lv_aload_n hx hb dX6_useVariable_153 rfl (lv_at hl 1 rfl) ?_
    refine lv_iload_n hx hb dX6_useVariable_154 rfl (lv_at hl 2 rfl) ?_
    refine lv_aload_n hx hb dX6_useVariable_155 rfl (lv_at hl 1 rfl) ?_
    refine fg_Sr_world hx hb hts hown hK G (hts _ lk_X6_15) dX6_useVariable_156 ?_
    refine fg_Wo_globals hx hb hts hown hK G (hts _ lk_X6_139) dX6_useVariable_159 ?_
    refine lv_iload_n hx hb dX6_useVariable_162 rfl (lv_at hl 4 rfl) ?_
    obtain ⟨h_g17, hf⟩ := gd_some hf
    refine ra_JC (v := rL st 1 p3.toNatClampNeg) hx hb hK G (waC_26 ..) (t0 := 17) rfl rfl h_g17 dX6_useVariable_163 ?_
    obtain ⟨st18, hst18, hf⟩ := bv_some hf
    refine cl_vvC C hl G (As := [.int p1, .long (rL st 1 p3.toNatClampNeg)]) (rest := []) (kx_Sr_push l D k h p1 (rL st 1 p3.toNatClampNeg) st _ hst18) gi_X6_60 (hwC_7 ..) rfl hd_X6_push ⟨Nat.le_of_ble_eq_true rfl, Nat.le_of_ble_eq_true rfl⟩ rfl rfl (Nat.le_of_ble_eq_true rfl) dX6_useVariable_164 ⟨Nat.zero_le _, Nat.zero_le _⟩ (fun H locs e0 G => ?_)
    refine lv_goto (tgt := 187) hx hb dX6_useVariable_167 (by decide) ?_
    exact rt_vC C G hf dX6_useVariable_187
  replace hf := if_n hf s3_5
  by_cases s3_6 : p2 ∈ ([36] : List Int32)
  · replace hf := if_p hf s3_6
    refine sw_tb (tgt := 170) (off := 156) hx hb dX6_useVariable_14 (sw_tbt s3_6 (by decide)) (by decide) (by decide) ?_
    refine lv_aload_n hx hb dX6_useVariable_170 rfl (lv_at hl 1 rfl) ?_
    refine fg_Sr_world hx hb hts hown hK G (hts _ lk_X6_15) dX6_useVariable_171 ?_
    refine fg_Wo_globals hx hb hts hown hK G (hts _ lk_X6_139) dX6_useVariable_174 ?_
    refine lv_iload_n hx hb dX6_useVariable_177 rfl (lv_at hl 4 rfl) ?_
    refine lv_aload_n hx hb dX6_useVariable_178 rfl (lv_at hl 1 rfl) ?_
    refine lv_iload_n hx hb dX6_useVariable_179 rfl (lv_at hl 2 rfl) ?_
    obtain ⟨r20, st19, hst19, hf⟩ := bn_some hf
    refine cl_vlC C hl G (As := [.int p1]) (rest := [.int p3, .ref (k 26).1]) (kx_Sr_pop l D k h p1 st _ _ hst19) gi_X6_82 (hwC_7 ..) rfl hd_X6_pop ⟨Nat.le_of_ble_eq_true rfl, Nat.le_of_ble_eq_true rfl⟩ rfl rfl (Nat.le_of_ble_eq_true rfl) dX6_useVariable_180 ⟨Nat.zero_le _, Nat.zero_le _⟩ (fun H locs e0 G => ?_)
    obtain ⟨h_g21, hf⟩ := gd_some hf
    refine rw_JC hx hb hK G (waC_26 ..) (t0 := 17) rfl (wsC_26 ..) (zw_26 h_g21) rfl h_g21 dX6_useVariable_183 (fun H locs G => ?_)
    refine lv_goto (tgt := 187) hx hb dX6_useVariable_184 (by decide) ?_
    exact rt_vC C G hf dX6_useVariable_187
  replace hf := if_n hf s3_6
  refine sw_tb (tgt := 187) (off := 173) hx hb dX6_useVariable_14 (sw_tbd (sw_cons s3_0 (sw_cons s3_1 (sw_cons s3_2 (sw_cons s3_3 (sw_cons s3_4 (sw_cons s3_5 (sw_cons s3_6 sw_nil))))))) (by decide)) (by decide) (by decide) ?_
  exact rt_vC C G hf dX6_useVariable_187
def rm_Sr_useMemory : Room := { frames := 2, cells := 0, slots := 0, locals := 46 }
set_option maxHeartbeats 4000000 in
set_option maxRecDepth 100000 in
theorem kx_Sr_useMemory_b59 {p : Program} {l : Launch} {e : Env} {s : State} {m : MethodId} {args : Array Value} {below : List Frame} {meth : Method} {c : Code} {D : va_G} {h : Nat → Nat} {E : Nat → Nat} {k : Nat → Nat × ClassId} (C : cxC D k p s m args meth c cX6_useMemory 8 none RX6) (N : Nat) (x1 : Int32) (x2 : Int32) (x3 : Int32) (y0 : Int64) (st : rs_T) (s' : rs_T) (hf : fx_Sr_useMemory_b59 N x1 x2 x3 y0 st = some s') : ∀ (H : Heap) (locs : List Loc) (ls : Array Slot), lv_has ls 8 [(0, .ref (h 7)), (1, .int x1), (2, .int x2), (3, .int x3)] → gdC D k h (vE E) (arC k h s.heap.size) s.heap H locs st → W p l e rm_Sr_useMemory s m args below meth c H locs 0 0 (MQ below (qVC D k h E s.heap.size s') args s 0 0 (arC k h s.heap.size)) (F0 m 59 ls [.long y0]) := by
  obtain ⟨hx, hb, hml, hr, hown, hts, hK, hN, hlk⟩ := id C
  intro H locs ls hl G
  unfold fx_Sr_useMemory_b59 at hf
  refine lv_lstore (lv' := [(4, .long y0), (0, .ref (h 7)), (1, .int x1), (2, .int x2), (3, .int x3)]) hx hb dX6_useMemory_59 hl (by decide) rfl (fun ls hl => ?_)
  refine lv_aload_n hx hb dX6_useMemory_61 rfl (lv_at hl 1 rfl) ?_
  refine lv_iload_n hx hb dX6_useMemory_62 rfl (lv_at hl 2 rfl) ?_
  obtain ⟨r5, st4, hst4, hf⟩ := bn_some hf
  refine cl_vlC C hl G (As := [.int x1]) (rest := []) (kx_Sr_pop l D k h x1 st _ _ hst4) gi_X6_82 (hwC_7 ..) rfl hd_X6_pop ⟨Nat.le_of_ble_eq_true rfl, Nat.le_of_ble_eq_true rfl⟩ rfl rfl (Nat.le_of_ble_eq_true rfl) dX6_useMemory_63 ⟨Nat.zero_le _, Nat.zero_le _⟩ (fun H locs e0 G => ?_)
  refine lv_iload_n hx hb dX6_useMemory_66 rfl (lv_at hl 4 rfl) ?_
  obtain ⟨r7, st6, hst6, hf⟩ := bn_some hf
  refine cl_slC C hl G (As := [.long r5, .int x3]) (rest := []) (kx_Wo_place l D k h r5 x3 st4 _ _ hst6) gi_X6_105 hd_X7_place ⟨Nat.le_of_ble_eq_true rfl, Nat.le_of_ble_eq_true rfl⟩ rfl rfl (Nat.le_of_ble_eq_true rfl) dX6_useMemory_67 ⟨Nat.zero_le _, Nat.zero_le _⟩ (fun H locs e0 G => ?_)
  refine lv_lstore (lv' := [(6, .long r7), (4, .long y0), (0, .ref (h 7)), (1, .int x1), (2, .int x2), (3, .int x3)]) hx hb dX6_useMemory_70 hl (by decide) rfl (fun ls hl => ?_)
  refine lv_aload_n hx hb dX6_useMemory_72 rfl (lv_at hl 2 rfl) ?_
  refine fg_Sr_world hx hb hts hown hK G (hts _ lk_X6_15) dX6_useMemory_73 ?_
  refine lv_lload hx hb dX6_useMemory_76 (lv_at hl 0 rfl) ?_
  refine lv_iload_n hx hb dX6_useMemory_78 rfl (lv_at hl 4 rfl) ?_
  obtain ⟨r9, st8, hst8, hf⟩ := bn_some hf
  refine cl_siC C hl G (As := [.int x2]) (rest := [.long r7, .ref (h 3)]) (kx_Wo_width l D k h x2 st6 _ _ hst8) gi_X6_109 hd_X7_width ⟨Nat.le_of_ble_eq_true rfl, Nat.le_of_ble_eq_true rfl⟩ rfl rfl (Nat.le_of_ble_eq_true rfl) dX6_useMemory_79 ⟨Nat.zero_le _, Nat.zero_le _⟩ (fun H locs e0 G => ?_)
  obtain ⟨r11, st10, hst10, hf⟩ := bn_some hf
  refine cl_viC C hl G (As := [.long r7, .int r9]) (rest := []) (kx_Wo_holds l D k h r7 r9 st8 _ _ hst10) gi_X6_112 (hwC_3 ..) rfl hd_X7_holds ⟨Nat.le_of_ble_eq_true rfl, Nat.le_of_ble_eq_true rfl⟩ rfl rfl (Nat.le_of_ble_eq_true rfl) dX6_useMemory_82 ⟨Nat.zero_le _, Nat.zero_le _⟩ (fun H locs e0 G => ?_)
  refine lv_if_ne (tgt := 99) hx hb dX6_useMemory_85 (by decide) (fun c12 => ?_) (fun c12 => ?_)
  · replace hf := if_n hf c12
    refine lv_iload_n hx hb dX6_useMemory_99 rfl (lv_at hl 4 rfl) ?_
    refine lv_bipush (v := 54) hx hb dX6_useMemory_100 (by decide) ?_
    refine lv_icmp_lt (tgt := 121) hx hb dX6_useMemory_102 (by decide) (fun c13 => ?_) (fun c13 => ?_)
    · replace hf := if_p hf c13
      refine lv_aload_n hx hb dX6_useMemory_121 rfl (lv_at hl 2 rfl) ?_
      refine lv_iload_n hx hb dX6_useMemory_122 rfl (lv_at hl 3 rfl) ?_
      refine lv_aload_n hx hb dX6_useMemory_123 rfl (lv_at hl 2 rfl) ?_
      refine fg_Sr_world hx hb hts hown hK G (hts _ lk_X6_15) dX6_useMemory_124 ?_
      refine lv_iload_n hx hb dX6_useMemory_127 rfl (lv_at hl 4 rfl) ?_
      refine lv_lload hx hb dX6_useMemory_128 (lv_at hl 0 rfl) ?_
      refine lv_l2i (v := r7.toInt32) hx hb dX6_useMemory_130 rfl ?_
      obtain ⟨r15, st14, hst14, hf⟩ := bn_some hf
      refine cl_vlC C hl G (As := [.int x2, .int r7.toInt32]) (rest := [.int x1, .ref (h 7)]) (kx_Wo_load l D k h N x2 r7.toInt32 st10 _ _ hst14) gi_X6_120 (hwC_3 ..) rfl hd_X7_load ⟨Nat.le_of_ble_eq_true rfl, Nat.le_of_ble_eq_true rfl⟩ rfl rfl (Nat.le_of_ble_eq_true rfl) dX6_useMemory_131 ⟨Nat.zero_le _, Nat.zero_le _⟩ (fun H locs e0 G => ?_)
      obtain ⟨st16, hst16, hf⟩ := bv_some hf
      refine cl_vvC C hl G (As := [.int x1, .long r15]) (rest := []) (kx_Sr_push l D k h x1 r15 st14 _ hst16) gi_X6_60 (hwC_7 ..) rfl hd_X6_push ⟨Nat.le_of_ble_eq_true rfl, Nat.le_of_ble_eq_true rfl⟩ rfl rfl (Nat.le_of_ble_eq_true rfl) dX6_useMemory_134 ⟨Nat.zero_le _, Nat.zero_le _⟩ (fun H locs e0 G => ?_)
      exact rt_vC C G hf dX6_useMemory_137
    · replace hf := if_n hf c13
      refine lv_aload_n hx hb dX6_useMemory_105 rfl (lv_at hl 2 rfl) ?_
      refine fg_Sr_world hx hb hts hown hK G (hts _ lk_X6_15) dX6_useMemory_106 ?_
      refine lv_iload_n hx hb dX6_useMemory_109 rfl (lv_at hl 4 rfl) ?_
      refine lv_lload hx hb dX6_useMemory_110 (lv_at hl 0 rfl) ?_
      refine lv_l2i (v := r7.toInt32) hx hb dX6_useMemory_112 rfl ?_
      refine lv_lload hx hb dX6_useMemory_113 (lv_at hl 1 rfl) ?_
      obtain ⟨st17, hst17, hf⟩ := bv_some hf
      refine cl_vvC C hl G (As := [.int x2, .int r7.toInt32, .long y0]) (rest := []) (kx_Wo_store l D k h N x2 r7.toInt32 y0 st10 _ hst17) gi_X6_116 (hwC_3 ..) rfl hd_X7_store ⟨Nat.le_of_ble_eq_true rfl, Nat.le_of_ble_eq_true rfl⟩ rfl rfl (Nat.le_of_ble_eq_true rfl) dX6_useMemory_115 ⟨Nat.zero_le _, Nat.zero_le _⟩ (fun H locs e0 G => ?_)
      refine lv_goto (tgt := 137) hx hb dX6_useMemory_118 (by decide) ?_
      exact rt_vC C G hf dX6_useMemory_137
  · replace hf := if_p hf c12
    refine lv_aload_n hx hb dX6_useMemory_88 rfl (lv_at hl 2 rfl) ?_
    refine fg_Sr_activity hx hb hts hown hK G (hts _ lk_X6_19) dX6_useMemory_89 ?_
    refine lv_iconst (v := 4) hx hb dX6_useMemory_92 (by decide) ?_
    obtain ⟨st18, hst18, hf⟩ := bv_some hf
    refine cl_vvC C hl G (As := [.int 4]) (rest := []) (kx_Ac_fail l D k h 4 st10 _ hst18) gi_X6_89 (hwC_4 ..) rfl hd_X0_fail ⟨Nat.le_of_ble_eq_true rfl, Nat.le_of_ble_eq_true rfl⟩ rfl rfl (Nat.le_of_ble_eq_true rfl) dX6_useMemory_93 ⟨Nat.zero_le _, Nat.zero_le _⟩ (fun H locs e0 G => ?_)
    refine lv_goto (tgt := 137) hx hb dX6_useMemory_96 (by decide) ?_
    exact rt_vC C G hf dX6_useMemory_137
set_option maxHeartbeats 4000000 in
set_option maxRecDepth 100000 in
theorem kx_Sr_useMemory (l : Launch) (D : va_G) (k : Nat → Nat × ClassId) (h : Nat → Nat) (N : Nat) (p1 : Int32) (p2 : Int32) (p3 : Int32) (st : rs_T) (s' : rs_T) (hf : fx_Sr_useMemory N p1 p2 p3 st = some s') : mVC l D k h yX6_useMemory cX6_useMemory 8 rm_Sr_useMemory [.ref (h 7), .int p1, .int p2, .int p3] st s' := by
  refine mVC_of (by decide) ⟨rfl, rfl⟩ (Nat.le_of_ble_eq_true rfl) ?_
  intro p e s m below meth c ls C hl G
  obtain ⟨hx, hb, hml, hr, hown, hts, hK, hN, hlk⟩ := id C
  have hown : s.vm.findClass RX6 = some m.cls := hown
  have hl : lv_has ls 8 [(0, .ref (h 7)), (1, .int p1), (2, .int p2), (3, .int p3)] := hl
  unfold fx_Sr_useMemory at hf
  refine lv_iload_n hx hb dX6_useMemory_0 rfl (lv_at hl 2 rfl) ?_
  refine lv_bipush (v := 63) hx hb dX6_useMemory_1 (by decide) ?_
  refine lv_icmp_ne (tgt := 20) hx hb dX6_useMemory_3 (by decide) (fun c1 => ?_) (fun c1 => ?_)
  · replace hf := if_n hf c1
    refine lv_iload_n hx hb dX6_useMemory_20 rfl (lv_at hl 2 rfl) ?_
    refine lv_bipush (v := 64) hx hb dX6_useMemory_21 (by decide) ?_
    refine lv_icmp_ne (tgt := 44) hx hb dX6_useMemory_23 (by decide) (fun c2 => ?_) (fun c2 => ?_)
    · replace hf := if_n hf c2
      refine lv_iload_n hx hb dX6_useMemory_44 rfl (lv_at hl 2 rfl) ?_
      refine lv_bipush (v := 54) hx hb dX6_useMemory_45 (by decide) ?_
      refine lv_icmp_lt (tgt := 58) hx hb dX6_useMemory_47 (by decide) (fun c3 => ?_) (fun c3 => ?_)
      · replace hf := if_p hf c3
        refine lv_lconst (v := 0) hx hb dX6_useMemory_58 (by decide) ?_
        exact kx_Sr_useMemory_b59 C N p1 p2 p3 0 st _ hf _ _ _ (lv_sub hl [0, 1, 2, 3] rfl) G
      · replace hf := if_n hf c3
        refine lv_aload_n hx hb dX6_useMemory_50 rfl (lv_at hl 0 rfl) ?_
        refine lv_iload_n hx hb dX6_useMemory_51 rfl (lv_at hl 1 rfl) ?_
        obtain ⟨r20, st19, hst19, hf⟩ := bn_some hf
        refine cl_vlC C hl G (As := [.int p1]) (rest := []) (kx_Sr_pop l D k h p1 st _ _ hst19) gi_X6_82 (hwC_7 ..) rfl hd_X6_pop ⟨Nat.le_of_ble_eq_true rfl, Nat.le_of_ble_eq_true rfl⟩ rfl rfl (Nat.le_of_ble_eq_true rfl) dX6_useMemory_52 ⟨Nat.zero_le _, Nat.zero_le _⟩ (fun H locs e0 G => ?_)
        refine lv_goto (tgt := 59) hx hb dX6_useMemory_55 (by decide) ?_
        exact kx_Sr_useMemory_b59 C N p1 p2 p3 r20 st19 _ hf _ _ _ (lv_sub hl [0, 1, 2, 3] rfl) G
    · replace hf := if_p hf c2
      refine lv_aload_n hx hb dX6_useMemory_26 rfl (lv_at hl 0 rfl) ?_
      refine lv_iload_n hx hb dX6_useMemory_27 rfl (lv_at hl 1 rfl) ?_
      refine lv_aload_n hx hb dX6_useMemory_28 rfl (lv_at hl 0 rfl) ?_
      refine fg_Sr_world hx hb hts hown hK G (hts _ lk_X6_15) dX6_useMemory_29 ?_
      refine lv_aload_n hx hb dX6_useMemory_32 rfl (lv_at hl 0 rfl) ?_
      refine lv_iload_n hx hb dX6_useMemory_33 rfl (lv_at hl 1 rfl) ?_
      obtain ⟨r22, st21, hst21, hf⟩ := bn_some hf
      refine cl_vlC C hl G (As := [.int p1]) (rest := [.ref (h 3), .int p1, .ref (h 7)]) (kx_Sr_pop l D k h p1 st _ _ hst21) gi_X6_82 (hwC_7 ..) rfl hd_X6_pop ⟨Nat.le_of_ble_eq_true rfl, Nat.le_of_ble_eq_true rfl⟩ rfl rfl (Nat.le_of_ble_eq_true rfl) dX6_useMemory_34 ⟨Nat.zero_le _, Nat.zero_le _⟩ (fun H locs e0 G => ?_)
      obtain ⟨r24, st23, hst23, hf⟩ := bn_some hf
      refine cl_vlC C hl G (As := [.long r22]) (rest := [.int p1, .ref (h 7)]) (kx_Wo_grow l D k h r22 st21 _ _ hst23) gi_X6_101 (hwC_3 ..) rfl hd_X7_grow ⟨Nat.le_of_ble_eq_true rfl, Nat.le_of_ble_eq_true rfl⟩ rfl rfl (Nat.le_of_ble_eq_true rfl) dX6_useMemory_37 ⟨Nat.zero_le _, Nat.zero_le _⟩ (fun H locs e0 G => ?_)
      obtain ⟨st25, hst25, hf⟩ := bv_some hf
      refine cl_vvC C hl G (As := [.int p1, .long r24]) (rest := []) (kx_Sr_push l D k h p1 r24 st23 _ hst25) gi_X6_60 (hwC_7 ..) rfl hd_X6_push ⟨Nat.le_of_ble_eq_true rfl, Nat.le_of_ble_eq_true rfl⟩ rfl rfl (Nat.le_of_ble_eq_true rfl) dX6_useMemory_40 ⟨Nat.zero_le _, Nat.zero_le _⟩ (fun H locs e0 G => ?_)
      exact rt_vC C G hf dX6_useMemory_43
  · replace hf := if_p hf c1
    refine lv_aload_n hx hb dX6_useMemory_6 rfl (lv_at hl 0 rfl) ?_
    refine lv_iload_n hx hb dX6_useMemory_7 rfl (lv_at hl 1 rfl) ?_
    refine lv_aload_n hx hb dX6_useMemory_8 rfl (lv_at hl 0 rfl) ?_
    refine fg_Sr_world hx hb hts hown hK G (hts _ lk_X6_15) dX6_useMemory_9 ?_
    refine fg_Wo_pages (v := rI st 9) hx hb hts hown hK G (hts _ lk_X6_96) rfl dX6_useMemory_12 ?_
    refine lv_i2l (v := (rI st 9).toInt64) hx hb dX6_useMemory_15 rfl ?_
    obtain ⟨st26, hst26, hf⟩ := bv_some hf
    refine cl_vvC C hl G (As := [.int p1, .long ((rI st 9).toInt64)]) (rest := []) (kx_Sr_push l D k h p1 ((rI st 9).toInt64) st _ hst26) gi_X6_60 (hwC_7 ..) rfl hd_X6_push ⟨Nat.le_of_ble_eq_true rfl, Nat.le_of_ble_eq_true rfl⟩ rfl rfl (Nat.le_of_ble_eq_true rfl) dX6_useMemory_16 ⟨Nat.zero_le _, Nat.zero_le _⟩ (fun H locs e0 G => ?_)
    exact rt_vC C G hf dX6_useMemory_19
def rm_Sr_operate : Room := { frames := 2, cells := 0, slots := 0, locals := 46 }
set_option maxHeartbeats 4000000 in
set_option maxRecDepth 100000 in
theorem kx_Sr_operate_b17 {p : Program} {l : Launch} {e : Env} {s : State} {m : MethodId} {args : Array Value} {below : List Frame} {meth : Method} {c : Code} {D : va_G} {h : Nat → Nat} {E : Nat → Nat} {k : Nat → Nat × ClassId} (C : cxC D k p s m args meth c cX6_operate 7 none RX6) (x1 : Int32) (x2 : Int32) (y0 : Int64) (st : rs_T) (s' : rs_T) (hf : fx_Sr_operate_b17 x1 x2 y0 st = some s') : ∀ (H : Heap) (locs : List Loc) (ls : Array Slot), lv_has ls 7 [(0, .ref (h 7)), (1, .int x1), (2, .int x2)] → gdC D k h (vE E) (arC k h s.heap.size) s.heap H locs st → W p l e rm_Sr_operate s m args below meth c H locs 0 0 (MQ below (qVC D k h E s.heap.size s') args s 0 0 (arC k h s.heap.size)) (F0 m 17 ls [.long y0]) := by
  obtain ⟨hx, hb, hml, hr, hown, hts, hK, hN, hlk⟩ := id C
  intro H locs ls hl G
  unfold fx_Sr_operate_b17 at hf
  refine lv_lstore_n (lv' := [(3, .long y0), (0, .ref (h 7)), (1, .int x1), (2, .int x2)]) hx hb dX6_operate_17 rfl hl (by decide) rfl (fun ls hl => ?_)
  refine lv_aload_n hx hb dX6_operate_18 rfl (lv_at hl 1 rfl) ?_
  refine lv_iload_n hx hb dX6_operate_19 rfl (lv_at hl 2 rfl) ?_
  obtain ⟨r5, st4, hst4, hf⟩ := bn_some hf
  refine cl_vlC C hl G (As := [.int x1]) (rest := []) (kx_Sr_pop l D k h x1 st _ _ hst4) gi_X6_82 (hwC_7 ..) rfl hd_X6_pop ⟨Nat.le_of_ble_eq_true rfl, Nat.le_of_ble_eq_true rfl⟩ rfl rfl (Nat.le_of_ble_eq_true rfl) dX6_operate_20 ⟨Nat.zero_le _, Nat.zero_le _⟩ (fun H locs e0 G => ?_)
  refine lv_lstore (lv' := [(5, .long r5), (3, .long y0), (0, .ref (h 7)), (1, .int x1), (2, .int x2)]) hx hb dX6_operate_23 hl (by decide) rfl (fun ls hl => ?_)
  refine lv_iload_n hx hb dX6_operate_25 rfl (lv_at hl 4 rfl) ?_
  refine lv_lload_n hx hb dX6_operate_26 rfl (lv_at hl 1 rfl) ?_
  obtain ⟨r7, st6, hst6, hf⟩ := bn_some hf
  refine cl_siC C hl G (As := [.int x2, .long y0]) (rest := []) (kx_Op_dividesByZero l D k h x2 y0 st4 _ _ hst6) gi_X6_85 hd_X2_dividesByZero ⟨Nat.le_of_ble_eq_true rfl, Nat.le_of_ble_eq_true rfl⟩ rfl rfl (Nat.le_of_ble_eq_true rfl) dX6_operate_27 ⟨Nat.zero_le _, Nat.zero_le _⟩ (fun H locs e0 G => ?_)
  refine lv_if_eq (tgt := 43) hx hb dX6_operate_30 (by decide) (fun c8 => ?_) (fun c8 => ?_)
  · replace hf := if_p hf c8
    refine lv_aload_n hx hb dX6_operate_43 rfl (lv_at hl 2 rfl) ?_
    refine lv_iload_n hx hb dX6_operate_44 rfl (lv_at hl 3 rfl) ?_
    refine lv_iload_n hx hb dX6_operate_45 rfl (lv_at hl 4 rfl) ?_
    refine lv_lload hx hb dX6_operate_46 (lv_at hl 0 rfl) ?_
    refine lv_lload_n hx hb dX6_operate_48 rfl (lv_at hl 1 rfl) ?_
    obtain ⟨r10, st9, hst9, hf⟩ := bn_some hf
    refine cl_slC C hl G (As := [.int x2, .long r5, .long y0]) (rest := [.int x1, .ref (h 7)]) (kx_Op_compute l D k h x2 r5 y0 st6 _ _ hst9) gi_X6_92 hd_X2_compute ⟨Nat.le_of_ble_eq_true rfl, Nat.le_of_ble_eq_true rfl⟩ rfl rfl (Nat.le_of_ble_eq_true rfl) dX6_operate_49 ⟨Nat.zero_le _, Nat.zero_le _⟩ (fun H locs e0 G => ?_)
    obtain ⟨st11, hst11, hf⟩ := bv_some hf
    refine cl_vvC C hl G (As := [.int x1, .long r10]) (rest := []) (kx_Sr_push l D k h x1 r10 st9 _ hst11) gi_X6_60 (hwC_7 ..) rfl hd_X6_push ⟨Nat.le_of_ble_eq_true rfl, Nat.le_of_ble_eq_true rfl⟩ rfl rfl (Nat.le_of_ble_eq_true rfl) dX6_operate_52 ⟨Nat.zero_le _, Nat.zero_le _⟩ (fun H locs e0 G => ?_)
    exact rt_vC C G hf dX6_operate_55
  · replace hf := if_n hf c8
    refine lv_aload_n hx hb dX6_operate_33 rfl (lv_at hl 2 rfl) ?_
    refine fg_Sr_activity hx hb hts hown hK G (hts _ lk_X6_19) dX6_operate_34 ?_
    refine lv_bipush (v := 11) hx hb dX6_operate_37 (by decide) ?_
    obtain ⟨st12, hst12, hf⟩ := bv_some hf
    refine cl_vvC C hl G (As := [.int 11]) (rest := []) (kx_Ac_fail l D k h 11 st6 _ hst12) gi_X6_89 (hwC_4 ..) rfl hd_X0_fail ⟨Nat.le_of_ble_eq_true rfl, Nat.le_of_ble_eq_true rfl⟩ rfl rfl (Nat.le_of_ble_eq_true rfl) dX6_operate_39 ⟨Nat.zero_le _, Nat.zero_le _⟩ (fun H locs e0 G => ?_)
    exact rt_vC C G hf dX6_operate_42
set_option maxHeartbeats 4000000 in
set_option maxRecDepth 100000 in
theorem kx_Sr_operate (l : Launch) (D : va_G) (k : Nat → Nat × ClassId) (h : Nat → Nat) (p1 : Int32) (p2 : Int32) (st : rs_T) (s' : rs_T) (hf : fx_Sr_operate p1 p2 st = some s') : mVC l D k h yX6_operate cX6_operate 7 rm_Sr_operate [.ref (h 7), .int p1, .int p2] st s' := by
  refine mVC_of (by decide) ⟨rfl, rfl⟩ (Nat.le_of_ble_eq_true rfl) ?_
  intro p e s m below meth c ls C hl G
  obtain ⟨hx, hb, hml, hr, hown, hts, hK, hN, hlk⟩ := id C
  have hown : s.vm.findClass RX6 = some m.cls := hown
  have hl : lv_has ls 7 [(0, .ref (h 7)), (1, .int p1), (2, .int p2)] := hl
  unfold fx_Sr_operate at hf
  refine lv_iload_n hx hb dX6_operate_0 rfl (lv_at hl 2 rfl) ?_
  obtain ⟨r2, st1, hst1, hf⟩ := bn_some hf
  refine cl_siC C hl G (As := [.int p2]) (rest := []) (kx_Op_operatorTakes l D k h p2 st _ _ hst1) gi_X6_77 hd_X2_operatorTakes ⟨Nat.le_of_ble_eq_true rfl, Nat.le_of_ble_eq_true rfl⟩ rfl rfl (Nat.le_of_ble_eq_true rfl) dX6_operate_1 ⟨Nat.zero_le _, Nat.zero_le _⟩ (fun H locs e0 G => ?_)
  refine lv_iconst (v := 2) hx hb dX6_operate_4 (by decide) ?_
  refine lv_icmp_ne (tgt := 16) hx hb dX6_operate_5 (by decide) (fun c3 => ?_) (fun c3 => ?_)
  · replace hf := if_n hf c3
    refine lv_lconst (v := 0) hx hb dX6_operate_16 (by decide) ?_
    exact kx_Sr_operate_b17 C p1 p2 0 st1 _ hf _ _ _ (lv_sub hl [0, 1, 2] rfl) G
  · replace hf := if_p hf c3
    refine lv_aload_n hx hb dX6_operate_8 rfl (lv_at hl 0 rfl) ?_
    refine lv_iload_n hx hb dX6_operate_9 rfl (lv_at hl 1 rfl) ?_
    obtain ⟨r14, st13, hst13, hf⟩ := bn_some hf
    refine cl_vlC C hl G (As := [.int p1]) (rest := []) (kx_Sr_pop l D k h p1 st1 _ _ hst13) gi_X6_82 (hwC_7 ..) rfl hd_X6_pop ⟨Nat.le_of_ble_eq_true rfl, Nat.le_of_ble_eq_true rfl⟩ rfl rfl (Nat.le_of_ble_eq_true rfl) dX6_operate_10 ⟨Nat.zero_le _, Nat.zero_le _⟩ (fun H locs e0 G => ?_)
    refine lv_goto (tgt := 17) hx hb dX6_operate_13 (by decide) ?_
    exact kx_Sr_operate_b17 C p1 p2 r14 st13 _ hf _ _ _ (lv_sub hl [0, 1, 2] rfl) G
def rm_Sr_perform : Room := { frames := 5, cells := 0, slots := 0, locals := 117 }
set_option maxHeartbeats 4000000 in
set_option maxRecDepth 100000 in
theorem kx_Sr_perform (l : Launch) (D : va_G) (k : Nat → Nat × ClassId) (h : Nat → Nat) (N : Nat) (st : rs_T) (s' : rs_T) (hf : fx_Sr_perform N st = some s') : mVC l D k h yX6_perform cX6_perform 4 rm_Sr_perform [.ref (h 7)] st s' := by
  refine mVC_of (by decide) ⟨rfl, rfl⟩ (Nat.le_of_ble_eq_true rfl) ?_
  intro p e s m below meth c ls C hl G
  obtain ⟨hx, hb, hml, hr, hown, hts, hK, hN, hlk⟩ := id C
  have hown : s.vm.findClass RX6 = some m.cls := hown
  have hl : lv_has ls 4 [(0, .ref (h 7))] := hl
  unfold fx_Sr_perform at hf
  refine lv_aload_n hx hb dX6_perform_0 rfl (lv_at hl 0 rfl) ?_
  refine fg_Sr_activity hx hb hts hown hK G (hts _ lk_X6_19) dX6_perform_1 ?_
  refine lv_aload_n hx hb dX6_perform_4 rfl (lv_at hl 0 rfl) ?_
  refine fg_Sr_program hx hb hts hown hK G (hts _ lk_X6_9) dX6_perform_5 ?_
  refine fg_Pr_size (v := rI st 4) hx hb hts hown hK G (hts _ lk_X6_23) rfl dX6_perform_8 ?_
  obtain ⟨r2, st1, hst1, hf⟩ := bn_some hf
  refine cl_viC C hl G (As := [.int (rI st 4)]) (rest := []) (kx_Ac_nextWithin l D k h (rI st 4) st _ _ hst1) gi_X6_29 (hwC_4 ..) rfl hd_X0_nextWithin ⟨Nat.le_of_ble_eq_true rfl, Nat.le_of_ble_eq_true rfl⟩ rfl rfl (Nat.le_of_ble_eq_true rfl) dX6_perform_11 ⟨Nat.zero_le _, Nat.zero_le _⟩ (fun H locs e0 G => ?_)
  refine lv_istore_n (lv' := [(1, .int r2), (0, .ref (h 7))]) hx hb dX6_perform_14 rfl hl (by decide) rfl (fun ls hl => ?_)
  refine lv_iload_n hx hb dX6_perform_15 rfl (lv_at hl 0 rfl) ?_
  refine lv_iconst (v := (-1)) hx hb dX6_perform_16 (by decide) ?_
  refine lv_icmp_ne (tgt := 21) hx hb dX6_perform_17 (by decide) (fun c3 => ?_) (fun c3 => ?_)
  · replace hf := if_n hf c3
    refine lv_aload_n hx hb dX6_perform_21 rfl (lv_at hl 1 rfl) ?_
    refine fg_Sr_activity hx hb hts hown hK G (hts _ lk_X6_19) dX6_perform_22 ?_
    refine fg_Ac_frames (v := rI st1 14) hx hb hts hown hK G (hts _ lk_X6_35) rfl dX6_perform_25 ?_
    refine lv_iconst (v := 1) hx hb dX6_perform_28 (by decide) ?_
    refine lv_isub hx hb dX6_perform_29 ?_
    refine lv_topi (fun v4 e_v4 => ?_)
    replace hf := bd_some hf v4 e_v4
    refine lv_istore_n (lv' := [(2, .int v4), (1, .int r2), (0, .ref (h 7))]) hx hb dX6_perform_30 rfl hl (by decide) rfl (fun ls hl => ?_)
    refine lv_aload_n hx hb dX6_perform_31 rfl (lv_at hl 2 rfl) ?_
    refine fg_Sr_program hx hb hts hown hK G (hts _ lk_X6_9) dX6_perform_32 ?_
    refine fg_Pr_operation hx hb hts hown hK G (hts _ lk_X6_38) dX6_perform_35 ?_
    refine lv_iload_n hx hb dX6_perform_38 rfl (lv_at hl 1 rfl) ?_
    obtain ⟨h_g5, hf⟩ := gd_some hf
    refine ra_IC (v := rA st1 7 r2.toNatClampNeg) hx hb hK G (waC_17 ..) (t0 := 8) rfl rfl h_g5 dX6_perform_39 ?_
    refine lv_topi (fun v6 e_v6 => ?_)
    replace hf := bd_some hf v6 e_v6
    refine lv_istore_n (lv' := [(3, .int v6), (2, .int v4), (1, .int r2), (0, .ref (h 7))]) hx hb dX6_perform_40 rfl hl (by decide) rfl (fun ls hl => ?_)
    refine lv_aload_n hx hb dX6_perform_41 rfl (lv_at hl 3 rfl) ?_
    refine fg_Sr_activity hx hb hts hown hK G (hts _ lk_X6_19) dX6_perform_42 ?_
    refine fg_Ac_next hx hb hts hown hK G (hts _ lk_X6_42) dX6_perform_45 ?_
    refine lv_iload_n hx hb dX6_perform_48 rfl (lv_at hl 1 rfl) ?_
    refine lv_iload_n hx hb dX6_perform_49 rfl (lv_at hl 2 rfl) ?_
    refine lv_iconst (v := 1) hx hb dX6_perform_50 (by decide) ?_
    refine lv_iadd hx hb dX6_perform_51 ?_
    obtain ⟨h_g7, hf⟩ := gd_some hf
    refine rw_IC hx hb hK G (waC_29 ..) (t0 := 20) rfl (wsC_29 ..) (zw_29 h_g7) rfl h_g7 dX6_perform_52 (fun H locs G => ?_)
    refine lv_iload_n hx hb dX6_perform_53 rfl (lv_at hl 0 rfl) ?_
    refine lv_bipush (v := 69) hx hb dX6_perform_54 (by decide) ?_
    refine lv_icmp_lt (tgt := 68) hx hb dX6_perform_56 (by decide) (fun c8 => ?_) (fun c8 => ?_)
    · replace hf := if_p hf c8
      refine lv_iload_n hx hb dX6_perform_68 rfl (lv_at hl 0 rfl) ?_
      refine lv_bipush (v := 65) hx hb dX6_perform_69 (by decide) ?_
      refine lv_icmp_lt (tgt := 90) hx hb dX6_perform_71 (by decide) (fun c9 => ?_) (fun c9 => ?_)
      · replace hf := if_p hf c9
        refine lv_iload_n hx hb dX6_perform_90 rfl (lv_at hl 0 rfl) ?_
        refine lv_bipush (v := 40) hx hb dX6_perform_91 (by decide) ?_
        refine lv_icmp_lt (tgt := 114) hx hb dX6_perform_93 (by decide) (fun c10 => ?_) (fun c10 => ?_)
        · replace hf := if_p hf c10
          refine lv_iload_n hx hb dX6_perform_114 rfl (lv_at hl 0 rfl) ?_
          refine lv_bipush (v := 26) hx hb dX6_perform_115 (by decide) ?_
          refine lv_icmp_lt (tgt := 138) hx hb dX6_perform_117 (by decide) (fun c11 => ?_) (fun c11 => ?_)
          · replace hf := if_p hf c11
            refine lv_aload_n hx hb dX6_perform_138 rfl (lv_at hl 3 rfl) ?_
            refine lv_iload_n hx hb dX6_perform_139 rfl (lv_at hl 1 rfl) ?_
            refine lv_iload_n hx hb dX6_perform_140 rfl (lv_at hl 0 rfl) ?_
            refine lv_iload_n hx hb dX6_perform_141 rfl (lv_at hl 2 rfl) ?_
            obtain ⟨st12, hst12, hf⟩ := bv_some hf
            refine cl_vvC C hl G (As := [.int v4, .int v6, .int r2]) (rest := []) (kx_Sr_control l D k h N v4 v6 r2 (wA st1 18 v4.toNatClampNeg (r2 + 1)) _ hst12) gi_X6_74 (hwC_7 ..) rfl hd_X6_control ⟨Nat.le_of_ble_eq_true rfl, Nat.le_of_ble_eq_true rfl⟩ rfl rfl (Nat.le_of_ble_eq_true rfl) dX6_perform_142 ⟨Nat.zero_le _, Nat.zero_le _⟩ (fun H locs e0 G => ?_)
            exact rt_vC C G hf dX6_perform_145
          · replace hf := if_n hf c11
            refine lv_aload_n hx hb dX6_perform_120 rfl (lv_at hl 3 rfl) ?_
            refine lv_iload_n hx hb dX6_perform_121 rfl (lv_at hl 1 rfl) ?_
            refine lv_iload_n hx hb dX6_perform_122 rfl (lv_at hl 0 rfl) ?_
            refine lv_aload_n hx hb dX6_perform_123 rfl (lv_at hl 3 rfl) ?_
            refine fg_Sr_program hx hb hts hown hK G (hts _ lk_X6_9) dX6_perform_124 ?_
            refine fg_Pr_a hx hb hts hown hK G (hts _ lk_X6_64) dX6_perform_127 ?_
            refine lv_iload_n hx hb dX6_perform_130 rfl (lv_at hl 2 rfl) ?_
            obtain ⟨h_g13, hf⟩ := gd_some hf
            refine ra_IC (v := rA st1 8 r2.toNatClampNeg) hx hb hK G (waC_18 ..) (t0 := 9) rfl rfl h_g13 dX6_perform_131 ?_
            obtain ⟨st14, hst14, hf⟩ := bv_some hf
            refine cl_vvC C hl G (As := [.int v4, .int v6, .int (rA st1 8 r2.toNatClampNeg)]) (rest := []) (kx_Sr_useVariable l D k h v4 v6 (rA st1 8 r2.toNatClampNeg) (wA st1 18 v4.toNatClampNeg (r2 + 1)) _ hst14) gi_X6_71 (hwC_7 ..) rfl hd_X6_useVariable ⟨Nat.le_of_ble_eq_true rfl, Nat.le_of_ble_eq_true rfl⟩ rfl rfl (Nat.le_of_ble_eq_true rfl) dX6_perform_132 ⟨Nat.zero_le _, Nat.zero_le _⟩ (fun H locs e0 G => ?_)
            refine lv_goto (tgt := 145) hx hb dX6_perform_135 (by decide) ?_
            exact rt_vC C G hf dX6_perform_145
        · replace hf := if_n hf c10
          refine lv_aload_n hx hb dX6_perform_96 rfl (lv_at hl 3 rfl) ?_
          refine lv_iload_n hx hb dX6_perform_97 rfl (lv_at hl 1 rfl) ?_
          refine lv_iload_n hx hb dX6_perform_98 rfl (lv_at hl 0 rfl) ?_
          refine lv_aload_n hx hb dX6_perform_99 rfl (lv_at hl 3 rfl) ?_
          refine fg_Sr_program hx hb hts hown hK G (hts _ lk_X6_9) dX6_perform_100 ?_
          refine fg_Pr_a hx hb hts hown hK G (hts _ lk_X6_64) dX6_perform_103 ?_
          refine lv_iload_n hx hb dX6_perform_106 rfl (lv_at hl 2 rfl) ?_
          obtain ⟨h_g15, hf⟩ := gd_some hf
          refine ra_IC (v := rA st1 8 r2.toNatClampNeg) hx hb hK G (waC_18 ..) (t0 := 9) rfl rfl h_g15 dX6_perform_107 ?_
          obtain ⟨st16, hst16, hf⟩ := bv_some hf
          refine cl_vvC C hl G (As := [.int v4, .int v6, .int (rA st1 8 r2.toNatClampNeg)]) (rest := []) (kx_Sr_useMemory l D k h N v4 v6 (rA st1 8 r2.toNatClampNeg) (wA st1 18 v4.toNatClampNeg (r2 + 1)) _ hst16) gi_X6_67 (hwC_7 ..) rfl hd_X6_useMemory ⟨Nat.le_of_ble_eq_true rfl, Nat.le_of_ble_eq_true rfl⟩ rfl rfl (Nat.le_of_ble_eq_true rfl) dX6_perform_108 ⟨Nat.zero_le _, Nat.zero_le _⟩ (fun H locs e0 G => ?_)
          refine lv_goto (tgt := 145) hx hb dX6_perform_111 (by decide) ?_
          exact rt_vC C G hf dX6_perform_145
      · replace hf := if_n hf c9
        refine lv_aload_n hx hb dX6_perform_74 rfl (lv_at hl 3 rfl) ?_
        refine lv_iload_n hx hb dX6_perform_75 rfl (lv_at hl 1 rfl) ?_
        refine lv_aload_n hx hb dX6_perform_76 rfl (lv_at hl 3 rfl) ?_
        refine fg_Sr_program hx hb hts hown hK G (hts _ lk_X6_9) dX6_perform_77 ?_
        refine lv_iload_n hx hb dX6_perform_80 rfl (lv_at hl 2 rfl) ?_
        obtain ⟨r18, st17, hst17, hf⟩ := bn_some hf
        refine cl_vlC C hl G (As := [.int r2]) (rest := [.int v4, .ref (h 7)]) (kx_Pr_constant l D k h r2 (wA st1 18 v4.toNatClampNeg (r2 + 1)) _ _ hst17) gi_X6_56 (hwC_1 ..) rfl hd_X3_constant ⟨Nat.le_of_ble_eq_true rfl, Nat.le_of_ble_eq_true rfl⟩ rfl rfl (Nat.le_of_ble_eq_true rfl) dX6_perform_81 ⟨Nat.zero_le _, Nat.zero_le _⟩ (fun H locs e0 G => ?_)
        obtain ⟨st19, hst19, hf⟩ := bv_some hf
        refine cl_vvC C hl G (As := [.int v4, .long r18]) (rest := []) (kx_Sr_push l D k h v4 r18 st17 _ hst19) gi_X6_60 (hwC_7 ..) rfl hd_X6_push ⟨Nat.le_of_ble_eq_true rfl, Nat.le_of_ble_eq_true rfl⟩ rfl rfl (Nat.le_of_ble_eq_true rfl) dX6_perform_84 ⟨Nat.zero_le _, Nat.zero_le _⟩ (fun H locs e0 G => ?_)
        refine lv_goto (tgt := 145) hx hb dX6_perform_87 (by decide) ?_
        exact rt_vC C G hf dX6_perform_145
    · replace hf := if_n hf c8
      refine lv_aload_n hx hb dX6_perform_59 rfl (lv_at hl 3 rfl) ?_
      refine lv_iload_n hx hb dX6_perform_60 rfl (lv_at hl 1 rfl) ?_
      refine lv_iload_n hx hb dX6_perform_61 rfl (lv_at hl 0 rfl) ?_
      obtain ⟨st20, hst20, hf⟩ := bv_some hf
      refine cl_vvC C hl G (As := [.int v4, .int v6]) (rest := []) (kx_Sr_operate l D k h v4 v6 (wA st1 18 v4.toNatClampNeg (r2 + 1)) _ hst20) gi_X6_52 (hwC_7 ..) rfl hd_X6_operate ⟨Nat.le_of_ble_eq_true rfl, Nat.le_of_ble_eq_true rfl⟩ rfl rfl (Nat.le_of_ble_eq_true rfl) dX6_perform_62 ⟨Nat.zero_le _, Nat.zero_le _⟩ (fun H locs e0 G => ?_)
      refine lv_goto (tgt := 145) hx hb dX6_perform_65 (by decide) ?_
      exact rt_vC C G hf dX6_perform_145
  · replace hf := if_p hf c3
    exact rt_vC C G hf dX6_perform_20
def rm_Rr_payStep : Room := { frames := 5, cells := 0, slots := 0, locals := 119 }
set_option maxHeartbeats 4000000 in
set_option maxRecDepth 100000 in
theorem kx_Rr_payStep (l : Launch) (D : va_G) (k : Nat → Nat × ClassId) (h : Nat → Nat) (N : Nat) (st : rs_T) (s' : rs_T) (hf : fx_Rr_payStep N st = some s') : mVC l D k h yX5_payStep cX5_payStep 2 rm_Rr_payStep [.ref (h 8)] st s' := by
  refine mVC_of (by decide) ⟨rfl, rfl⟩ (Nat.le_of_ble_eq_true rfl) ?_
  intro p e s m below meth c ls C hl G
  obtain ⟨hx, hb, hml, hr, hown, hts, hK, hN, hlk⟩ := id C
  have hown : s.vm.findClass RX5 = some m.cls := hown
  have hl : lv_has ls 2 [(0, .ref (h 8))] := hl
  unfold fx_Rr_payStep at hf
  refine lv_aload_n hx hb dX5_payStep_0 rfl (lv_at hl 0 rfl) ?_
  refine fg_Rr_activity hx hb hts hown hK G (hts _ lk_X5_23) dX5_payStep_1 ?_
  refine lv_aload_n hx hb dX5_payStep_4 rfl (lv_at hl 0 rfl) ?_
  refine fg_Rr_code hx hb hts hown hK G (hts _ lk_X5_15) dX5_payStep_5 ?_
  refine fg_Rc_size (v := rI st 19) hx hb hts hown hK G (hts _ lk_X5_27) rfl dX5_payStep_8 ?_
  obtain ⟨r2, st1, hst1, hf⟩ := bn_some hf
  refine cl_viC C hl G (As := [.int (rI st 19)]) (rest := []) (kx_Ac_nextWithin l D k h (rI st 19) st _ _ hst1) gi_X5_33 (hwC_4 ..) rfl hd_X0_nextWithin ⟨Nat.le_of_ble_eq_true rfl, Nat.le_of_ble_eq_true rfl⟩ rfl rfl (Nat.le_of_ble_eq_true rfl) dX5_payStep_11 ⟨Nat.zero_le _, Nat.zero_le _⟩ (fun H locs e0 G => ?_)
  refine lv_istore_n (lv' := [(1, .int r2), (0, .ref (h 8))]) hx hb dX5_payStep_14 rfl hl (by decide) rfl (fun ls hl => ?_)
  refine lv_iload_n hx hb dX5_payStep_15 rfl (lv_at hl 0 rfl) ?_
  refine lv_iconst (v := (-1)) hx hb dX5_payStep_16 (by decide) ?_
  refine lv_icmp_ne (tgt := 21) hx hb dX5_payStep_17 (by decide) (fun c3 => ?_) (fun c3 => ?_)
  · replace hf := if_n hf c3
    refine lv_aload_n hx hb dX5_payStep_21 rfl (lv_at hl 1 rfl) ?_
    refine fg_Rr_activity hx hb hts hown hK G (hts _ lk_X5_23) dX5_payStep_22 ?_
    refine lv_dup hx hb dX5_payStep_25 rfl ?_
    refine fg_Ac_paid (v := rI st1 17) hx hb hts hown hK G (hts _ lk_X5_39) rfl dX5_payStep_26 ?_
    refine lv_iconst (v := 1) hx hb dX5_payStep_29 (by decide) ?_
    refine lv_iadd hx hb dX5_payStep_30 ?_
    refine fp_Ac_paid hx hb hts hown hK G (hts _ lk_X5_39) dX5_payStep_31 (fun H locs G => ?_)
    refine lv_aload_n hx hb dX5_payStep_34 rfl (lv_at hl 1 rfl) ?_
    refine fg_Rr_activity hx hb hts hown hK G (hts _ lk_X5_23) dX5_payStep_35 ?_
    refine fg_Ac_paid (v := (rI st1 17) + 1) hx hb hts hown hK G (hts _ lk_X5_39) rfl dX5_payStep_38 ?_
    refine lv_aload_n hx hb dX5_payStep_41 rfl (lv_at hl 1 rfl) ?_
    refine fg_Rr_code hx hb hts hown hK G (hts _ lk_X5_15) dX5_payStep_42 ?_
    refine fg_Rc_weight hx hb hts hown hK G (hts _ lk_X5_42) dX5_payStep_45 ?_
    refine lv_iload_n hx hb dX5_payStep_48 rfl (lv_at hl 0 rfl) ?_
    obtain ⟨h_g4, hf⟩ := gd_some hf
    refine ra_IC (v := rA st1 24 r2.toNatClampNeg) hx hb hK G (waC_37 ..) (t0 := 28) rfl rfl h_g4 dX5_payStep_49 ?_
    refine lv_icmp_lt (tgt := 66) hx hb dX5_payStep_50 (by decide) (fun c5 => ?_) (fun c5 => ?_)
    · replace hf := if_p hf c5
      exact rt_vC C G hf dX5_payStep_66
    · replace hf := if_n hf c5
      refine lv_aload_n hx hb dX5_payStep_53 rfl (lv_at hl 1 rfl) ?_
      refine fg_Rr_activity hx hb hts hown hK G (hts _ lk_X5_23) dX5_payStep_54 ?_
      refine lv_iconst (v := 0) hx hb dX5_payStep_57 (by decide) ?_
      refine fp_Ac_paid hx hb hts hown hK G (hts _ lk_X5_39) dX5_payStep_58 (fun H locs G => ?_)
      refine lv_aload_n hx hb dX5_payStep_61 rfl (lv_at hl 1 rfl) ?_
      refine lv_iload_n hx hb dX5_payStep_62 rfl (lv_at hl 0 rfl) ?_
      obtain ⟨st6, hst6, hf⟩ := bv_some hf
      refine cl_vvC C hl G (As := [.int r2]) (rest := []) (kx_Rr_perform l D k h N r2 (wI (wI st1 17 ((rI st1 17) + 1)) 17 0) _ hst6) gi_X5_46 (hwC_8 ..) rfl hd_X5_perform ⟨Nat.le_of_ble_eq_true rfl, Nat.le_of_ble_eq_true rfl⟩ rfl rfl (Nat.le_of_ble_eq_true rfl) dX5_payStep_63 ⟨Nat.zero_le _, Nat.zero_le _⟩ (fun H locs e0 G => ?_)
      exact rt_vC C G hf dX5_payStep_66
  · replace hf := if_p hf c3
    exact rt_vC C G hf dX5_payStep_20
set_option maxHeartbeats 4000000 in
set_option maxRecDepth 100000 in
theorem kx_Ma_run_b71 {p : Program} {l : Launch} {e : Env} {s : State} {m : MethodId} {args : Array Value} {below : List Frame} {meth : Method} {c : Code} {D : va_G} {h : Nat → Nat} {E : Nat → Nat} {k0 : Nat → Nat × ClassId} (N : Nat) (rec15 : Int32 → Int32 → rs_T → Option (Int32 × rs_T)) (ih15 : ∀ (x1 : Int32) (x2 : Int32) (st : rs_T) (r : Int32) (s' : rs_T), rec15 x1 x2 st = some (r, s') → ∀ (k : Nat → Nat × ClassId) (C : cxC D k p s m args meth c cX9_run 3 (some .int) RX9), ∀ (H : Heap) (locs : List Loc) (ls : Array Slot), lv_has ls 3 [(0, .ref (h 0)), (1, .int x1), (2, .int x2)] → gdC D k h (vA E) (arC k0 h s.heap.size) s.heap H locs st → W p l e (rmA 7 179 E) s m args below meth c H locs (st.2.2.2 4 - E 4) (st.2.2.2 5 - E 5) (MQ below (uIC D k0 h E s.heap.size r s') args s (s'.2.2.2 4 - E 4) (s'.2.2.2 5 - E 5) (arC k0 h s.heap.size)) (F0 m 15 ls [])) (x1 : Int32) (x2 : Int32) (st : rs_T) (r : Int32) (s' : rs_T) (hf : fx_Ma_run_b71 N rec15 x1 x2 st = some (r, s')) : ∀ (k : Nat → Nat × ClassId) (C : cxC D k p s m args meth c cX9_run 3 (some .int) RX9), ∀ (H : Heap) (locs : List Loc) (ls : Array Slot), lv_has ls 3 [(0, .ref (h 0)), (1, .int x1), (2, .int x2)] → gdC D k h (vA E) (arC k0 h s.heap.size) s.heap H locs st → W p l e (rmA 7 179 E) s m args below meth c H locs (st.2.2.2 4 - E 4) (st.2.2.2 5 - E 5) (MQ below (uIC D k0 h E s.heap.size r s') args s (s'.2.2.2 4 - E 4) (s'.2.2.2 5 - E 5) (arC k0 h s.heap.size)) (F0 m 71 ls []) := by
  intro k C H locs ls hl G
  obtain ⟨hx, hb, hml, hr, hown, hts, hK, hN, hlk⟩ := id C
  unfold fx_Ma_run_b71 at hf
  refine lv_aload_n hx hb dX9_run_71 rfl (lv_at hl 0 rfl) ?_
  have hc9 := hcA G
  obtain ⟨st9, hst9, hf⟩ := bv_some hf
  refine cb_vvC C hl G (As := []) (rest := []) (kx_Ma_doWhatIsNoStep l D k h N st _ hst9) gi_X9_110 (hwC_0 ..) rfl hd_X9_doWhatIsNoStep ⟨Nat.le_of_ble_eq_true rfl, Nat.le_of_ble_eq_true rfl⟩ rfl rfl (Nat.le_of_ble_eq_true rfl) dX9_run_72 (fun k hK H locs G => ?_)
  have C := cxk C hK
  obtain ⟨v10, e_v10⟩ : ∃ z : Int32, z = x2 + 1 := ⟨_, rfl⟩
  replace hf := bd_some hf v10 e_v10
  refine lv_iinc (v := v10) (lv' := [(2, .int v10), (0, .ref (h 0)), (1, .int x1)]) hx hb dX9_run_75 hl (k := 2) rfl (by rw [e_v10]; rfl) (by decide) rfl (fun ls hl => ?_)
  refine lv_goto (tgt := 15) hx hb dX9_run_78 (by decide) ?_
  exact ih15 x1 v10 st9 _ _ hf _ C _ _ _ (lv_sub hl [1, 2, 0] rfl) G
set_option maxHeartbeats 4000000 in
set_option maxRecDepth 100000 in
theorem kx_Ma_run_b15 {p : Program} {l : Launch} {e : Env} {s : State} {m : MethodId} {args : Array Value} {below : List Frame} {meth : Method} {c : Code} {D : va_G} {h : Nat → Nat} {E : Nat → Nat} {k0 : Nat → Nat × ClassId} (N : Nat) : ∀ (n : Nat) (x1 : Int32) (x2 : Int32) (st : rs_T) (r : Int32) (s' : rs_T), fx_Ma_run_b15 N n x1 x2 st = some (r, s') → ∀ (k : Nat → Nat × ClassId) (C : cxC D k p s m args meth c cX9_run 3 (some .int) RX9), ∀ (H : Heap) (locs : List Loc) (ls : Array Slot), lv_has ls 3 [(0, .ref (h 0)), (1, .int x1), (2, .int x2)] → gdC D k h (vA E) (arC k0 h s.heap.size) s.heap H locs st → W p l e (rmA 7 179 E) s m args below meth c H locs (st.2.2.2 4 - E 4) (st.2.2.2 5 - E 5) (MQ below (uIC D k0 h E s.heap.size r s') args s (s'.2.2.2 4 - E 4) (s'.2.2.2 5 - E 5) (arC k0 h s.heap.size)) (F0 m 15 ls []) := by
  intro n
  induction n with
  | zero => intro x1 x2 st r s' hf; cases hf
  | succ n ih =>
    intro x1 x2 st r s' hf k C H locs ls hl G
    obtain ⟨hx, hb, hml, hr, hown, hts, hK, hN, hlk⟩ := id C
    rw [fx_Ma_run_b15] at hf
    refine lv_iload_n hx hb dX9_run_15 rfl (lv_at hl 2 rfl) ?_
    refine lv_iload_n hx hb dX9_run_16 rfl (lv_at hl 1 rfl) ?_
    refine lv_icmp_ge (tgt := 81) hx hb dX9_run_17 (by decide) (fun c3 => ?_) (fun c3 => ?_)
    · replace hf := if_p hf c3
      refine lv_iload_n hx hb dX9_run_81 rfl (lv_at hl 2 rfl) ?_
      exact rt_iCA C G hf dX9_run_82
    · replace hf := if_n hf c3
      refine lv_aload_n hx hb dX9_run_20 rfl (lv_at hl 0 rfl) ?_
      refine fg_Ma_activity hx hb hts hown hK G (hts _ lk_X9_35) dX9_run_21 ?_
      refine fg_Ac_state (v := rI st 11) hx hb hts hown hK G (hts _ lk_X9_113) rfl dX9_run_24 ?_
      refine lv_iconst (v := 1) hx hb dX9_run_27 (by decide) ?_
      refine lv_icmp_ne (tgt := 81) hx hb dX9_run_28 (by decide) (fun c4 => ?_) (fun c4 => ?_)
      · replace hf := if_n hf c4
        refine lv_iload_n hx hb dX9_run_81 rfl (lv_at hl 2 rfl) ?_
        exact rt_iCA C G hf dX9_run_82
      · replace hf := if_p hf c4
        refine lv_aload_n hx hb dX9_run_31 rfl (lv_at hl 0 rfl) ?_
        refine fg_Ma_activity hx hb hts hown hK G (hts _ lk_X9_35) dX9_run_32 ?_
        refine lv_dup hx hb dX9_run_35 rfl ?_
        refine fg_Ac_steps (v := rI st 13) hx hb hts hown hK G (hts _ lk_X9_116) rfl dX9_run_36 ?_
        refine lv_iconst (v := 1) hx hb dX9_run_39 (by decide) ?_
        refine lv_iadd hx hb dX9_run_40 ?_
        refine fp_Ac_steps hx hb hts hown hK G (hts _ lk_X9_116) dX9_run_41 (fun H locs G => ?_)
        refine lv_aload_n hx hb dX9_run_44 rfl (lv_at hl 0 rfl) ?_
        refine fg_Ma_activity hx hb hts hown hK G (hts _ lk_X9_35) dX9_run_45 ?_
        have hc9 := hcA G
        obtain ⟨r6, st5, hst5, hf⟩ := bn_some hf
        refine cl_viC C hl G (As := []) (rest := []) (kx_Ac_isInRegisters l D k h (wI st 13 ((rI st 13) + 1)) _ _ hst5) gi_X9_119 (hwC_4 ..) rfl hd_X0_isInRegisters ⟨Nat.le_of_ble_eq_true rfl, Nat.le_of_ble_eq_true rfl⟩ rfl rfl (Nat.le_of_ble_eq_true rfl) dX9_run_48 hc9 (fun H locs e0 G => ?_)
        refine cs_eq e0 ?_
        refine lv_if_eq (tgt := 64) hx hb dX9_run_51 (by decide) (fun c7 => ?_) (fun c7 => ?_)
        · replace hf := if_p hf c7
          refine lv_aload_n hx hb dX9_run_64 rfl (lv_at hl 0 rfl) ?_
          refine fg_Ma_stackRunner hx hb hts hown hK G (hts _ lk_X9_60) dX9_run_65 ?_
          have hc9 := hcA G
          obtain ⟨st8, hst8, hf⟩ := bv_some hf
          refine cl_vvC C hl G (As := []) (rest := []) (kx_Sr_perform l D k h N st5 _ hst8) gi_X9_125 (hwC_7 ..) rfl hd_X6_perform ⟨Nat.le_of_ble_eq_true rfl, Nat.le_of_ble_eq_true rfl⟩ rfl rfl (Nat.le_of_ble_eq_true rfl) dX9_run_68 hc9 (fun H locs e0 G => ?_)
          refine cs_eq e0 ?_
          exact kx_Ma_run_b71 N (fx_Ma_run_b15 N n) ih x1 x2 st8 _ _ hf _ C _ _ _ (lv_sub hl [0, 1, 2] rfl) G
        · replace hf := if_n hf c7
          refine lv_aload_n hx hb dX9_run_54 rfl (lv_at hl 0 rfl) ?_
          refine fg_Ma_registerRunner hx hb hts hown hK G (hts _ lk_X9_69) dX9_run_55 ?_
          have hc9 := hcA G
          obtain ⟨st11, hst11, hf⟩ := bv_some hf
          refine cl_vvC C hl G (As := []) (rest := []) (kx_Rr_payStep l D k h N st5 _ hst11) gi_X9_122 (hwC_8 ..) rfl hd_X5_payStep ⟨Nat.le_of_ble_eq_true rfl, Nat.le_of_ble_eq_true rfl⟩ rfl rfl (Nat.le_of_ble_eq_true rfl) dX9_run_58 hc9 (fun H locs e0 G => ?_)
          refine cs_eq e0 ?_
          refine lv_goto (tgt := 71) hx hb dX9_run_61 (by decide) ?_
          exact kx_Ma_run_b71 N (fx_Ma_run_b15 N n) ih x1 x2 st11 _ _ hf _ C _ _ _ (lv_sub hl [0, 1, 2] rfl) G
set_option maxHeartbeats 4000000 in
set_option maxRecDepth 100000 in
theorem kx_Ma_run (l : Launch) (D : va_G) (k : Nat → Nat × ClassId) (h : Nat → Nat) (N : Nat) (p1 : Int32) (st : rs_T) (r : Int32) (s' : rs_T) (hf : fx_Ma_run N p1 st = some (r, s')) : nIC l D k h yX9_run cX9_run 3 .int 7 179 [.ref (h 0), .int p1] st r s' := by
  refine nIC_of (by decide) (Nat.le_of_ble_eq_true rfl) ?_
  intro p e s m below meth c ls C hl G
  obtain ⟨hx, hb, hml, hr, hown, hts, hK, hN, hlk⟩ := id C
  have hown : s.vm.findClass RX9 = some m.cls := hown
  have hl : lv_has ls 3 [(0, .ref (h 0)), (1, .int p1)] := hl
  unfold fx_Ma_run at hf
  refine lv_iload_n hx hb dX9_run_0 rfl (lv_at hl 1 rfl) ?_
  refine lv_if_lt (tgt := 11) hx hb dX9_run_1 (by decide) (fun c1 => ?_) (fun c1 => ?_)
  · replace hf := if_p hf c1
    refine lv_iconst (v := (-1)) hx hb dX9_run_11 (by decide) ?_
    exact rt_iCA C G hf dX9_run_12
  · replace hf := if_n hf c1
    refine lv_iload_n hx hb dX9_run_4 rfl (lv_at hl 1 rfl) ?_
    refine lv_sipush (v := 2000) hx hb dX9_run_5 (by decide) ?_
    refine lv_icmp_le (tgt := 13) hx hb dX9_run_8 (by decide) (fun c2 => ?_) (fun c2 => ?_)
    · replace hf := if_p hf c2
      refine lv_iconst (v := 0) hx hb dX9_run_13 (by decide) ?_
      refine lv_istore_n (lv' := [(2, .int 0), (0, .ref (h 0)), (1, .int p1)]) hx hb dX9_run_14 rfl hl (by decide) rfl (fun ls hl => ?_)
      exact kx_Ma_run_b15 N N p1 0 st _ _ hf _ C _ _ _ (lv_sub hl [1, 2, 0] rfl) G
    · replace hf := if_n hf c2
      refine lv_iconst (v := (-1)) hx hb dX9_run_11 (by decide) ?_
      exact rt_iCA C G hf dX9_run_12
def rm_Wr_ownOperands : Room := { frames := 1, cells := 0, slots := 0, locals := 21 }
set_option maxHeartbeats 4000000 in
set_option maxRecDepth 100000 in
theorem kx_Wr_ownOperands (l : Launch) (D : va_G) (k : Nat → Nat × ClassId) (h : Nat → Nat) (st : rs_T) (r : Int32) (s' : rs_T) (hf : fx_Wr_ownOperands st = some (r, s')) : mIC l D k h yX8_ownOperands cX8_ownOperands 1 .int rm_Wr_ownOperands [.ref (h 2)] st r s' := by
  refine mIC_of (by decide) ⟨rfl, rfl⟩ (Nat.le_of_ble_eq_true rfl) ?_
  intro p e s m below meth c ls C hl G
  obtain ⟨hx, hb, hml, hr, hown, hts, hK, hN, hlk⟩ := id C
  have hown : s.vm.findClass RX8 = some m.cls := hown
  have hl : lv_has ls 1 [(0, .ref (h 2))] := hl
  unfold fx_Wr_ownOperands at hf
  refine lv_aload_n hx hb dX8_ownOperands_0 rfl (lv_at hl 0 rfl) ?_
  refine fg_Wr_labels (v := rI st 5) hx hb hts hown hK G (hts _ lk_X8_19) rfl dX8_ownOperands_1 ?_
  refine lv_if_ne (tgt := 11) hx hb dX8_ownOperands_4 (by decide) (fun c1 => ?_) (fun c1 => ?_)
  · replace hf := if_n hf c1
    refine lv_aload_n hx hb dX8_ownOperands_11 rfl (lv_at hl 0 rfl) ?_
    refine fg_Wr_operands (v := rI st 6) hx hb hts hown hK G (hts _ lk_X8_23) rfl dX8_ownOperands_12 ?_
    refine lv_aload_n hx hb dX8_ownOperands_15 rfl (lv_at hl 0 rfl) ?_
    obtain ⟨r3, st2, hst2, hf⟩ := bn_some hf
    refine cl_viC C hl G (As := []) (rest := [.int (rI st 6)]) (kx_Wr_height l D k h st _ _ hst2) gi_X8_89 (hwC_2 ..) rfl hd_X8_height ⟨Nat.le_of_ble_eq_true rfl, Nat.le_of_ble_eq_true rfl⟩ rfl rfl (Nat.le_of_ble_eq_true rfl) dX8_ownOperands_16 ⟨Nat.zero_le _, Nat.zero_le _⟩ (fun H locs e0 G => ?_)
    refine lv_isub hx hb dX8_ownOperands_19 ?_
    exact rt_iC C G hf dX8_ownOperands_20
  · replace hf := if_p hf c1
    refine lv_iconst (v := 0) hx hb dX8_ownOperands_7 (by decide) ?_
    refine lv_goto (tgt := 20) hx hb dX8_ownOperands_8 (by decide) ?_
    exact rt_iC C G hf dX8_ownOperands_20
def rm_Wr_isDead : Room := { frames := 0, cells := 0, slots := 0, locals := 0 }
set_option maxHeartbeats 4000000 in
set_option maxRecDepth 100000 in
theorem kx_Wr_isDead (l : Launch) (D : va_G) (k : Nat → Nat × ClassId) (h : Nat → Nat) (st : rs_T) (r : Int32) (s' : rs_T) (hf : fx_Wr_isDead st = some (r, s')) : mIC l D k h yX8_isDead cX8_isDead 1 .boolean rm_Wr_isDead [.ref (h 2)] st r s' := by
  refine mIC_of (by decide) ⟨rfl, rfl⟩ (Nat.le_of_ble_eq_true rfl) ?_
  intro p e s m below meth c ls C hl G
  obtain ⟨hx, hb, hml, hr, hown, hts, hK, hN, hlk⟩ := id C
  have hown : s.vm.findClass RX8 = some m.cls := hown
  have hl : lv_has ls 1 [(0, .ref (h 2))] := hl
  unfold fx_Wr_isDead at hf
  refine lv_aload_n hx hb dX8_isDead_0 rfl (lv_at hl 0 rfl) ?_
  refine fg_Wr_labels (v := rI st 5) hx hb hts hown hK G (hts _ lk_X8_19) rfl dX8_isDead_1 ?_
  refine lv_if_le (tgt := 25) hx hb dX8_isDead_4 (by decide) (fun c1 => ?_) (fun c1 => ?_)
  · replace hf := if_p hf c1
    refine lv_iconst (v := 0) hx hb dX8_isDead_25 (by decide) ?_
    exact rt_zC C rfl G hf dX8_isDead_26
  · replace hf := if_n hf c1
    refine lv_aload_n hx hb dX8_isDead_7 rfl (lv_at hl 0 rfl) ?_
    refine fg_Wr_dead hx hb hts hown hK G (hts _ lk_X8_15) dX8_isDead_8 ?_
    refine lv_aload_n hx hb dX8_isDead_11 rfl (lv_at hl 0 rfl) ?_
    refine fg_Wr_labels (v := rI st 5) hx hb hts hown hK G (hts _ lk_X8_19) rfl dX8_isDead_12 ?_
    refine lv_iconst (v := 1) hx hb dX8_isDead_15 (by decide) ?_
    refine lv_isub hx hb dX8_isDead_16 ?_
    obtain ⟨h_g2, hf⟩ := gd_some hf
    refine ra_ZC (v := rA st 14 (((rI st 5) - 1).toNatClampNeg)) hx hb hK G (waC_24 ..) (t0 := 15) rfl rfl h_g2 dX8_isDead_17 ?_
    refine lv_if_eq (tgt := 25) hx hb dX8_isDead_18 (by decide) (fun c3 => ?_) (fun c3 => ?_)
    · replace hf := if_p hf c3
      refine lv_iconst (v := 0) hx hb dX8_isDead_25 (by decide) ?_
      exact rt_zC C rfl G hf dX8_isDead_26
    · replace hf := if_n hf c3
      refine lv_iconst (v := 1) hx hb dX8_isDead_21 (by decide) ?_
      refine lv_goto (tgt := 26) hx hb dX8_isDead_22 (by decide) ?_
      exact rt_zC C rfl G hf dX8_isDead_26
def rm_Ma_state : Room := { frames := 2, cells := 0, slots := 0, locals := 41 }
set_option maxHeartbeats 4000000 in
set_option maxRecDepth 100000 in
theorem kx_Ma_state (l : Launch) (D : va_G) (k : Nat → Nat × ClassId) (h : Nat → Nat) (p1 : Int32) (st : rs_T) (r : Int32) (s' : rs_T) (hf : fx_Ma_state p1 st = some (r, s')) : mIC l D k h yX9_state cX9_state 2 .int rm_Ma_state [.ref (h 0), .int p1] st r s' := by
  refine mIC_of (by decide) ⟨rfl, rfl⟩ (Nat.le_of_ble_eq_true rfl) ?_
  intro p e s m below meth c ls C hl G
  obtain ⟨hx, hb, hml, hr, hown, hts, hK, hN, hlk⟩ := id C
  have hown : s.vm.findClass RX9 = some m.cls := hown
  have hl : lv_has ls 2 [(0, .ref (h 0)), (1, .int p1)] := hl
  unfold fx_Ma_state at hf
  refine lv_iload_n hx hb dX9_state_0 rfl (lv_at hl 1 rfl) ?_
  by_cases s1_0 : p1 ∈ ([0] : List Int32)
  · replace hf := if_p hf s1_0
    refine sw_tb (tgt := 64) (off := 63) hx hb dX9_state_1 (sw_tbt s1_0 (by decide)) (by decide) (by decide) ?_
    refine lv_aload_n hx hb dX9_state_64 rfl (lv_at hl 0 rfl) ?_
    refine fg_Ma_activity hx hb hts hown hK G (hts _ lk_X9_35) dX9_state_65 ?_
    refine fg_Ac_state (v := rI st 11) hx hb hts hown hK G (hts _ lk_X9_113) rfl dX9_state_68 ?_
    exact rt_iC C G hf dX9_state_71
  replace hf := if_n hf s1_0
  by_cases s1_1 : p1 ∈ ([1] : List Int32)
  · replace hf := if_p hf s1_1
    refine sw_tb (tgt := 72) (off := 71) hx hb dX9_state_1 (sw_tbt s1_1 (by decide)) (by decide) (by decide) ?_
    refine lv_aload_n hx hb dX9_state_72 rfl (lv_at hl 0 rfl) ?_
    refine fg_Ma_activity hx hb hts hown hK G (hts _ lk_X9_35) dX9_state_73 ?_
    refine fg_Ac_trap (v := rI st 12) hx hb hts hown hK G (hts _ lk_X9_128) rfl dX9_state_76 ?_
    exact rt_iC C G hf dX9_state_79
  replace hf := if_n hf s1_1
  by_cases s1_2 : p1 ∈ ([2] : List Int32)
  · replace hf := if_p hf s1_2
    refine sw_tb (tgt := 80) (off := 79) hx hb dX9_state_1 (sw_tbt s1_2 (by decide)) (by decide) (by decide) ?_
    refine lv_aload_n hx hb dX9_state_80 rfl (lv_at hl 0 rfl) ?_
    refine fg_Ma_activity hx hb hts hown hK G (hts _ lk_X9_35) dX9_state_81 ?_
    refine fg_Ac_state (v := rI st 11) hx hb hts hown hK G (hts _ lk_X9_113) rfl dX9_state_84 ?_
    refine lv_iconst (v := 1) hx hb dX9_state_87 (by decide) ?_
    refine lv_icmp_ne (tgt := 101) hx hb dX9_state_88 (by decide) (fun c2 => ?_) (fun c2 => ?_)
    · replace hf := if_n hf c2
      refine lv_iconst (v := 0) hx hb dX9_state_101 (by decide) ?_
      exact rt_iC C G hf dX9_state_102
    · replace hf := if_p hf c2
      refine lv_aload_n hx hb dX9_state_91 rfl (lv_at hl 0 rfl) ?_
      refine fg_Ma_activity hx hb hts hown hK G (hts _ lk_X9_35) dX9_state_92 ?_
      refine fg_Ac_frames (v := rI st 14) hx hb hts hown hK G (hts _ lk_X9_131) rfl dX9_state_95 ?_
      refine lv_goto (tgt := 102) hx hb dX9_state_98 (by decide) ?_
      exact rt_iC C G hf dX9_state_102
  replace hf := if_n hf s1_2
  by_cases s1_3 : p1 ∈ ([3] : List Int32)
  · replace hf := if_p hf s1_3
    refine sw_tb (tgt := 103) (off := 102) hx hb dX9_state_1 (sw_tbt s1_3 (by decide)) (by decide) (by decide) ?_
    refine lv_aload_n hx hb dX9_state_103 rfl (lv_at hl 0 rfl) ?_
    refine fg_Ma_activity hx hb hts hown hK G (hts _ lk_X9_35) dX9_state_104 ?_
    refine fg_Ac_latest (v := rI st 15) hx hb hts hown hK G (hts _ lk_X9_134) rfl dX9_state_107 ?_
    refine lv_iconst (v := (-1)) hx hb dX9_state_110 (by decide) ?_
    refine lv_icmp_ne (tgt := 118) hx hb dX9_state_111 (by decide) (fun c3 => ?_) (fun c3 => ?_)
    · replace hf := if_n hf c3
      refine lv_aload_n hx hb dX9_state_118 rfl (lv_at hl 0 rfl) ?_
      refine fg_Ma_program hx hb hts hown hK G (hts _ lk_X9_12) dX9_state_119 ?_
      refine fg_Pr_counted hx hb hts hown hK G (hts _ lk_X9_137) dX9_state_122 ?_
      refine lv_aload_n hx hb dX9_state_125 rfl (lv_at hl 0 rfl) ?_
      refine fg_Ma_activity hx hb hts hown hK G (hts _ lk_X9_35) dX9_state_126 ?_
      refine fg_Ac_latest (v := rI st 15) hx hb hts hown hK G (hts _ lk_X9_134) rfl dX9_state_129 ?_
      obtain ⟨h_g4, hf⟩ := gd_some hf
      refine ra_IC (v := rA st 6 ((rI st 15).toNatClampNeg)) hx hb hK G (waC_16 ..) (t0 := 7) rfl rfl h_g4 dX9_state_132 ?_
      exact rt_iC C G hf dX9_state_133
    · replace hf := if_p hf c3
      refine lv_iconst (v := 0) hx hb dX9_state_114 (by decide) ?_
      refine lv_goto (tgt := 133) hx hb dX9_state_115 (by decide) ?_
      exact rt_iC C G hf dX9_state_133
  replace hf := if_n hf s1_3
  by_cases s1_4 : p1 ∈ ([4] : List Int32)
  · replace hf := if_p hf s1_4
    refine sw_tb (tgt := 134) (off := 133) hx hb dX9_state_1 (sw_tbt s1_4 (by decide)) (by decide) (by decide) ?_
    refine lv_aload_n hx hb dX9_state_134 rfl (lv_at hl 0 rfl) ?_
    refine fg_Ma_activity hx hb hts hown hK G (hts _ lk_X9_35) dX9_state_135 ?_
    refine fg_Ac_steps (v := rI st 13) hx hb hts hown hK G (hts _ lk_X9_116) rfl dX9_state_138 ?_
    exact rt_iC C G hf dX9_state_141
  replace hf := if_n hf s1_4
  by_cases s1_5 : p1 ∈ ([5] : List Int32)
  · replace hf := if_p hf s1_5
    refine sw_tb (tgt := 142) (off := 141) hx hb dX9_state_1 (sw_tbt s1_5 (by decide)) (by decide) (by decide) ?_
    refine lv_aload_n hx hb dX9_state_142 rfl (lv_at hl 0 rfl) ?_
    refine fg_Ma_program hx hb hts hown hK G (hts _ lk_X9_12) dX9_state_143 ?_
    refine fg_Pr_functions (v := rI st 2) hx hb hts hown hK G (hts _ lk_X9_140) rfl dX9_state_146 ?_
    exact rt_iC C G hf dX9_state_149
  replace hf := if_n hf s1_5
  by_cases s1_6 : p1 ∈ ([6] : List Int32)
  · replace hf := if_p hf s1_6
    refine sw_tb (tgt := 150) (off := 149) hx hb dX9_state_1 (sw_tbt s1_6 (by decide)) (by decide) (by decide) ?_
    refine lv_aload_n hx hb dX9_state_150 rfl (lv_at hl 0 rfl) ?_
    refine fg_Ma_program hx hb hts hown hK G (hts _ lk_X9_12) dX9_state_151 ?_
    refine fg_Pr_size (v := rI st 4) hx hb hts hown hK G (hts _ lk_X9_143) rfl dX9_state_154 ?_
    exact rt_iC C G hf dX9_state_157
  replace hf := if_n hf s1_6
  by_cases s1_7 : p1 ∈ ([7] : List Int32)
  · replace hf := if_p hf s1_7
    refine sw_tb (tgt := 158) (off := 157) hx hb dX9_state_1 (sw_tbt s1_7 (by decide)) (by decide) (by decide) ?_
    refine lv_aload_n hx hb dX9_state_158 rfl (lv_at hl 0 rfl) ?_
    refine fg_Ma_writer hx hb hts hown hK G (hts _ lk_X9_21) dX9_state_159 ?_
    refine fg_Wr_labels (v := rI st 5) hx hb hts hown hK G (hts _ lk_X9_146) rfl dX9_state_162 ?_
    exact rt_iC C G hf dX9_state_165
  replace hf := if_n hf s1_7
  by_cases s1_8 : p1 ∈ ([8] : List Int32)
  · replace hf := if_p hf s1_8
    refine sw_tb (tgt := 166) (off := 165) hx hb dX9_state_1 (sw_tbt s1_8 (by decide)) (by decide) (by decide) ?_
    refine lv_aload_n hx hb dX9_state_166 rfl (lv_at hl 0 rfl) ?_
    refine fg_Ma_writer hx hb hts hown hK G (hts _ lk_X9_21) dX9_state_167 ?_
    obtain ⟨r6, st5, hst5, hf⟩ := bn_some hf
    refine cl_viC C hl G (As := []) (rest := []) (kx_Wr_ownOperands l D k h st _ _ hst5) gi_X9_149 (hwC_2 ..) rfl hd_X8_ownOperands ⟨Nat.le_of_ble_eq_true rfl, Nat.le_of_ble_eq_true rfl⟩ rfl rfl (Nat.le_of_ble_eq_true rfl) dX9_state_170 ⟨Nat.zero_le _, Nat.zero_le _⟩ (fun H locs e0 G => ?_)
    exact rt_iC C G hf dX9_state_173
  replace hf := if_n hf s1_8
  by_cases s1_9 : p1 ∈ ([9] : List Int32)
  · replace hf := if_p hf s1_9
    refine sw_tb (tgt := 174) (off := 173) hx hb dX9_state_1 (sw_tbt s1_9 (by decide)) (by decide) (by decide) ?_
    refine lv_aload_n hx hb dX9_state_174 rfl (lv_at hl 0 rfl) ?_
    refine fg_Ma_writer hx hb hts hown hK G (hts _ lk_X9_21) dX9_state_175 ?_
    obtain ⟨r8, st7, hst7, hf⟩ := bn_some hf
    refine cl_viC C hl G (As := []) (rest := []) (kx_Wr_isDead l D k h st _ _ hst7) gi_X9_153 (hwC_2 ..) rfl hd_X8_isDead ⟨Nat.le_of_ble_eq_true rfl, Nat.le_of_ble_eq_true rfl⟩ rfl rfl (Nat.le_of_ble_eq_true rfl) dX9_state_178 ⟨Nat.zero_le _, Nat.zero_le _⟩ (fun H locs e0 G => ?_)
    refine lv_if_eq (tgt := 188) hx hb dX9_state_181 (by decide) (fun c9 => ?_) (fun c9 => ?_)
    · replace hf := if_p hf c9
      refine lv_iconst (v := 0) hx hb dX9_state_188 (by decide) ?_
      exact rt_iC C G hf dX9_state_189
    · replace hf := if_n hf c9
      refine lv_iconst (v := 1) hx hb dX9_state_184 (by decide) ?_
      refine lv_goto (tgt := 189) hx hb dX9_state_185 (by decide) ?_
      exact rt_iC C G hf dX9_state_189
  replace hf := if_n hf s1_9
  by_cases s1_10 : p1 ∈ ([10] : List Int32)
  · replace hf := if_p hf s1_10
    refine sw_tb (tgt := 190) (off := 189) hx hb dX9_state_1 (sw_tbt s1_10 (by decide)) (by decide) (by decide) ?_
    refine lv_aload_n hx hb dX9_state_190 rfl (lv_at hl 0 rfl) ?_
    refine fg_Ma_world hx hb hts hown hK G (hts _ lk_X9_28) dX9_state_191 ?_
    refine fg_Wo_pages (v := rI st 9) hx hb hts hown hK G (hts _ lk_X9_156) rfl dX9_state_194 ?_
    exact rt_iC C G hf dX9_state_197
  replace hf := if_n hf s1_10
  by_cases s1_11 : p1 ∈ ([11] : List Int32)
  · replace hf := if_p hf s1_11
    refine sw_tb (tgt := 198) (off := 197) hx hb dX9_state_1 (sw_tbt s1_11 (by decide)) (by decide) (by decide) ?_
    refine lv_aload_n hx hb dX9_state_198 rfl (lv_at hl 0 rfl) ?_
    refine fg_Ma_registerCode hx hb hts hown hK G (hts _ lk_X9_42) dX9_state_199 ?_
    refine fg_Rc_functions (v := rI st 20) hx hb hts hown hK G (hts _ lk_X9_159) rfl dX9_state_202 ?_
    exact rt_iC C G hf dX9_state_205
  replace hf := if_n hf s1_11
  refine sw_tb (tgt := 206) (off := 205) hx hb dX9_state_1 (sw_tbd (sw_cons s1_0 (sw_cons s1_1 (sw_cons s1_2 (sw_cons s1_3 (sw_cons s1_4 (sw_cons s1_5 (sw_cons s1_6 (sw_cons s1_7 (sw_cons s1_8 (sw_cons s1_9 (sw_cons s1_10 (sw_cons s1_11 sw_nil)))))))))))) (by decide)) (by decide) (by decide) ?_
  refine lv_iconst (v := (-1)) hx hb dX9_state_206 (by decide) ?_
  exact rt_iC C G hf dX9_state_207
def rm_Ma_tier : Room := { frames := 0, cells := 0, slots := 0, locals := 0 }
set_option maxHeartbeats 4000000 in
set_option maxRecDepth 100000 in
theorem kx_Ma_tier (l : Launch) (D : va_G) (k : Nat → Nat × ClassId) (h : Nat → Nat) (p1 : Int32) (st : rs_T) (r : Int32) (s' : rs_T) (hf : fx_Ma_tier p1 st = some (r, s')) : mIC l D k h yX9_tier cX9_tier 3 .int rm_Ma_tier [.ref (h 0), .int p1] st r s' := by
  refine mIC_of (by decide) ⟨rfl, rfl⟩ (Nat.le_of_ble_eq_true rfl) ?_
  intro p e s m below meth c ls C hl G
  obtain ⟨hx, hb, hml, hr, hown, hts, hK, hN, hlk⟩ := id C
  have hown : s.vm.findClass RX9 = some m.cls := hown
  have hl : lv_has ls 3 [(0, .ref (h 0)), (1, .int p1)] := hl
  unfold fx_Ma_tier at hf
  refine lv_iload_n hx hb dX9_tier_0 rfl (lv_at hl 1 rfl) ?_
  refine lv_if_ge (tgt := 6) hx hb dX9_tier_1 (by decide) (fun c1 => ?_) (fun c1 => ?_)
  · replace hf := if_p hf c1
    refine lv_aload_n hx hb dX9_tier_6 rfl (lv_at hl 0 rfl) ?_
    refine fg_Ma_tier (v := rI st 1) hx hb hts hown hK G (hts _ lk_X9_81) rfl dX9_tier_7 ?_
    refine lv_topi (fun v2 e_v2 => ?_)
    replace hf := bd_some hf v2 e_v2
    refine lv_istore_n (lv' := [(2, .int v2), (0, .ref (h 0)), (1, .int p1)]) hx hb dX9_tier_10 rfl hl (by decide) rfl (fun ls hl => ?_)
    refine lv_aload_n hx hb dX9_tier_11 rfl (lv_at hl 1 rfl) ?_
    refine lv_iload_n hx hb dX9_tier_12 rfl (lv_at hl 2 rfl) ?_
    refine fp_Ma_tier hx hb hts hown hK G (hts _ lk_X9_81) dX9_tier_13 (fun H locs G => ?_)
    refine lv_iload_n hx hb dX9_tier_16 rfl (lv_at hl 0 rfl) ?_
    exact rt_iC C G hf dX9_tier_17
  · replace hf := if_n hf c1
    refine lv_iconst (v := (-1)) hx hb dX9_tier_4 (by decide) ?_
    exact rt_iC C G hf dX9_tier_5
def rm_Ma_result : Room := { frames := 0, cells := 0, slots := 0, locals := 0 }
set_option maxHeartbeats 4000000 in
set_option maxRecDepth 100000 in
theorem kx_Ma_result (l : Launch) (D : va_G) (k : Nat → Nat × ClassId) (h : Nat → Nat) (p1 : Int32) (st : rs_T) (r : Int64) (s' : rs_T) (hf : fx_Ma_result p1 st = some (r, s')) : mLC l D k h yX9_result cX9_result 2 rm_Ma_result [.ref (h 0), .int p1] st r s' := by
  refine mLC_of (by decide) ⟨rfl, rfl⟩ (Nat.le_of_ble_eq_true rfl) ?_
  intro p e s m below meth c ls C hl G
  obtain ⟨hx, hb, hml, hr, hown, hts, hK, hN, hlk⟩ := id C
  have hown : s.vm.findClass RX9 = some m.cls := hown
  have hl : lv_has ls 2 [(0, .ref (h 0)), (1, .int p1)] := hl
  unfold fx_Ma_result at hf
  refine lv_iload_n hx hb dX9_result_0 rfl (lv_at hl 1 rfl) ?_
  refine lv_if_lt (tgt := 27) hx hb dX9_result_1 (by decide) (fun c1 => ?_) (fun c1 => ?_)
  · replace hf := if_p hf c1
    refine lv_lconst (v := 0) hx hb dX9_result_27 (by decide) ?_
    exact rt_lC C G hf dX9_result_28
  · replace hf := if_n hf c1
    refine lv_iload_n hx hb dX9_result_4 rfl (lv_at hl 1 rfl) ?_
    refine lv_aload_n hx hb dX9_result_5 rfl (lv_at hl 0 rfl) ?_
    refine fg_Ma_activity hx hb hts hown hK G (hts _ lk_X9_35) dX9_result_6 ?_
    refine fg_Ac_resultCount (v := rI st 10) hx hb hts hown hK G (hts _ lk_X9_160) rfl dX9_result_9 ?_
    refine lv_icmp_ge (tgt := 27) hx hb dX9_result_12 (by decide) (fun c2 => ?_) (fun c2 => ?_)
    · replace hf := if_p hf c2
      refine lv_lconst (v := 0) hx hb dX9_result_27 (by decide) ?_
      exact rt_lC C G hf dX9_result_28
    · replace hf := if_n hf c2
      refine lv_aload_n hx hb dX9_result_15 rfl (lv_at hl 0 rfl) ?_
      refine fg_Ma_activity hx hb hts hown hK G (hts _ lk_X9_35) dX9_result_16 ?_
      refine fg_Ac_results hx hb hts hown hK G (hts _ lk_X9_163) dX9_result_19 ?_
      refine lv_iload_n hx hb dX9_result_22 rfl (lv_at hl 1 rfl) ?_
      obtain ⟨h_g3, hf⟩ := gd_some hf
      refine ra_JC (v := rL st 3 p1.toNatClampNeg) hx hb hK G (waC_34 ..) (t0 := 25) rfl rfl h_g3 dX9_result_23 ?_
      refine lv_goto (tgt := 28) hx hb dX9_result_24 (by decide) ?_
      exact rt_lC C G hf dX9_result_28
def rm_Ma_global : Room := { frames := 0, cells := 0, slots := 0, locals := 0 }
set_option maxHeartbeats 4000000 in
set_option maxRecDepth 100000 in
theorem kx_Ma_global (l : Launch) (D : va_G) (k : Nat → Nat × ClassId) (h : Nat → Nat) (p1 : Int32) (st : rs_T) (r : Int64) (s' : rs_T) (hf : fx_Ma_global p1 st = some (r, s')) : mLC l D k h yX9_global cX9_global 2 rm_Ma_global [.ref (h 0), .int p1] st r s' := by
  refine mLC_of (by decide) ⟨rfl, rfl⟩ (Nat.le_of_ble_eq_true rfl) ?_
  intro p e s m below meth c ls C hl G
  obtain ⟨hx, hb, hml, hr, hown, hts, hK, hN, hlk⟩ := id C
  have hown : s.vm.findClass RX9 = some m.cls := hown
  have hl : lv_has ls 2 [(0, .ref (h 0)), (1, .int p1)] := hl
  unfold fx_Ma_global at hf
  refine lv_iload_n hx hb dX9_global_0 rfl (lv_at hl 1 rfl) ?_
  refine lv_if_lt (tgt := 22) hx hb dX9_global_1 (by decide) (fun c1 => ?_) (fun c1 => ?_)
  · replace hf := if_p hf c1
    refine lv_lconst (v := 0) hx hb dX9_global_22 (by decide) ?_
    exact rt_lC C G hf dX9_global_23
  · replace hf := if_n hf c1
    refine lv_iload_n hx hb dX9_global_4 rfl (lv_at hl 1 rfl) ?_
    refine lv_bipush (v := 8) hx hb dX9_global_5 (by decide) ?_
    refine lv_icmp_ge (tgt := 22) hx hb dX9_global_7 (by decide) (fun c2 => ?_) (fun c2 => ?_)
    · replace hf := if_p hf c2
      refine lv_lconst (v := 0) hx hb dX9_global_22 (by decide) ?_
      exact rt_lC C G hf dX9_global_23
    · replace hf := if_n hf c2
      refine lv_aload_n hx hb dX9_global_10 rfl (lv_at hl 0 rfl) ?_
      refine fg_Ma_world hx hb hts hown hK G (hts _ lk_X9_28) dX9_global_11 ?_
      refine fg_Wo_globals hx hb hts hown hK G (hts _ lk_X9_166) dX9_global_14 ?_
      refine lv_iload_n hx hb dX9_global_17 rfl (lv_at hl 1 rfl) ?_
      obtain ⟨h_g3, hf⟩ := gd_some hf
      refine ra_JC (v := rL st 1 p1.toNatClampNeg) hx hb hK G (waC_26 ..) (t0 := 17) rfl rfl h_g3 dX9_global_18 ?_
      refine lv_goto (tgt := 23) hx hb dX9_global_19 (by decide) ?_
      exact rt_lC C G hf dX9_global_23
