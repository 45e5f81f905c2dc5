def rm_Md_variable : Room := { frames := 1, cells := 0, slots := 0, locals := 22 }
set_option maxHeartbeats 4000000 in
set_option maxRecDepth 100000 in
theorem kx_Md_variable (l : Launch) (D : va_G) (k : Nat → ClassId) (h : Nat → Nat) (p1 : Int32) (p2 : Int32) (st : rs_T) (s' : rs_T) (hf : fx_Md_variable p1 p2 st = some s') : mVM l D k h yX10_variable cX10_variable 4 rm_Md_variable [.ref (h 0), .int p1, .int p2] st s' := by
  refine mVM_of (by decide) ⟨rfl, rfl⟩ (Nat.le_of_ble_eq_true rfl) ?_
  intro p e s m below meth c ls C hl G
  obtain ⟨hx, hb, hml, hr, hown, hts, hK, hN, hlk⟩ := id C
  have hown : s.vm.findClass RX10 = some m.cls := hown
  have hl : lv_has ls 4 [(0, .ref (h 0)), (1, .int p1), (2, .int p2)] := hl
  unfold fx_Md_variable at hf
  refine lv_aload_n hx hb dX10_variable_0 rfl (lv_at hl 0 rfl) ?_
  refine fg_Md_first hx hb hts hown hK G (hts _ lk_X10_82) dX10_variable_1 ?_
  refine lv_aload_n hx hb dX10_variable_4 rfl (lv_at hl 0 rfl) ?_
  refine fg_Md_frames (v := rI st 12) hx hb hts hown hK G (hts _ lk_X10_190) rfl dX10_variable_5 ?_
  refine lv_iconst (v := 1) hx hb dX10_variable_8 (by decide) ?_
  refine lv_isub hx hb dX10_variable_9 ?_
  obtain ⟨h_g1, hf⟩ := gd_some hf
  refine ra_IM (v := rA st 19 (((rI st 12) - 1).toNatClampNeg)) hx hb hK G (waM_23 ..) (t0 := 22) rfl rfl h_g1 dX10_variable_10 ?_
  refine lv_iload_n hx hb dX10_variable_11 rfl (lv_at hl 2 rfl) ?_
  refine lv_iadd hx hb dX10_variable_12 ?_
  refine lv_topi (fun v2 e_v2 => ?_)
  replace hf := bd_some hf v2 e_v2
  refine lv_istore_n (lv' := [(3, .int v2), (0, .ref (h 0)), (1, .int p1), (2, .int p2)]) hx hb dX10_variable_13 rfl hl (by decide) rfl (fun ls hl => ?_)
  refine lv_iload_n hx hb dX10_variable_14 rfl (lv_at hl 2 rfl) ?_
  by_cases s3_0 : p1 ∈ ([32] : List Int32)
  · replace hf := if_p hf s3_0
    refine sw_tb (tgt := 44) (off := 29) hx hb dX10_variable_15 (sw_tbt s3_0 (by decide)) (by decide) (by decide) ?_
    refine lv_aload_n hx hb dX10_variable_44 rfl (lv_at hl 1 rfl) ?_
    refine lv_aload_n hx hb dX10_variable_45 rfl (lv_at hl 1 rfl) ?_
    refine fg_Md_value hx hb hts hown hK G (hts _ lk_X10_76) dX10_variable_46 ?_
    refine lv_iload_n hx hb dX10_variable_49 rfl (lv_at hl 0 rfl) ?_
    obtain ⟨h_g4, hf⟩ := gd_some hf
    refine ra_JM (v := rL st 2 v2.toNatClampNeg) hx hb hK G (waM_21 ..) (t0 := 20) rfl rfl h_g4 dX10_variable_50 ?_
    obtain ⟨st5, hst5, hf⟩ := bv_some hf
    refine cl_vvM C hl G (As := [.long (rL st 2 v2.toNatClampNeg)]) (rest := []) (kx_Md_push l D k h (rL st 2 v2.toNatClampNeg) st _ hst5) gi_X10_221 (hwM_0 ..) rfl hd_X10_push ⟨Nat.le_of_ble_eq_true rfl, Nat.le_of_ble_eq_true rfl⟩ rfl rfl (Nat.le_of_ble_eq_true rfl) dX10_variable_51 (fun H locs G => ?_)
    refine lv_goto (tgt := 113) hx hb dX10_variable_54 (by decide) ?_
    exact rt_vM C G hf dX10_variable_113
  replace hf := if_n hf s3_0
  by_cases s3_1 : p1 ∈ ([33] : List Int32)
  · replace hf := if_p hf s3_1
    refine sw_tb (tgt := 57) (off := 42) hx hb dX10_variable_15 (sw_tbt s3_1 (by decide)) (by decide) (by decide) ?_
    refine lv_aload_n hx hb dX10_variable_57 rfl (lv_at hl 1 rfl) ?_
    refine fg_Md_value hx hb hts hown hK G (hts _ lk_X10_76) dX10_variable_58 ?_
    refine lv_iload_n hx hb dX10_variable_61 rfl (lv_at hl 0 rfl) ?_
    refine lv_aload_n hx hb dX10_variable_62 rfl (lv_at hl 1 rfl) ?_
    obtain ⟨r7, st6, hst6, hf⟩ := bn_some hf
    refine cl_vlM C hl G (As := []) (rest := [.int v2, .ref (h 21)]) (kx_Md_pop l D k h st _ _ hst6) gi_X10_243 (hwM_0 ..) rfl hd_X10_pop ⟨Nat.le_of_ble_eq_true rfl, Nat.le_of_ble_eq_true rfl⟩ rfl rfl (Nat.le_of_ble_eq_true rfl) dX10_variable_63 (fun H locs G => ?_)
    obtain ⟨h_g8, hf⟩ := gd_some hf
    refine rw_JM hx hb hK G (waM_21 ..) (t0 := 20) rfl (wsM_21 ..) h_g8 dX10_variable_66 (fun H locs G => ?_)
    refine lv_goto (tgt := 113) hx hb dX10_variable_67 (by decide) ?_
    exact rt_vM C G hf dX10_variable_113
  replace hf := if_n hf s3_1
  by_cases s3_2 : p1 ∈ ([34] : List Int32)
  · replace hf := if_p hf s3_2
    refine sw_tb (tgt := 70) (off := 55) hx hb dX10_variable_15 (sw_tbt s3_2 (by decide)) (by decide) (by decide) ?_
    refine lv_aload_n hx hb dX10_variable_70 rfl (lv_at hl 1 rfl) ?_
    refine fg_Md_value hx hb hts hown hK G (hts _ lk_X10_76) dX10_variable_71 ?_
    refine lv_iload_n hx hb dX10_variable_74 rfl (lv_at hl 0 rfl) ?_
    refine lv_aload_n hx hb dX10_variable_75 rfl (lv_at hl 1 rfl) ?_
    refine fg_Md_value hx hb hts hown hK G (hts _ lk_X10_76) dX10_variable_76 ?_
    refine lv_aload_n hx hb dX10_variable_79 rfl (lv_at hl 1 rfl) ?_
    refine fg_Md_values (v := rI st 13) hx hb hts hown hK G (hts _ lk_X10_199) rfl dX10_variable_80 ?_
    refine lv_iconst (v := 1) hx hb dX10_variable_83 (by decide) ?_
    refine lv_isub hx hb dX10_variable_84 ?_
    obtain ⟨h_g9, hf⟩ := gd_some hf
    refine ra_JM (v := rL st 2 (((rI st 13) - 1).toNatClampNeg)) hx hb hK G (waM_21 ..) (t0 := 20) rfl rfl h_g9 dX10_variable_85 ?_
    obtain ⟨h_g10, hf⟩ := gd_some hf
    refine rw_JM hx hb hK G (waM_21 ..) (t0 := 20) rfl (wsM_21 ..) h_g10 dX10_variable_86 (fun H locs G => ?_)
    refine lv_goto (tgt := 113) hx hb dX10_variable_87 (by decide) ?_
    exact rt_vM C G hf dX10_variable_113
  replace hf := if_n hf s3_2
  by_cases s3_3 : p1 ∈ ([35] : List Int32)
  · replace hf := if_p hf s3_3
    refine sw_tb (tgt := 90) (off := 75) hx hb dX10_variable_15 (sw_tbt s3_3 (by decide)) (by decide) (by decide) ?_
    refine lv_aload_n hx hb dX10_variable_90 rfl (lv_at hl 1 rfl) ?_
    refine lv_aload_n hx hb dX10_variable_91 rfl (lv_at hl 1 rfl) ?_
    refine fg_Md_globals hx hb hts hown hK G (hts _ lk_X10_62) dX10_variable_92 ?_
    refine lv_iload_n hx hb dX10_variable_95 rfl (lv_at hl 3 rfl) ?_
    obtain ⟨h_g11, hf⟩ := gd_some hf
    refine ra_JM (v := rL st 0 p2.toNatClampNeg) hx hb hK G (waM_18 ..) (t0 := 17) rfl rfl h_g11 dX10_variable_96 ?_
    obtain ⟨st12, hst12, hf⟩ := bv_some hf
    refine cl_vvM C hl G (As := [.long (rL st 0 p2.toNatClampNeg)]) (rest := []) (kx_Md_push l D k h (rL st 0 p2.toNatClampNeg) st _ hst12) gi_X10_221 (hwM_0 ..) rfl hd_X10_push ⟨Nat.le_of_ble_eq_true rfl, Nat.le_of_ble_eq_true rfl⟩ rfl rfl (Nat.le_of_ble_eq_true rfl) dX10_variable_97 (fun H locs G => ?_)
    refine lv_goto (tgt := 113) hx hb dX10_variable_100 (by decide) ?_
    exact rt_vM C G hf dX10_variable_113
  replace hf := if_n hf s3_3
  refine sw_tb (tgt := 103) (off := 88) hx hb dX10_variable_15 (sw_tbd (sw_cons s3_0 (sw_cons s3_1 (sw_cons s3_2 (sw_cons s3_3 sw_nil)))) (by decide)) (by decide) (by decide) ?_
  refine lv_aload_n hx hb dX10_variable_103 rfl (lv_at hl 1 rfl) ?_
  refine fg_Md_globals hx hb hts hown hK G (hts _ lk_X10_62) dX10_variable_104 ?_
  refine lv_iload_n hx hb dX10_variable_107 rfl (lv_at hl 3 rfl) ?_
  refine lv_aload_n hx hb dX10_variable_108 rfl (lv_at hl 1 rfl) ?_
  obtain ⟨r14, st13, hst13, hf⟩ := bn_some hf
  refine cl_vlM C hl G (As := []) (rest := [.int p2, .ref (h 18)]) (kx_Md_pop l D k h st _ _ hst13) gi_X10_243 (hwM_0 ..) rfl hd_X10_pop ⟨Nat.le_of_ble_eq_true rfl, Nat.le_of_ble_eq_true rfl⟩ rfl rfl (Nat.le_of_ble_eq_true rfl) dX10_variable_109 (fun H locs G => ?_)
  obtain ⟨h_g15, hf⟩ := gd_some hf
  refine rw_JM hx hb hK G (waM_18 ..) (t0 := 17) rfl (wsM_18 ..) h_g15 dX10_variable_112 (fun H locs G => ?_)
  exact rt_vM C G hf dX10_variable_113
def rm_Md_choose : Room := { frames := 1, cells := 0, slots := 0, locals := 22 }
set_option maxHeartbeats 4000000 in
set_option maxRecDepth 100000 in
theorem kx_Md_choose_b30 {p : Program} {l : Launch} {e : Env} {s : State} {m : MethodId} {args : Array Value} {below : List Frame} {meth : Method} {c : Code} {D : va_G} {k : Nat → ClassId} {h : Nat → Nat} (C : cxM D k p s m args meth c cX10_choose 6 none RX10) (y0 : Int64) (st : rs_T) (s' : rs_T) (hf : fx_Md_choose_b30 y0 st = some s') : ∀ (H : Heap) (locs : List Loc) (ls : Array Slot), lv_has ls 6 [] → gdM D k h (arM h s.heap.size) s.heap H locs st → W p l e rm_Md_choose s m args below meth c H locs 0 0 (MQ below (qVM D k h s.heap.size s') args s 0 0 (arM h s.heap.size)) (F0 m 30 ls [.long y0, .ref (h 0)]) := by
  obtain ⟨hx, hb, hml, hr, hown, hts, hK, hN, hlk⟩ := id C
  intro H locs ls hl G
  unfold fx_Md_choose_b30 at hf
  obtain ⟨st10, hst10, hf⟩ := bv_some hf
  refine cl_vvM C hl G (As := [.long y0]) (rest := []) (kx_Md_push l D k h y0 st _ hst10) gi_X10_221 (hwM_0 ..) rfl hd_X10_push ⟨Nat.le_of_ble_eq_true rfl, Nat.le_of_ble_eq_true rfl⟩ rfl rfl (Nat.le_of_ble_eq_true rfl) dX10_choose_30 (fun H locs G => ?_)
  exact rt_vM C G hf dX10_choose_33
set_option maxHeartbeats 4000000 in
set_option maxRecDepth 100000 in
theorem kx_Md_choose (l : Launch) (D : va_G) (k : Nat → ClassId) (h : Nat → Nat) (st : rs_T) (s' : rs_T) (hf : fx_Md_choose st = some s') : mVM l D k h yX10_choose cX10_choose 6 rm_Md_choose [.ref (h 0)] st s' := by
  refine mVM_of (by decide) ⟨rfl, rfl⟩ (Nat.le_of_ble_eq_true rfl) ?_
  intro p e s m below meth c ls C hl G
  obtain ⟨hx, hb, hml, hr, hown, hts, hK, hN, hlk⟩ := id C
  have hown : s.vm.findClass RX10 = some m.cls := hown
  have hl : lv_has ls 6 [(0, .ref (h 0))] := hl
  unfold fx_Md_choose at hf
  refine lv_aload_n hx hb dX10_choose_0 rfl (lv_at hl 0 rfl) ?_
  obtain ⟨r2, st1, hst1, hf⟩ := bn_some hf
  refine cl_vlM C hl G (As := []) (rest := []) (kx_Md_pop l D k h st _ _ hst1) gi_X10_243 (hwM_0 ..) rfl hd_X10_pop ⟨Nat.le_of_ble_eq_true rfl, Nat.le_of_ble_eq_true rfl⟩ rfl rfl (Nat.le_of_ble_eq_true rfl) dX10_choose_1 (fun H locs G => ?_)
  obtain ⟨r4, st3, hst3, hf⟩ := bn_some hf
  refine cl_siM C hl G (As := [.long r2]) (rest := []) (kx_Md_isTrue l D k h r2 st1 _ _ hst3) gi_X10_285 hd_X10_isTrue ⟨Nat.le_of_ble_eq_true rfl, Nat.le_of_ble_eq_true rfl⟩ rfl rfl (Nat.le_of_ble_eq_true rfl) dX10_choose_4 (fun H locs G => ?_)
  refine lv_istore_n (lv' := [(1, .int r4), (0, .ref (h 0))]) hx hb dX10_choose_7 rfl hl (by decide) rfl (fun ls hl => ?_)
  refine lv_aload_n hx hb dX10_choose_8 rfl (lv_at hl 1 rfl) ?_
  obtain ⟨r6, st5, hst5, hf⟩ := bn_some hf
  refine cl_vlM C hl G (As := []) (rest := []) (kx_Md_pop l D k h st3 _ _ hst5) gi_X10_243 (hwM_0 ..) rfl hd_X10_pop ⟨Nat.le_of_ble_eq_true rfl, Nat.le_of_ble_eq_true rfl⟩ rfl rfl (Nat.le_of_ble_eq_true rfl) dX10_choose_9 (fun H locs G => ?_)
  refine lv_lstore_n (lv' := [(2, .long r6), (1, .int r4), (0, .ref (h 0))]) hx hb dX10_choose_12 rfl hl (by decide) rfl (fun ls hl => ?_)
  refine lv_aload_n hx hb dX10_choose_13 rfl (lv_at hl 2 rfl) ?_
  obtain ⟨r8, st7, hst7, hf⟩ := bn_some hf
  refine cl_vlM C hl G (As := []) (rest := []) (kx_Md_pop l D k h st5 _ _ hst7) gi_X10_243 (hwM_0 ..) rfl hd_X10_pop ⟨Nat.le_of_ble_eq_true rfl, Nat.le_of_ble_eq_true rfl⟩ rfl rfl (Nat.le_of_ble_eq_true rfl) dX10_choose_14 (fun H locs G => ?_)
  refine lv_lstore (lv' := [(4, .long r8), (2, .long r6), (1, .int r4), (0, .ref (h 0))]) hx hb dX10_choose_17 hl (by decide) rfl (fun ls hl => ?_)
  refine lv_aload_n hx hb dX10_choose_19 rfl (lv_at hl 3 rfl) ?_
  refine lv_iload_n hx hb dX10_choose_20 rfl (lv_at hl 2 rfl) ?_
  refine lv_if_eq (tgt := 29) hx hb dX10_choose_21 (by decide) (fun c9 => ?_) (fun c9 => ?_)
  · replace hf := if_p hf c9
    refine lv_lload_n hx hb dX10_choose_29 rfl (lv_at hl 1 rfl) ?_
    exact kx_Md_choose_b30 C r6 st7 _ hf _ _ _ (lv_sub hl [] rfl) G
  · replace hf := if_n hf c9
    refine lv_lload hx hb dX10_choose_24 (lv_at hl 0 rfl) ?_
    refine lv_goto (tgt := 30) hx hb dX10_choose_26 (by decide) ?_
    exact kx_Md_choose_b30 C r8 st7 _ hf _ _ _ (lv_sub hl [] rfl) G
def rm_Md_simple : Room := { frames := 2, cells := 0, slots := 0, locals := 53 }
set_option maxHeartbeats 4000000 in
set_option maxRecDepth 100000 in
theorem kx_Md_simple_b155 {p : Program} {l : Launch} {e : Env} {s : State} {m : MethodId} {args : Array Value} {below : List Frame} {meth : Method} {c : Code} {D : va_G} {k : Nat → ClassId} {h : Nat → Nat} (C : cxM D k p s m args meth c cX10_simple 4 none RX10) (N : Nat) (st : rs_T) (s' : rs_T) (hf : fx_Md_simple_b155 N st = some s') : ∀ (H : Heap) (locs : List Loc) (ls : Array Slot), lv_has ls 4 [(0, .ref (h 0))] → gdM D k h (arM h s.heap.size) s.heap H locs st → W p l e rm_Md_simple s m args below meth c H locs 0 0 (MQ below (qVM D k h s.heap.size s') args s 0 0 (arM h s.heap.size)) (F0 m 155 ls []) := by
  obtain ⟨hx, hb, hml, hr, hown, hts, hK, hN, hlk⟩ := id C
  intro H locs ls hl G
  unfold fx_Md_simple_b155 at hf
  refine lv_aload_n hx hb dX10_simple_155 rfl (lv_at hl 0 rfl) ?_
  refine lv_dup hx hb dX10_simple_156 rfl ?_
  refine fg_Md_at (v := rI st 15) hx hb hts hown hK G (hts _ lk_X10_212) rfl dX10_simple_157 ?_
  refine lv_iconst (v := 1) hx hb dX10_simple_160 (by decide) ?_
  refine lv_iadd hx hb dX10_simple_161 ?_
  refine fp_Md_at hx hb hts hown hK G (hts _ lk_X10_212) dX10_simple_162 (fun H locs G => ?_)
  exact rt_vM C G hf dX10_simple_165
set_option maxHeartbeats 4000000 in
set_option maxRecDepth 100000 in
theorem kx_Md_simple_b69 {p : Program} {l : Launch} {e : Env} {s : State} {m : MethodId} {args : Array Value} {below : List Frame} {meth : Method} {c : Code} {D : va_G} {k : Nat → ClassId} {h : Nat → Nat} (C : cxM D k p s m args meth c cX10_simple 4 none RX10) (N : Nat) (x1 : Int32) (x2 : Int32) (x3 : Int32) (st : rs_T) (s' : rs_T) (hf : fx_Md_simple_b69 N x1 x2 x3 st = some s') : ∀ (H : Heap) (locs : List Loc) (ls : Array Slot), lv_has ls 4 [(0, .ref (h 0)), (1, .int x1), (2, .int x2), (3, .int x3)] → gdM D k h (arM h s.heap.size) s.heap H locs st → W p l e rm_Md_simple s m args below meth c H locs 0 0 (MQ below (qVM D k h s.heap.size s') args s 0 0 (arM h s.heap.size)) (F0 m 69 ls []) := by
  obtain ⟨hx, hb, hml, hr, hown, hts, hK, hN, hlk⟩ := id C
  intro H locs ls hl G
  unfold fx_Md_simple_b69 at hf
  refine lv_iload_n hx hb dX10_simple_69 rfl (lv_at hl 1 rfl) ?_
  refine lv_bipush (v := 63) hx hb dX10_simple_70 (by decide) ?_
  refine lv_icmp_ne (tgt := 87) hx hb dX10_simple_72 (by decide) (fun c5 => ?_) (fun c5 => ?_)
  · replace hf := if_n hf c5
    refine lv_iload_n hx hb dX10_simple_87 rfl (lv_at hl 1 rfl) ?_
    refine lv_bipush (v := 64) hx hb dX10_simple_88 (by decide) ?_
    refine lv_icmp_ne (tgt := 100) hx hb dX10_simple_90 (by decide) (fun c6 => ?_) (fun c6 => ?_)
    · replace hf := if_n hf c6
      refine lv_iload_n hx hb dX10_simple_100 rfl (lv_at hl 1 rfl) ?_
      refine lv_bipush (v := 65) hx hb dX10_simple_101 (by decide) ?_
      refine lv_icmp_ne (tgt := 119) hx hb dX10_simple_103 (by decide) (fun c7 => ?_) (fun c7 => ?_)
      · replace hf := if_n hf c7
        refine lv_iload_n hx hb dX10_simple_119 rfl (lv_at hl 1 rfl) ?_
        refine lv_bipush (v := 66) hx hb dX10_simple_120 (by decide) ?_
        refine lv_icmp_ne (tgt := 144) hx hb dX10_simple_122 (by decide) (fun c8 => ?_) (fun c8 => ?_)
        · replace hf := if_n hf c8
          refine lv_iload_n hx hb dX10_simple_144 rfl (lv_at hl 1 rfl) ?_
          refine lv_bipush (v := 68) hx hb dX10_simple_145 (by decide) ?_
          refine lv_icmp_le (tgt := 155) hx hb dX10_simple_147 (by decide) (fun c9 => ?_) (fun c9 => ?_)
          · replace hf := if_p hf c9
            exact kx_Md_simple_b155 C N st _ hf _ _ _ (lv_sub hl [0] rfl) G
          · replace hf := if_n hf c9
            refine lv_aload_n hx hb dX10_simple_150 rfl (lv_at hl 0 rfl) ?_
            refine lv_iload_n hx hb dX10_simple_151 rfl (lv_at hl 1 rfl) ?_
            obtain ⟨st10, hst10, hf⟩ := bv_some hf
            refine cl_vvM C hl G (As := [.int x1]) (rest := []) (kx_Md_work l D k h x1 st _ hst10) gi_X10_282 (hwM_0 ..) rfl hd_X10_work ⟨Nat.le_of_ble_eq_true rfl, Nat.le_of_ble_eq_true rfl⟩ rfl rfl (Nat.le_of_ble_eq_true rfl) dX10_simple_152 (fun H locs G => ?_)
            exact kx_Md_simple_b155 C N st10 _ hf _ _ _ (lv_sub hl [0] rfl) G
        · replace hf := if_p hf c8
          refine lv_aload_n hx hb dX10_simple_125 rfl (lv_at hl 0 rfl) ?_
          refine lv_iload_n hx hb dX10_simple_126 rfl (lv_at hl 3 rfl) ?_
          refine lv_i2l (v := x3.toInt64) hx hb dX10_simple_127 rfl ?_
          refine lv_bipush (v := 32) hx hb dX10_simple_128 (by decide) ?_
          refine lv_lshl (v := x3.toInt64 <<< ((32 : Int32).toInt64 &&& 63)) hx hb dX10_simple_130 rfl ?_
          refine lv_iload_n hx hb dX10_simple_131 rfl (lv_at hl 2 rfl) ?_
          refine lv_i2l (v := x2.toInt64) hx hb dX10_simple_132 rfl ?_
          refine lv_ldc2 (v := 4294967295) hx hb hown (hts _ lk_X10_241) dX10_simple_133 ?_
          refine lv_land hx hb dX10_simple_136 ?_
          refine lv_lor hx hb dX10_simple_137 ?_
          obtain ⟨st11, hst11, hf⟩ := bv_some hf
          refine cl_vvM C hl G (As := [.long ((x3.toInt64 <<< ((32 : Int32).toInt64 &&& 63)) ||| (x2.toInt64 &&& 4294967295))]) (rest := []) (kx_Md_push l D k h ((x3.toInt64 <<< ((32 : Int32).toInt64 &&& 63)) ||| (x2.toInt64 &&& 4294967295)) st _ hst11) gi_X10_221 (hwM_0 ..) rfl hd_X10_push ⟨Nat.le_of_ble_eq_true rfl, Nat.le_of_ble_eq_true rfl⟩ rfl rfl (Nat.le_of_ble_eq_true rfl) dX10_simple_138 (fun H locs G => ?_)
          refine lv_goto (tgt := 155) hx hb dX10_simple_141 (by decide) ?_
          exact kx_Md_simple_b155 C N st11 _ hf _ _ _ (lv_sub hl [0] rfl) G
      · replace hf := if_p hf c7
        refine lv_aload_n hx hb dX10_simple_106 rfl (lv_at hl 0 rfl) ?_
        refine lv_iload_n hx hb dX10_simple_107 rfl (lv_at hl 2 rfl) ?_
        refine lv_i2l (v := x2.toInt64) hx hb dX10_simple_108 rfl ?_
        refine lv_ldc2 (v := 4294967295) hx hb hown (hts _ lk_X10_241) dX10_simple_109 ?_
        refine lv_land hx hb dX10_simple_112 ?_
        obtain ⟨st12, hst12, hf⟩ := bv_some hf
        refine cl_vvM C hl G (As := [.long (x2.toInt64 &&& 4294967295)]) (rest := []) (kx_Md_push l D k h (x2.toInt64 &&& 4294967295) st _ hst12) gi_X10_221 (hwM_0 ..) rfl hd_X10_push ⟨Nat.le_of_ble_eq_true rfl, Nat.le_of_ble_eq_true rfl⟩ rfl rfl (Nat.le_of_ble_eq_true rfl) dX10_simple_113 (fun H locs G => ?_)
        refine lv_goto (tgt := 155) hx hb dX10_simple_116 (by decide) ?_
        exact kx_Md_simple_b155 C N st12 _ hf _ _ _ (lv_sub hl [0] rfl) G
    · replace hf := if_p hf c6
      refine lv_aload_n hx hb dX10_simple_93 rfl (lv_at hl 0 rfl) ?_
      obtain ⟨st13, hst13, hf⟩ := bv_some hf
      refine cl_vvM C hl G (As := []) (rest := []) (kx_Md_grow l D k h st _ hst13) gi_X10_279 (hwM_0 ..) rfl hd_X10_grow ⟨Nat.le_of_ble_eq_true rfl, Nat.le_of_ble_eq_true rfl⟩ rfl rfl (Nat.le_of_ble_eq_true rfl) dX10_simple_94 (fun H locs G => ?_)
      refine lv_goto (tgt := 155) hx hb dX10_simple_97 (by decide) ?_
      exact kx_Md_simple_b155 C N st13 _ hf _ _ _ (lv_sub hl [0] rfl) G
  · replace hf := if_p hf c5
    refine lv_aload_n hx hb dX10_simple_75 rfl (lv_at hl 0 rfl) ?_
    refine lv_aload_n hx hb dX10_simple_76 rfl (lv_at hl 0 rfl) ?_
    refine fg_Md_pages (v := rI st 7) hx hb hts hown hK G (hts _ lk_X10_69) rfl dX10_simple_77 ?_
    refine lv_i2l (v := (rI st 7).toInt64) hx hb dX10_simple_80 rfl ?_
    obtain ⟨st14, hst14, hf⟩ := bv_some hf
    refine cl_vvM C hl G (As := [.long ((rI st 7).toInt64)]) (rest := []) (kx_Md_push l D k h ((rI st 7).toInt64) st _ hst14) gi_X10_221 (hwM_0 ..) rfl hd_X10_push ⟨Nat.le_of_ble_eq_true rfl, Nat.le_of_ble_eq_true rfl⟩ rfl rfl (Nat.le_of_ble_eq_true rfl) dX10_simple_81 (fun H locs G => ?_)
    refine lv_goto (tgt := 155) hx hb dX10_simple_84 (by decide) ?_
    exact kx_Md_simple_b155 C N st14 _ hf _ _ _ (lv_sub hl [0] rfl) G
set_option maxHeartbeats 4000000 in
set_option maxRecDepth 100000 in
theorem kx_Md_simple_b48 {p : Program} {l : Launch} {e : Env} {s : State} {m : MethodId} {args : Array Value} {below : List Frame} {meth : Method} {c : Code} {D : va_G} {k : Nat → ClassId} {h : Nat → Nat} (C : cxM D k p s m args meth c cX10_simple 4 none RX10) (N : Nat) (x1 : Int32) (x2 : Int32) (x3 : Int32) (st : rs_T) (s' : rs_T) (hf : fx_Md_simple_b48 N x1 x2 x3 st = some s') : ∀ (H : Heap) (locs : List Loc) (ls : Array Slot), lv_has ls 4 [(0, .ref (h 0)), (1, .int x1), (2, .int x2), (3, .int x3)] → gdM D k h (arM h s.heap.size) s.heap H locs st → W p l e rm_Md_simple s m args below meth c H locs 0 0 (MQ below (qVM D k h s.heap.size s') args s 0 0 (arM h s.heap.size)) (F0 m 48 ls []) := by
  obtain ⟨hx, hb, hml, hr, hown, hts, hK, hN, hlk⟩ := id C
  intro H locs ls hl G
  unfold fx_Md_simple_b48 at hf
  refine lv_iload_n hx hb dX10_simple_48 rfl (lv_at hl 1 rfl) ?_
  refine lv_bipush (v := 39) hx hb dX10_simple_49 (by decide) ?_
  refine lv_icmp_le (tgt := 69) hx hb dX10_simple_51 (by decide) (fun c4 => ?_) (fun c4 => ?_)
  · replace hf := if_p hf c4
    exact kx_Md_simple_b69 C N x1 x2 x3 st _ hf _ _ _ (lv_sub hl [0, 1, 2, 3] rfl) G
  · replace hf := if_n hf c4
    refine lv_iload_n hx hb dX10_simple_54 rfl (lv_at hl 1 rfl) ?_
    refine lv_bipush (v := 63) hx hb dX10_simple_55 (by decide) ?_
    refine lv_icmp_ge (tgt := 69) hx hb dX10_simple_57 (by decide) (fun c15 => ?_) (fun c15 => ?_)
    · replace hf := if_p hf c15
      exact kx_Md_simple_b69 C N x1 x2 x3 st _ hf _ _ _ (lv_sub hl [0, 1, 2, 3] rfl) G
    · replace hf := if_n hf c15
      refine lv_aload_n hx hb dX10_simple_60 rfl (lv_at hl 0 rfl) ?_
      refine lv_iload_n hx hb dX10_simple_61 rfl (lv_at hl 1 rfl) ?_
      refine lv_iload_n hx hb dX10_simple_62 rfl (lv_at hl 2 rfl) ?_
      obtain ⟨st16, hst16, hf⟩ := bv_some hf
      refine cl_vvM C hl G (As := [.int x1, .int x2]) (rest := []) (kx_Md_move l D k h N x1 x2 st _ hst16) gi_X10_276 (hwM_0 ..) rfl hd_X10_move ⟨Nat.le_of_ble_eq_true rfl, Nat.le_of_ble_eq_true rfl⟩ rfl rfl (Nat.le_of_ble_eq_true rfl) dX10_simple_63 (fun H locs G => ?_)
      refine lv_goto (tgt := 155) hx hb dX10_simple_66 (by decide) ?_
      exact kx_Md_simple_b155 C N st16 _ hf _ _ _ (lv_sub hl [0] rfl) G
set_option maxHeartbeats 4000000 in
set_option maxRecDepth 100000 in
theorem kx_Md_simple (l : Launch) (D : va_G) (k : Nat → ClassId) (h : Nat → Nat) (N : Nat) (p1 : Int32) (p2 : Int32) (p3 : Int32) (st : rs_T) (s' : rs_T) (hf : fx_Md_simple N p1 p2 p3 st = some s') : mVM l D k h yX10_simple cX10_simple 4 rm_Md_simple [.ref (h 0), .int p1, .int p2, .int p3] st s' := by
  refine mVM_of (by decide) ⟨rfl, rfl⟩ (Nat.le_of_ble_eq_true rfl) ?_
  intro p e s m below meth c ls C hl G
  obtain ⟨hx, hb, hml, hr, hown, hts, hK, hN, hlk⟩ := id C
  have hown : s.vm.findClass RX10 = some m.cls := hown
  have hl : lv_has ls 4 [(0, .ref (h 0)), (1, .int p1), (2, .int p2), (3, .int p3)] := hl
  unfold fx_Md_simple at hf
  refine lv_iload_n hx hb dX10_simple_0 rfl (lv_at hl 1 rfl) ?_
  refine lv_bipush (v := 26) hx hb dX10_simple_1 (by decide) ?_
  refine lv_icmp_ne (tgt := 14) hx hb dX10_simple_3 (by decide) (fun c1 => ?_) (fun c1 => ?_)
  · replace hf := if_n hf c1
    refine lv_iload_n hx hb dX10_simple_14 rfl (lv_at hl 1 rfl) ?_
    refine lv_bipush (v := 27) hx hb dX10_simple_15 (by decide) ?_
    refine lv_icmp_ne (tgt := 27) hx hb dX10_simple_17 (by decide) (fun c2 => ?_) (fun c2 => ?_)
    · replace hf := if_n hf c2
      refine lv_iload_n hx hb dX10_simple_27 rfl (lv_at hl 1 rfl) ?_
      refine lv_bipush (v := 31) hx hb dX10_simple_28 (by decide) ?_
      refine lv_icmp_le (tgt := 48) hx hb dX10_simple_30 (by decide) (fun c3 => ?_) (fun c3 => ?_)
      · replace hf := if_p hf c3
        exact kx_Md_simple_b48 C N p1 p2 p3 st _ hf _ _ _ (lv_sub hl [0, 1, 2, 3] rfl) G
      · replace hf := if_n hf c3
        refine lv_iload_n hx hb dX10_simple_33 rfl (lv_at hl 1 rfl) ?_
        refine lv_bipush (v := 37) hx hb dX10_simple_34 (by decide) ?_
        refine lv_icmp_ge (tgt := 48) hx hb dX10_simple_36 (by decide) (fun c17 => ?_) (fun c17 => ?_)
        · replace hf := if_p hf c17
          exact kx_Md_simple_b48 C N p1 p2 p3 st _ hf _ _ _ (lv_sub hl [0, 1, 2, 3] rfl) G
        · replace hf := if_n hf c17
          refine lv_aload_n hx hb dX10_simple_39 rfl (lv_at hl 0 rfl) ?_
          refine lv_iload_n hx hb dX10_simple_40 rfl (lv_at hl 1 rfl) ?_
          refine lv_iload_n hx hb dX10_simple_41 rfl (lv_at hl 2 rfl) ?_
          obtain ⟨st18, hst18, hf⟩ := bv_some hf
          refine cl_vvM C hl G (As := [.int p1, .int p2]) (rest := []) (kx_Md_variable l D k h p1 p2 st _ hst18) gi_X10_273 (hwM_0 ..) rfl hd_X10_variable ⟨Nat.le_of_ble_eq_true rfl, Nat.le_of_ble_eq_true rfl⟩ rfl rfl (Nat.le_of_ble_eq_true rfl) dX10_simple_42 (fun H locs G => ?_)
          refine lv_goto (tgt := 155) hx hb dX10_simple_45 (by decide) ?_
          exact kx_Md_simple_b155 C N st18 _ hf _ _ _ (lv_sub hl [0] rfl) G
    · replace hf := if_p hf c2
      refine lv_aload_n hx hb dX10_simple_20 rfl (lv_at hl 0 rfl) ?_
      obtain ⟨st19, hst19, hf⟩ := bv_some hf
      refine cl_vvM C hl G (As := []) (rest := []) (kx_Md_choose l D k h st _ hst19) gi_X10_270 (hwM_0 ..) rfl hd_X10_choose ⟨Nat.le_of_ble_eq_true rfl, Nat.le_of_ble_eq_true rfl⟩ rfl rfl (Nat.le_of_ble_eq_true rfl) dX10_simple_21 (fun H locs G => ?_)
      refine lv_goto (tgt := 155) hx hb dX10_simple_24 (by decide) ?_
      exact kx_Md_simple_b155 C N st19 _ hf _ _ _ (lv_sub hl [0] rfl) G
  · replace hf := if_p hf c1
    refine lv_aload_n hx hb dX10_simple_6 rfl (lv_at hl 0 rfl) ?_
    obtain ⟨r21, st20, hst20, hf⟩ := bn_some hf
    refine cl_vlM C hl G (As := []) (rest := []) (kx_Md_pop l D k h st _ _ hst20) gi_X10_243 (hwM_0 ..) rfl hd_X10_pop ⟨Nat.le_of_ble_eq_true rfl, Nat.le_of_ble_eq_true rfl⟩ rfl rfl (Nat.le_of_ble_eq_true rfl) dX10_simple_7 (fun H locs G => ?_)
    refine lv_pop2_2 hx hb dX10_simple_10 rfl ?_
    refine lv_goto (tgt := 155) hx hb dX10_simple_11 (by decide) ?_
    exact kx_Md_simple_b155 C N st20 _ hf _ _ _ (lv_sub hl [0] rfl) G
def rm_Md_step : Room := { frames := 4, cells := 0, slots := 0, locals := 89 }
set_option maxHeartbeats 4000000 in
set_option maxRecDepth 100000 in
theorem kx_Md_step_b262 {p : Program} {l : Launch} {e : Env} {s : State} {m : MethodId} {args : Array Value} {below : List Frame} {meth : Method} {c : Code} {D : va_G} {k : Nat → ClassId} {h : Nat → Nat} (C : cxM D k p s m args meth c cX10_step 6 none RX10) (N : Nat) (st : rs_T) (s' : rs_T) (hf : fx_Md_step_b262 N st = some s') : ∀ (H : Heap) (locs : List Loc) (ls : Array Slot), lv_has ls 6 [(0, .ref (h 0))] → gdM D k h (arM h s.heap.size) s.heap H locs st → W p l e rm_Md_step s m args below meth c H locs 0 0 (MQ below (qVM D k h s.heap.size s') args s 0 0 (arM h s.heap.size)) (F0 m 262 ls []) := by
  obtain ⟨hx, hb, hml, hr, hown, hts, hK, hN, hlk⟩ := id C
  intro H locs ls hl G
  unfold fx_Md_step_b262 at hf
  refine lv_aload_n hx hb dX10_step_262 rfl (lv_at hl 0 rfl) ?_
  obtain ⟨st9, hst9, hf⟩ := bv_some hf
  refine cl_vvM C hl G (As := []) (rest := []) (kx_Md_pass l D k h N st _ hst9) gi_X10_307 (hwM_0 ..) rfl hd_X10_pass ⟨Nat.le_of_ble_eq_true rfl, Nat.le_of_ble_eq_true rfl⟩ rfl rfl (Nat.le_of_ble_eq_true rfl) dX10_step_263 (fun H locs G => ?_)
  exact rt_vM C G hf dX10_step_266
set_option maxHeartbeats 4000000 in
set_option maxRecDepth 100000 in
theorem kx_Md_step_b219 {p : Program} {l : Launch} {e : Env} {s : State} {m : MethodId} {args : Array Value} {below : List Frame} {meth : Method} {c : Code} {D : va_G} {k : Nat → ClassId} {h : Nat → Nat} (C : cxM D k p s m args meth c cX10_step 6 none RX10) (N : Nat) (y0 : Int32) (y1 : Int32) (st : rs_T) (s' : rs_T) (hf : fx_Md_step_b219 N y0 y1 st = some s') : ∀ (H : Heap) (locs : List Loc) (ls : Array Slot), lv_has ls 6 [(0, .ref (h 0))] → gdM D k h (arM h s.heap.size) s.heap H locs st → W p l e rm_Md_step s m args below meth c H locs 0 0 (MQ below (qVM D k h s.heap.size s') args s 0 0 (arM h s.heap.size)) (F0 m 219 ls [.int y0, .int y1, .ref (h 8), .ref (h 0)]) := by
  obtain ⟨hx, hb, hml, hr, hown, hts, hK, hN, hlk⟩ := id C
  intro H locs ls hl G
  unfold fx_Md_step_b219 at hf
  refine lv_iadd hx hb dX10_step_219 ?_
  obtain ⟨h_g22, hf⟩ := gd_some hf
  refine ra_IM (v := rA st 7 ((y1 + y0).toNatClampNeg)) hx hb hK G (waM_8 ..) (t0 := 7) rfl rfl h_g22 dX10_step_220 ?_
  obtain ⟨st23, hst23, hf⟩ := bv_some hf
  refine cl_vvM C hl G (As := [.int (rA st 7 ((y1 + y0).toNatClampNeg))]) (rest := []) (kx_Md_branch l D k h N (rA st 7 ((y1 + y0).toNatClampNeg)) st _ hst23) gi_X10_295 (hwM_0 ..) rfl hd_X10_branch ⟨Nat.le_of_ble_eq_true rfl, Nat.le_of_ble_eq_true rfl⟩ rfl rfl (Nat.le_of_ble_eq_true rfl) dX10_step_221 (fun H locs G => ?_)
  refine lv_goto (tgt := 262) hx hb dX10_step_224 (by decide) ?_
  exact kx_Md_step_b262 C N st23 _ hf _ _ _ (lv_sub hl [0] rfl) G
set_option maxHeartbeats 4000000 in
set_option maxRecDepth 100000 in
theorem kx_Md_step (l : Launch) (D : va_G) (k : Nat → ClassId) (h : Nat → Nat) (N : Nat) (st : rs_T) (s' : rs_T) (hf : fx_Md_step N st = some s') : mVM l D k h yX10_step cX10_step 6 rm_Md_step [.ref (h 0)] st s' := by
  refine mVM_of (by decide) ⟨rfl, rfl⟩ (Nat.le_of_ble_eq_true rfl) ?_
  intro p e s m below meth c ls C hl G
  obtain ⟨hx, hb, hml, hr, hown, hts, hK, hN, hlk⟩ := id C
  have hown : s.vm.findClass RX10 = some m.cls := hown
  have hl : lv_has ls 6 [(0, .ref (h 0))] := hl
  unfold fx_Md_step at hf
  refine lv_aload_n hx hb dX10_step_0 rfl (lv_at hl 0 rfl) ?_
  refine lv_dup hx hb dX10_step_1 rfl ?_
  refine fg_Md_steps (v := rI st 11) hx hb hts hown hK G (hts _ lk_X10_289) rfl dX10_step_2 ?_
  refine lv_iconst (v := 1) hx hb dX10_step_5 (by decide) ?_
  refine lv_iadd hx hb dX10_step_6 ?_
  refine fp_Md_steps hx hb hts hown hK G (hts _ lk_X10_289) dX10_step_7 (fun H locs G => ?_)
  refine lv_aload_n hx hb dX10_step_10 rfl (lv_at hl 0 rfl) ?_
  refine fg_Md_op hx hb hts hown hK G (hts _ lk_X10_28) dX10_step_11 ?_
  refine lv_aload_n hx hb dX10_step_14 rfl (lv_at hl 0 rfl) ?_
  refine fg_Md_at (v := rI st 15) hx hb hts hown hK G (hts _ lk_X10_212) rfl dX10_step_15 ?_
  obtain ⟨h_g1, hf⟩ := gd_some hf
  refine ra_IM (v := rA st 6 ((rI st 15).toNatClampNeg)) hx hb hK G (waM_7 ..) (t0 := 6) rfl rfl h_g1 dX10_step_18 ?_
  refine lv_topi (fun v2 e_v2 => ?_)
  replace hf := bd_some hf v2 e_v2
  refine lv_istore_n (lv' := [(1, .int v2), (0, .ref (h 0))]) hx hb dX10_step_19 rfl hl (by decide) rfl (fun ls hl => ?_)
  refine lv_aload_n hx hb dX10_step_20 rfl (lv_at hl 1 rfl) ?_
  refine fg_Md_one hx hb hts hown hK G (hts _ lk_X10_31) dX10_step_21 ?_
  refine lv_aload_n hx hb dX10_step_24 rfl (lv_at hl 1 rfl) ?_
  refine fg_Md_at (v := rI st 15) hx hb hts hown hK G (hts _ lk_X10_212) rfl dX10_step_25 ?_
  obtain ⟨h_g3, hf⟩ := gd_some hf
  refine ra_IM (v := rA st 7 ((rI st 15).toNatClampNeg)) hx hb hK G (waM_8 ..) (t0 := 7) rfl rfl h_g3 dX10_step_28 ?_
  refine lv_topi (fun v4 e_v4 => ?_)
  replace hf := bd_some hf v4 e_v4
  refine lv_istore_n (lv' := [(2, .int v4), (1, .int v2), (0, .ref (h 0))]) hx hb dX10_step_29 rfl hl (by decide) rfl (fun ls hl => ?_)
  refine lv_aload_n hx hb dX10_step_30 rfl (lv_at hl 2 rfl) ?_
  refine fg_Md_two hx hb hts hown hK G (hts _ lk_X10_34) dX10_step_31 ?_
  refine lv_aload_n hx hb dX10_step_34 rfl (lv_at hl 2 rfl) ?_
  refine fg_Md_at (v := rI st 15) hx hb hts hown hK G (hts _ lk_X10_212) rfl dX10_step_35 ?_
  obtain ⟨h_g5, hf⟩ := gd_some hf
  refine ra_IM (v := rA st 8 ((rI st 15).toNatClampNeg)) hx hb hK G (waM_9 ..) (t0 := 8) rfl rfl h_g5 dX10_step_38 ?_
  refine lv_topi (fun v6 e_v6 => ?_)
  replace hf := bd_some hf v6 e_v6
  refine lv_istore_n (lv' := [(3, .int v6), (2, .int v4), (1, .int v2), (0, .ref (h 0))]) hx hb dX10_step_39 rfl hl (by decide) rfl (fun ls hl => ?_)
  refine lv_iload_n hx hb dX10_step_40 rfl (lv_at hl 2 rfl) ?_
  by_cases s7_0 : v2 ∈ ([0] : List Int32)
  · replace hf := if_p hf s7_0
    refine sw_tb (tgt := 128) (off := 87) hx hb dX10_step_41 (sw_tbt s7_0 (by decide)) (by decide) (by decide) ?_
    refine lv_aload_n hx hb dX10_step_128 rfl (lv_at hl 3 rfl) ?_
    refine lv_iconst (v := 1) hx hb dX10_step_129 (by decide) ?_
    obtain ⟨st8, hst8, hf⟩ := bv_some hf
    refine cl_vvM C hl G (As := [.int 1]) (rest := []) (kx_Md_traps l D k h 1 (wI st 11 ((rI st 11) + 1)) _ hst8) gi_X10_249 (hwM_0 ..) rfl hd_X10_traps ⟨Nat.le_of_ble_eq_true rfl, Nat.le_of_ble_eq_true rfl⟩ rfl rfl (Nat.le_of_ble_eq_true rfl) dX10_step_130 (fun H locs G => ?_)
    refine lv_goto (tgt := 262) hx hb dX10_step_133 (by decide) ?_
    exact kx_Md_step_b262 C N st8 _ hf _ _ _ (lv_sub hl [3] rfl) G
  replace hf := if_n hf s7_0
  by_cases s7_1 : v2 ∈ ([4] : List Int32)
  · replace hf := if_p hf s7_1
    refine sw_tb (tgt := 136) (off := 95) hx hb dX10_step_41 (sw_tbt s7_1 (by decide)) (by decide) (by decide) ?_
    refine lv_aload_n hx hb dX10_step_136 rfl (lv_at hl 3 rfl) ?_
    refine lv_iload_n hx hb dX10_step_137 rfl (lv_at hl 1 rfl) ?_
    obtain ⟨st10, hst10, hf⟩ := bv_some hf
    refine cl_vvM C hl G (As := [.int v4]) (rest := []) (kx_Md_condition l D k h N v4 (wI st 11 ((rI st 11) + 1)) _ hst10) gi_X10_292 (hwM_0 ..) rfl hd_X10_condition ⟨Nat.le_of_ble_eq_true rfl, Nat.le_of_ble_eq_true rfl⟩ rfl rfl (Nat.le_of_ble_eq_true rfl) dX10_step_138 (fun H locs G => ?_)
    refine lv_goto (tgt := 262) hx hb dX10_step_141 (by decide) ?_
    exact kx_Md_step_b262 C N st10 _ hf _ _ _ (lv_sub hl [3] rfl) G
  replace hf := if_n hf s7_1
  by_cases s7_2 : v2 ∈ ([12] : List Int32)
  · replace hf := if_p hf s7_2
    refine sw_tb (tgt := 144) (off := 103) hx hb dX10_step_41 (sw_tbt s7_2 (by decide)) (by decide) (by decide) ?_
    refine lv_aload_n hx hb dX10_step_144 rfl (lv_at hl 3 rfl) ?_
    refine lv_iload_n hx hb dX10_step_145 rfl (lv_at hl 1 rfl) ?_
    obtain ⟨st11, hst11, hf⟩ := bv_some hf
    refine cl_vvM C hl G (As := [.int v4]) (rest := []) (kx_Md_branch l D k h N v4 (wI st 11 ((rI st 11) + 1)) _ hst11) gi_X10_295 (hwM_0 ..) rfl hd_X10_branch ⟨Nat.le_of_ble_eq_true rfl, Nat.le_of_ble_eq_true rfl⟩ rfl rfl (Nat.le_of_ble_eq_true rfl) dX10_step_146 (fun H locs G => ?_)
    refine lv_goto (tgt := 262) hx hb dX10_step_149 (by decide) ?_
    exact kx_Md_step_b262 C N st11 _ hf _ _ _ (lv_sub hl [3] rfl) G
  replace hf := if_n hf s7_2
  by_cases s7_3 : v2 ∈ ([13] : List Int32)
  · replace hf := if_p hf s7_3
    refine sw_tb (tgt := 152) (off := 111) hx hb dX10_step_41 (sw_tbt s7_3 (by decide)) (by decide) (by decide) ?_
    refine lv_aload_n hx hb dX10_step_152 rfl (lv_at hl 3 rfl) ?_
    obtain ⟨r13, st12, hst12, hf⟩ := bn_some hf
    refine cl_vlM C hl G (As := []) (rest := []) (kx_Md_pop l D k h (wI st 11 ((rI st 11) + 1)) _ _ hst12) gi_X10_243 (hwM_0 ..) rfl hd_X10_pop ⟨Nat.le_of_ble_eq_true rfl, Nat.le_of_ble_eq_true rfl⟩ rfl rfl (Nat.le_of_ble_eq_true rfl) dX10_step_153 (fun H locs G => ?_)
    obtain ⟨r15, st14, hst14, hf⟩ := bn_some hf
    refine cl_siM C hl G (As := [.long r13]) (rest := []) (kx_Md_isTrue l D k h r13 st12 _ _ hst14) gi_X10_285 hd_X10_isTrue ⟨Nat.le_of_ble_eq_true rfl, Nat.le_of_ble_eq_true rfl⟩ rfl rfl (Nat.le_of_ble_eq_true rfl) dX10_step_156 (fun H locs G => ?_)
    refine lv_if_eq (tgt := 170) hx hb dX10_step_159 (by decide) (fun c16 => ?_) (fun c16 => ?_)
    · replace hf := if_p hf c16
      refine lv_aload_n hx hb dX10_step_170 rfl (lv_at hl 3 rfl) ?_
      refine lv_dup hx hb dX10_step_171 rfl ?_
      refine fg_Md_at (v := rI st14 15) hx hb hts hown hK G (hts _ lk_X10_212) rfl dX10_step_172 ?_
      refine lv_iconst (v := 1) hx hb dX10_step_175 (by decide) ?_
      refine lv_iadd hx hb dX10_step_176 ?_
      refine fp_Md_at hx hb hts hown hK G (hts _ lk_X10_212) dX10_step_177 (fun H locs G => ?_)
      refine lv_goto (tgt := 262) hx hb dX10_step_180 (by decide) ?_
      exact kx_Md_step_b262 C N (wI st14 15 ((rI st14 15) + 1)) _ hf _ _ _ (lv_sub hl [3] rfl) G
    · replace hf := if_n hf c16
      refine lv_aload_n hx hb dX10_step_162 rfl (lv_at hl 3 rfl) ?_
      refine lv_iload_n hx hb dX10_step_163 rfl (lv_at hl 1 rfl) ?_
      obtain ⟨st17, hst17, hf⟩ := bv_some hf
      refine cl_vvM C hl G (As := [.int v4]) (rest := []) (kx_Md_branch l D k h N v4 st14 _ hst17) gi_X10_295 (hwM_0 ..) rfl hd_X10_branch ⟨Nat.le_of_ble_eq_true rfl, Nat.le_of_ble_eq_true rfl⟩ rfl rfl (Nat.le_of_ble_eq_true rfl) dX10_step_164 (fun H locs G => ?_)
      refine lv_goto (tgt := 262) hx hb dX10_step_167 (by decide) ?_
      exact kx_Md_step_b262 C N st17 _ hf _ _ _ (lv_sub hl [3] rfl) G
  replace hf := if_n hf s7_3
  by_cases s7_4 : v2 ∈ ([14] : List Int32)
  · replace hf := if_p hf s7_4
    refine sw_tb (tgt := 183) (off := 142) hx hb dX10_step_41 (sw_tbt s7_4 (by decide)) (by decide) (by decide) ?_
    refine lv_aload_n hx hb dX10_step_183 rfl (lv_at hl 3 rfl) ?_
    obtain ⟨r19, st18, hst18, hf⟩ := bn_some hf
    refine cl_vlM C hl G (As := []) (rest := []) (kx_Md_pop l D k h (wI st 11 ((rI st 11) + 1)) _ _ hst18) gi_X10_243 (hwM_0 ..) rfl hd_X10_pop ⟨Nat.le_of_ble_eq_true rfl, Nat.le_of_ble_eq_true rfl⟩ rfl rfl (Nat.le_of_ble_eq_true rfl) dX10_step_184 (fun H locs G => ?_)
    refine lv_ldc2 (v := 4294967295) hx hb hown (hts _ lk_X10_241) dX10_step_187 ?_
    refine lv_land hx hb dX10_step_190 ?_
    refine lv_topl (fun v20 e_v20 => ?_)
    replace hf := bd_some hf v20 e_v20
    refine lv_lstore (lv' := [(4, .long v20), (3, .int v6), (2, .int v4), (1, .int v2), (0, .ref (h 0))]) hx hb dX10_step_191 hl (by decide) rfl (fun ls hl => ?_)
    refine lv_aload_n hx hb dX10_step_193 rfl (lv_at hl 4 rfl) ?_
    refine lv_aload_n hx hb dX10_step_194 rfl (lv_at hl 4 rfl) ?_
    refine fg_Md_one hx hb hts hown hK G (hts _ lk_X10_31) dX10_step_195 ?_
    refine lv_aload_n hx hb dX10_step_198 rfl (lv_at hl 4 rfl) ?_
    refine fg_Md_at (v := rI st18 15) hx hb hts hown hK G (hts _ lk_X10_212) rfl dX10_step_199 ?_
    refine lv_iconst (v := 1) hx hb dX10_step_202 (by decide) ?_
    refine lv_iadd hx hb dX10_step_203 ?_
    refine lv_lload hx hb dX10_step_204 (lv_at hl 0 rfl) ?_
    refine lv_iload_n hx hb dX10_step_206 rfl (lv_at hl 2 rfl) ?_
    refine lv_i2l (v := v4.toInt64) hx hb dX10_step_207 rfl ?_
    refine W.lcmp hx hb dX10_step_208 ?_
    refine lv_if_ge (tgt := 218) hx hb dX10_step_209 (by decide) (fun c21 => ?_) (fun c21 => ?_)
    · replace hf := if_p hf c21
      refine lv_iload_n hx hb dX10_step_218 rfl (lv_at hl 2 rfl) ?_
      exact kx_Md_step_b219 C N v4 ((rI st18 15) + 1) st18 _ hf _ _ _ (lv_sub hl [4] rfl) G
    · replace hf := if_n hf c21
      refine lv_lload hx hb dX10_step_212 (lv_at hl 0 rfl) ?_
      refine lv_l2i (v := v20.toInt32) hx hb dX10_step_214 rfl ?_
      refine lv_goto (tgt := 219) hx hb dX10_step_215 (by decide) ?_
      exact kx_Md_step_b219 C N v20.toInt32 ((rI st18 15) + 1) st18 _ hf _ _ _ (lv_sub hl [4] rfl) G
  replace hf := if_n hf s7_4
  by_cases s7_5 : v2 ∈ ([15] : List Int32)
  · replace hf := if_p hf s7_5
    refine sw_tb (tgt := 227) (off := 186) hx hb dX10_step_41 (sw_tbt s7_5 (by decide)) (by decide) (by decide) ?_
    refine lv_aload_n hx hb dX10_step_227 rfl (lv_at hl 3 rfl) ?_
    refine lv_aload_n hx hb dX10_step_228 rfl (lv_at hl 3 rfl) ?_
    obtain ⟨r25, st24, hst24, hf⟩ := bn_some hf
    refine cl_viM C hl G (As := []) (rest := [.ref (h 0)]) (kx_Md_outermost l D k h N (wI st 11 ((rI st 11) + 1)) _ _ hst24) gi_X10_298 (hwM_0 ..) rfl hd_X10_outermost ⟨Nat.le_of_ble_eq_true rfl, Nat.le_of_ble_eq_true rfl⟩ rfl rfl (Nat.le_of_ble_eq_true rfl) dX10_step_229 (fun H locs G => ?_)
    obtain ⟨st26, hst26, hf⟩ := bv_some hf
    refine cl_vvM C hl G (As := [.int r25]) (rest := []) (kx_Md_branch l D k h N r25 st24 _ hst26) gi_X10_295 (hwM_0 ..) rfl hd_X10_branch ⟨Nat.le_of_ble_eq_true rfl, Nat.le_of_ble_eq_true rfl⟩ rfl rfl (Nat.le_of_ble_eq_true rfl) dX10_step_232 (fun H locs G => ?_)
    refine lv_goto (tgt := 262) hx hb dX10_step_235 (by decide) ?_
    exact kx_Md_step_b262 C N st26 _ hf _ _ _ (lv_sub hl [3] rfl) G
  replace hf := if_n hf s7_5
  by_cases s7_6 : v2 ∈ ([16] : List Int32)
  · replace hf := if_p hf s7_6
    refine sw_tb (tgt := 238) (off := 197) hx hb dX10_step_41 (sw_tbt s7_6 (by decide)) (by decide) (by decide) ?_
    refine lv_aload_n hx hb dX10_step_238 rfl (lv_at hl 3 rfl) ?_
    refine lv_iload_n hx hb dX10_step_239 rfl (lv_at hl 1 rfl) ?_
    obtain ⟨st27, hst27, hf⟩ := bv_some hf
    refine cl_vvM C hl G (As := [.int v4]) (rest := []) (kx_Md_enter l D k h N v4 (wI st 11 ((rI st 11) + 1)) _ hst27) gi_X10_252 (hwM_0 ..) rfl hd_X10_enter ⟨Nat.le_of_ble_eq_true rfl, Nat.le_of_ble_eq_true rfl⟩ rfl rfl (Nat.le_of_ble_eq_true rfl) dX10_step_240 (fun H locs G => ?_)
    refine lv_goto (tgt := 262) hx hb dX10_step_243 (by decide) ?_
    exact kx_Md_step_b262 C N st27 _ hf _ _ _ (lv_sub hl [3] rfl) G
  replace hf := if_n hf s7_6
  by_cases s7_7 : v2 ∈ ([17] : List Int32)
  · replace hf := if_p hf s7_7
    refine sw_tb (tgt := 246) (off := 205) hx hb dX10_step_41 (sw_tbt s7_7 (by decide)) (by decide) (by decide) ?_
    refine lv_aload_n hx hb dX10_step_246 rfl (lv_at hl 3 rfl) ?_
    refine lv_iload_n hx hb dX10_step_247 rfl (lv_at hl 1 rfl) ?_
    refine lv_iload_n hx hb dX10_step_248 rfl (lv_at hl 0 rfl) ?_
    obtain ⟨st28, hst28, hf⟩ := bv_some hf
    refine cl_vvM C hl G (As := [.int v4, .int v6]) (rest := []) (kx_Md_callTable l D k h N v4 v6 (wI st 11 ((rI st 11) + 1)) _ hst28) gi_X10_301 (hwM_0 ..) rfl hd_X10_callTable ⟨Nat.le_of_ble_eq_true rfl, Nat.le_of_ble_eq_true rfl⟩ rfl rfl (Nat.le_of_ble_eq_true rfl) dX10_step_249 (fun H locs G => ?_)
    refine lv_goto (tgt := 262) hx hb dX10_step_252 (by decide) ?_
    exact kx_Md_step_b262 C N st28 _ hf _ _ _ (lv_sub hl [3] rfl) G
  replace hf := if_n hf s7_7
  refine sw_tb (tgt := 255) (off := 214) hx hb dX10_step_41 (sw_tbd (sw_cons s7_0 (sw_cons s7_1 (sw_cons s7_2 (sw_cons s7_3 (sw_cons s7_4 (sw_cons s7_5 (sw_cons s7_6 (sw_cons s7_7 sw_nil)))))))) (by decide)) (by decide) (by decide) ?_
  refine lv_aload_n hx hb dX10_step_255 rfl (lv_at hl 3 rfl) ?_
  refine lv_iload_n hx hb dX10_step_256 rfl (lv_at hl 2 rfl) ?_
  refine lv_iload_n hx hb dX10_step_257 rfl (lv_at hl 1 rfl) ?_
  refine lv_iload_n hx hb dX10_step_258 rfl (lv_at hl 0 rfl) ?_
  obtain ⟨st29, hst29, hf⟩ := bv_some hf
  refine cl_vvM C hl G (As := [.int v2, .int v4, .int v6]) (rest := []) (kx_Md_simple l D k h N v2 v4 v6 (wI st 11 ((rI st 11) + 1)) _ hst29) gi_X10_304 (hwM_0 ..) rfl hd_X10_simple ⟨Nat.le_of_ble_eq_true rfl, Nat.le_of_ble_eq_true rfl⟩ rfl rfl (Nat.le_of_ble_eq_true rfl) dX10_step_259 (fun H locs G => ?_)
  exact kx_Md_step_b262 C N st29 _ hf _ _ _ (lv_sub hl [3] rfl) G
def rm_Md_run : Room := { frames := 5, cells := 0, slots := 0, locals := 114 }
set_option maxHeartbeats 4000000 in
set_option maxRecDepth 100000 in
theorem kx_Md_run_b14 {p : Program} {l : Launch} {e : Env} {s : State} {m : MethodId} {args : Array Value} {below : List Frame} {meth : Method} {c : Code} {D : va_G} {k : Nat → ClassId} {h : Nat → Nat} (C : cxM D k p s m args meth c cX10_run 3 (some .int) RX10) (N : Nat) : ∀ (n : Nat) (x1 : Int32) (x2 : Int32) (st : rs_T) (r : Int32) (s' : rs_T), fx_Md_run_b14 N n x1 x2 st = some (r, s') → ∀ (H : Heap) (locs : List Loc) (ls : Array Slot), lv_has ls 3 [(0, .ref (h 0)), (1, .int x1), (2, .int x2)] → gdM D k h (arM h s.heap.size) s.heap H locs st → W p l e rm_Md_run s m args below meth c H locs 0 0 (MQ below (qIM D k h s.heap.size r s') args s 0 0 (arM h s.heap.size)) (F0 m 14 ls []) := by
  obtain ⟨hx, hb, hml, hr, hown, hts, hK, hN, hlk⟩ := id C
  intro n
  induction n with
  | zero => intro x1 x2 st r s' hf; cases hf
  | succ n ih =>
    intro x1 x2 st r s' hf H locs ls hl G
    rw [fx_Md_run_b14] at hf
    refine lv_iload_n hx hb dX10_run_14 rfl (lv_at hl 2 rfl) ?_
    refine lv_iload_n hx hb dX10_run_15 rfl (lv_at hl 1 rfl) ?_
    refine lv_icmp_ge (tgt := 37) hx hb dX10_run_16 (by decide) (fun c4 => ?_) (fun c4 => ?_)
    · replace hf := if_p hf c4
      refine lv_iload_n hx hb dX10_run_37 rfl (lv_at hl 2 rfl) ?_
      exact rt_iM C G hf dX10_run_38
    · replace hf := if_n hf c4
      refine lv_aload_n hx hb dX10_run_19 rfl (lv_at hl 0 rfl) ?_
      refine fg_Md_state (v := rI st 9) hx hb hts hown hK G (hts _ lk_X10_215) rfl dX10_run_20 ?_
      refine lv_iconst (v := 1) hx hb dX10_run_23 (by decide) ?_
      refine lv_icmp_ne (tgt := 37) hx hb dX10_run_24 (by decide) (fun c5 => ?_) (fun c5 => ?_)
      · replace hf := if_n hf c5
        refine lv_iload_n hx hb dX10_run_37 rfl (lv_at hl 2 rfl) ?_
        exact rt_iM C G hf dX10_run_38
      · replace hf := if_p hf c5
        refine lv_aload_n hx hb dX10_run_27 rfl (lv_at hl 0 rfl) ?_
        obtain ⟨st6, hst6, hf⟩ := bv_some hf
        refine cl_vvM C hl G (As := []) (rest := []) (kx_Md_step l D k h N st _ hst6) gi_X10_313 (hwM_0 ..) rfl hd_X10_step ⟨Nat.le_of_ble_eq_true rfl, Nat.le_of_ble_eq_true rfl⟩ rfl rfl (Nat.le_of_ble_eq_true rfl) dX10_run_28 (fun H locs G => ?_)
        obtain ⟨v7, e_v7⟩ : ∃ z : Int32, z = x2 + 1 := ⟨_, rfl⟩
        replace hf := bd_some hf v7 e_v7
        refine lv_iinc (v := v7) (lv' := [(2, .int v7), (0, .ref (h 0)), (1, .int x1)]) hx hb dX10_run_31 hl (k := 2) rfl (by rw [e_v7]; rfl) (by decide) rfl (fun ls hl => ?_)
        refine lv_goto (tgt := 14) hx hb dX10_run_34 (by decide) ?_
        exact ih x1 v7 st6 _ _ hf _ _ _ (lv_sub hl [1, 2, 0] rfl) G
set_option maxHeartbeats 4000000 in
set_option maxRecDepth 100000 in
theorem kx_Md_run (l : Launch) (D : va_G) (k : Nat → ClassId) (h : Nat → Nat) (N : Nat) (p1 : Int32) (st : rs_T) (r : Int32) (s' : rs_T) (hf : fx_Md_run N p1 st = some (r, s')) : mIM l D k h yX10_run cX10_run 3 .int rm_Md_run [.ref (h 0), .int p1] st r s' := by
  refine mIM_of (by decide) ⟨rfl, rfl⟩ (Nat.le_of_ble_eq_true rfl) ?_
  intro p e s m below meth c ls C hl G
  obtain ⟨hx, hb, hml, hr, hown, hts, hK, hN, hlk⟩ := id C
  have hown : s.vm.findClass RX10 = some m.cls := hown
  have hl : lv_has ls 3 [(0, .ref (h 0)), (1, .int p1)] := hl
  unfold fx_Md_run at hf
  refine lv_iload_n hx hb dX10_run_0 rfl (lv_at hl 1 rfl) ?_
  refine lv_sipush (v := 2000) hx hb dX10_run_1 (by decide) ?_
  obtain ⟨r2, st1, hst1, hf⟩ := bn_some hf
  refine cl_siM C hl G (As := [.int p1, .int 2000]) (rest := []) (kx_Md_within l D k h p1 2000 st _ _ hst1) gi_X10_110 hd_X10_within ⟨Nat.le_of_ble_eq_true rfl, Nat.le_of_ble_eq_true rfl⟩ rfl rfl (Nat.le_of_ble_eq_true rfl) dX10_run_4 (fun H locs G => ?_)
  refine lv_if_ne (tgt := 12) hx hb dX10_run_7 (by decide) (fun c3 => ?_) (fun c3 => ?_)
  · replace hf := if_n hf c3
    refine lv_iconst (v := 0) hx hb dX10_run_12 (by decide) ?_
    refine lv_istore_n (lv' := [(2, .int 0), (0, .ref (h 0)), (1, .int p1)]) hx hb dX10_run_13 rfl hl (by decide) rfl (fun ls hl => ?_)
    exact kx_Md_run_b14 C N N p1 0 st1 _ _ hf _ _ _ (lv_sub hl [1, 2, 0] rfl) G
  · replace hf := if_p hf c3
    refine lv_iconst (v := (-1)) hx hb dX10_run_10 (by decide) ?_
    exact rt_iM C G hf dX10_run_11
def rm_Md_compiledOnes : Room := { frames := 0, cells := 0, slots := 0, locals := 0 }
set_option maxHeartbeats 4000000 in
set_option maxRecDepth 100000 in
theorem kx_Md_compiledOnes_b27 {p : Program} {l : Launch} {e : Env} {s : State} {m : MethodId} {args : Array Value} {below : List Frame} {meth : Method} {c : Code} {D : va_G} {k : Nat → ClassId} {h : Nat → Nat} (C : cxM D k p s m args meth c cX10_compiledOnes 3 (some .int) RX10) (N : Nat) (rec4 : Int32 → Int32 → rs_T → Option (Int32 × rs_T)) (ih4 : ∀ (x1 : Int32) (x2 : Int32) (st : rs_T) (r : Int32) (s' : rs_T), rec4 x1 x2 st = some (r, s') → ∀ (H : Heap) (locs : List Loc) (ls : Array Slot), lv_has ls 3 [(0, .ref (h 0)), (1, .int x1), (2, .int x2)] → gdM D k h (arM h s.heap.size) s.heap H locs st → W p l e rm_Md_compiledOnes s m args below meth c H locs 0 0 (MQ below (qIM D k h s.heap.size r s') args s 0 0 (arM h s.heap.size)) (F0 m 4 ls [])) (x2 : Int32) (y0 : Int32) (y1 : Int32) (st : rs_T) (r : Int32) (s' : rs_T) (hf : fx_Md_compiledOnes_b27 N rec4 x2 y0 y1 st = some (r, s')) : ∀ (H : Heap) (locs : List Loc) (ls : Array Slot), lv_has ls 3 [(0, .ref (h 0)), (2, .int x2)] → gdM D k h (arM h s.heap.size) s.heap H locs st → W p l e rm_Md_compiledOnes s m args below meth c H locs 0 0 (MQ below (qIM D k h s.heap.size r s') args s 0 0 (arM h s.heap.size)) (F0 m 27 ls [.int y0, .int y1]) := by
  obtain ⟨hx, hb, hml, hr, hown, hts, hK, hN, hlk⟩ := id C
  intro H locs ls hl G
  unfold fx_Md_compiledOnes_b27 at hf
  refine lv_iadd hx hb dX10_compiledOnes_27 ?_
  refine lv_topi (fun v4 e_v4 => ?_)
  replace hf := bd_some hf v4 e_v4
  refine lv_istore_n (lv' := [(1, .int v4), (0, .ref (h 0)), (2, .int x2)]) hx hb dX10_compiledOnes_28 rfl hl (by decide) rfl (fun ls hl => ?_)
  obtain ⟨v5, e_v5⟩ : ∃ z : Int32, z = x2 + 1 := ⟨_, rfl⟩
  replace hf := bd_some hf v5 e_v5
  refine lv_iinc (v := v5) (lv' := [(2, .int v5), (1, .int v4), (0, .ref (h 0))]) hx hb dX10_compiledOnes_29 hl (k := 2) rfl (by rw [e_v5]; rfl) (by decide) rfl (fun ls hl => ?_)
  refine lv_goto (tgt := 4) hx hb dX10_compiledOnes_32 (by decide) ?_
  exact ih4 v4 v5 st _ _ hf _ _ _ (lv_sub hl [2, 1, 0] rfl) G
set_option maxHeartbeats 4000000 in
set_option maxRecDepth 100000 in
theorem kx_Md_compiledOnes_b4 {p : Program} {l : Launch} {e : Env} {s : State} {m : MethodId} {args : Array Value} {below : List Frame} {meth : Method} {c : Code} {D : va_G} {k : Nat → ClassId} {h : Nat → Nat} (C : cxM D k p s m args meth c cX10_compiledOnes 3 (some .int) RX10) (N : Nat) : ∀ (n : Nat) (x1 : Int32) (x2 : Int32) (st : rs_T) (r : Int32) (s' : rs_T), fx_Md_compiledOnes_b4 N n x1 x2 st = some (r, s') → ∀ (H : Heap) (locs : List Loc) (ls : Array Slot), lv_has ls 3 [(0, .ref (h 0)), (1, .int x1), (2, .int x2)] → gdM D k h (arM h s.heap.size) s.heap H locs st → W p l e rm_Md_compiledOnes s m args below meth c H locs 0 0 (MQ below (qIM D k h s.heap.size r s') args s 0 0 (arM h s.heap.size)) (F0 m 4 ls []) := by
  obtain ⟨hx, hb, hml, hr, hown, hts, hK, hN, hlk⟩ := id C
  intro n
  induction n with
  | zero => intro x1 x2 st r s' hf; cases hf
  | succ n ih =>
    intro x1 x2 st r s' hf H locs ls hl G
    rw [fx_Md_compiledOnes_b4] at hf
    refine lv_iload_n hx hb dX10_compiledOnes_4 rfl (lv_at hl 2 rfl) ?_
    refine lv_aload_n hx hb dX10_compiledOnes_5 rfl (lv_at hl 0 rfl) ?_
    refine fg_Md_functions (v := rI st 0) hx hb hts hown hK G (hts _ lk_X10_107) rfl dX10_compiledOnes_6 ?_
    refine lv_icmp_ge (tgt := 35) hx hb dX10_compiledOnes_9 (by decide) (fun c1 => ?_) (fun c1 => ?_)
    · replace hf := if_p hf c1
      refine lv_iload_n hx hb dX10_compiledOnes_35 rfl (lv_at hl 1 rfl) ?_
      exact rt_iM C G hf dX10_compiledOnes_36
    · replace hf := if_n hf c1
      refine lv_iload_n hx hb dX10_compiledOnes_12 rfl (lv_at hl 1 rfl) ?_
      refine lv_aload_n hx hb dX10_compiledOnes_13 rfl (lv_at hl 0 rfl) ?_
      refine fg_Md_compiled hx hb hts hown hK G (hts _ lk_X10_97) dX10_compiledOnes_14 ?_
      refine lv_iload_n hx hb dX10_compiledOnes_17 rfl (lv_at hl 2 rfl) ?_
      obtain ⟨h_g2, hf⟩ := gd_some hf
      refine ra_ZM (v := rA st 22 x2.toNatClampNeg) hx hb hK G (waM_26 ..) (t0 := 25) rfl rfl h_g2 dX10_compiledOnes_18 ?_
      refine lv_if_eq (tgt := 26) hx hb dX10_compiledOnes_19 (by decide) (fun c3 => ?_) (fun c3 => ?_)
      · replace hf := if_p hf c3
        refine lv_iconst (v := 0) hx hb dX10_compiledOnes_26 (by decide) ?_
        exact kx_Md_compiledOnes_b27 C N (fx_Md_compiledOnes_b4 N n) ih x2 0 x1 st _ _ hf _ _ _ (lv_sub hl [0, 2] rfl) G
      · replace hf := if_n hf c3
        refine lv_iconst (v := 1) hx hb dX10_compiledOnes_22 (by decide) ?_
        refine lv_goto (tgt := 27) hx hb dX10_compiledOnes_23 (by decide) ?_
        exact kx_Md_compiledOnes_b27 C N (fx_Md_compiledOnes_b4 N n) ih x2 1 x1 st _ _ hf _ _ _ (lv_sub hl [0, 2] rfl) G
set_option maxHeartbeats 4000000 in
set_option maxRecDepth 100000 in
theorem kx_Md_compiledOnes (l : Launch) (D : va_G) (k : Nat → ClassId) (h : Nat → Nat) (N : Nat) (st : rs_T) (r : Int32) (s' : rs_T) (hf : fx_Md_compiledOnes N st = some (r, s')) : mIM l D k h yX10_compiledOnes cX10_compiledOnes 3 .int rm_Md_compiledOnes [.ref (h 0)] st r s' := by
  refine mIM_of (by decide) ⟨rfl, rfl⟩ (Nat.le_of_ble_eq_true rfl) ?_
  intro p e s m below meth c ls C hl G
  obtain ⟨hx, hb, hml, hr, hown, hts, hK, hN, hlk⟩ := id C
  have hown : s.vm.findClass RX10 = some m.cls := hown
  have hl : lv_has ls 3 [(0, .ref (h 0))] := hl
  unfold fx_Md_compiledOnes at hf
  refine lv_iconst (v := 0) hx hb dX10_compiledOnes_0 (by decide) ?_
  refine lv_istore_n (lv' := [(1, .int 0), (0, .ref (h 0))]) hx hb dX10_compiledOnes_1 rfl hl (by decide) rfl (fun ls hl => ?_)
  refine lv_iconst (v := 0) hx hb dX10_compiledOnes_2 (by decide) ?_
  refine lv_istore_n (lv' := [(2, .int 0), (1, .int 0), (0, .ref (h 0))]) hx hb dX10_compiledOnes_3 rfl hl (by decide) rfl (fun ls hl => ?_)
  exact kx_Md_compiledOnes_b4 C N N 0 0 st _ _ hf _ _ _ (lv_sub hl [2, 1, 0] rfl) G
def rm_Md_state : Room := { frames := 1, cells := 0, slots := 0, locals := 22 }
set_option maxHeartbeats 4000000 in
set_option maxRecDepth 100000 in
theorem kx_Md_state (l : Launch) (D : va_G) (k : Nat → ClassId) (h : Nat → Nat) (N : Nat) (p1 : Int32) (st : rs_T) (r : Int32) (s' : rs_T) (hf : fx_Md_state N p1 st = some (r, s')) : mIM l D k h yX10_state cX10_state 2 .int rm_Md_state [.ref (h 0), .int p1] st r s' := by
  refine mIM_of (by decide) ⟨rfl, rfl⟩ (Nat.le_of_ble_eq_true rfl) ?_
  intro p e s m below meth c ls C hl G
  obtain ⟨hx, hb, hml, hr, hown, hts, hK, hN, hlk⟩ := id C
  have hown : s.vm.findClass RX10 = some m.cls := hown
  have hl : lv_has ls 2 [(0, .ref (h 0)), (1, .int p1)] := hl
  unfold fx_Md_state at hf
  refine lv_iload_n hx hb dX10_state_0 rfl (lv_at hl 1 rfl) ?_
  by_cases s1_0 : p1 ∈ ([0] : List Int32)
  · replace hf := if_p hf s1_0
    refine sw_tb (tgt := 64) (off := 63) hx hb dX10_state_1 (sw_tbt s1_0 (by decide)) (by decide) (by decide) ?_
    refine lv_aload_n hx hb dX10_state_64 rfl (lv_at hl 0 rfl) ?_
    refine fg_Md_state (v := rI st 9) hx hb hts hown hK G (hts _ lk_X10_215) rfl dX10_state_65 ?_
    exact rt_iM C G hf dX10_state_68
  replace hf := if_n hf s1_0
  by_cases s1_1 : p1 ∈ ([1] : List Int32)
  · replace hf := if_p hf s1_1
    refine sw_tb (tgt := 69) (off := 68) hx hb dX10_state_1 (sw_tbt s1_1 (by decide)) (by decide) (by decide) ?_
    refine lv_aload_n hx hb dX10_state_69 rfl (lv_at hl 0 rfl) ?_
    refine fg_Md_trap (v := rI st 10) hx hb hts hown hK G (hts _ lk_X10_238) rfl dX10_state_70 ?_
    exact rt_iM C G hf dX10_state_73
  replace hf := if_n hf s1_1
  by_cases s1_2 : p1 ∈ ([2] : List Int32)
  · replace hf := if_p hf s1_2
    refine sw_tb (tgt := 74) (off := 73) hx hb dX10_state_1 (sw_tbt s1_2 (by decide)) (by decide) (by decide) ?_
    refine lv_aload_n hx hb dX10_state_74 rfl (lv_at hl 0 rfl) ?_
    refine fg_Md_state (v := rI st 9) hx hb hts hown hK G (hts _ lk_X10_215) rfl dX10_state_75 ?_
    refine lv_iconst (v := 1) hx hb dX10_state_78 (by decide) ?_
    refine lv_icmp_ne (tgt := 89) hx hb dX10_state_79 (by decide) (fun c2 => ?_) (fun c2 => ?_)
    · replace hf := if_n hf c2
      refine lv_iconst (v := 0) hx hb dX10_state_89 (by decide) ?_
      exact rt_iM C G hf dX10_state_90
    · replace hf := if_p hf c2
      refine lv_aload_n hx hb dX10_state_82 rfl (lv_at hl 0 rfl) ?_
      refine fg_Md_frames (v := rI st 12) hx hb hts hown hK G (hts _ lk_X10_190) rfl dX10_state_83 ?_
      refine lv_goto (tgt := 90) hx hb dX10_state_86 (by decide) ?_
      exact rt_iM C G hf dX10_state_90
  replace hf := if_n hf s1_2
  by_cases s1_3 : p1 ∈ ([3] : List Int32)
  · replace hf := if_p hf s1_3
    refine sw_tb (tgt := 91) (off := 90) hx hb dX10_state_1 (sw_tbt s1_3 (by decide)) (by decide) (by decide) ?_
    refine lv_aload_n hx hb dX10_state_91 rfl (lv_at hl 0 rfl) ?_
    refine fg_Md_latest (v := rI st 18) hx hb hts hown hK G (hts _ lk_X10_91) rfl dX10_state_92 ?_
    refine lv_if_ge (tgt := 102) hx hb dX10_state_95 (by decide) (fun c3 => ?_) (fun c3 => ?_)
    · replace hf := if_p hf c3
      refine lv_aload_n hx hb dX10_state_102 rfl (lv_at hl 0 rfl) ?_
      refine fg_Md_counted hx hb hts hown hK G (hts _ lk_X10_94) dX10_state_103 ?_
      refine lv_aload_n hx hb dX10_state_106 rfl (lv_at hl 0 rfl) ?_
      refine fg_Md_latest (v := rI st 18) hx hb hts hown hK G (hts _ lk_X10_91) rfl dX10_state_107 ?_
      obtain ⟨h_g4, hf⟩ := gd_some hf
      refine ra_IM (v := rA st 21 ((rI st 18).toNatClampNeg)) hx hb hK G (waM_25 ..) (t0 := 24) rfl rfl h_g4 dX10_state_110 ?_
      exact rt_iM C G hf dX10_state_111
    · replace hf := if_n hf c3
      refine lv_iconst (v := 0) hx hb dX10_state_98 (by decide) ?_
      refine lv_goto (tgt := 111) hx hb dX10_state_99 (by decide) ?_
      exact rt_iM C G hf dX10_state_111
  replace hf := if_n hf s1_3
  by_cases s1_4 : p1 ∈ ([4] : List Int32)
  · replace hf := if_p hf s1_4
    refine sw_tb (tgt := 112) (off := 111) hx hb dX10_state_1 (sw_tbt s1_4 (by decide)) (by decide) (by decide) ?_
    refine lv_aload_n hx hb dX10_state_112 rfl (lv_at hl 0 rfl) ?_
    refine fg_Md_steps (v := rI st 11) hx hb hts hown hK G (hts _ lk_X10_289) rfl dX10_state_113 ?_
    exact rt_iM C G hf dX10_state_116
  replace hf := if_n hf s1_4
  by_cases s1_5 : p1 ∈ ([5] : List Int32)
  · replace hf := if_p hf s1_5
    refine sw_tb (tgt := 117) (off := 116) hx hb dX10_state_1 (sw_tbt s1_5 (by decide)) (by decide) (by decide) ?_
    refine lv_aload_n hx hb dX10_state_117 rfl (lv_at hl 0 rfl) ?_
    refine fg_Md_functions (v := rI st 0) hx hb hts hown hK G (hts _ lk_X10_107) rfl dX10_state_118 ?_
    exact rt_iM C G hf dX10_state_121
  replace hf := if_n hf s1_5
  by_cases s1_6 : p1 ∈ ([6] : List Int32)
  · replace hf := if_p hf s1_6
    refine sw_tb (tgt := 122) (off := 121) hx hb dX10_state_1 (sw_tbt s1_6 (by decide)) (by decide) (by decide) ?_
    refine lv_aload_n hx hb dX10_state_122 rfl (lv_at hl 0 rfl) ?_
    refine fg_Md_total (v := rI st 1) hx hb hts hown hK G (hts _ lk_X10_114) rfl dX10_state_123 ?_
    exact rt_iM C G hf dX10_state_126
  replace hf := if_n hf s1_6
  by_cases s1_7 : p1 ∈ ([7] : List Int32)
  · replace hf := if_p hf s1_7
    refine sw_tb (tgt := 127) (off := 126) hx hb dX10_state_1 (sw_tbt s1_7 (by decide)) (by decide) (by decide) ?_
    refine lv_aload_n hx hb dX10_state_127 rfl (lv_at hl 0 rfl) ?_
    refine fg_Md_writing (v := rI st 2) hx hb hts hown hK G (hts _ lk_X10_103) rfl dX10_state_128 ?_
    refine lv_if_eq (tgt := 141) hx hb dX10_state_131 (by decide) (fun c5 => ?_) (fun c5 => ?_)
    · replace hf := if_p hf c5
      refine lv_iconst (v := 0) hx hb dX10_state_141 (by decide) ?_
      exact rt_iM C G hf dX10_state_142
    · replace hf := if_n hf c5
      refine lv_aload_n hx hb dX10_state_134 rfl (lv_at hl 0 rfl) ?_
      refine fg_Md_labels (v := rI st 3) hx hb hts hown hK G (hts _ lk_X10_117) rfl dX10_state_135 ?_
      refine lv_goto (tgt := 142) hx hb dX10_state_138 (by decide) ?_
      exact rt_iM C G hf dX10_state_142
  replace hf := if_n hf s1_7
  by_cases s1_8 : p1 ∈ ([8] : List Int32)
  · replace hf := if_p hf s1_8
    refine sw_tb (tgt := 143) (off := 142) hx hb dX10_state_1 (sw_tbt s1_8 (by decide)) (by decide) (by decide) ?_
    refine lv_aload_n hx hb dX10_state_143 rfl (lv_at hl 0 rfl) ?_
    refine fg_Md_writing (v := rI st 2) hx hb hts hown hK G (hts _ lk_X10_103) rfl dX10_state_144 ?_
    refine lv_if_eq (tgt := 162) hx hb dX10_state_147 (by decide) (fun c6 => ?_) (fun c6 => ?_)
    · replace hf := if_p hf c6
      refine lv_iconst (v := 0) hx hb dX10_state_162 (by decide) ?_
      exact rt_iM C G hf dX10_state_163
    · replace hf := if_n hf c6
      refine lv_aload_n hx hb dX10_state_150 rfl (lv_at hl 0 rfl) ?_
      refine fg_Md_own hx hb hts hown hK G (hts _ lk_X10_52) dX10_state_151 ?_
      refine lv_aload_n hx hb dX10_state_154 rfl (lv_at hl 0 rfl) ?_
      obtain ⟨r8, st7, hst7, hf⟩ := bn_some hf
      refine cl_viM C hl G (As := []) (rest := [.ref (h 15)]) (kx_Md_inner l D k h st _ _ hst7) gi_X10_127 (hwM_0 ..) rfl hd_X10_inner ⟨Nat.le_of_ble_eq_true rfl, Nat.le_of_ble_eq_true rfl⟩ rfl rfl (Nat.le_of_ble_eq_true rfl) dX10_state_155 (fun H locs G => ?_)
      obtain ⟨h_g9, hf⟩ := gd_some hf
      refine ra_IM (v := rA st7 14 r8.toNatClampNeg) hx hb hK G (waM_15 ..) (t0 := 14) rfl rfl h_g9 dX10_state_158 ?_
      refine lv_goto (tgt := 163) hx hb dX10_state_159 (by decide) ?_
      exact rt_iM C G hf dX10_state_163
  replace hf := if_n hf s1_8
  by_cases s1_9 : p1 ∈ ([9] : List Int32)
  · replace hf := if_p hf s1_9
    refine sw_tb (tgt := 164) (off := 163) hx hb dX10_state_1 (sw_tbt s1_9 (by decide)) (by decide) (by decide) ?_
    refine lv_aload_n hx hb dX10_state_164 rfl (lv_at hl 0 rfl) ?_
    refine fg_Md_writing (v := rI st 2) hx hb hts hown hK G (hts _ lk_X10_103) rfl dX10_state_165 ?_
    refine lv_if_eq (tgt := 187) hx hb dX10_state_168 (by decide) (fun c10 => ?_) (fun c10 => ?_)
    · replace hf := if_p hf c10
      refine lv_iconst (v := 0) hx hb dX10_state_187 (by decide) ?_
      exact rt_iM C G hf dX10_state_188
    · replace hf := if_n hf c10
      refine lv_aload_n hx hb dX10_state_171 rfl (lv_at hl 0 rfl) ?_
      refine fg_Md_dead hx hb hts hown hK G (hts _ lk_X10_55) dX10_state_172 ?_
      refine lv_aload_n hx hb dX10_state_175 rfl (lv_at hl 0 rfl) ?_
      obtain ⟨r12, st11, hst11, hf⟩ := bn_some hf
      refine cl_viM C hl G (As := []) (rest := [.ref (h 16)]) (kx_Md_inner l D k h st _ _ hst11) gi_X10_127 (hwM_0 ..) rfl hd_X10_inner ⟨Nat.le_of_ble_eq_true rfl, Nat.le_of_ble_eq_true rfl⟩ rfl rfl (Nat.le_of_ble_eq_true rfl) dX10_state_176 (fun H locs G => ?_)
      obtain ⟨h_g13, hf⟩ := gd_some hf
      refine ra_ZM (v := rA st11 15 r12.toNatClampNeg) hx hb hK G (waM_16 ..) (t0 := 15) rfl rfl h_g13 dX10_state_179 ?_
      refine lv_if_eq (tgt := 187) hx hb dX10_state_180 (by decide) (fun c14 => ?_) (fun c14 => ?_)
      · replace hf := if_p hf c14
        refine lv_iconst (v := 0) hx hb dX10_state_187 (by decide) ?_
        exact rt_iM C G hf dX10_state_188
      · replace hf := if_n hf c14
        refine lv_iconst (v := 1) hx hb dX10_state_183 (by decide) ?_
        refine lv_goto (tgt := 188) hx hb dX10_state_184 (by decide) ?_
        exact rt_iM C G hf dX10_state_188
  replace hf := if_n hf s1_9
  by_cases s1_10 : p1 ∈ ([10] : List Int32)
  · replace hf := if_p hf s1_10
    refine sw_tb (tgt := 189) (off := 188) hx hb dX10_state_1 (sw_tbt s1_10 (by decide)) (by decide) (by decide) ?_
    refine lv_aload_n hx hb dX10_state_189 rfl (lv_at hl 0 rfl) ?_
    refine fg_Md_pages (v := rI st 7) hx hb hts hown hK G (hts _ lk_X10_69) rfl dX10_state_190 ?_
    exact rt_iM C G hf dX10_state_193
  replace hf := if_n hf s1_10
  by_cases s1_11 : p1 ∈ ([11] : List Int32)
  · replace hf := if_p hf s1_11
    refine sw_tb (tgt := 194) (off := 193) hx hb dX10_state_1 (sw_tbt s1_11 (by decide)) (by decide) (by decide) ?_
    refine lv_aload_n hx hb dX10_state_194 rfl (lv_at hl 0 rfl) ?_
    obtain ⟨r16, st15, hst15, hf⟩ := bn_some hf
    refine cl_viM C hl G (As := []) (rest := []) (kx_Md_compiledOnes l D k h N st _ _ hst15) gi_X10_316 (hwM_0 ..) rfl hd_X10_compiledOnes ⟨Nat.le_of_ble_eq_true rfl, Nat.le_of_ble_eq_true rfl⟩ rfl rfl (Nat.le_of_ble_eq_true rfl) dX10_state_195 (fun H locs G => ?_)
    exact rt_iM C G hf dX10_state_198
  replace hf := if_n hf s1_11
  refine sw_tb (tgt := 199) (off := 198) hx hb dX10_state_1 (sw_tbd (sw_cons s1_0 (sw_cons s1_1 (sw_cons s1_2 (sw_cons s1_3 (sw_cons s1_4 (sw_cons s1_5 (sw_cons s1_6 (sw_cons s1_7 (sw_cons s1_8 (sw_cons s1_9 (sw_cons s1_10 (sw_cons s1_11 sw_nil)))))))))))) (by decide)) (by decide) (by decide) ?_
  refine lv_iconst (v := (-1)) hx hb dX10_state_199 (by decide) ?_
  exact rt_iM C G hf dX10_state_200
def rm_Md_result : Room := { frames := 0, cells := 0, slots := 0, locals := 0 }
set_option maxHeartbeats 4000000 in
set_option maxRecDepth 100000 in
theorem kx_Md_result (l : Launch) (D : va_G) (k : Nat → ClassId) (h : Nat → Nat) (p1 : Int32) (st : rs_T) (r : Int64) (s' : rs_T) (hf : fx_Md_result p1 st = some (r, s')) : mLM l D k h yX10_result cX10_result 2 rm_Md_result [.ref (h 0), .int p1] st r s' := by
  refine mLM_of (by decide) ⟨rfl, rfl⟩ (Nat.le_of_ble_eq_true rfl) ?_
  intro p e s m below meth c ls C hl G
  obtain ⟨hx, hb, hml, hr, hown, hts, hK, hN, hlk⟩ := id C
  have hown : s.vm.findClass RX10 = some m.cls := hown
  have hl : lv_has ls 2 [(0, .ref (h 0)), (1, .int p1)] := hl
  unfold fx_Md_result at hf
  refine lv_aload_n hx hb dX10_result_0 rfl (lv_at hl 0 rfl) ?_
  refine fg_Md_state (v := rI st 9) hx hb hts hown hK G (hts _ lk_X10_215) rfl dX10_result_1 ?_
  refine lv_iconst (v := 2) hx hb dX10_result_4 (by decide) ?_
  refine lv_icmp_ne (tgt := 29) hx hb dX10_result_5 (by decide) (fun c1 => ?_) (fun c1 => ?_)
  · replace hf := if_n hf c1
    refine lv_lconst (v := 0) hx hb dX10_result_29 (by decide) ?_
    exact rt_lM C G hf dX10_result_30
  · replace hf := if_p hf c1
    refine lv_iload_n hx hb dX10_result_8 rfl (lv_at hl 1 rfl) ?_
    refine lv_if_lt (tgt := 29) hx hb dX10_result_9 (by decide) (fun c2 => ?_) (fun c2 => ?_)
    · replace hf := if_p hf c2
      refine lv_lconst (v := 0) hx hb dX10_result_29 (by decide) ?_
      exact rt_lM C G hf dX10_result_30
    · replace hf := if_n hf c2
      refine lv_iload_n hx hb dX10_result_12 rfl (lv_at hl 1 rfl) ?_
      refine lv_aload_n hx hb dX10_result_13 rfl (lv_at hl 0 rfl) ?_
      refine fg_Md_outcomes (v := rI st 16) hx hb hts hown hK G (hts _ lk_X10_218) rfl dX10_result_14 ?_
      refine lv_icmp_ge (tgt := 29) hx hb dX10_result_17 (by decide) (fun c3 => ?_) (fun c3 => ?_)
      · replace hf := if_p hf c3
        refine lv_lconst (v := 0) hx hb dX10_result_29 (by decide) ?_
        exact rt_lM C G hf dX10_result_30
      · replace hf := if_n hf c3
        refine lv_aload_n hx hb dX10_result_20 rfl (lv_at hl 0 rfl) ?_
        refine fg_Md_outcome hx hb hts hown hK G (hts _ lk_X10_100) dX10_result_21 ?_
        refine lv_iload_n hx hb dX10_result_24 rfl (lv_at hl 1 rfl) ?_
        obtain ⟨h_g4, hf⟩ := gd_some hf
        refine ra_JM (v := rL st 3 p1.toNatClampNeg) hx hb hK G (waM_27 ..) (t0 := 26) rfl rfl h_g4 dX10_result_25 ?_
        refine lv_goto (tgt := 30) hx hb dX10_result_26 (by decide) ?_
        exact rt_lM C G hf dX10_result_30
def rm_Md_global : Room := { frames := 1, cells := 0, slots := 0, locals := 21 }
set_option maxHeartbeats 4000000 in
set_option maxRecDepth 100000 in
theorem kx_Md_global (l : Launch) (D : va_G) (k : Nat → ClassId) (h : Nat → Nat) (p1 : Int32) (st : rs_T) (r : Int64) (s' : rs_T) (hf : fx_Md_global p1 st = some (r, s')) : mLM l D k h yX10_global cX10_global 2 rm_Md_global [.ref (h 0), .int p1] st r s' := by
  refine mLM_of (by decide) ⟨rfl, rfl⟩ (Nat.le_of_ble_eq_true rfl) ?_
  intro p e s m below meth c ls C hl G
  obtain ⟨hx, hb, hml, hr, hown, hts, hK, hN, hlk⟩ := id C
  have hown : s.vm.findClass RX10 = some m.cls := hown
  have hl : lv_has ls 2 [(0, .ref (h 0)), (1, .int p1)] := hl
  unfold fx_Md_global at hf
  refine lv_iload_n hx hb dX10_global_0 rfl (lv_at hl 1 rfl) ?_
  refine lv_bipush (v := 7) hx hb dX10_global_1 (by decide) ?_
  obtain ⟨r2, st1, hst1, hf⟩ := bn_some hf
  refine cl_siM C hl G (As := [.int p1, .int 7]) (rest := []) (kx_Md_within l D k h p1 7 st _ _ hst1) gi_X10_110 hd_X10_within ⟨Nat.le_of_ble_eq_true rfl, Nat.le_of_ble_eq_true rfl⟩ rfl rfl (Nat.le_of_ble_eq_true rfl) dX10_global_3 (fun H locs G => ?_)
  refine lv_if_eq (tgt := 18) hx hb dX10_global_6 (by decide) (fun c3 => ?_) (fun c3 => ?_)
  · replace hf := if_p hf c3
    refine lv_lconst (v := 0) hx hb dX10_global_18 (by decide) ?_
    exact rt_lM C G hf dX10_global_19
  · replace hf := if_n hf c3
    refine lv_aload_n hx hb dX10_global_9 rfl (lv_at hl 0 rfl) ?_
    refine fg_Md_globals hx hb hts hown hK G (hts _ lk_X10_62) dX10_global_10 ?_
    refine lv_iload_n hx hb dX10_global_13 rfl (lv_at hl 1 rfl) ?_
    obtain ⟨h_g4, hf⟩ := gd_some hf
    refine ra_JM (v := rL st1 0 p1.toNatClampNeg) hx hb hK G (waM_18 ..) (t0 := 17) rfl rfl h_g4 dX10_global_14 ?_
    refine lv_goto (tgt := 19) hx hb dX10_global_15 (by decide) ?_
    exact rt_lM C G hf dX10_global_19
def rm_Md_memory : Room := { frames := 0, cells := 0, slots := 0, locals := 0 }
set_option maxHeartbeats 4000000 in
set_option maxRecDepth 100000 in
theorem kx_Md_memory_b15 {p : Program} {l : Launch} {e : Env} {s : State} {m : MethodId} {args : Array Value} {below : List Frame} {meth : Method} {c : Code} {D : va_G} {k : Nat → ClassId} {h : Nat → Nat} (C : cxM D k p s m args meth c cX10_memory 2 (some .int) RX10) (st : rs_T) (r : Int32) (s' : rs_T) (hf : fx_Md_memory_b15 st = some (r, s')) : ∀ (H : Heap) (locs : List Loc) (ls : Array Slot), lv_has ls 2 [] → gdM D k h (arM h s.heap.size) s.heap H locs st → W p l e rm_Md_memory s m args below meth c H locs 0 0 (MQ below (qIM D k h s.heap.size r s') args s 0 0 (arM h s.heap.size)) (F0 m 15 ls []) := by
  obtain ⟨hx, hb, hml, hr, hown, hts, hK, hN, hlk⟩ := id C
  intro H locs ls hl G
  unfold fx_Md_memory_b15 at hf
  refine lv_iconst (v := (-1)) hx hb dX10_memory_15 (by decide) ?_
  refine lv_goto (tgt := 25) hx hb dX10_memory_16 (by decide) ?_
  exact rt_iM C G hf dX10_memory_25
set_option maxHeartbeats 4000000 in
set_option maxRecDepth 100000 in
theorem kx_Md_memory (l : Launch) (D : va_G) (k : Nat → ClassId) (h : Nat → Nat) (p1 : Int32) (st : rs_T) (r : Int32) (s' : rs_T) (hf : fx_Md_memory p1 st = some (r, s')) : mIM l D k h yX10_memory cX10_memory 2 .int rm_Md_memory [.ref (h 0), .int p1] st r s' := by
  refine mIM_of (by decide) ⟨rfl, rfl⟩ (Nat.le_of_ble_eq_true rfl) ?_
  intro p e s m below meth c ls C hl G
  obtain ⟨hx, hb, hml, hr, hown, hts, hK, hN, hlk⟩ := id C
  have hown : s.vm.findClass RX10 = some m.cls := hown
  have hl : lv_has ls 2 [(0, .ref (h 0)), (1, .int p1)] := hl
  unfold fx_Md_memory at hf
  refine lv_iload_n hx hb dX10_memory_0 rfl (lv_at hl 1 rfl) ?_
  refine lv_if_lt (tgt := 15) hx hb dX10_memory_1 (by decide) (fun c1 => ?_) (fun c1 => ?_)
  · replace hf := if_p hf c1
    exact kx_Md_memory_b15 C st _ _ hf _ _ _ (lv_sub hl [] rfl) G
  · replace hf := if_n hf c1
    refine lv_iload_n hx hb dX10_memory_4 rfl (lv_at hl 1 rfl) ?_
    refine lv_bipush (v := 64) hx hb dX10_memory_5 (by decide) ?_
    refine lv_aload_n hx hb dX10_memory_7 rfl (lv_at hl 0 rfl) ?_
    refine fg_Md_pages (v := rI st 7) hx hb hts hown hK G (hts _ lk_X10_69) rfl dX10_memory_8 ?_
    refine lv_imul hx hb dX10_memory_11 ?_
    refine lv_icmp_lt (tgt := 19) hx hb dX10_memory_12 (by decide) (fun c2 => ?_) (fun c2 => ?_)
    · replace hf := if_p hf c2
      refine lv_aload_n hx hb dX10_memory_19 rfl (lv_at hl 0 rfl) ?_
      refine fg_Md_bytes hx hb hts hown hK G (hts _ lk_X10_66) dX10_memory_20 ?_
      refine lv_iload_n hx hb dX10_memory_23 rfl (lv_at hl 1 rfl) ?_
      obtain ⟨h_g3, hf⟩ := gd_some hf
      refine ra_IM (v := rA st 17 p1.toNatClampNeg) hx hb hK G (waM_19 ..) (t0 := 18) rfl rfl h_g3 dX10_memory_24 ?_
      exact rt_iM C G hf dX10_memory_25
    · replace hf := if_n hf c2
      exact kx_Md_memory_b15 C st _ _ hf _ _ _ (lv_sub hl [] rfl) G
