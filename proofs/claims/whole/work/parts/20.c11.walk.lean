def rm_Ma_memory : Room := { frames := 1, cells := 0, slots := 0, locals := 23 }
set_option maxHeartbeats 4000000 in
set_option maxRecDepth 100000 in
theorem kx_Ma_memory (l : Launch) (D : va_G) (k : Nat → Nat × ClassId) (h : Nat → Nat) (p1 : Int32) (st : rs_T) (r : Int32) (s' : rs_T) (hf : fx_Ma_memory p1 st = some (r, s')) : mIC l D k h yX9_memory cX9_memory 2 .int rm_Ma_memory [.ref (h 0), .int p1] st r s' := by
  refine mIC_of (by decide) ⟨rfl, rfl⟩ (Nat.le_of_ble_eq_true rfl) ?_
  intro p e s m below meth c ls C hl G
  obtain ⟨hx, hb, hml, hr, hown, hts, hK, hN, hlk⟩ := id C
  have hown : s.vm.findClass RX9 = some m.cls := hown
  have hl : lv_has ls 2 [(0, .ref (h 0)), (1, .int p1)] := hl
  unfold fx_Ma_memory at hf
  refine lv_iload_n hx hb dX9_memory_0 rfl (lv_at hl 1 rfl) ?_
  refine lv_if_lt (tgt := 33) hx hb dX9_memory_1 (by decide) (fun c1 => ?_) (fun c1 => ?_)
  · replace hf := if_p hf c1
    refine lv_iconst (v := (-1)) hx hb dX9_memory_33 (by decide) ?_
    exact rt_iC C G hf dX9_memory_34
  · replace hf := if_n hf c1
    refine lv_aload_n hx hb dX9_memory_4 rfl (lv_at hl 0 rfl) ?_
    refine fg_Ma_world hx hb hts hown hK G (hts _ lk_X9_28) dX9_memory_5 ?_
    refine lv_iload_n hx hb dX9_memory_8 rfl (lv_at hl 1 rfl) ?_
    refine lv_i2l (v := p1.toInt64) hx hb dX9_memory_9 rfl ?_
    refine lv_iconst (v := 1) hx hb dX9_memory_10 (by decide) ?_
    obtain ⟨r3, st2, hst2, hf⟩ := bn_some hf
    refine cl_viC C hl G (As := [.long p1.toInt64, .int 1]) (rest := []) (kx_Wo_holds l D k h p1.toInt64 1 st _ _ hst2) gi_X9_169 (hwC_3 ..) rfl hd_X7_holds ⟨Nat.le_of_ble_eq_true rfl, Nat.le_of_ble_eq_true rfl⟩ rfl rfl (Nat.le_of_ble_eq_true rfl) dX9_memory_11 ⟨Nat.zero_le _, Nat.zero_le _⟩ (fun H locs e0 G => ?_)
    refine lv_if_eq (tgt := 33) hx hb dX9_memory_14 (by decide) (fun c4 => ?_) (fun c4 => ?_)
    · replace hf := if_p hf c4
      refine lv_iconst (v := (-1)) hx hb dX9_memory_33 (by decide) ?_
      exact rt_iC C G hf dX9_memory_34
    · replace hf := if_n hf c4
      refine lv_aload_n hx hb dX9_memory_17 rfl (lv_at hl 0 rfl) ?_
      refine fg_Ma_world hx hb hts hown hK G (hts _ lk_X9_28) dX9_memory_18 ?_
      refine fg_Wo_bytes hx hb hts hown hK G (hts _ lk_X9_173) dX9_memory_21 ?_
      refine lv_iload_n hx hb dX9_memory_24 rfl (lv_at hl 1 rfl) ?_
      obtain ⟨h_g5, hf⟩ := gd_some hf
      refine ra_BC (v := rA st2 16 p1.toNatClampNeg) hx hb hK G (waC_27 ..) (t0 := 18) rfl rfl h_g5 dX9_memory_25 ?_
      refine lv_sipush (v := 255) hx hb dX9_memory_26 (by decide) ?_
      refine lv_iand hx hb dX9_memory_29 ?_
      refine lv_goto (tgt := 34) hx hb dX9_memory_30 (by decide) ?_
      exact rt_iC C G hf dX9_memory_34
def rm_Ma_look : Room := { frames := 1, cells := 0, slots := 0, locals := 21 }
set_option maxHeartbeats 4000000 in
set_option maxRecDepth 100000 in
theorem kx_Ma_look (l : Launch) (D : va_G) (k : Nat → Nat × ClassId) (h : Nat → Nat) (p1 : Int32) (p2 : Int32) (st : rs_T) (r : Int32) (s' : rs_T) (hf : fx_Ma_look p1 p2 st = some (r, s')) : mIC l D k h yX9_look cX9_look 3 .int rm_Ma_look [.ref (h 0), .int p1, .int p2] st r s' := by
  refine mIC_of (by decide) ⟨rfl, rfl⟩ (Nat.le_of_ble_eq_true rfl) ?_
  intro p e s m below meth c ls C hl G
  obtain ⟨hx, hb, hml, hr, hown, hts, hK, hN, hlk⟩ := id C
  have hown : s.vm.findClass RX9 = some m.cls := hown
  have hl : lv_has ls 3 [(0, .ref (h 0)), (1, .int p1), (2, .int p2)] := hl
  unfold fx_Ma_look at hf
  refine lv_aload_n hx hb dX9_look_0 rfl (lv_at hl 0 rfl) ?_
  refine fg_Ma_program hx hb hts hown hK G (hts _ lk_X9_12) dX9_look_1 ?_
  refine lv_iload_n hx hb dX9_look_4 rfl (lv_at hl 1 rfl) ?_
  obtain ⟨r2, st1, hst1, hf⟩ := bn_some hf
  refine cl_viC C hl G (As := [.int p1]) (rest := []) (kx_Pr_isWhole l D k h p1 st _ _ hst1) gi_X9_95 (hwC_1 ..) rfl hd_X3_isWhole ⟨Nat.le_of_ble_eq_true rfl, Nat.le_of_ble_eq_true rfl⟩ rfl rfl (Nat.le_of_ble_eq_true rfl) dX9_look_5 ⟨Nat.zero_le _, Nat.zero_le _⟩ (fun H locs e0 G => ?_)
  refine lv_if_ne (tgt := 13) hx hb dX9_look_8 (by decide) (fun c3 => ?_) (fun c3 => ?_)
  · replace hf := if_n hf c3
    refine lv_iload_n hx hb dX9_look_13 rfl (lv_at hl 2 rfl) ?_
    by_cases s4_0 : p2 ∈ ([0] : List Int32)
    · replace hf := if_p hf s4_0
      refine sw_tb (tgt := 44) (off := 30) hx hb dX9_look_14 (sw_tbt s4_0 (by decide)) (by decide) (by decide) ?_
      refine lv_aload_n hx hb dX9_look_44 rfl (lv_at hl 0 rfl) ?_
      refine fg_Ma_program hx hb hts hown hK G (hts _ lk_X9_12) dX9_look_45 ?_
      refine fg_Pr_parameters hx hb hts hown hK G (hts _ lk_X9_103) dX9_look_48 ?_
      refine lv_iload_n hx hb dX9_look_51 rfl (lv_at hl 1 rfl) ?_
      obtain ⟨h_g5, hf⟩ := gd_some hf
      refine ra_IC (v := rA st1 0 p1.toNatClampNeg) hx hb hK G (waC_10 ..) (t0 := 1) rfl rfl h_g5 dX9_look_52 ?_
      exact rt_iC C G hf dX9_look_53
    replace hf := if_n hf s4_0
    by_cases s4_1 : p2 ∈ ([1] : List Int32)
    · replace hf := if_p hf s4_1
      refine sw_tb (tgt := 54) (off := 40) hx hb dX9_look_14 (sw_tbt s4_1 (by decide)) (by decide) (by decide) ?_
      refine lv_aload_n hx hb dX9_look_54 rfl (lv_at hl 0 rfl) ?_
      refine fg_Ma_program hx hb hts hown hK G (hts _ lk_X9_12) dX9_look_55 ?_
      refine fg_Pr_results hx hb hts hown hK G (hts _ lk_X9_177) dX9_look_58 ?_
      refine lv_iload_n hx hb dX9_look_61 rfl (lv_at hl 1 rfl) ?_
      obtain ⟨h_g6, hf⟩ := gd_some hf
      refine ra_IC (v := rA st1 1 p1.toNatClampNeg) hx hb hK G (waC_11 ..) (t0 := 2) rfl rfl h_g6 dX9_look_62 ?_
      exact rt_iC C G hf dX9_look_63
    replace hf := if_n hf s4_1
    by_cases s4_2 : p2 ∈ ([2] : List Int32)
    · replace hf := if_p hf s4_2
      refine sw_tb (tgt := 64) (off := 50) hx hb dX9_look_14 (sw_tbt s4_2 (by decide)) (by decide) (by decide) ?_
      refine lv_aload_n hx hb dX9_look_64 rfl (lv_at hl 0 rfl) ?_
      refine fg_Ma_program hx hb hts hown hK G (hts _ lk_X9_12) dX9_look_65 ?_
      refine fg_Pr_locals hx hb hts hown hK G (hts _ lk_X9_179) dX9_look_68 ?_
      refine lv_iload_n hx hb dX9_look_71 rfl (lv_at hl 1 rfl) ?_
      obtain ⟨h_g7, hf⟩ := gd_some hf
      refine ra_IC (v := rA st1 2 p1.toNatClampNeg) hx hb hK G (waC_12 ..) (t0 := 3) rfl rfl h_g7 dX9_look_72 ?_
      exact rt_iC C G hf dX9_look_73
    replace hf := if_n hf s4_2
    by_cases s4_3 : p2 ∈ ([3] : List Int32)
    · replace hf := if_p hf s4_3
      refine sw_tb (tgt := 74) (off := 60) hx hb dX9_look_14 (sw_tbt s4_3 (by decide)) (by decide) (by decide) ?_
      refine lv_aload_n hx hb dX9_look_74 rfl (lv_at hl 0 rfl) ?_
      refine fg_Ma_program hx hb hts hown hK G (hts _ lk_X9_12) dX9_look_75 ?_
      refine fg_Pr_most hx hb hts hown hK G (hts _ lk_X9_182) dX9_look_78 ?_
      refine lv_iload_n hx hb dX9_look_81 rfl (lv_at hl 1 rfl) ?_
      obtain ⟨h_g8, hf⟩ := gd_some hf
      refine ra_IC (v := rA st1 3 p1.toNatClampNeg) hx hb hK G (waC_13 ..) (t0 := 4) rfl rfl h_g8 dX9_look_82 ?_
      exact rt_iC C G hf dX9_look_83
    replace hf := if_n hf s4_3
    refine sw_tb (tgt := 84) (off := 70) hx hb dX9_look_14 (sw_tbd (sw_cons s4_0 (sw_cons s4_1 (sw_cons s4_2 (sw_cons s4_3 sw_nil)))) (by decide)) (by decide) (by decide) ?_
    refine lv_iconst (v := (-1)) hx hb dX9_look_84 (by decide) ?_
    exact rt_iC C G hf dX9_look_85
  · replace hf := if_p hf c3
    refine lv_iconst (v := (-1)) hx hb dX9_look_11 (by decide) ?_
    exact rt_iC C G hf dX9_look_12
