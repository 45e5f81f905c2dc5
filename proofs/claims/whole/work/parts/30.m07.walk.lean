def rm_Md_look : Room := { frames := 1, cells := 0, slots := 0, locals := 21 }
set_option maxHeartbeats 4000000 in
set_option maxRecDepth 100000 in
theorem kx_Md_look (l : Launch) (D : va_G) (k : Nat → ClassId) (h : Nat → Nat) (p1 : Int32) (p2 : Int32) (st : rs_T) (r : Int32) (s' : rs_T) (hf : fx_Md_look p1 p2 st = some (r, s')) : mIM l D k h yX10_look cX10_look 3 .int rm_Md_look [.ref (h 0), .int p1, .int p2] st r s' := by
  refine mIM_of (by decide) ⟨rfl, rfl⟩ (Nat.le_of_ble_eq_true rfl) ?_
  intro p e s m below meth c ls C hl G
  obtain ⟨hx, hb, hml, hr, hown, hts, hK, hN, hlk⟩ := id C
  have hown : s.vm.findClass RX10 = some m.cls := hown
  have hl : lv_has ls 3 [(0, .ref (h 0)), (1, .int p1), (2, .int p2)] := hl
  unfold fx_Md_look at hf
  refine lv_aload_n hx hb dX10_look_0 rfl (lv_at hl 0 rfl) ?_
  refine lv_iload_n hx hb dX10_look_1 rfl (lv_at hl 1 rfl) ?_
  obtain ⟨r2, st1, hst1, hf⟩ := bn_some hf
  refine cl_viM C hl G (As := [.int p1]) (rest := []) (kx_Md_isWhole l D k h p1 st _ _ hst1) gi_X10_187 (hwM_0 ..) rfl hd_X10_isWhole ⟨Nat.le_of_ble_eq_true rfl, Nat.le_of_ble_eq_true rfl⟩ rfl rfl (Nat.le_of_ble_eq_true rfl) dX10_look_2 (fun H locs G => ?_)
  refine lv_if_ne (tgt := 10) hx hb dX10_look_5 (by decide) (fun c3 => ?_) (fun c3 => ?_)
  · replace hf := if_n hf c3
    refine lv_iload_n hx hb dX10_look_10 rfl (lv_at hl 2 rfl) ?_
    refine lv_if_ne (tgt := 23) hx hb dX10_look_11 (by decide) (fun c4 => ?_) (fun c4 => ?_)
    · replace hf := if_n hf c4
      refine lv_iload_n hx hb dX10_look_23 rfl (lv_at hl 2 rfl) ?_
      refine lv_iconst (v := 1) hx hb dX10_look_24 (by decide) ?_
      refine lv_icmp_ne (tgt := 37) hx hb dX10_look_25 (by decide) (fun c5 => ?_) (fun c5 => ?_)
      · replace hf := if_n hf c5
        refine lv_iload_n hx hb dX10_look_37 rfl (lv_at hl 2 rfl) ?_
        refine lv_iconst (v := 2) hx hb dX10_look_38 (by decide) ?_
        refine lv_icmp_ne (tgt := 51) hx hb dX10_look_39 (by decide) (fun c6 => ?_) (fun c6 => ?_)
        · replace hf := if_n hf c6
          refine lv_iload_n hx hb dX10_look_51 rfl (lv_at hl 2 rfl) ?_
          refine lv_iconst (v := 3) hx hb dX10_look_52 (by decide) ?_
          refine lv_icmp_ne (tgt := 65) hx hb dX10_look_53 (by decide) (fun c7 => ?_) (fun c7 => ?_)
          · replace hf := if_n hf c7
            refine lv_iconst (v := (-1)) hx hb dX10_look_65 (by decide) ?_
            exact rt_iM C G hf dX10_look_66
          · replace hf := if_p hf c7
            refine lv_aload_n hx hb dX10_look_56 rfl (lv_at hl 0 rfl) ?_
            refine fg_Md_most hx hb hts hown hK G (hts _ lk_X10_25) dX10_look_57 ?_
            refine lv_iload_n hx hb dX10_look_60 rfl (lv_at hl 1 rfl) ?_
            obtain ⟨h_g8, hf⟩ := gd_some hf
            refine ra_IM (v := rA st1 5 p1.toNatClampNeg) hx hb hK G (waM_6 ..) (t0 := 5) rfl rfl h_g8 dX10_look_61 ?_
            refine lv_goto (tgt := 66) hx hb dX10_look_62 (by decide) ?_
            exact rt_iM C G hf dX10_look_66
        · replace hf := if_p hf c6
          refine lv_aload_n hx hb dX10_look_42 rfl (lv_at hl 0 rfl) ?_
          refine fg_Md_locals hx hb hts hown hK G (hts _ lk_X10_22) dX10_look_43 ?_
          refine lv_iload_n hx hb dX10_look_46 rfl (lv_at hl 1 rfl) ?_
          obtain ⟨h_g9, hf⟩ := gd_some hf
          refine ra_IM (v := rA st1 4 p1.toNatClampNeg) hx hb hK G (waM_5 ..) (t0 := 4) rfl rfl h_g9 dX10_look_47 ?_
          refine lv_goto (tgt := 66) hx hb dX10_look_48 (by decide) ?_
          exact rt_iM C G hf dX10_look_66
      · replace hf := if_p hf c5
        refine lv_aload_n hx hb dX10_look_28 rfl (lv_at hl 0 rfl) ?_
        refine fg_Md_results hx hb hts hown hK G (hts _ lk_X10_19) dX10_look_29 ?_
        refine lv_iload_n hx hb dX10_look_32 rfl (lv_at hl 1 rfl) ?_
        obtain ⟨h_g10, hf⟩ := gd_some hf
        refine ra_IM (v := rA st1 3 p1.toNatClampNeg) hx hb hK G (waM_4 ..) (t0 := 3) rfl rfl h_g10 dX10_look_33 ?_
        refine lv_goto (tgt := 66) hx hb dX10_look_34 (by decide) ?_
        exact rt_iM C G hf dX10_look_66
    · replace hf := if_p hf c4
      refine lv_aload_n hx hb dX10_look_14 rfl (lv_at hl 0 rfl) ?_
      refine fg_Md_parameters hx hb hts hown hK G (hts _ lk_X10_16) dX10_look_15 ?_
      refine lv_iload_n hx hb dX10_look_18 rfl (lv_at hl 1 rfl) ?_
      obtain ⟨h_g11, hf⟩ := gd_some hf
      refine ra_IM (v := rA st1 2 p1.toNatClampNeg) hx hb hK G (waM_3 ..) (t0 := 2) rfl rfl h_g11 dX10_look_19 ?_
      refine lv_goto (tgt := 66) hx hb dX10_look_20 (by decide) ?_
      exact rt_iM C G hf dX10_look_66
  · replace hf := if_p hf c3
    refine lv_iconst (v := (-1)) hx hb dX10_look_8 (by decide) ?_
    exact rt_iM C G hf dX10_look_9
