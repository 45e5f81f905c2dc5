set_option maxHeartbeats 4000000 in
set_option maxRecDepth 100000 in
theorem kx_Wr_admits_b13 {p : Program} {l : Launch} {e : Env} {s : State} {m : MethodId} {args : Array Value} {below : List Frame} {meth : Method} {c : Code} {D : va_G} {h : Nat → Nat} {E : Nat → Nat} {k0 : Nat → Nat × ClassId} (x1 : Int32) (x2 : Int32) (st : rs_T) (r : Int32) (s' : rs_T) (hf : fx_Wr_admits_b13 x1 x2 st = some (r, s')) : ∀ (k : Nat → Nat × ClassId) (C : cxC D k p s m args meth c cX8_admits 4 (some .boolean) RX8), ∀ (H : Heap) (locs : List Loc) (ls : Array Slot), lv_has ls 4 [(0, .ref (h 2)), (1, .int x1), (2, .int x2)] → gdC D k h (vA E) (arC k0 h s.heap.size) s.heap H locs st → W p l e (rmA 4 138 E) s m args below meth c H locs (st.2.2.2 4 - E 4) (st.2.2.2 5 - E 5) (MQ below (uIC D k0 h E s.heap.size r s') args s (s'.2.2.2 4 - E 4) (s'.2.2.2 5 - E 5) (arC k0 h s.heap.size)) (F0 m 13 ls []) := by
  intro k C H locs ls hl G
  obtain ⟨hx, hb, hml, hr, hown, hts, hK, hN, hlk⟩ := id C
  unfold fx_Wr_admits_b13 at hf
  refine lv_aload_n hx hb dX8_admits_13 rfl (lv_at hl 0 rfl) ?_
  refine fg_Wr_entriesLeft (v := rI st 7) hx hb hts hown hK G (hts _ lk_X8_26) rfl dX8_admits_14 ?_
  refine lv_if_le (tgt := 38) hx hb dX8_admits_17 (by decide) (fun c2 => ?_) (fun c2 => ?_)
  · replace hf := if_p hf c2
    refine lv_iconst (v := 0) hx hb dX8_admits_38 (by decide) ?_
    exact rt_zCA C rfl G hf dX8_admits_39
  · replace hf := if_n hf c2
    refine lv_iload_n hx hb dX8_admits_20 rfl (lv_at hl 1 rfl) ?_
    refine lv_bipush (v := 6) hx hb dX8_admits_21 (by decide) ?_
    refine lv_icmp_ne (tgt := 38) hx hb dX8_admits_23 (by decide) (fun c3 => ?_) (fun c3 => ?_)
    · replace hf := if_n hf c3
      refine lv_iconst (v := 0) hx hb dX8_admits_38 (by decide) ?_
      exact rt_zCA C rfl G hf dX8_admits_39
    · replace hf := if_p hf c3
      refine lv_aload_n hx hb dX8_admits_26 rfl (lv_at hl 0 rfl) ?_
      refine lv_iload_n hx hb dX8_admits_27 rfl (lv_at hl 2 rfl) ?_
      have hc9 := hcA G
      obtain ⟨r5, st4, hst4, hf⟩ := bn_some hf
      refine cl_viC C hl G (As := [.int x2]) (rest := []) (kx_Wr_admitsTableEntry l D k h x2 st _ _ hst4) gi_X8_93 (hwC_2 ..) rfl hd_X8_admitsTableEntry ⟨Nat.le_of_ble_eq_true rfl, Nat.le_of_ble_eq_true rfl⟩ rfl rfl (Nat.le_of_ble_eq_true rfl) dX8_admits_28 hc9 (fun H locs e0 G => ?_)
      refine cs_eq e0 ?_
      refine lv_if_eq (tgt := 38) hx hb dX8_admits_31 (by decide) (fun c6 => ?_) (fun c6 => ?_)
      · replace hf := if_p hf c6
        refine lv_iconst (v := 0) hx hb dX8_admits_38 (by decide) ?_
        exact rt_zCA C rfl G hf dX8_admits_39
      · replace hf := if_n hf c6
        refine lv_iconst (v := 1) hx hb dX8_admits_34 (by decide) ?_
        refine lv_goto (tgt := 39) hx hb dX8_admits_35 (by decide) ?_
        exact rt_zCA C rfl G hf dX8_admits_39
set_option maxHeartbeats 4000000 in
set_option maxRecDepth 100000 in
theorem kx_Wr_admits (l : Launch) (D : va_G) (k : Nat → Nat × ClassId) (h : Nat → Nat) (p1 : Int32) (p2 : Int32) (p3 : Int32) (st : rs_T) (r : Int32) (s' : rs_T) (hf : fx_Wr_admits p1 p2 p3 st = some (r, s')) : nIC l D k h yX8_admits cX8_admits 4 .boolean 4 138 [.ref (h 2), .int p1, .int p2, .int p3] st r s' := by
  refine nIC_of (by decide) (Nat.le_of_ble_eq_true rfl) ?_
  intro p e s m below meth c ls C hl G
  obtain ⟨hx, hb, hml, hr, hown, hts, hK, hN, hlk⟩ := id C
  have hown : s.vm.findClass RX8 = some m.cls := hown
  have hl : lv_has ls 4 [(0, .ref (h 2)), (1, .int p1), (2, .int p2), (3, .int p3)] := hl
  unfold fx_Wr_admits at hf
  refine lv_aload_n hx hb dX8_admits_0 rfl (lv_at hl 0 rfl) ?_
  refine fg_Wr_entriesLeft (v := rI st 7) hx hb hts hown hK G (hts _ lk_X8_26) rfl dX8_admits_1 ?_
  refine lv_if_gt (tgt := 13) hx hb dX8_admits_4 (by decide) (fun c1 => ?_) (fun c1 => ?_)
  · replace hf := if_p hf c1
    exact kx_Wr_admits_b13 p1 p2 st _ _ hf _ C _ _ _ (lv_sub hl [0, 1, 2] rfl) G
  · replace hf := if_n hf c1
    refine lv_iload_n hx hb dX8_admits_7 rfl (lv_at hl 1 rfl) ?_
    refine lv_bipush (v := 6) hx hb dX8_admits_8 (by decide) ?_
    refine lv_icmp_ne (tgt := 40) hx hb dX8_admits_10 (by decide) (fun c7 => ?_) (fun c7 => ?_)
    · replace hf := if_n hf c7
      refine lv_iload_n hx hb dX8_admits_40 rfl (lv_at hl 1 rfl) ?_
      by_cases s8_0 : p1 ∈ ([0] : List Int32)
      · replace hf := if_p hf s8_0
        refine sw_tb (tgt := 128) (off := 87) hx hb dX8_admits_41 (sw_tbt s8_0 (by decide)) (by decide) (by decide) ?_
        refine lv_aload_n hx hb dX8_admits_128 rfl (lv_at hl 0 rfl) ?_
        have hc9 := hcA G
        obtain ⟨st9, hst9, hf⟩ := bv_some hf
        refine cl_vvC C hl G (As := []) (rest := []) (kx_Wr_die l D k h st _ hst9) gi_X8_97 (hwC_2 ..) rfl hd_X8_die ⟨Nat.le_of_ble_eq_true rfl, Nat.le_of_ble_eq_true rfl⟩ rfl rfl (Nat.le_of_ble_eq_true rfl) dX8_admits_129 hc9 (fun H locs e0 G => ?_)
        refine cs_eq e0 ?_
        refine lv_iconst (v := 1) hx hb dX8_admits_132 (by decide) ?_
        exact rt_zCA C rfl G hf dX8_admits_133
      replace hf := if_n hf s8_0
      by_cases s8_1 : p1 ∈ ([2, 3] : List Int32)
      · replace hf := if_p hf s8_1
        refine sw_tb (tgt := 134) (off := 93) hx hb dX8_admits_41 (sw_tbt s8_1 (by decide)) (by decide) (by decide) ?_
        refine lv_aload_n hx hb dX8_admits_134 rfl (lv_at hl 0 rfl) ?_
        refine lv_iload_n hx hb dX8_admits_135 rfl (lv_at hl 2 rfl) ?_
        refine lv_iload_n hx hb dX8_admits_136 rfl (lv_at hl 3 rfl) ?_
        refine lv_iconst (v := 0) hx hb dX8_admits_137 (by decide) ?_
        have hc9 := hcA G
        obtain ⟨r11, st10, hst10, hf⟩ := bn_some hf
        refine cb_viC C hl G (As := [.int p2, .int p3, .int 0]) (rest := []) (kx_Wr_admitsBegin l D k h p2 p3 0 st _ _ hst10) gi_X8_100 (hwC_2 ..) rfl hd_X8_admitsBegin ⟨Nat.le_of_ble_eq_true rfl, Nat.le_of_ble_eq_true rfl⟩ rfl rfl (Nat.le_of_ble_eq_true rfl) dX8_admits_138 (fun k hK H locs G => ?_)
        have C := cxk C hK
        obtain ⟨h_b, hf⟩ := gb_some hf
        exact rt_zCA C (gb_nar h_b) G hf dX8_admits_141
      replace hf := if_n hf s8_1
      by_cases s8_2 : p1 ∈ ([4] : List Int32)
      · replace hf := if_p hf s8_2
        refine sw_tb (tgt := 142) (off := 101) hx hb dX8_admits_41 (sw_tbt s8_2 (by decide)) (by decide) (by decide) ?_
        refine lv_aload_n hx hb dX8_admits_142 rfl (lv_at hl 0 rfl) ?_
        refine lv_iload_n hx hb dX8_admits_143 rfl (lv_at hl 2 rfl) ?_
        refine lv_iload_n hx hb dX8_admits_144 rfl (lv_at hl 3 rfl) ?_
        refine lv_iconst (v := 1) hx hb dX8_admits_145 (by decide) ?_
        have hc9 := hcA G
        obtain ⟨r13, st12, hst12, hf⟩ := bn_some hf
        refine cb_viC C hl G (As := [.int p2, .int p3, .int 1]) (rest := []) (kx_Wr_admitsBegin l D k h p2 p3 1 st _ _ hst12) gi_X8_100 (hwC_2 ..) rfl hd_X8_admitsBegin ⟨Nat.le_of_ble_eq_true rfl, Nat.le_of_ble_eq_true rfl⟩ rfl rfl (Nat.le_of_ble_eq_true rfl) dX8_admits_146 (fun k hK H locs G => ?_)
        have C := cxk C hK
        obtain ⟨h_b, hf⟩ := gb_some hf
        exact rt_zCA C (gb_nar h_b) G hf dX8_admits_149
      replace hf := if_n hf s8_2
      by_cases s8_3 : p1 ∈ ([5] : List Int32)
      · replace hf := if_p hf s8_3
        refine sw_tb (tgt := 150) (off := 109) hx hb dX8_admits_41 (sw_tbt s8_3 (by decide)) (by decide) (by decide) ?_
        refine lv_aload_n hx hb dX8_admits_150 rfl (lv_at hl 0 rfl) ?_
        have hc9 := hcA G
        obtain ⟨r15, st14, hst14, hf⟩ := bn_some hf
        refine cl_viC C hl G (As := []) (rest := []) (kx_Wr_admitsElse l D k h st _ _ hst14) gi_X8_103 (hwC_2 ..) rfl hd_X8_admitsElse ⟨Nat.le_of_ble_eq_true rfl, Nat.le_of_ble_eq_true rfl⟩ rfl rfl (Nat.le_of_ble_eq_true rfl) dX8_admits_151 hc9 (fun H locs e0 G => ?_)
        refine cs_eq e0 ?_
        obtain ⟨h_b, hf⟩ := gb_some hf
        exact rt_zCA C (gb_nar h_b) G hf dX8_admits_154
      replace hf := if_n hf s8_3
      by_cases s8_4 : p1 ∈ ([11] : List Int32)
      · replace hf := if_p hf s8_4
        refine sw_tb (tgt := 155) (off := 114) hx hb dX8_admits_41 (sw_tbt s8_4 (by decide)) (by decide) (by decide) ?_
        refine lv_aload_n hx hb dX8_admits_155 rfl (lv_at hl 0 rfl) ?_
        have hc9 := hcA G
        obtain ⟨r17, st16, hst16, hf⟩ := bn_some hf
        refine cl_viC C hl G (As := []) (rest := []) (kx_Wr_admitsEnd l D k h st _ _ hst16) gi_X8_106 (hwC_2 ..) rfl hd_X8_admitsEnd ⟨Nat.le_of_ble_eq_true rfl, Nat.le_of_ble_eq_true rfl⟩ rfl rfl (Nat.le_of_ble_eq_true rfl) dX8_admits_156 hc9 (fun H locs e0 G => ?_)
        refine cs_eq e0 ?_
        obtain ⟨h_b, hf⟩ := gb_some hf
        exact rt_zCA C (gb_nar h_b) G hf dX8_admits_159
      replace hf := if_n hf s8_4
      by_cases s8_5 : p1 ∈ ([12] : List Int32)
      · replace hf := if_p hf s8_5
        refine sw_tb (tgt := 160) (off := 119) hx hb dX8_admits_41 (sw_tbt s8_5 (by decide)) (by decide) (by decide) ?_
        refine lv_aload_n hx hb dX8_admits_160 rfl (lv_at hl 0 rfl) ?_
        refine lv_iload_n hx hb dX8_admits_161 rfl (lv_at hl 2 rfl) ?_
        have hc9 := hcA G
        obtain ⟨r19, st18, hst18, hf⟩ := bn_some hf
        refine cl_viC C hl G (As := [.int p2]) (rest := []) (kx_Wr_admitsBranch l D k h p2 st _ _ hst18) gi_X8_109 (hwC_2 ..) rfl hd_X8_admitsBranch ⟨Nat.le_of_ble_eq_true rfl, Nat.le_of_ble_eq_true rfl⟩ rfl rfl (Nat.le_of_ble_eq_true rfl) dX8_admits_162 hc9 (fun H locs e0 G => ?_)
        refine cs_eq e0 ?_
        obtain ⟨h_b, hf⟩ := gb_some hf
        exact rt_zCA C (gb_nar h_b) G hf dX8_admits_165
      replace hf := if_n hf s8_5
      by_cases s8_6 : p1 ∈ ([13] : List Int32)
      · replace hf := if_p hf s8_6
        refine sw_tb (tgt := 166) (off := 125) hx hb dX8_admits_41 (sw_tbt s8_6 (by decide)) (by decide) (by decide) ?_
        refine lv_aload_n hx hb dX8_admits_166 rfl (lv_at hl 0 rfl) ?_
        refine lv_iload_n hx hb dX8_admits_167 rfl (lv_at hl 2 rfl) ?_
        have hc9 := hcA G
        obtain ⟨r21, st20, hst20, hf⟩ := bn_some hf
        refine cl_viC C hl G (As := [.int p2]) (rest := []) (kx_Wr_admitsBranchIf l D k h p2 st _ _ hst20) gi_X8_112 (hwC_2 ..) rfl hd_X8_admitsBranchIf ⟨Nat.le_of_ble_eq_true rfl, Nat.le_of_ble_eq_true rfl⟩ rfl rfl (Nat.le_of_ble_eq_true rfl) dX8_admits_168 hc9 (fun H locs e0 G => ?_)
        refine cs_eq e0 ?_
        obtain ⟨h_b, hf⟩ := gb_some hf
        exact rt_zCA C (gb_nar h_b) G hf dX8_admits_171
      replace hf := if_n hf s8_6
      by_cases s8_7 : p1 ∈ ([14] : List Int32)
      · replace hf := if_p hf s8_7
        refine sw_tb (tgt := 172) (off := 131) hx hb dX8_admits_41 (sw_tbt s8_7 (by decide)) (by decide) (by decide) ?_
        refine lv_aload_n hx hb dX8_admits_172 rfl (lv_at hl 0 rfl) ?_
        refine lv_iload_n hx hb dX8_admits_173 rfl (lv_at hl 2 rfl) ?_
        have hc9 := hcA G
        obtain ⟨r23, st22, hst22, hf⟩ := bn_some hf
        refine cl_viC C hl G (As := [.int p2]) (rest := []) (kx_Wr_admitsTable l D k h p2 st _ _ hst22) gi_X8_115 (hwC_2 ..) rfl hd_X8_admitsTable ⟨Nat.le_of_ble_eq_true rfl, Nat.le_of_ble_eq_true rfl⟩ rfl rfl (Nat.le_of_ble_eq_true rfl) dX8_admits_174 hc9 (fun H locs e0 G => ?_)
        refine cs_eq e0 ?_
        obtain ⟨h_b, hf⟩ := gb_some hf
        exact rt_zCA C (gb_nar h_b) G hf dX8_admits_177
      replace hf := if_n hf s8_7
      by_cases s8_8 : p1 ∈ ([15] : List Int32)
      · replace hf := if_p hf s8_8
        refine sw_tb (tgt := 178) (off := 137) hx hb dX8_admits_41 (sw_tbt s8_8 (by decide)) (by decide) (by decide) ?_
        refine lv_aload_n hx hb dX8_admits_178 rfl (lv_at hl 0 rfl) ?_
        have hc9 := hcA G
        obtain ⟨r25, st24, hst24, hf⟩ := bn_some hf
        refine cl_viC C hl G (As := []) (rest := []) (kx_Wr_admitsReturn l D k h st _ _ hst24) gi_X8_118 (hwC_2 ..) rfl hd_X8_admitsReturn ⟨Nat.le_of_ble_eq_true rfl, Nat.le_of_ble_eq_true rfl⟩ rfl rfl (Nat.le_of_ble_eq_true rfl) dX8_admits_179 hc9 (fun H locs e0 G => ?_)
        refine cs_eq e0 ?_
        obtain ⟨h_b, hf⟩ := gb_some hf
        exact rt_zCA C (gb_nar h_b) G hf dX8_admits_182
      replace hf := if_n hf s8_8
      by_cases s8_9 : p1 ∈ ([16] : List Int32)
      · replace hf := if_p hf s8_9
        refine sw_tb (tgt := 183) (off := 142) hx hb dX8_admits_41 (sw_tbt s8_9 (by decide)) (by decide) (by decide) ?_
        refine lv_iload_n hx hb dX8_admits_183 rfl (lv_at hl 2 rfl) ?_
        refine lv_if_lt (tgt := 227) hx hb dX8_admits_184 (by decide) (fun c26 => ?_) (fun c26 => ?_)
        · replace hf := if_p hf c26
          refine lv_iconst (v := 0) hx hb dX8_admits_227 (by decide) ?_
          exact rt_zCA C rfl G hf dX8_admits_228
        · replace hf := if_n hf c26
          refine lv_iload_n hx hb dX8_admits_187 rfl (lv_at hl 2 rfl) ?_
          refine lv_aload_n hx hb dX8_admits_188 rfl (lv_at hl 0 rfl) ?_
          refine fg_Wr_program hx hb hts hown hK G (hts _ lk_X8_32) dX8_admits_189 ?_
          refine fg_Pr_functions (v := rI st 2) hx hb hts hown hK G (hts _ lk_X8_36) rfl dX8_admits_192 ?_
          refine lv_icmp_ge (tgt := 227) hx hb dX8_admits_195 (by decide) (fun c27 => ?_) (fun c27 => ?_)
          · replace hf := if_p hf c27
            refine lv_iconst (v := 0) hx hb dX8_admits_227 (by decide) ?_
            exact rt_zCA C rfl G hf dX8_admits_228
          · replace hf := if_n hf c27
            refine lv_aload_n hx hb dX8_admits_198 rfl (lv_at hl 0 rfl) ?_
            refine lv_aload_n hx hb dX8_admits_199 rfl (lv_at hl 0 rfl) ?_
            refine fg_Wr_program hx hb hts hown hK G (hts _ lk_X8_32) dX8_admits_200 ?_
            refine fg_Pr_parameters hx hb hts hown hK G (hts _ lk_X8_48) dX8_admits_203 ?_
            refine lv_iload_n hx hb dX8_admits_206 rfl (lv_at hl 2 rfl) ?_
            obtain ⟨h_g28, hf⟩ := gd_some hf
            refine ra_IC (v := rA st 0 p2.toNatClampNeg) hx hb hK G (waC_10 ..) (t0 := 1) rfl rfl h_g28 dX8_admits_207 ?_
            refine lv_aload_n hx hb dX8_admits_208 rfl (lv_at hl 0 rfl) ?_
            refine fg_Wr_program hx hb hts hown hK G (hts _ lk_X8_32) dX8_admits_209 ?_
            refine fg_Pr_results hx hb hts hown hK G (hts _ lk_X8_51) dX8_admits_212 ?_
            refine lv_iload_n hx hb dX8_admits_215 rfl (lv_at hl 2 rfl) ?_
            obtain ⟨h_g29, hf⟩ := gd_some hf
            refine ra_IC (v := rA st 1 p2.toNatClampNeg) hx hb hK G (waC_11 ..) (t0 := 2) rfl rfl h_g29 dX8_admits_216 ?_
            have hc9 := hcA G
            obtain ⟨r31, st30, hst30, hf⟩ := bn_some hf
            refine cl_viC C hl G (As := [.int (rA st 0 p2.toNatClampNeg), .int (rA st 1 p2.toNatClampNeg)]) (rest := []) (kx_Wr_exchanges l D k h (rA st 0 p2.toNatClampNeg) (rA st 1 p2.toNatClampNeg) st _ _ hst30) gi_X8_121 (hwC_2 ..) rfl hd_X8_exchanges ⟨Nat.le_of_ble_eq_true rfl, Nat.le_of_ble_eq_true rfl⟩ rfl rfl (Nat.le_of_ble_eq_true rfl) dX8_admits_217 hc9 (fun H locs e0 G => ?_)
            refine cs_eq e0 ?_
            refine lv_if_eq (tgt := 227) hx hb dX8_admits_220 (by decide) (fun c32 => ?_) (fun c32 => ?_)
            · replace hf := if_p hf c32
              refine lv_iconst (v := 0) hx hb dX8_admits_227 (by decide) ?_
              exact rt_zCA C rfl G hf dX8_admits_228
            · replace hf := if_n hf c32
              refine lv_iconst (v := 1) hx hb dX8_admits_223 (by decide) ?_
              refine lv_goto (tgt := 228) hx hb dX8_admits_224 (by decide) ?_
              exact rt_zCA C rfl G hf dX8_admits_228
      replace hf := if_n hf s8_9
      by_cases s8_10 : p1 ∈ ([17] : List Int32)
      · replace hf := if_p hf s8_10
        refine sw_tb (tgt := 229) (off := 188) hx hb dX8_admits_41 (sw_tbt s8_10 (by decide)) (by decide) (by decide) ?_
        refine lv_iload_n hx hb dX8_admits_229 rfl (lv_at hl 2 rfl) ?_
        refine lv_bipush (v := 8) hx hb dX8_admits_230 (by decide) ?_
        have hc9 := hcA G
        obtain ⟨r34, st33, hst33, hf⟩ := bn_some hf
        refine cl_niC C hl G (As := [.int p2, .int 8]) (rest := []) (kx_Ma_isWithin l D k h p2 8 st _ _ hst33) lk_X8_44 st_X9_isWithin in_X9 gj_X9_isWithin hd_X9_isWithin ⟨Nat.le_of_ble_eq_true rfl, Nat.le_of_ble_eq_true rfl⟩ rfl rfl (Nat.le_of_ble_eq_true rfl) dX8_admits_232 hc9 (fun H locs e0 G => ?_)
        refine cs_eq e0 ?_
        refine lv_if_eq (tgt := 262) hx hb dX8_admits_235 (by decide) (fun c35 => ?_) (fun c35 => ?_)
        · replace hf := if_p hf c35
          refine lv_iconst (v := 0) hx hb dX8_admits_262 (by decide) ?_
          exact rt_zCA C rfl G hf dX8_admits_263
        · replace hf := if_n hf c35
          refine lv_iload_n hx hb dX8_admits_238 rfl (lv_at hl 3 rfl) ?_
          refine lv_bipush (v := 8) hx hb dX8_admits_239 (by decide) ?_
          have hc9 := hcA G
          obtain ⟨r37, st36, hst36, hf⟩ := bn_some hf
          refine cl_niC C hl G (As := [.int p3, .int 8]) (rest := []) (kx_Ma_isWithin l D k h p3 8 st33 _ _ hst36) lk_X8_44 st_X9_isWithin in_X9 gj_X9_isWithin hd_X9_isWithin ⟨Nat.le_of_ble_eq_true rfl, Nat.le_of_ble_eq_true rfl⟩ rfl rfl (Nat.le_of_ble_eq_true rfl) dX8_admits_241 hc9 (fun H locs e0 G => ?_)
          refine cs_eq e0 ?_
          refine lv_if_eq (tgt := 262) hx hb dX8_admits_244 (by decide) (fun c38 => ?_) (fun c38 => ?_)
          · replace hf := if_p hf c38
            refine lv_iconst (v := 0) hx hb dX8_admits_262 (by decide) ?_
            exact rt_zCA C rfl G hf dX8_admits_263
          · replace hf := if_n hf c38
            refine lv_aload_n hx hb dX8_admits_247 rfl (lv_at hl 0 rfl) ?_
            refine lv_iload_n hx hb dX8_admits_248 rfl (lv_at hl 2 rfl) ?_
            refine lv_iconst (v := 1) hx hb dX8_admits_249 (by decide) ?_
            refine lv_iadd hx hb dX8_admits_250 ?_
            refine lv_iload_n hx hb dX8_admits_251 rfl (lv_at hl 3 rfl) ?_
            have hc9 := hcA G
            obtain ⟨r40, st39, hst39, hf⟩ := bn_some hf
            refine cl_viC C hl G (As := [.int (p2 + 1), .int p3]) (rest := []) (kx_Wr_exchanges l D k h (p2 + 1) p3 st36 _ _ hst39) gi_X8_121 (hwC_2 ..) rfl hd_X8_exchanges ⟨Nat.le_of_ble_eq_true rfl, Nat.le_of_ble_eq_true rfl⟩ rfl rfl (Nat.le_of_ble_eq_true rfl) dX8_admits_252 hc9 (fun H locs e0 G => ?_)
            refine cs_eq e0 ?_
            refine lv_if_eq (tgt := 262) hx hb dX8_admits_255 (by decide) (fun c41 => ?_) (fun c41 => ?_)
            · replace hf := if_p hf c41
              refine lv_iconst (v := 0) hx hb dX8_admits_262 (by decide) ?_
              exact rt_zCA C rfl G hf dX8_admits_263
            · replace hf := if_n hf c41
              refine lv_iconst (v := 1) hx hb dX8_admits_258 (by decide) ?_
              refine lv_goto (tgt := 263) hx hb dX8_admits_259 (by decide) ?_
              exact rt_zCA C rfl G hf dX8_admits_263
      replace hf := if_n hf s8_10
      refine sw_tb (tgt := 264) (off := 223) hx hb dX8_admits_41 (sw_tbd (sw_cons s8_0 (sw_cons s8_1 (sw_cons s8_2 (sw_cons s8_3 (sw_cons s8_4 (sw_cons s8_5 (sw_cons s8_6 (sw_cons s8_7 (sw_cons s8_8 (sw_cons s8_9 (sw_cons s8_10 sw_nil))))))))))) (by decide)) (by decide) (by decide) ?_
      refine lv_aload_n hx hb dX8_admits_264 rfl (lv_at hl 0 rfl) ?_
      refine lv_iload_n hx hb dX8_admits_265 rfl (lv_at hl 1 rfl) ?_
      refine lv_iload_n hx hb dX8_admits_266 rfl (lv_at hl 2 rfl) ?_
      have hc9 := hcA G
      obtain ⟨r43, st42, hst42, hf⟩ := bn_some hf
      refine cl_viC C hl G (As := [.int p1, .int p2]) (rest := []) (kx_Wr_admitsPlain l D k h p1 p2 st _ _ hst42) gi_X8_124 (hwC_2 ..) rfl hd_X8_admitsPlain ⟨Nat.le_of_ble_eq_true rfl, Nat.le_of_ble_eq_true rfl⟩ rfl rfl (Nat.le_of_ble_eq_true rfl) dX8_admits_267 hc9 (fun H locs e0 G => ?_)
      refine cs_eq e0 ?_
      obtain ⟨h_b, hf⟩ := gb_some hf
      exact rt_zCA C (gb_nar h_b) G hf dX8_admits_270
    · replace hf := if_p hf c7
      exact kx_Wr_admits_b13 p1 p2 st _ _ hf _ C _ _ _ (lv_sub hl [0, 1, 2] rfl) G
set_option maxHeartbeats 4000000 in
set_option maxRecDepth 100000 in
theorem kx_Wr_write (l : Launch) (D : va_G) (k : Nat → Nat × ClassId) (h : Nat → Nat) (p1 : Int32) (p2 : Int32) (p3 : Int32) (st : rs_T) (r : Int32) (s' : rs_T) (hf : fx_Wr_write p1 p2 p3 st = some (r, s')) : nIC l D k h yX8_write cX8_write 5 .int 5 161 [.ref (h 2), .int p1, .int p2, .int p3] st r s' := by
  refine nIC_of (by decide) (Nat.le_of_ble_eq_true rfl) ?_
  intro p e s m below meth c ls C hl G
  obtain ⟨hx, hb, hml, hr, hown, hts, hK, hN, hlk⟩ := id C
  have hown : s.vm.findClass RX8 = some m.cls := hown
  have hl : lv_has ls 5 [(0, .ref (h 2)), (1, .int p1), (2, .int p2), (3, .int p3)] := hl
  unfold fx_Wr_write at hf
  refine lv_aload_n hx hb dX8_write_0 rfl (lv_at hl 0 rfl) ?_
  refine fg_Wr_program hx hb hts hown hK G (hts _ lk_X8_32) dX8_write_1 ?_
  refine fg_Pr_size (v := rI st 4) hx hb hts hown hK G (hts _ lk_X8_66) rfl dX8_write_4 ?_
  refine lv_topi (fun v1 e_v1 => ?_)
  replace hf := bd_some hf v1 e_v1
  refine lv_istore (lv' := [(4, .int v1), (0, .ref (h 2)), (1, .int p1), (2, .int p2), (3, .int p3)]) hx hb dX8_write_7 hl (by decide) rfl (fun ls hl => ?_)
  refine lv_aload_n hx hb dX8_write_9 rfl (lv_at hl 1 rfl) ?_
  refine fg_Wr_program hx hb hts hown hK G (hts _ lk_X8_32) dX8_write_10 ?_
  refine fg_Pr_written (v := rI st 3) hx hb hts hown hK G (hts _ lk_X8_41) rfl dX8_write_13 ?_
  refine lv_iconst (v := (-1)) hx hb dX8_write_16 (by decide) ?_
  refine lv_icmp_eq (tgt := 40) hx hb dX8_write_17 (by decide) (fun c2 => ?_) (fun c2 => ?_)
  · replace hf := if_p hf c2
    refine lv_iconst (v := (-1)) hx hb dX8_write_40 (by decide) ?_
    exact rt_iCA C G hf dX8_write_41
  · replace hf := if_n hf c2
    refine lv_aload_n hx hb dX8_write_20 rfl (lv_at hl 1 rfl) ?_
    refine fg_Wr_program hx hb hts hown hK G (hts _ lk_X8_32) dX8_write_21 ?_
    have hc9 := hcA G
    obtain ⟨r4, st3, hst3, hf⟩ := bn_some hf
    refine cb_viC C hl G (As := []) (rest := []) (kx_Pr_makeRoom l D k h st _ _ hst3) gi_X8_72 (hwC_1 ..) rfl hd_X3_makeRoom ⟨Nat.le_of_ble_eq_true rfl, Nat.le_of_ble_eq_true rfl⟩ rfl rfl (Nat.le_of_ble_eq_true rfl) dX8_write_24 (fun k hK H locs G => ?_)
    have C := cxk C hK
    refine lv_if_eq (tgt := 40) hx hb dX8_write_27 (by decide) (fun c5 => ?_) (fun c5 => ?_)
    · replace hf := if_p hf c5
      refine lv_iconst (v := (-1)) hx hb dX8_write_40 (by decide) ?_
      exact rt_iCA C G hf dX8_write_41
    · replace hf := if_n hf c5
      refine lv_aload_n hx hb dX8_write_30 rfl (lv_at hl 1 rfl) ?_
      refine lv_iload_n hx hb dX8_write_31 rfl (lv_at hl 2 rfl) ?_
      refine lv_iload_n hx hb dX8_write_32 rfl (lv_at hl 3 rfl) ?_
      refine lv_iload_n hx hb dX8_write_33 rfl (lv_at hl 4 rfl) ?_
      have hc9 := hcA G
      obtain ⟨r7, st6, hst6, hf⟩ := bn_some hf
      refine cb_viC C hl G (As := [.int p1, .int p2, .int p3]) (rest := []) (kx_Wr_admits l D k h p1 p2 p3 st3 _ _ hst6) gi_X8_76 (hwC_2 ..) rfl hd_X8_admits ⟨Nat.le_of_ble_eq_true rfl, Nat.le_of_ble_eq_true rfl⟩ rfl rfl (Nat.le_of_ble_eq_true rfl) dX8_write_34 (fun k hK H locs G => ?_)
      have C := cxk C hK
      refine lv_if_ne (tgt := 42) hx hb dX8_write_37 (by decide) (fun c8 => ?_) (fun c8 => ?_)
      · replace hf := if_n hf c8
        refine lv_aload_n hx hb dX8_write_42 rfl (lv_at hl 1 rfl) ?_
        refine fg_Wr_program hx hb hts hown hK G (hts _ lk_X8_32) dX8_write_43 ?_
        refine fg_Pr_operation hx hb hts hown hK G (hts _ lk_X8_80) dX8_write_46 ?_
        refine lv_iload hx hb dX8_write_49 (lv_at hl 0 rfl) ?_
        refine lv_iload_n hx hb dX8_write_51 rfl (lv_at hl 2 rfl) ?_
        obtain ⟨h_g9, hf⟩ := gd_some hf
        refine rw_IC hx hb hK G (waC_17 ..) (t0 := 8) rfl (wsC_17 ..) (zw_17 h_g9) rfl h_g9 dX8_write_52 (fun H locs G => ?_)
        refine lv_aload_n hx hb dX8_write_53 rfl (lv_at hl 1 rfl) ?_
        refine fg_Wr_program hx hb hts hown hK G (hts _ lk_X8_32) dX8_write_54 ?_
        refine fg_Pr_a hx hb hts hown hK G (hts _ lk_X8_83) dX8_write_57 ?_
        refine lv_iload hx hb dX8_write_60 (lv_at hl 0 rfl) ?_
        refine lv_iload_n hx hb dX8_write_62 rfl (lv_at hl 3 rfl) ?_
        obtain ⟨h_g10, hf⟩ := gd_some hf
        refine rw_IC hx hb hK G (waC_18 ..) (t0 := 9) rfl (wsC_18 ..) (zw_18 h_g10) rfl h_g10 dX8_write_63 (fun H locs G => ?_)
        refine lv_aload_n hx hb dX8_write_64 rfl (lv_at hl 1 rfl) ?_
        refine fg_Wr_program hx hb hts hown hK G (hts _ lk_X8_32) dX8_write_65 ?_
        refine fg_Pr_b hx hb hts hown hK G (hts _ lk_X8_86) dX8_write_68 ?_
        refine lv_iload hx hb dX8_write_71 (lv_at hl 0 rfl) ?_
        refine lv_iload_n hx hb dX8_write_73 rfl (lv_at hl 4 rfl) ?_
        obtain ⟨h_g11, hf⟩ := gd_some hf
        refine rw_IC hx hb hK G (waC_19 ..) (t0 := 10) rfl (wsC_19 ..) (zw_19 h_g11) rfl h_g11 dX8_write_74 (fun H locs G => ?_)
        refine lv_aload_n hx hb dX8_write_75 rfl (lv_at hl 1 rfl) ?_
        refine fg_Wr_program hx hb hts hown hK G (hts _ lk_X8_32) dX8_write_76 ?_
        refine lv_iload hx hb dX8_write_79 (lv_at hl 0 rfl) ?_
        refine lv_iconst (v := 1) hx hb dX8_write_81 (by decide) ?_
        refine lv_iadd hx hb dX8_write_82 ?_
        refine fp_Pr_size hx hb hts hown hK G (hts _ lk_X8_66) dX8_write_83 (fun H locs G => ?_)
        refine lv_aload_n hx hb dX8_write_86 rfl (lv_at hl 1 rfl) ?_
        refine fg_Wr_program hx hb hts hown hK G (hts _ lk_X8_32) dX8_write_87 ?_
        refine fg_Pr_size (v := v1 + 1) hx hb hts hown hK G (hts _ lk_X8_66) rfl dX8_write_90 ?_
        exact rt_iCA C G hf dX8_write_93
      · replace hf := if_p hf c8
        refine lv_iconst (v := (-1)) hx hb dX8_write_40 (by decide) ?_
        exact rt_iCA C G hf dX8_write_41
set_option maxHeartbeats 4000000 in
set_option maxRecDepth 100000 in
theorem kx_Ma_code (l : Launch) (D : va_G) (k : Nat → Nat × ClassId) (h : Nat → Nat) (p1 : Int32) (p2 : Int32) (p3 : Int32) (st : rs_T) (r : Int32) (s' : rs_T) (hf : fx_Ma_code p1 p2 p3 st = some (r, s')) : nIC l D k h yX9_code cX9_code 4 .int 6 185 [.ref (h 0), .int p1, .int p2, .int p3] st r s' := by
  refine nIC_of (by decide) (Nat.le_of_ble_eq_true rfl) ?_
  intro p e s m below meth c ls C hl G
  obtain ⟨hx, hb, hml, hr, hown, hts, hK, hN, hlk⟩ := id C
  have hown : s.vm.findClass RX9 = some m.cls := hown
  have hl : lv_has ls 4 [(0, .ref (h 0)), (1, .int p1), (2, .int p2), (3, .int p3)] := hl
  unfold fx_Ma_code at hf
  refine lv_aload_n hx hb dX9_code_0 rfl (lv_at hl 0 rfl) ?_
  refine fg_Ma_writer hx hb hts hown hK G (hts _ lk_X9_21) dX9_code_1 ?_
  refine lv_iload_n hx hb dX9_code_4 rfl (lv_at hl 1 rfl) ?_
  refine lv_iload_n hx hb dX9_code_5 rfl (lv_at hl 2 rfl) ?_
  refine lv_iload_n hx hb dX9_code_6 rfl (lv_at hl 3 rfl) ?_
  have hc9 := hcA G
  obtain ⟨r2, st1, hst1, hf⟩ := bn_some hf
  refine cb_viC C hl G (As := [.int p1, .int p2, .int p3]) (rest := []) (kx_Wr_write l D k h p1 p2 p3 st _ _ hst1) gi_X9_88 (hwC_2 ..) rfl hd_X8_write ⟨Nat.le_of_ble_eq_true rfl, Nat.le_of_ble_eq_true rfl⟩ rfl rfl (Nat.le_of_ble_eq_true rfl) dX9_code_7 (fun k hK H locs G => ?_)
  have C := cxk C hK
  exact rt_iCA C G hf dX9_code_10
def rm_Wr_abandon : Room := { frames := 1, cells := 0, slots := 0, locals := 20 }
set_option maxHeartbeats 4000000 in
set_option maxRecDepth 100000 in
theorem kx_Wr_abandon (l : Launch) (D : va_G) (k : Nat → Nat × ClassId) (h : Nat → Nat) (st : rs_T) (r : Int32) (s' : rs_T) (hf : fx_Wr_abandon st = some (r, s')) : mIC l D k h yX8_abandon cX8_abandon 1 .boolean rm_Wr_abandon [.ref (h 2)] st r s' := by
  refine mIC_of (by decide) ⟨rfl, rfl⟩ (Nat.le_of_ble_eq_true rfl) ?_
  intro p e s m below meth c ls C hl G
  obtain ⟨hx, hb, hml, hr, hown, hts, hK, hN, hlk⟩ := id C
  have hown : s.vm.findClass RX8 = some m.cls := hown
  have hl : lv_has ls 1 [(0, .ref (h 2))] := hl
  unfold fx_Wr_abandon at hf
  refine lv_aload_n hx hb dX8_abandon_0 rfl (lv_at hl 0 rfl) ?_
  refine fg_Wr_program hx hb hts hown hK G (hts _ lk_X8_32) dX8_abandon_1 ?_
  refine fg_Pr_written (v := rI st 3) hx hb hts hown hK G (hts _ lk_X8_41) rfl dX8_abandon_4 ?_
  refine lv_iconst (v := (-1)) hx hb dX8_abandon_7 (by decide) ?_
  refine lv_icmp_ne (tgt := 13) hx hb dX8_abandon_8 (by decide) (fun c1 => ?_) (fun c1 => ?_)
  · replace hf := if_n hf c1
    refine lv_aload_n hx hb dX8_abandon_13 rfl (lv_at hl 0 rfl) ?_
    refine fg_Wr_program hx hb hts hown hK G (hts _ lk_X8_32) dX8_abandon_14 ?_
    refine lv_aload_n hx hb dX8_abandon_17 rfl (lv_at hl 0 rfl) ?_
    refine fg_Wr_program hx hb hts hown hK G (hts _ lk_X8_32) dX8_abandon_18 ?_
    refine fg_Pr_first hx hb hts hown hK G (hts _ lk_X8_63) dX8_abandon_21 ?_
    refine lv_aload_n hx hb dX8_abandon_24 rfl (lv_at hl 0 rfl) ?_
    refine fg_Wr_program hx hb hts hown hK G (hts _ lk_X8_32) dX8_abandon_25 ?_
    refine fg_Pr_written (v := rI st 3) hx hb hts hown hK G (hts _ lk_X8_41) rfl dX8_abandon_28 ?_
    obtain ⟨h_g2, hf⟩ := gd_some hf
    refine ra_IC (v := rA st 4 ((rI st 3).toNatClampNeg)) hx hb hK G (waC_14 ..) (t0 := 5) rfl rfl h_g2 dX8_abandon_31 ?_
    refine fp_Pr_size hx hb hts hown hK G (hts _ lk_X8_66) dX8_abandon_32 (fun H locs G => ?_)
    refine lv_aload_n hx hb dX8_abandon_35 rfl (lv_at hl 0 rfl) ?_
    refine fg_Wr_program hx hb hts hown hK G (hts _ lk_X8_32) dX8_abandon_36 ?_
    refine lv_aload_n hx hb dX8_abandon_39 rfl (lv_at hl 0 rfl) ?_
    refine fg_Wr_program hx hb hts hown hK G (hts _ lk_X8_32) dX8_abandon_40 ?_
    refine fg_Pr_written (v := rI st 3) hx hb hts hown hK G (hts _ lk_X8_41) rfl dX8_abandon_43 ?_
    refine fp_Pr_functions hx hb hts hown hK G (hts _ lk_X8_36) dX8_abandon_46 (fun H locs G => ?_)
    refine lv_aload_n hx hb dX8_abandon_49 rfl (lv_at hl 0 rfl) ?_
    obtain ⟨st3, hst3, hf⟩ := bv_some hf
    refine cl_vvC C hl G (As := []) (rest := []) (kx_Wr_stop l D k h (wI (wI st 4 (rA st 4 ((rI st 3).toNatClampNeg))) 2 (rI st 3)) _ hst3) gi_X8_69 (hwC_2 ..) rfl hd_X8_stop ⟨Nat.le_of_ble_eq_true rfl, Nat.le_of_ble_eq_true rfl⟩ rfl rfl (Nat.le_of_ble_eq_true rfl) dX8_abandon_50 ⟨Nat.zero_le _, Nat.zero_le _⟩ (fun H locs e0 G => ?_)
    refine lv_iconst (v := 1) hx hb dX8_abandon_53 (by decide) ?_
    exact rt_zC C rfl G hf dX8_abandon_54
  · replace hf := if_p hf c1
    refine lv_iconst (v := 0) hx hb dX8_abandon_11 (by decide) ?_
    exact rt_zC C rfl G hf dX8_abandon_12
def rm_Ma_drop : Room := { frames := 2, cells := 0, slots := 0, locals := 40 }
set_option maxHeartbeats 4000000 in
set_option maxRecDepth 100000 in
theorem kx_Ma_drop (l : Launch) (D : va_G) (k : Nat → Nat × ClassId) (h : Nat → Nat) (st : rs_T) (r : Int32) (s' : rs_T) (hf : fx_Ma_drop st = some (r, s')) : mIC l D k h yX9_drop cX9_drop 1 .boolean rm_Ma_drop [.ref (h 0)] st r s' := by
  refine mIC_of (by decide) ⟨rfl, rfl⟩ (Nat.le_of_ble_eq_true rfl) ?_
  intro p e s m below meth c ls C hl G
  obtain ⟨hx, hb, hml, hr, hown, hts, hK, hN, hlk⟩ := id C
  have hown : s.vm.findClass RX9 = some m.cls := hown
  have hl : lv_has ls 1 [(0, .ref (h 0))] := hl
  unfold fx_Ma_drop at hf
  refine lv_aload_n hx hb dX9_drop_0 rfl (lv_at hl 0 rfl) ?_
  refine fg_Ma_writer hx hb hts hown hK G (hts _ lk_X9_21) dX9_drop_1 ?_
  obtain ⟨r2, st1, hst1, hf⟩ := bn_some hf
  refine cl_viC C hl G (As := []) (rest := []) (kx_Wr_abandon l D k h st _ _ hst1) gi_X9_91 (hwC_2 ..) rfl hd_X8_abandon ⟨Nat.le_of_ble_eq_true rfl, Nat.le_of_ble_eq_true rfl⟩ rfl rfl (Nat.le_of_ble_eq_true rfl) dX9_drop_4 ⟨Nat.zero_le _, Nat.zero_le _⟩ (fun H locs e0 G => ?_)
  obtain ⟨h_b, hf⟩ := gb_some hf
  exact rt_zC C (gb_nar h_b) G hf dX9_drop_7
def rm_Pr_isWhole : Room := { frames := 0, cells := 0, slots := 0, locals := 0 }
set_option maxHeartbeats 4000000 in
set_option maxRecDepth 100000 in
theorem kx_Pr_isWhole (l : Launch) (D : va_G) (k : Nat → Nat × ClassId) (h : Nat → Nat) (p1 : Int32) (st : rs_T) (r : Int32) (s' : rs_T) (hf : fx_Pr_isWhole p1 st = some (r, s')) : mIC l D k h yX3_isWhole cX3_isWhole 2 .boolean rm_Pr_isWhole [.ref (h 1), .int p1] st r s' := by
  refine mIC_of (by decide) ⟨rfl, rfl⟩ (Nat.le_of_ble_eq_true rfl) ?_
  intro p e s m below meth c ls C hl G
  obtain ⟨hx, hb, hml, hr, hown, hts, hK, hN, hlk⟩ := id C
  have hown : s.vm.findClass RX3 = some m.cls := hown
  have hl : lv_has ls 2 [(0, .ref (h 1)), (1, .int p1)] := hl
  unfold fx_Pr_isWhole at hf
  refine lv_iload_n hx hb dX3_isWhole_0 rfl (lv_at hl 1 rfl) ?_
  refine lv_if_lt (tgt := 24) hx hb dX3_isWhole_1 (by decide) (fun c1 => ?_) (fun c1 => ?_)
  · replace hf := if_p hf c1
    refine lv_iconst (v := 0) hx hb dX3_isWhole_24 (by decide) ?_
    exact rt_zC C rfl G hf dX3_isWhole_25
  · replace hf := if_n hf c1
    refine lv_iload_n hx hb dX3_isWhole_4 rfl (lv_at hl 1 rfl) ?_
    refine lv_aload_n hx hb dX3_isWhole_5 rfl (lv_at hl 0 rfl) ?_
    refine fg_Pr_functions (v := rI st 2) hx hb hts hown hK G (hts _ lk_X3_51) rfl dX3_isWhole_6 ?_
    refine lv_icmp_ge (tgt := 24) hx hb dX3_isWhole_9 (by decide) (fun c2 => ?_) (fun c2 => ?_)
    · replace hf := if_p hf c2
      refine lv_iconst (v := 0) hx hb dX3_isWhole_24 (by decide) ?_
      exact rt_zC C rfl G hf dX3_isWhole_25
    · replace hf := if_n hf c2
      refine lv_iload_n hx hb dX3_isWhole_12 rfl (lv_at hl 1 rfl) ?_
      refine lv_aload_n hx hb dX3_isWhole_13 rfl (lv_at hl 0 rfl) ?_
      refine fg_Pr_written (v := rI st 3) hx hb hts hown hK G (hts _ lk_X3_55) rfl dX3_isWhole_14 ?_
      refine lv_icmp_eq (tgt := 24) hx hb dX3_isWhole_17 (by decide) (fun c3 => ?_) (fun c3 => ?_)
      · replace hf := if_p hf c3
        refine lv_iconst (v := 0) hx hb dX3_isWhole_24 (by decide) ?_
        exact rt_zC C rfl G hf dX3_isWhole_25
      · replace hf := if_n hf c3
        refine lv_iconst (v := 1) hx hb dX3_isWhole_20 (by decide) ?_
        refine lv_goto (tgt := 25) hx hb dX3_isWhole_21 (by decide) ?_
        exact rt_zC C rfl G hf dX3_isWhole_25
def rm_Ma_entry : Room := { frames := 1, cells := 0, slots := 0, locals := 21 }
set_option maxHeartbeats 4000000 in
set_option maxRecDepth 100000 in
theorem kx_Ma_entry_b28 {p : Program} {l : Launch} {e : Env} {s : State} {m : MethodId} {args : Array Value} {below : List Frame} {meth : Method} {c : Code} {D : va_G} {h : Nat → Nat} {E : Nat → Nat} {k : Nat → Nat × ClassId} (C : cxC D k p s m args meth c cX9_entry 3 (some .boolean) RX9) (x1 : Int32) (x2 : Int32) (st : rs_T) (r : Int32) (s' : rs_T) (hf : fx_Ma_entry_b28 x1 x2 st = some (r, s')) : ∀ (H : Heap) (locs : List Loc) (ls : Array Slot), lv_has ls 3 [(0, .ref (h 0)), (1, .int x1), (2, .int x2)] → gdC D k h (vE E) (arC k h s.heap.size) s.heap H locs st → W p l e rm_Ma_entry s m args below meth c H locs 0 0 (MQ below (qIC D k h E s.heap.size r s') args s 0 0 (arC k h s.heap.size)) (F0 m 28 ls []) := by
  obtain ⟨hx, hb, hml, hr, hown, hts, hK, hN, hlk⟩ := id C
  intro H locs ls hl G
  unfold fx_Ma_entry_b28 at hf
  refine lv_aload_n hx hb dX9_entry_28 rfl (lv_at hl 0 rfl) ?_
  refine fg_Ma_world hx hb hts hown hK G (hts _ lk_X9_28) dX9_entry_29 ?_
  refine fg_Wo_table hx hb hts hown hK G (hts _ lk_X9_99) dX9_entry_32 ?_
  refine lv_iload_n hx hb dX9_entry_35 rfl (lv_at hl 1 rfl) ?_
  refine lv_iload_n hx hb dX9_entry_36 rfl (lv_at hl 2 rfl) ?_
  obtain ⟨h_g4, hf⟩ := gd_some hf
  refine rw_IC hx hb hK G (waC_25 ..) (t0 := 16) rfl (wsC_25 ..) (zw_25 h_g4) rfl h_g4 dX9_entry_37 (fun H locs G => ?_)
  refine lv_iconst (v := 1) hx hb dX9_entry_38 (by decide) ?_
  exact rt_zC C rfl G hf dX9_entry_39
set_option maxHeartbeats 4000000 in
set_option maxRecDepth 100000 in
theorem kx_Ma_entry (l : Launch) (D : va_G) (k : Nat → Nat × ClassId) (h : Nat → Nat) (p1 : Int32) (p2 : Int32) (st : rs_T) (r : Int32) (s' : rs_T) (hf : fx_Ma_entry p1 p2 st = some (r, s')) : mIC l D k h yX9_entry cX9_entry 3 .boolean rm_Ma_entry [.ref (h 0), .int p1, .int p2] st r s' := by
  refine mIC_of (by decide) ⟨rfl, rfl⟩ (Nat.le_of_ble_eq_true rfl) ?_
  intro p e s m below meth c ls C hl G
  obtain ⟨hx, hb, hml, hr, hown, hts, hK, hN, hlk⟩ := id C
  have hown : s.vm.findClass RX9 = some m.cls := hown
  have hl : lv_has ls 3 [(0, .ref (h 0)), (1, .int p1), (2, .int p2)] := hl
  unfold fx_Ma_entry at hf
  refine lv_iload_n hx hb dX9_entry_0 rfl (lv_at hl 1 rfl) ?_
  refine lv_if_lt (tgt := 26) hx hb dX9_entry_1 (by decide) (fun c1 => ?_) (fun c1 => ?_)
  · replace hf := if_p hf c1
    refine lv_iconst (v := 0) hx hb dX9_entry_26 (by decide) ?_
    exact rt_zC C rfl G hf dX9_entry_27
  · replace hf := if_n hf c1
    refine lv_iload_n hx hb dX9_entry_4 rfl (lv_at hl 1 rfl) ?_
    refine lv_bipush (v := 30) hx hb dX9_entry_5 (by decide) ?_
    refine lv_icmp_ge (tgt := 26) hx hb dX9_entry_7 (by decide) (fun c2 => ?_) (fun c2 => ?_)
    · replace hf := if_p hf c2
      refine lv_iconst (v := 0) hx hb dX9_entry_26 (by decide) ?_
      exact rt_zC C rfl G hf dX9_entry_27
    · replace hf := if_n hf c2
      refine lv_iload_n hx hb dX9_entry_10 rfl (lv_at hl 2 rfl) ?_
      refine lv_iconst (v := (-1)) hx hb dX9_entry_11 (by decide) ?_
      refine lv_icmp_eq (tgt := 28) hx hb dX9_entry_12 (by decide) (fun c3 => ?_) (fun c3 => ?_)
      · replace hf := if_p hf c3
        exact kx_Ma_entry_b28 C p1 p2 st _ _ hf _ _ _ (lv_sub hl [0, 1, 2] rfl) G
      · replace hf := if_n hf c3
        refine lv_aload_n hx hb dX9_entry_15 rfl (lv_at hl 0 rfl) ?_
        refine fg_Ma_program hx hb hts hown hK G (hts _ lk_X9_12) dX9_entry_16 ?_
        refine lv_iload_n hx hb dX9_entry_19 rfl (lv_at hl 2 rfl) ?_
        obtain ⟨r6, st5, hst5, hf⟩ := bn_some hf
        refine cl_viC C hl G (As := [.int p2]) (rest := []) (kx_Pr_isWhole l D k h p2 st _ _ hst5) gi_X9_95 (hwC_1 ..) rfl hd_X3_isWhole ⟨Nat.le_of_ble_eq_true rfl, Nat.le_of_ble_eq_true rfl⟩ rfl rfl (Nat.le_of_ble_eq_true rfl) dX9_entry_20 ⟨Nat.zero_le _, Nat.zero_le _⟩ (fun H locs e0 G => ?_)
        refine lv_if_ne (tgt := 28) hx hb dX9_entry_23 (by decide) (fun c7 => ?_) (fun c7 => ?_)
        · replace hf := if_n hf c7
          exact kx_Ma_entry_b28 C p1 p2 st5 _ _ hf _ _ _ (lv_sub hl [0, 1, 2] rfl) G
        · replace hf := if_p hf c7
          refine lv_iconst (v := 0) hx hb dX9_entry_26 (by decide) ?_
          exact rt_zC C rfl G hf dX9_entry_27
def rm_Ma_argument : Room := { frames := 0, cells := 0, slots := 0, locals := 0 }
set_option maxHeartbeats 4000000 in
set_option maxRecDepth 100000 in
theorem kx_Ma_argument (l : Launch) (D : va_G) (k : Nat → Nat × ClassId) (h : Nat → Nat) (p1 : Int64) (st : rs_T) (r : Int32) (s' : rs_T) (hf : fx_Ma_argument p1 st = some (r, s')) : mIC l D k h yX9_argument cX9_argument 3 .int rm_Ma_argument [.ref (h 0), .long p1] st r s' := by
  refine mIC_of (by decide) ⟨rfl, rfl⟩ (Nat.le_of_ble_eq_true rfl) ?_
  intro p e s m below meth c ls C hl G
  obtain ⟨hx, hb, hml, hr, hown, hts, hK, hN, hlk⟩ := id C
  have hown : s.vm.findClass RX9 = some m.cls := hown
  have hl : lv_has ls 3 [(0, .ref (h 0)), (1, .long p1)] := hl
  unfold fx_Ma_argument at hf
  refine lv_aload_n hx hb dX9_argument_0 rfl (lv_at hl 0 rfl) ?_
  refine fg_Ma_argumentCount (v := rI st 0) hx hb hts hown hK G (hts _ lk_X9_77) rfl dX9_argument_1 ?_
  refine lv_bipush (v := 8) hx hb dX9_argument_4 (by decide) ?_
  refine lv_icmp_lt (tgt := 11) hx hb dX9_argument_6 (by decide) (fun c1 => ?_) (fun c1 => ?_)
  · replace hf := if_p hf c1
    refine lv_aload_n hx hb dX9_argument_11 rfl (lv_at hl 0 rfl) ?_
    refine fg_Ma_arguments hx hb hts hown hK G (hts _ lk_X9_73) dX9_argument_12 ?_
    refine lv_aload_n hx hb dX9_argument_15 rfl (lv_at hl 0 rfl) ?_
    refine fg_Ma_argumentCount (v := rI st 0) hx hb hts hown hK G (hts _ lk_X9_77) rfl dX9_argument_16 ?_
    refine lv_lload_n hx hb dX9_argument_19 rfl (lv_at hl 1 rfl) ?_
    obtain ⟨h_g2, hf⟩ := gd_some hf
    refine rw_JC hx hb hK G (waC_9 ..) (t0 := 0) rfl (wsC_9 ..) (zw_9 h_g2) rfl h_g2 dX9_argument_20 (fun H locs G => ?_)
    refine lv_aload_n hx hb dX9_argument_21 rfl (lv_at hl 0 rfl) ?_
    refine lv_dup hx hb dX9_argument_22 rfl ?_
    refine fg_Ma_argumentCount (v := rI st 0) hx hb hts hown hK G (hts _ lk_X9_77) rfl dX9_argument_23 ?_
    refine lv_iconst (v := 1) hx hb dX9_argument_26 (by decide) ?_
    refine lv_iadd hx hb dX9_argument_27 ?_
    refine fp_Ma_argumentCount hx hb hts hown hK G (hts _ lk_X9_77) dX9_argument_28 (fun H locs G => ?_)
    refine lv_aload_n hx hb dX9_argument_31 rfl (lv_at hl 0 rfl) ?_
    refine fg_Ma_argumentCount (v := (rI st 0) + 1) hx hb hts hown hK G (hts _ lk_X9_77) rfl dX9_argument_32 ?_
    exact rt_iC C G hf dX9_argument_35
  · replace hf := if_n hf c1
    refine lv_iconst (v := (-1)) hx hb dX9_argument_9 (by decide) ?_
    exact rt_iC C G hf dX9_argument_10
def rm_Ac_enter_a : Room := { frames := 1, cells := 0, slots := 0, locals := 21 }
set_option maxHeartbeats 4000000 in
set_option maxRecDepth 100000 in
theorem kx_Ac_enter_a_b57 {p : Program} {l : Launch} {e : Env} {s : State} {m : MethodId} {args : Array Value} {below : List Frame} {meth : Method} {c : Code} {D : va_G} {h : Nat → Nat} {E : Nat → Nat} {k : Nat → Nat × ClassId} (C : cxC D k p s m args meth c cX0_enter 9 none RX0) (N : Nat) (st : rs_T) (s' : rs_T) (hf : fx_Ac_enter_a_b57 N st = some s') : ∀ (H : Heap) (locs : List Loc) (ls : Array Slot), lv_has ls 9 [(0, .ref (h 4))] → gdC D k h (vE E) (arC k h s.heap.size) s.heap H locs st → W p l e rm_Ac_enter_a s m args below meth c H locs 0 0 (MQ below (qVC D k h E s.heap.size s') args s 0 0 (arC k h s.heap.size)) (F0 m 57 ls []) := by
  obtain ⟨hx, hb, hml, hr, hown, hts, hK, hN, hlk⟩ := id C
  intro H locs ls hl G
  unfold fx_Ac_enter_a_b57 at hf
  refine lv_aload_n hx hb dX0_enter_57 rfl (lv_at hl 0 rfl) ?_
  refine lv_iconst (v := 4) hx hb dX0_enter_58 (by decide) ?_
  refine fp_Ac_state hx hb hts hown hK G (hts _ lk_X0_39) dX0_enter_59 (fun H locs G => ?_)
  exact rt_vC C G hf dX0_enter_62
set_option maxHeartbeats 4000000 in
set_option maxRecDepth 100000 in
theorem kx_Ac_enter_a_b148 {p : Program} {l : Launch} {e : Env} {s : State} {m : MethodId} {args : Array Value} {below : List Frame} {meth : Method} {c : Code} {D : va_G} {h : Nat → Nat} {E : Nat → Nat} {k : Nat → Nat × ClassId} (C : cxC D k p s m args meth c cX0_enter 9 none RX0) (N : Nat) (rec85 : Int32 → Int32 → Int32 → Int32 → Int32 → Int32 → rs_T → Option (rs_T)) (ih85 : ∀ (x1 : Int32) (x3 : Int32) (x4 : Int32) (x5 : Int32) (x6 : Int32) (x7 : Int32) (st : rs_T) (s' : rs_T), rec85 x1 x3 x4 x5 x6 x7 st = some s' → ∀ (H : Heap) (locs : List Loc) (ls : Array Slot), lv_has ls 9 [(0, .ref (h 4)), (1, .int x1), (2, .ref (k 9).1), (3, .int x3), (4, .int x4), (5, .int x5), (6, .int x6), (7, .int x7)] → gdC D k h (vE E) (arC k h s.heap.size) s.heap H locs st → W p l e rm_Ac_enter_a s m args below meth c H locs 0 0 (MQ below (qVC D k h E s.heap.size s') args s 0 0 (arC k h s.heap.size)) (F0 m 85 ls [])) (x1 : Int32) (x3 : Int32) (x4 : Int32) (x5 : Int32) (x6 : Int32) (x7 : Int32) (y0 : Int64) (y1 : Int32) (st : rs_T) (s' : rs_T) (hf : fx_Ac_enter_a_b148 N rec85 x1 x3 x4 x5 x6 x7 y0 y1 st = some s') : ∀ (H : Heap) (locs : List Loc) (ls : Array Slot), lv_has ls 9 [(0, .ref (h 4)), (1, .int x1), (2, .ref (k 9).1), (3, .int x3), (4, .int x4), (5, .int x5), (6, .int x6), (7, .int x7)] → gdC D k h (vE E) (arC k h s.heap.size) s.heap H locs st → W p l e rm_Ac_enter_a s m args below meth c H locs 0 0 (MQ below (qVC D k h E s.heap.size s') args s 0 0 (arC k h s.heap.size)) (F0 m 148 ls [.long y0, .int y1, .ref (k 33).1]) := by
  obtain ⟨hx, hb, hml, hr, hown, hts, hK, hN, hlk⟩ := id C
  intro H locs ls hl G
  unfold fx_Ac_enter_a_b148 at hf
  obtain ⟨h_g19, hf⟩ := gd_some hf
  refine rw_JC hx hb hK G (waC_33 ..) (t0 := 24) rfl (wsC_33 ..) (zw_33 h_g19) rfl h_g19 dX0_enter_148 (fun H locs G => ?_)
  obtain ⟨v20, e_v20⟩ : ∃ z : Int32, z = x7 + 1 := ⟨_, rfl⟩
  replace hf := bd_some hf v20 e_v20
  refine lv_iinc (v := v20) (lv' := [(7, .int v20), (0, .ref (h 4)), (1, .int x1), (2, .ref (k 9).1), (3, .int x3), (4, .int x4), (5, .int x5), (6, .int x6)]) hx hb dX0_enter_149 hl (k := 7) rfl (by rw [e_v20]; rfl) (by decide) rfl (fun ls hl => ?_)
  refine lv_goto (tgt := 85) hx hb dX0_enter_152 (by decide) ?_
  exact ih85 x1 x3 x4 x5 x6 v20 (wL st 2 y1.toNatClampNeg y0) _ hf _ _ _ (lv_sub hl [1, 2, 3, 4, 5, 6, 7, 0] rfl) G
set_option maxHeartbeats 4000000 in
set_option maxRecDepth 100000 in
theorem kx_Ac_enter_a_b120 {p : Program} {l : Launch} {e : Env} {s : State} {m : MethodId} {args : Array Value} {below : List Frame} {meth : Method} {c : Code} {D : va_G} {h : Nat → Nat} {E : Nat → Nat} {k : Nat → Nat × ClassId} (C : cxC D k p s m args meth c cX0_enter 9 none RX0) (N : Nat) (rec85 : Int32 → Int32 → Int32 → Int32 → Int32 → Int32 → rs_T → Option (rs_T)) (ih85 : ∀ (x1 : Int32) (x3 : Int32) (x4 : Int32) (x5 : Int32) (x6 : Int32) (x7 : Int32) (st : rs_T) (s' : rs_T), rec85 x1 x3 x4 x5 x6 x7 st = some s' → ∀ (H : Heap) (locs : List Loc) (ls : Array Slot), lv_has ls 9 [(0, .ref (h 4)), (1, .int x1), (2, .ref (k 9).1), (3, .int x3), (4, .int x4), (5, .int x5), (6, .int x6), (7, .int x7)] → gdC D k h (vE E) (arC k h s.heap.size) s.heap H locs st → W p l e rm_Ac_enter_a s m args below meth c H locs 0 0 (MQ below (qVC D k h E s.heap.size s') args s 0 0 (arC k h s.heap.size)) (F0 m 85 ls [])) (x1 : Int32) (x3 : Int32) (x4 : Int32) (x5 : Int32) (x6 : Int32) (x7 : Int32) (y0 : Int32) (st : rs_T) (s' : rs_T) (hf : fx_Ac_enter_a_b120 N rec85 x1 x3 x4 x5 x6 x7 y0 st = some s') : ∀ (H : Heap) (locs : List Loc) (ls : Array Slot), lv_has ls 9 [(0, .ref (h 4)), (1, .int x1), (2, .ref (k 9).1), (3, .int x3), (4, .int x4), (5, .int x5), (6, .int x6), (7, .int x7)] → gdC D k h (vE E) (arC k h s.heap.size) s.heap H locs st → W p l e rm_Ac_enter_a s m args below meth c H locs 0 0 (MQ below (qVC D k h E s.heap.size s') args s 0 0 (arC k h s.heap.size)) (F0 m 120 ls [.int y0]) := by
  obtain ⟨hx, hb, hml, hr, hown, hts, hK, hN, hlk⟩ := id C
  intro H locs ls hl G
  unfold fx_Ac_enter_a_b120 at hf
  refine lv_istore (lv' := [(8, .int y0), (0, .ref (h 4)), (1, .int x1), (2, .ref (k 9).1), (3, .int x3), (4, .int x4), (5, .int x5), (6, .int x6), (7, .int x7)]) hx hb dX0_enter_120 hl (by decide) rfl (fun ls hl => ?_)
  refine lv_aload_n hx hb dX0_enter_122 rfl (lv_at hl 1 rfl) ?_
  refine fg_Ac_values hx hb hts hown hK G (hts _ lk_X0_28) dX0_enter_123 ?_
  refine lv_aload_n hx hb dX0_enter_126 rfl (lv_at hl 1 rfl) ?_
  refine fg_Ac_used (v := rI st 18) hx hb hts hown hK G (hts _ lk_X0_61) rfl dX0_enter_127 ?_
  refine lv_iload hx hb dX0_enter_130 (lv_at hl 8 rfl) ?_
  refine lv_iadd hx hb dX0_enter_132 ?_
  refine lv_iload hx hb dX0_enter_133 (lv_at hl 0 rfl) ?_
  refine lv_if_eq (tgt := 147) hx hb dX0_enter_135 (by decide) (fun c18 => ?_) (fun c18 => ?_)
  · replace hf := if_p hf c18
    refine lv_lconst (v := 0) hx hb dX0_enter_147 (by decide) ?_
    exact kx_Ac_enter_a_b148 C N rec85 ih85 x1 x3 x4 x5 x6 x7 0 ((rI st 18) + x7) st _ hf _ _ _ (lv_sub hl [1, 2, 3, 4, 5, 6, 7, 8] rfl) G
  · replace hf := if_n hf c18
    refine lv_aload_n hx hb dX0_enter_138 rfl (lv_at hl 3 rfl) ?_
    refine lv_iload_n hx hb dX0_enter_139 rfl (lv_at hl 4 rfl) ?_
    refine lv_iload hx hb dX0_enter_140 (lv_at hl 8 rfl) ?_
    refine lv_iadd hx hb dX0_enter_142 ?_
    obtain ⟨h_g21, hf⟩ := gd_some hf
    refine ra_JC (v := rL st 0 ((x3 + x7).toNatClampNeg)) hx hb hK G (waC_9 ..) (t0 := 0) rfl rfl h_g21 dX0_enter_143 ?_
    refine lv_goto (tgt := 148) hx hb dX0_enter_144 (by decide) ?_
    exact kx_Ac_enter_a_b148 C N rec85 ih85 x1 x3 x4 x5 x6 x7 (rL st 0 ((x3 + x7).toNatClampNeg)) ((rI st 18) + x7) st _ hf _ _ _ (lv_sub hl [1, 2, 3, 4, 5, 6, 7, 8] rfl) G
set_option maxHeartbeats 4000000 in
set_option maxRecDepth 100000 in
theorem kx_Ac_enter_a_b119 {p : Program} {l : Launch} {e : Env} {s : State} {m : MethodId} {args : Array Value} {below : List Frame} {meth : Method} {c : Code} {D : va_G} {h : Nat → Nat} {E : Nat → Nat} {k : Nat → Nat × ClassId} (C : cxC D k p s m args meth c cX0_enter 9 none RX0) (N : Nat) (rec85 : Int32 → Int32 → Int32 → Int32 → Int32 → Int32 → rs_T → Option (rs_T)) (ih85 : ∀ (x1 : Int32) (x3 : Int32) (x4 : Int32) (x5 : Int32) (x6 : Int32) (x7 : Int32) (st : rs_T) (s' : rs_T), rec85 x1 x3 x4 x5 x6 x7 st = some s' → ∀ (H : Heap) (locs : List Loc) (ls : Array Slot), lv_has ls 9 [(0, .ref (h 4)), (1, .int x1), (2, .ref (k 9).1), (3, .int x3), (4, .int x4), (5, .int x5), (6, .int x6), (7, .int x7)] → gdC D k h (vE E) (arC k h s.heap.size) s.heap H locs st → W p l e rm_Ac_enter_a s m args below meth c H locs 0 0 (MQ below (qVC D k h E s.heap.size s') args s 0 0 (arC k h s.heap.size)) (F0 m 85 ls [])) (x1 : Int32) (x3 : Int32) (x4 : Int32) (x5 : Int32) (x6 : Int32) (x7 : Int32) (st : rs_T) (s' : rs_T) (hf : fx_Ac_enter_a_b119 N rec85 x1 x3 x4 x5 x6 x7 st = some s') : ∀ (H : Heap) (locs : List Loc) (ls : Array Slot), lv_has ls 9 [(0, .ref (h 4)), (1, .int x1), (2, .ref (k 9).1), (3, .int x3), (4, .int x4), (5, .int x5), (6, .int x6), (7, .int x7)] → gdC D k h (vE E) (arC k h s.heap.size) s.heap H locs st → W p l e rm_Ac_enter_a s m args below meth c H locs 0 0 (MQ below (qVC D k h E s.heap.size s') args s 0 0 (arC k h s.heap.size)) (F0 m 119 ls []) := by
  obtain ⟨hx, hb, hml, hr, hown, hts, hK, hN, hlk⟩ := id C
  intro H locs ls hl G
  unfold fx_Ac_enter_a_b119 at hf
  refine lv_iconst (v := 0) hx hb dX0_enter_119 (by decide) ?_
  exact kx_Ac_enter_a_b120 C N rec85 ih85 x1 x3 x4 x5 x6 x7 0 st _ hf _ _ _ (lv_sub hl [0, 1, 2, 3, 4, 5, 6, 7] rfl) G
set_option maxHeartbeats 4000000 in
set_option maxRecDepth 100000 in
theorem kx_Ac_enter_a_b85 {p : Program} {l : Launch} {e : Env} {s : State} {m : MethodId} {args : Array Value} {below : List Frame} {meth : Method} {c : Code} {D : va_G} {h : Nat → Nat} {E : Nat → Nat} {k : Nat → Nat × ClassId} (C : cxC D k p s m args meth c cX0_enter 9 none RX0) (N : Nat) : ∀ (n : Nat) (x1 : Int32) (x3 : Int32) (x4 : Int32) (x5 : Int32) (x6 : Int32) (x7 : Int32) (st : rs_T) (s' : rs_T), fx_Ac_enter_a_b85 N n x1 x3 x4 x5 x6 x7 st = some s' → ∀ (H : Heap) (locs : List Loc) (ls : Array Slot), lv_has ls 9 [(0, .ref (h 4)), (1, .int x1), (2, .ref (k 9).1), (3, .int x3), (4, .int x4), (5, .int x5), (6, .int x6), (7, .int x7)] → gdC D k h (vE E) (arC k h s.heap.size) s.heap H locs st → W p l e rm_Ac_enter_a s m args below meth c H locs 0 0 (MQ below (qVC D k h E s.heap.size s') args s 0 0 (arC k h s.heap.size)) (F0 m 85 ls []) := by
  obtain ⟨hx, hb, hml, hr, hown, hts, hK, hN, hlk⟩ := id C
  intro n
  induction n with
  | zero => intro x1 x3 x4 x5 x6 x7 st s' hf; cases hf
  | succ n ih =>
    intro x1 x3 x4 x5 x6 x7 st s' hf H locs ls hl G
    rw [fx_Ac_enter_a_b85] at hf
    refine lv_iload hx hb dX0_enter_85 (lv_at hl 7 rfl) ?_
    refine lv_iload hx hb dX0_enter_87 (lv_at hl 4 rfl) ?_
    refine lv_icmp_ge (tgt := 155) hx hb dX0_enter_89 (by decide) (fun c10 => ?_) (fun c10 => ?_)
    · replace hf := if_p hf c10
      refine lv_aload_n hx hb dX0_enter_155 rfl (lv_at hl 0 rfl) ?_
      refine fg_Ac_function hx hb hts hown hK G (hts _ lk_X0_9) dX0_enter_156 ?_
      refine lv_aload_n hx hb dX0_enter_159 rfl (lv_at hl 0 rfl) ?_
      refine fg_Ac_frames (v := rI st 14) hx hb hts hown hK G (hts _ lk_X0_48) rfl dX0_enter_160 ?_
      refine lv_iload_n hx hb dX0_enter_163 rfl (lv_at hl 1 rfl) ?_
      obtain ⟨h_g11, hf⟩ := gd_some hf
      refine rw_IC hx hb hK G (waC_28 ..) (t0 := 19) rfl (wsC_28 ..) (zw_28 h_g11) rfl h_g11 dX0_enter_164 (fun H locs G => ?_)
      refine lv_aload_n hx hb dX0_enter_165 rfl (lv_at hl 0 rfl) ?_
      refine fg_Ac_next hx hb hts hown hK G (hts _ lk_X0_15) dX0_enter_166 ?_
      refine lv_aload_n hx hb dX0_enter_169 rfl (lv_at hl 0 rfl) ?_
      refine fg_Ac_frames (v := rI st 14) hx hb hts hown hK G (hts _ lk_X0_48) rfl dX0_enter_170 ?_
      refine lv_aload_n hx hb dX0_enter_173 rfl (lv_at hl 0 rfl) ?_
      refine fg_Ac_program hx hb hts hown hK G (hts _ lk_X0_64) dX0_enter_174 ?_
      refine fg_Pr_first hx hb hts hown hK G (hts _ lk_X0_84) dX0_enter_177 ?_
      refine lv_iload_n hx hb dX0_enter_180 rfl (lv_at hl 1 rfl) ?_
      obtain ⟨h_g12, hf⟩ := gd_some hf
      refine ra_IC (v := rA st 4 x1.toNatClampNeg) hx hb hK G (waC_14 ..) (t0 := 5) rfl rfl h_g12 dX0_enter_181 ?_
      obtain ⟨h_g13, hf⟩ := gd_some hf
      refine rw_IC hx hb hK G (waC_29 ..) (t0 := 20) rfl (wsC_29 ..) (zw_29 h_g13) rfl h_g13 dX0_enter_182 (fun H locs G => ?_)
      refine lv_aload_n hx hb dX0_enter_183 rfl (lv_at hl 0 rfl) ?_
      refine fg_Ac_base hx hb hts hown hK G (hts _ lk_X0_18) dX0_enter_184 ?_
      refine lv_aload_n hx hb dX0_enter_187 rfl (lv_at hl 0 rfl) ?_
      refine fg_Ac_frames (v := rI st 14) hx hb hts hown hK G (hts _ lk_X0_48) rfl dX0_enter_188 ?_
      refine lv_aload_n hx hb dX0_enter_191 rfl (lv_at hl 0 rfl) ?_
      refine fg_Ac_used (v := rI st 18) hx hb hts hown hK G (hts _ lk_X0_61) rfl dX0_enter_192 ?_
      obtain ⟨h_g14, hf⟩ := gd_some hf
      refine rw_IC hx hb hK G (waC_30 ..) (t0 := 21) rfl (wsC_30 ..) (zw_30 h_g14) rfl h_g14 dX0_enter_195 (fun H locs G => ?_)
      refine lv_aload_n hx hb dX0_enter_196 rfl (lv_at hl 0 rfl) ?_
      refine fg_Ac_top hx hb hts hown hK G (hts _ lk_X0_21) dX0_enter_197 ?_
      refine lv_aload_n hx hb dX0_enter_200 rfl (lv_at hl 0 rfl) ?_
      refine fg_Ac_frames (v := rI st 14) hx hb hts hown hK G (hts _ lk_X0_48) rfl dX0_enter_201 ?_
      refine lv_aload_n hx hb dX0_enter_204 rfl (lv_at hl 0 rfl) ?_
      refine fg_Ac_used (v := rI st 18) hx hb hts hown hK G (hts _ lk_X0_61) rfl dX0_enter_205 ?_
      refine lv_iload hx hb dX0_enter_208 (lv_at hl 4 rfl) ?_
      refine lv_iadd hx hb dX0_enter_210 ?_
      obtain ⟨h_g15, hf⟩ := gd_some hf
      refine rw_IC hx hb hK G (waC_31 ..) (t0 := 22) rfl (wsC_31 ..) (zw_31 h_g15) rfl h_g15 dX0_enter_211 (fun H locs G => ?_)
      refine lv_aload_n hx hb dX0_enter_212 rfl (lv_at hl 0 rfl) ?_
      refine fg_Ac_inRegisters hx hb hts hown hK G (hts _ lk_X0_24) dX0_enter_213 ?_
      refine lv_aload_n hx hb dX0_enter_216 rfl (lv_at hl 0 rfl) ?_
      refine fg_Ac_frames (v := rI st 14) hx hb hts hown hK G (hts _ lk_X0_48) rfl dX0_enter_217 ?_
      refine lv_iconst (v := 0) hx hb dX0_enter_220 (by decide) ?_
      obtain ⟨h_g16, hf⟩ := gd_some hf
      refine rw_ZC hx hb hK G (waC_32 ..) (t0 := 23) rfl (wsC_32 ..) (zw_32 h_g16) rfl rfl h_g16 dX0_enter_221 (fun H locs G => ?_)
      refine lv_aload_n hx hb dX0_enter_222 rfl (lv_at hl 0 rfl) ?_
      refine lv_dup hx hb dX0_enter_223 rfl ?_
      refine fg_Ac_frames (v := rI st 14) hx hb hts hown hK G (hts _ lk_X0_48) rfl dX0_enter_224 ?_
      refine lv_iconst (v := 1) hx hb dX0_enter_227 (by decide) ?_
      refine lv_iadd hx hb dX0_enter_228 ?_
      refine fp_Ac_frames hx hb hts hown hK G (hts _ lk_X0_48) dX0_enter_229 (fun H locs G => ?_)
      refine lv_aload_n hx hb dX0_enter_232 rfl (lv_at hl 0 rfl) ?_
      refine lv_dup hx hb dX0_enter_233 rfl ?_
      refine fg_Ac_used (v := rI st 18) hx hb hts hown hK G (hts _ lk_X0_61) rfl dX0_enter_234 ?_
      refine lv_iload hx hb dX0_enter_237 (lv_at hl 6 rfl) ?_
      refine lv_iadd hx hb dX0_enter_239 ?_
      refine fp_Ac_used hx hb hts hown hK G (hts _ lk_X0_61) dX0_enter_240 (fun H locs G => ?_)
      refine lv_aload_n hx hb dX0_enter_243 rfl (lv_at hl 0 rfl) ?_
      refine lv_iconst (v := 1) hx hb dX0_enter_244 (by decide) ?_
      refine fp_Ac_isFresh hx hb hts hown hK G (hts _ lk_X0_54) rfl rfl dX0_enter_245 (fun H locs G => ?_)
      exact rt_vC C G hf dX0_enter_248
    · replace hf := if_n hf c10
      refine lv_iload hx hb dX0_enter_92 (lv_at hl 7 rfl) ?_
      refine lv_iload hx hb dX0_enter_94 (lv_at hl 5 rfl) ?_
      refine lv_icmp_ge (tgt := 119) hx hb dX0_enter_96 (by decide) (fun c17 => ?_) (fun c17 => ?_)
      · replace hf := if_p hf c17
        exact kx_Ac_enter_a_b119 C N (fx_Ac_enter_a_b85 N n) ih x1 x3 x4 x5 x6 x7 st _ hf _ _ _ (lv_sub hl [0, 1, 2, 3, 4, 5, 6, 7] rfl) G
      · replace hf := if_n hf c17
        refine lv_iload_n hx hb dX0_enter_99 rfl (lv_at hl 3 rfl) ?_
        refine lv_iload hx hb dX0_enter_100 (lv_at hl 7 rfl) ?_
        refine lv_iadd hx hb dX0_enter_102 ?_
        refine lv_if_lt (tgt := 119) hx hb dX0_enter_103 (by decide) (fun c22 => ?_) (fun c22 => ?_)
        · replace hf := if_p hf c22
          exact kx_Ac_enter_a_b119 C N (fx_Ac_enter_a_b85 N n) ih x1 x3 x4 x5 x6 x7 st _ hf _ _ _ (lv_sub hl [0, 1, 2, 3, 4, 5, 6, 7] rfl) G
        · replace hf := if_n hf c22
          refine lv_iload_n hx hb dX0_enter_106 rfl (lv_at hl 3 rfl) ?_
          refine lv_iload hx hb dX0_enter_107 (lv_at hl 7 rfl) ?_
          refine lv_iadd hx hb dX0_enter_109 ?_
          refine lv_aload_n hx hb dX0_enter_110 rfl (lv_at hl 2 rfl) ?_
          refine va_alen (v := 8) hx hb hK G.1 9 0 (waC_9 ..) rfl rfl dX0_enter_111 ?_
          refine lv_icmp_ge (tgt := 119) hx hb dX0_enter_112 (by decide) (fun c23 => ?_) (fun c23 => ?_)
          · replace hf := if_p hf c23
            exact kx_Ac_enter_a_b119 C N (fx_Ac_enter_a_b85 N n) ih x1 x3 x4 x5 x6 x7 st _ hf _ _ _ (lv_sub hl [0, 1, 2, 3, 4, 5, 6, 7] rfl) G
          · replace hf := if_n hf c23
            refine lv_iconst (v := 1) hx hb dX0_enter_115 (by decide) ?_
            refine lv_goto (tgt := 120) hx hb dX0_enter_116 (by decide) ?_
            exact kx_Ac_enter_a_b120 C N (fx_Ac_enter_a_b85 N n) ih x1 x3 x4 x5 x6 x7 1 st _ hf _ _ _ (lv_sub hl [0, 1, 2, 3, 4, 5, 6, 7] rfl) G
set_option maxHeartbeats 4000000 in
set_option maxRecDepth 100000 in
theorem kx_Ac_enter_a_b82 {p : Program} {l : Launch} {e : Env} {s : State} {m : MethodId} {args : Array Value} {below : List Frame} {meth : Method} {c : Code} {D : va_G} {h : Nat → Nat} {E : Nat → Nat} {k : Nat → Nat × ClassId} (C : cxC D k p s m args meth c cX0_enter 9 none RX0) (N : Nat) (x1 : Int32) (x3 : Int32) (x4 : Int32) (x5 : Int32) (x6 : Int32) (st : rs_T) (s' : rs_T) (hf : fx_Ac_enter_a_b82 N x1 x3 x4 x5 x6 st = some s') : ∀ (H : Heap) (locs : List Loc) (ls : Array Slot), lv_has ls 9 [(0, .ref (h 4)), (1, .int x1), (2, .ref (k 9).1), (3, .int x3), (4, .int x4), (5, .int x5), (6, .int x6)] → gdC D k h (vE E) (arC k h s.heap.size) s.heap H locs st → W p l e rm_Ac_enter_a s m args below meth c H locs 0 0 (MQ below (qVC D k h E s.heap.size s') args s 0 0 (arC k h s.heap.size)) (F0 m 82 ls []) := by
  obtain ⟨hx, hb, hml, hr, hown, hts, hK, hN, hlk⟩ := id C
  intro H locs ls hl G
  unfold fx_Ac_enter_a_b82 at hf
  refine lv_iconst (v := 0) hx hb dX0_enter_82 (by decide) ?_
  refine lv_istore (lv' := [(7, .int 0), (0, .ref (h 4)), (1, .int x1), (2, .ref (k 9).1), (3, .int x3), (4, .int x4), (5, .int x5), (6, .int x6)]) hx hb dX0_enter_83 hl (by decide) rfl (fun ls hl => ?_)
  exact kx_Ac_enter_a_b85 C N N x1 x3 x4 x5 x6 0 st _ hf _ _ _ (lv_sub hl [1, 2, 3, 4, 5, 6, 7, 0] rfl) G
set_option maxHeartbeats 4000000 in
set_option maxRecDepth 100000 in
theorem kx_Ac_enter_a (l : Launch) (D : va_G) (k : Nat → Nat × ClassId) (h : Nat → Nat) (N : Nat) (p1 : Int32) (p3 : Int32) (st : rs_T) (s' : rs_T) (hf : fx_Ac_enter_a N p1 p3 st = some s') : mVC l D k h yX0_enter cX0_enter 9 rm_Ac_enter_a [.ref (h 4), .int p1, .ref (k 9).1, .int p3] st s' := by
  refine mVC_of (by decide) ⟨rfl, rfl⟩ (Nat.le_of_ble_eq_true rfl) ?_
  intro p e s m below meth c ls C hl G
  obtain ⟨hx, hb, hml, hr, hown, hts, hK, hN, hlk⟩ := id C
  have hown : s.vm.findClass RX0 = some m.cls := hown
  have hl : lv_has ls 9 [(0, .ref (h 4)), (1, .int p1), (2, .ref (k 9).1), (3, .int p3)] := hl
  unfold fx_Ac_enter_a at hf
  refine lv_aload_n hx hb dX0_enter_0 rfl (lv_at hl 0 rfl) ?_
  refine fg_Ac_program hx hb hts hown hK G (hts _ lk_X0_64) dX0_enter_1 ?_
  refine lv_iload_n hx hb dX0_enter_4 rfl (lv_at hl 1 rfl) ?_
  obtain ⟨r2, st1, hst1, hf⟩ := bn_some hf
  refine cl_viC C hl G (As := [.int p1]) (rest := []) (kx_Pr_allLocals l D k h p1 st _ _ hst1) gi_X0_72 (hwC_1 ..) rfl hd_X3_allLocals ⟨Nat.le_of_ble_eq_true rfl, Nat.le_of_ble_eq_true rfl⟩ rfl rfl (Nat.le_of_ble_eq_true rfl) dX0_enter_5 ⟨Nat.zero_le _, Nat.zero_le _⟩ (fun H locs e0 G => ?_)
  refine lv_istore (lv' := [(4, .int r2), (0, .ref (h 4)), (1, .int p1), (2, .ref (k 9).1), (3, .int p3)]) hx hb dX0_enter_8 hl (by decide) rfl (fun ls hl => ?_)
  refine lv_aload_n hx hb dX0_enter_10 rfl (lv_at hl 1 rfl) ?_
  refine fg_Ac_program hx hb hts hown hK G (hts _ lk_X0_64) dX0_enter_11 ?_
  refine fg_Pr_parameters hx hb hts hown hK G (hts _ lk_X0_78) dX0_enter_14 ?_
  refine lv_iload_n hx hb dX0_enter_17 rfl (lv_at hl 2 rfl) ?_
  obtain ⟨h_g3, hf⟩ := gd_some hf
  refine ra_IC (v := rA st1 0 p1.toNatClampNeg) hx hb hK G (waC_10 ..) (t0 := 1) rfl rfl h_g3 dX0_enter_18 ?_
  refine lv_topi (fun v4 e_v4 => ?_)
  replace hf := bd_some hf v4 e_v4
  refine lv_istore (lv' := [(5, .int v4), (4, .int r2), (0, .ref (h 4)), (1, .int p1), (2, .ref (k 9).1), (3, .int p3)]) hx hb dX0_enter_19 hl (by decide) rfl (fun ls hl => ?_)
  refine lv_iload hx hb dX0_enter_21 (lv_at hl 1 rfl) ?_
  refine lv_aload_n hx hb dX0_enter_23 rfl (lv_at hl 2 rfl) ?_
  refine fg_Ac_program hx hb hts hown hK G (hts _ lk_X0_64) dX0_enter_24 ?_
  refine fg_Pr_most hx hb hts hown hK G (hts _ lk_X0_81) dX0_enter_27 ?_
  refine lv_iload_n hx hb dX0_enter_30 rfl (lv_at hl 3 rfl) ?_
  obtain ⟨h_g5, hf⟩ := gd_some hf
  refine ra_IC (v := rA st1 3 p1.toNatClampNeg) hx hb hK G (waC_13 ..) (t0 := 4) rfl rfl h_g5 dX0_enter_31 ?_
  refine lv_iadd hx hb dX0_enter_32 ?_
  refine lv_topi (fun v6 e_v6 => ?_)
  replace hf := bd_some hf v6 e_v6
  refine lv_istore (lv' := [(6, .int v6), (5, .int v4), (4, .int r2), (0, .ref (h 4)), (1, .int p1), (2, .ref (k 9).1), (3, .int p3)]) hx hb dX0_enter_33 hl (by decide) rfl (fun ls hl => ?_)
  refine lv_aload_n hx hb dX0_enter_35 rfl (lv_at hl 3 rfl) ?_
  refine fg_Ac_frames (v := rI st1 14) hx hb hts hown hK G (hts _ lk_X0_48) rfl dX0_enter_36 ?_
  refine lv_bipush (v := 30) hx hb dX0_enter_39 (by decide) ?_
  refine lv_icmp_ge (tgt := 57) hx hb dX0_enter_41 (by decide) (fun c7 => ?_) (fun c7 => ?_)
  · replace hf := if_p hf c7
    exact kx_Ac_enter_a_b57 C N st1 _ hf _ _ _ (lv_sub hl [3] rfl) G
  · replace hf := if_n hf c7
    refine lv_iload hx hb dX0_enter_44 (lv_at hl 0 rfl) ?_
    refine lv_sipush (v := 220) hx hb dX0_enter_46 (by decide) ?_
    refine lv_aload_n hx hb dX0_enter_49 rfl (lv_at hl 3 rfl) ?_
    refine fg_Ac_used (v := rI st1 18) hx hb hts hown hK G (hts _ lk_X0_61) rfl dX0_enter_50 ?_
    refine lv_isub hx hb dX0_enter_53 ?_
    refine lv_icmp_le (tgt := 63) hx hb dX0_enter_54 (by decide) (fun c8 => ?_) (fun c8 => ?_)
    · replace hf := if_p hf c8
      refine lv_aload_n hx hb dX0_enter_63 rfl (lv_at hl 3 rfl) ?_
      refine fg_Ac_frames (v := rI st1 14) hx hb hts hown hK G (hts _ lk_X0_48) rfl dX0_enter_64 ?_
      refine lv_if_le (tgt := 82) hx hb dX0_enter_67 (by decide) (fun c9 => ?_) (fun c9 => ?_)
      · replace hf := if_p hf c9
        exact kx_Ac_enter_a_b82 C N p1 p3 r2 v4 v6 st1 _ hf _ _ _ (lv_sub hl [3, 4, 5, 6, 2, 1, 0] rfl) G
      · replace hf := if_n hf c9
        refine lv_aload_n hx hb dX0_enter_70 rfl (lv_at hl 3 rfl) ?_
        refine fg_Ac_top hx hb hts hown hK G (hts _ lk_X0_21) dX0_enter_71 ?_
        refine lv_aload_n hx hb dX0_enter_74 rfl (lv_at hl 3 rfl) ?_
        refine fg_Ac_frames (v := rI st1 14) hx hb hts hown hK G (hts _ lk_X0_48) rfl dX0_enter_75 ?_
        refine lv_iconst (v := 1) hx hb dX0_enter_78 (by decide) ?_
        refine lv_isub hx hb dX0_enter_79 ?_
        refine lv_iload_n hx hb dX0_enter_80 rfl (lv_at hl 6 rfl) ?_
        obtain ⟨h_g24, hf⟩ := gd_some hf
        refine rw_IC hx hb hK G (waC_31 ..) (t0 := 22) rfl (wsC_31 ..) (zw_31 h_g24) rfl h_g24 dX0_enter_81 (fun H locs G => ?_)
        exact kx_Ac_enter_a_b82 C N p1 p3 r2 v4 v6 (wA st1 20 (((rI st1 14) - 1).toNatClampNeg) p3) _ hf _ _ _ (lv_sub hl [3, 4, 5, 6, 2, 1, 0] rfl) G
    · replace hf := if_n hf c8
      exact kx_Ac_enter_a_b57 C N st1 _ hf _ _ _ (lv_sub hl [3] rfl) G
def rm_Ac_restart : Room := { frames := 2, cells := 0, slots := 0, locals := 49 }
set_option maxHeartbeats 4000000 in
set_option maxRecDepth 100000 in
theorem kx_Ac_restart (l : Launch) (D : va_G) (k : Nat → Nat × ClassId) (h : Nat → Nat) (N : Nat) (p1 : Int32) (st : rs_T) (s' : rs_T) (hf : fx_Ac_restart N p1 st = some s') : mVC l D k h yX0_restart cX0_restart 3 rm_Ac_restart [.ref (h 4), .int p1, .ref (k 9).1] st s' := by
  refine mVC_of (by decide) ⟨rfl, rfl⟩ (Nat.le_of_ble_eq_true rfl) ?_
  intro p e s m below meth c ls C hl G
  obtain ⟨hx, hb, hml, hr, hown, hts, hK, hN, hlk⟩ := id C
  have hown : s.vm.findClass RX0 = some m.cls := hown
  have hl : lv_has ls 3 [(0, .ref (h 4)), (1, .int p1), (2, .ref (k 9).1)] := hl
  unfold fx_Ac_restart at hf
  refine lv_aload_n hx hb dX0_restart_0 rfl (lv_at hl 0 rfl) ?_
  refine lv_iload_n hx hb dX0_restart_1 rfl (lv_at hl 1 rfl) ?_
  refine fp_Ac_latest hx hb hts hown hK G (hts _ lk_X0_51) dX0_restart_2 (fun H locs G => ?_)
  refine lv_aload_n hx hb dX0_restart_5 rfl (lv_at hl 0 rfl) ?_
  refine lv_iconst (v := 1) hx hb dX0_restart_6 (by decide) ?_
  refine fp_Ac_state hx hb hts hown hK G (hts _ lk_X0_39) dX0_restart_7 (fun H locs G => ?_)
  refine lv_aload_n hx hb dX0_restart_10 rfl (lv_at hl 0 rfl) ?_
  refine lv_iconst (v := 0) hx hb dX0_restart_11 (by decide) ?_
  refine fp_Ac_steps hx hb hts hown hK G (hts _ lk_X0_45) dX0_restart_12 (fun H locs G => ?_)
  refine lv_aload_n hx hb dX0_restart_15 rfl (lv_at hl 0 rfl) ?_
  refine lv_iconst (v := 0) hx hb dX0_restart_16 (by decide) ?_
  refine fp_Ac_frames hx hb hts hown hK G (hts _ lk_X0_48) dX0_restart_17 (fun H locs G => ?_)
  refine lv_aload_n hx hb dX0_restart_20 rfl (lv_at hl 0 rfl) ?_
  refine lv_iconst (v := 0) hx hb dX0_restart_21 (by decide) ?_
  refine fp_Ac_used hx hb hts hown hK G (hts _ lk_X0_61) dX0_restart_22 (fun H locs G => ?_)
  refine lv_aload_n hx hb dX0_restart_25 rfl (lv_at hl 0 rfl) ?_
  refine lv_iconst (v := 0) hx hb dX0_restart_26 (by decide) ?_
  refine fp_Ac_paid hx hb hts hown hK G (hts _ lk_X0_58) dX0_restart_27 (fun H locs G => ?_)
  refine lv_aload_n hx hb dX0_restart_30 rfl (lv_at hl 0 rfl) ?_
  refine lv_iconst (v := 0) hx hb dX0_restart_31 (by decide) ?_
  refine fp_Ac_resultCount hx hb hts hown hK G (hts _ lk_X0_35) dX0_restart_32 (fun H locs G => ?_)
  refine lv_aload_n hx hb dX0_restart_35 rfl (lv_at hl 0 rfl) ?_
  refine lv_iconst (v := 0) hx hb dX0_restart_36 (by decide) ?_
  refine fp_Ac_isFresh hx hb hts hown hK G (hts _ lk_X0_54) rfl rfl dX0_restart_37 (fun H locs G => ?_)
  refine lv_aload_n hx hb dX0_restart_40 rfl (lv_at hl 0 rfl) ?_
  refine lv_iload_n hx hb dX0_restart_41 rfl (lv_at hl 1 rfl) ?_
  refine lv_aload_n hx hb dX0_restart_42 rfl (lv_at hl 2 rfl) ?_
  refine lv_iconst (v := 0) hx hb dX0_restart_43 (by decide) ?_
  obtain ⟨st1, hst1, hf⟩ := bv_some hf
  refine cl_vvC C hl G (As := [.int p1, .ref (k 9).1, .int 0]) (rest := []) (kx_Ac_enter_a l D k h N p1 0 (wI (wI (wI (wI (wI (wI (wI (wI st 15 p1) 11 1) 13 0) 14 0) 18 0) 17 0) 10 0) 16 0) _ hst1) gi_X0_68 (hwC_4 ..) rfl hd_X0_enter ⟨Nat.le_of_ble_eq_true rfl, Nat.le_of_ble_eq_true rfl⟩ rfl rfl (Nat.le_of_ble_eq_true rfl) dX0_restart_44 ⟨Nat.zero_le _, Nat.zero_le _⟩ (fun H locs e0 G => ?_)
  exact rt_vC C G hf dX0_restart_47
def rm_Ac_isInRegisters : Room := { frames := 0, cells := 0, slots := 0, locals := 0 }
set_option maxHeartbeats 4000000 in
set_option maxRecDepth 100000 in
theorem kx_Ac_isInRegisters (l : Launch) (D : va_G) (k : Nat → Nat × ClassId) (h : Nat → Nat) (st : rs_T) (r : Int32) (s' : rs_T) (hf : fx_Ac_isInRegisters st = some (r, s')) : mIC l D k h yX0_isInRegisters cX0_isInRegisters 1 .boolean rm_Ac_isInRegisters [.ref (h 4)] st r s' := by
  refine mIC_of (by decide) ⟨rfl, rfl⟩ (Nat.le_of_ble_eq_true rfl) ?_
  intro p e s m below meth c ls C hl G
  obtain ⟨hx, hb, hml, hr, hown, hts, hK, hN, hlk⟩ := id C
  have hown : s.vm.findClass RX0 = some m.cls := hown
  have hl : lv_has ls 1 [(0, .ref (h 4))] := hl
  unfold fx_Ac_isInRegisters at hf
  refine lv_aload_n hx hb dX0_isInRegisters_0 rfl (lv_at hl 0 rfl) ?_
  refine fg_Ac_frames (v := rI st 14) hx hb hts hown hK G (hts _ lk_X0_48) rfl dX0_isInRegisters_1 ?_
  refine lv_if_le (tgt := 25) hx hb dX0_isInRegisters_4 (by decide) (fun c1 => ?_) (fun c1 => ?_)
  · replace hf := if_p hf c1
    refine lv_iconst (v := 0) hx hb dX0_isInRegisters_25 (by decide) ?_
    exact rt_zC C rfl G hf dX0_isInRegisters_26
  · replace hf := if_n hf c1
    refine lv_aload_n hx hb dX0_isInRegisters_7 rfl (lv_at hl 0 rfl) ?_
    refine fg_Ac_inRegisters hx hb hts hown hK G (hts _ lk_X0_24) dX0_isInRegisters_8 ?_
    refine lv_aload_n hx hb dX0_isInRegisters_11 rfl (lv_at hl 0 rfl) ?_
    refine fg_Ac_frames (v := rI st 14) hx hb hts hown hK G (hts _ lk_X0_48) rfl dX0_isInRegisters_12 ?_
    refine lv_iconst (v := 1) hx hb dX0_isInRegisters_15 (by decide) ?_
    refine lv_isub hx hb dX0_isInRegisters_16 ?_
    obtain ⟨h_g2, hf⟩ := gd_some hf
    refine ra_ZC (v := rA st 21 (((rI st 14) - 1).toNatClampNeg)) hx hb hK G (waC_32 ..) (t0 := 23) rfl rfl h_g2 dX0_isInRegisters_17 ?_
    refine lv_if_eq (tgt := 25) hx hb dX0_isInRegisters_18 (by decide) (fun c3 => ?_) (fun c3 => ?_)
    · replace hf := if_p hf c3
      refine lv_iconst (v := 0) hx hb dX0_isInRegisters_25 (by decide) ?_
      exact rt_zC C rfl G hf dX0_isInRegisters_26
    · replace hf := if_n hf c3
      refine lv_iconst (v := 1) hx hb dX0_isInRegisters_21 (by decide) ?_
      refine lv_goto (tgt := 26) hx hb dX0_isInRegisters_22 (by decide) ?_
      exact rt_zC C rfl G hf dX0_isInRegisters_26
