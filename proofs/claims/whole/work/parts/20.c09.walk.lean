set_option maxHeartbeats 4000000 in
set_option maxRecDepth 100000 in
theorem kx_Co_compile_b146 {p : Program} {l : Launch} {e : Env} {s : State} {m : MethodId} {args : Array Value} {below : List Frame} {meth : Method} {c : Code} {D : va_G} {h : Nat → Nat} {E : Nat → Nat} {k0 : Nat → Nat × ClassId} (N : Nat) (rec85 : Int32 → Int32 → Int32 → rs_T → Option (rs_T)) (ih85 : ∀ (x1 : Int32) (x2 : Int32) (x3 : Int32) (st : rs_T) (s' : rs_T), rec85 x1 x2 x3 st = some s' → ∀ (k : Nat → Nat × ClassId) (C : cxC D k p s m args meth c cX1_compile 4 none RX1), ∀ (H : Heap) (locs : List Loc) (ls : Array Slot), lv_has ls 4 [(0, .ref (h 6)), (1, .int x1), (2, .int x2), (3, .int x3)] → gdC D k h (vA E) (arC k0 h s.heap.size) s.heap H locs st → W p l e (rmA 5 133 E) s m args below meth c H locs (st.2.2.2 4 - E 4) (st.2.2.2 5 - E 5) (MQ below (uVC D k0 h E s.heap.size s') args s (s'.2.2.2 4 - E 4) (s'.2.2.2 5 - E 5) (arC k0 h s.heap.size)) (F0 m 85 ls [])) (x1 : Int32) (x2 : Int32) (x3 : Int32) (st : rs_T) (s' : rs_T) (hf : fx_Co_compile_b146 N rec85 x1 x2 x3 st = some s') : ∀ (k : Nat → Nat × ClassId) (C : cxC D k p s m args meth c cX1_compile 4 none RX1), ∀ (H : Heap) (locs : List Loc) (ls : Array Slot), lv_has ls 4 [(0, .ref (h 6)), (1, .int x1), (2, .int x2), (3, .int x3)] → gdC D k h (vA E) (arC k0 h s.heap.size) s.heap H locs st → W p l e (rmA 5 133 E) s m args below meth c H locs (st.2.2.2 4 - E 4) (st.2.2.2 5 - E 5) (MQ below (uVC D k0 h E s.heap.size s') args s (s'.2.2.2 4 - E 4) (s'.2.2.2 5 - E 5) (arC k0 h s.heap.size)) (F0 m 146 ls []) := by
  intro k C H locs ls hl G
  obtain ⟨hx, hb, hml, hr, hown, hts, hK, hN, hlk⟩ := id C
  unfold fx_Co_compile_b146 at hf
  obtain ⟨v16, e_v16⟩ : ∃ z : Int32, z = x3 + 1 := ⟨_, rfl⟩
  replace hf := bd_some hf v16 e_v16
  refine lv_iinc (v := v16) (lv' := [(3, .int v16), (0, .ref (h 6)), (1, .int x1), (2, .int x2)]) hx hb dX1_compile_146 hl (k := 3) rfl (by rw [e_v16]; rfl) (by decide) rfl (fun ls hl => ?_)
  refine lv_goto (tgt := 85) hx hb dX1_compile_149 (by decide) ?_
  exact ih85 x1 x2 v16 st _ hf _ C _ _ _ (lv_sub hl [1, 2, 3, 0] rfl) G
set_option maxHeartbeats 4000000 in
set_option maxRecDepth 100000 in
theorem kx_Co_compile_b123 {p : Program} {l : Launch} {e : Env} {s : State} {m : MethodId} {args : Array Value} {below : List Frame} {meth : Method} {c : Code} {D : va_G} {h : Nat → Nat} {E : Nat → Nat} {k0 : Nat → Nat × ClassId} (N : Nat) (rec85 : Int32 → Int32 → Int32 → rs_T → Option (rs_T)) (ih85 : ∀ (x1 : Int32) (x2 : Int32) (x3 : Int32) (st : rs_T) (s' : rs_T), rec85 x1 x2 x3 st = some s' → ∀ (k : Nat → Nat × ClassId) (C : cxC D k p s m args meth c cX1_compile 4 none RX1), ∀ (H : Heap) (locs : List Loc) (ls : Array Slot), lv_has ls 4 [(0, .ref (h 6)), (1, .int x1), (2, .int x2), (3, .int x3)] → gdC D k h (vA E) (arC k0 h s.heap.size) s.heap H locs st → W p l e (rmA 5 133 E) s m args below meth c H locs (st.2.2.2 4 - E 4) (st.2.2.2 5 - E 5) (MQ below (uVC D k0 h E s.heap.size s') args s (s'.2.2.2 4 - E 4) (s'.2.2.2 5 - E 5) (arC k0 h s.heap.size)) (F0 m 85 ls [])) (x1 : Int32) (x2 : Int32) (x3 : Int32) (st : rs_T) (s' : rs_T) (hf : fx_Co_compile_b123 N rec85 x1 x2 x3 st = some s') : ∀ (k : Nat → Nat × ClassId) (C : cxC D k p s m args meth c cX1_compile 4 none RX1), ∀ (H : Heap) (locs : List Loc) (ls : Array Slot), lv_has ls 4 [(0, .ref (h 6)), (1, .int x1), (2, .int x2), (3, .int x3)] → gdC D k h (vA E) (arC k0 h s.heap.size) s.heap H locs st → W p l e (rmA 5 133 E) s m args below meth c H locs (st.2.2.2 4 - E 4) (st.2.2.2 5 - E 5) (MQ below (uVC D k0 h E s.heap.size s') args s (s'.2.2.2 4 - E 4) (s'.2.2.2 5 - E 5) (arC k0 h s.heap.size)) (F0 m 123 ls []) := by
  intro k C H locs ls hl G
  obtain ⟨hx, hb, hml, hr, hown, hts, hK, hN, hlk⟩ := id C
  unfold fx_Co_compile_b123 at hf
  refine lv_aload_n hx hb dX1_compile_123 rfl (lv_at hl 0 rfl) ?_
  refine fg_Co_code hx hb hts hown hK G (hts _ lk_X1_42) dX1_compile_124 ?_
  refine fg_Rc_z hx hb hts hown hK G (hts _ lk_X1_73) dX1_compile_127 ?_
  refine lv_iload_n hx hb dX1_compile_130 rfl (lv_at hl 3 rfl) ?_
  refine lv_aload_n hx hb dX1_compile_131 rfl (lv_at hl 0 rfl) ?_
  refine fg_Co_places hx hb hts hown hK G (hts _ lk_X1_15) dX1_compile_132 ?_
  refine lv_aload_n hx hb dX1_compile_135 rfl (lv_at hl 0 rfl) ?_
  refine fg_Co_code hx hb hts hown hK G (hts _ lk_X1_42) dX1_compile_136 ?_
  refine fg_Rc_z hx hb hts hown hK G (hts _ lk_X1_73) dX1_compile_139 ?_
  refine lv_iload_n hx hb dX1_compile_142 rfl (lv_at hl 3 rfl) ?_
  obtain ⟨h_g13, hf⟩ := gd_some hf
  refine ra_IC (v := rA st 28 x3.toNatClampNeg) hx hb hK G (waC_41 ..) (t0 := 32) rfl rfl h_g13 dX1_compile_143 ?_
  obtain ⟨h_g14, hf⟩ := gd_some hf
  refine ra_IC (v := rA st 30 ((rA st 28 x3.toNatClampNeg).toNatClampNeg)) hx hb hK G (waC_43 ..) (t0 := 34) rfl rfl h_g14 dX1_compile_144 ?_
  obtain ⟨h_g15, hf⟩ := gd_some hf
  refine rw_IC hx hb hK G (waC_41 ..) (t0 := 32) rfl (wsC_41 ..) (zw_41 h_g15) rfl h_g15 dX1_compile_145 (fun H locs G => ?_)
  exact kx_Co_compile_b146 N rec85 ih85 x1 x2 x3 (wA st 28 x3.toNatClampNeg (rA st 30 ((rA st 28 x3.toNatClampNeg).toNatClampNeg))) _ hf _ C _ _ _ (lv_sub hl [0, 1, 2, 3] rfl) G
set_option maxHeartbeats 4000000 in
set_option maxRecDepth 100000 in
theorem kx_Co_compile_b85 {p : Program} {l : Launch} {e : Env} {s : State} {m : MethodId} {args : Array Value} {below : List Frame} {meth : Method} {c : Code} {D : va_G} {h : Nat → Nat} {E : Nat → Nat} {k0 : Nat → Nat × ClassId} (N : Nat) : ∀ (n : Nat) (x1 : Int32) (x2 : Int32) (x3 : Int32) (st : rs_T) (s' : rs_T), fx_Co_compile_b85 N n x1 x2 x3 st = some s' → ∀ (k : Nat → Nat × ClassId) (C : cxC D k p s m args meth c cX1_compile 4 none RX1), ∀ (H : Heap) (locs : List Loc) (ls : Array Slot), lv_has ls 4 [(0, .ref (h 6)), (1, .int x1), (2, .int x2), (3, .int x3)] → gdC D k h (vA E) (arC k0 h s.heap.size) s.heap H locs st → W p l e (rmA 5 133 E) s m args below meth c H locs (st.2.2.2 4 - E 4) (st.2.2.2 5 - E 5) (MQ below (uVC D k0 h E s.heap.size s') args s (s'.2.2.2 4 - E 4) (s'.2.2.2 5 - E 5) (arC k0 h s.heap.size)) (F0 m 85 ls []) := by
  intro n
  induction n with
  | zero => intro x1 x2 x3 st s' hf; cases hf
  | succ n ih =>
    intro x1 x2 x3 st s' hf k C H locs ls hl G
    obtain ⟨hx, hb, hml, hr, hown, hts, hK, hN, hlk⟩ := id C
    rw [fx_Co_compile_b85] at hf
    refine lv_iload_n hx hb dX1_compile_85 rfl (lv_at hl 3 rfl) ?_
    refine lv_aload_n hx hb dX1_compile_86 rfl (lv_at hl 0 rfl) ?_
    refine fg_Co_code hx hb hts hown hK G (hts _ lk_X1_42) dX1_compile_87 ?_
    refine fg_Rc_size (v := rI st 19) hx hb hts hown hK G (hts _ lk_X1_46) rfl dX1_compile_90 ?_
    refine lv_icmp_ge (tgt := 152) hx hb dX1_compile_93 (by decide) (fun c9 => ?_) (fun c9 => ?_)
    · replace hf := if_p hf c9
      refine lv_aload_n hx hb dX1_compile_152 rfl (lv_at hl 0 rfl) ?_
      refine fg_Co_code hx hb hts hown hK G (hts _ lk_X1_42) dX1_compile_153 ?_
      refine fg_Rc_start hx hb hts hown hK G (hts _ lk_X1_76) dX1_compile_156 ?_
      refine lv_iload_n hx hb dX1_compile_159 rfl (lv_at hl 1 rfl) ?_
      refine lv_iload_n hx hb dX1_compile_160 rfl (lv_at hl 2 rfl) ?_
      obtain ⟨h_g10, hf⟩ := gd_some hf
      refine rw_IC hx hb hK G (waC_35 ..) (t0 := 26) rfl (wsC_35 ..) (zw_35 h_g10) rfl h_g10 dX1_compile_161 (fun H locs G => ?_)
      refine lv_aload_n hx hb dX1_compile_162 rfl (lv_at hl 0 rfl) ?_
      refine fg_Co_code hx hb hts hown hK G (hts _ lk_X1_42) dX1_compile_163 ?_
      refine lv_dup hx hb dX1_compile_166 rfl ?_
      refine fg_Rc_functions (v := rI st 20) hx hb hts hown hK G (hts _ lk_X1_79) rfl dX1_compile_167 ?_
      refine lv_iconst (v := 1) hx hb dX1_compile_170 (by decide) ?_
      refine lv_iadd hx hb dX1_compile_171 ?_
      refine fp_Rc_functions hx hb hts hown hK G (hts _ lk_X1_79) dX1_compile_172 (fun H locs G => ?_)
      exact rt_vCA C G hf dX1_compile_175
    · replace hf := if_n hf c9
      refine lv_aload_n hx hb dX1_compile_96 rfl (lv_at hl 0 rfl) ?_
      refine fg_Co_code hx hb hts hown hK G (hts _ lk_X1_42) dX1_compile_97 ?_
      refine fg_Rc_operation hx hb hts hown hK G (hts _ lk_X1_70) dX1_compile_100 ?_
      refine lv_iload_n hx hb dX1_compile_103 rfl (lv_at hl 3 rfl) ?_
      obtain ⟨h_g11, hf⟩ := gd_some hf
      refine ra_IC (v := rA st 23 x3.toNatClampNeg) hx hb hK G (waC_36 ..) (t0 := 27) rfl rfl h_g11 dX1_compile_104 ?_
      refine lv_bipush (v := 12) hx hb dX1_compile_105 (by decide) ?_
      refine lv_icmp_eq (tgt := 123) hx hb dX1_compile_107 (by decide) (fun c12 => ?_) (fun c12 => ?_)
      · replace hf := if_p hf c12
        exact kx_Co_compile_b123 N (fx_Co_compile_b85 N n) ih x1 x2 x3 st _ hf _ C _ _ _ (lv_sub hl [0, 1, 2, 3] rfl) G
      · replace hf := if_n hf c12
        refine lv_aload_n hx hb dX1_compile_110 rfl (lv_at hl 0 rfl) ?_
        refine fg_Co_code hx hb hts hown hK G (hts _ lk_X1_42) dX1_compile_111 ?_
        refine fg_Rc_operation hx hb hts hown hK G (hts _ lk_X1_70) dX1_compile_114 ?_
        refine lv_iload_n hx hb dX1_compile_117 rfl (lv_at hl 3 rfl) ?_
        obtain ⟨h_g17, hf⟩ := gd_some hf
        refine ra_IC (v := rA st 23 x3.toNatClampNeg) hx hb hK G (waC_36 ..) (t0 := 27) rfl rfl h_g17 dX1_compile_118 ?_
        refine lv_iconst (v := 4) hx hb dX1_compile_119 (by decide) ?_
        refine lv_icmp_ne (tgt := 146) hx hb dX1_compile_120 (by decide) (fun c18 => ?_) (fun c18 => ?_)
        · replace hf := if_n hf c18
          exact kx_Co_compile_b146 N (fx_Co_compile_b85 N n) ih x1 x2 x3 st _ hf _ C _ _ _ (lv_sub hl [0, 1, 2, 3] rfl) G
        · replace hf := if_p hf c18
          exact kx_Co_compile_b123 N (fx_Co_compile_b85 N n) ih x1 x2 x3 st _ hf _ C _ _ _ (lv_sub hl [0, 1, 2, 3] rfl) G
set_option maxHeartbeats 4000000 in
set_option maxRecDepth 100000 in
theorem kx_Co_compile_b59 {p : Program} {l : Launch} {e : Env} {s : State} {m : MethodId} {args : Array Value} {below : List Frame} {meth : Method} {c : Code} {D : va_G} {h : Nat → Nat} {E : Nat → Nat} {k0 : Nat → Nat × ClassId} (N : Nat) : ∀ (n : Nat) (x1 : Int32) (x2 : Int32) (x3 : Int32) (st : rs_T) (s' : rs_T), fx_Co_compile_b59 N n x1 x2 x3 st = some s' → ∀ (k : Nat → Nat × ClassId) (C : cxC D k p s m args meth c cX1_compile 4 none RX1), ∀ (H : Heap) (locs : List Loc) (ls : Array Slot), lv_has ls 4 [(0, .ref (h 6)), (1, .int x1), (2, .int x2), (3, .int x3)] → gdC D k h (vA E) (arC k0 h s.heap.size) s.heap H locs st → W p l e (rmA 5 133 E) s m args below meth c H locs (st.2.2.2 4 - E 4) (st.2.2.2 5 - E 5) (MQ below (uVC D k0 h E s.heap.size s') args s (s'.2.2.2 4 - E 4) (s'.2.2.2 5 - E 5) (arC k0 h s.heap.size)) (F0 m 59 ls []) := by
  intro n
  induction n with
  | zero => intro x1 x2 x3 st s' hf; cases hf
  | succ n ih =>
    intro x1 x2 x3 st s' hf k C H locs ls hl G
    obtain ⟨hx, hb, hml, hr, hown, hts, hK, hN, hlk⟩ := id C
    rw [fx_Co_compile_b59] at hf
    refine lv_iload_n hx hb dX1_compile_59 rfl (lv_at hl 3 rfl) ?_
    refine lv_aload_n hx hb dX1_compile_60 rfl (lv_at hl 0 rfl) ?_
    refine fg_Co_program hx hb hts hown hK G (hts _ lk_X1_38) dX1_compile_61 ?_
    refine fg_Pr_last hx hb hts hown hK G (hts _ lk_X1_63) dX1_compile_64 ?_
    refine lv_iload_n hx hb dX1_compile_67 rfl (lv_at hl 1 rfl) ?_
    obtain ⟨h_g7, hf⟩ := gd_some hf
    refine ra_IC (v := rA st 5 x1.toNatClampNeg) hx hb hK G (waC_15 ..) (t0 := 6) rfl rfl h_g7 dX1_compile_68 ?_
    refine lv_icmp_gt (tgt := 83) hx hb dX1_compile_69 (by decide) (fun c8 => ?_) (fun c8 => ?_)
    · replace hf := if_p hf c8
      refine lv_iload_n hx hb dX1_compile_83 rfl (lv_at hl 2 rfl) ?_
      refine lv_istore_n (lv' := [(3, .int x2), (0, .ref (h 6)), (1, .int x1), (2, .int x2)]) hx hb dX1_compile_84 rfl hl (by decide) rfl (fun ls hl => ?_)
      exact kx_Co_compile_b85 N N x1 x2 x2 st _ hf _ C _ _ _ (lv_sub hl [1, 2, 3, 0] rfl) G
    · replace hf := if_n hf c8
      refine lv_aload_n hx hb dX1_compile_72 rfl (lv_at hl 0 rfl) ?_
      refine lv_iload_n hx hb dX1_compile_73 rfl (lv_at hl 3 rfl) ?_
      have hc9 := hcA G
      obtain ⟨st19, hst19, hf⟩ := bv_some hf
      refine cl_vvC C hl G (As := [.int x3]) (rest := []) (kx_Co_translate l D k h N x3 st _ hst19) gi_X1_66 (hwC_6 ..) rfl hd_X1_translate ⟨Nat.le_of_ble_eq_true rfl, Nat.le_of_ble_eq_true rfl⟩ rfl rfl (Nat.le_of_ble_eq_true rfl) dX1_compile_74 hc9 (fun H locs e0 G => ?_)
      refine cs_eq e0 ?_
      obtain ⟨v20, e_v20⟩ : ∃ z : Int32, z = x3 + 1 := ⟨_, rfl⟩
      replace hf := bd_some hf v20 e_v20
      refine lv_iinc (v := v20) (lv' := [(3, .int v20), (0, .ref (h 6)), (1, .int x1), (2, .int x2)]) hx hb dX1_compile_77 hl (k := 3) rfl (by rw [e_v20]; rfl) (by decide) rfl (fun ls hl => ?_)
      refine lv_goto (tgt := 59) hx hb dX1_compile_80 (by decide) ?_
      exact ih x1 x2 v20 st19 _ hf _ C _ _ _ (lv_sub hl [1, 2, 3, 0] rfl) G
set_option maxHeartbeats 4000000 in
set_option maxRecDepth 100000 in
theorem kx_Co_compile (l : Launch) (D : va_G) (k : Nat → Nat × ClassId) (h : Nat → Nat) (N : Nat) (p1 : Int32) (st : rs_T) (s' : rs_T) (hf : fx_Co_compile N p1 st = some s') : nVC l D k h yX1_compile cX1_compile 4 5 133 [.ref (h 6), .int p1] st s' := by
  refine nVC_of (by decide) (Nat.le_of_ble_eq_true rfl) ?_
  intro p e s m below meth c ls C hl G
  obtain ⟨hx, hb, hml, hr, hown, hts, hK, hN, hlk⟩ := id C
  have hown : s.vm.findClass RX1 = some m.cls := hown
  have hl : lv_has ls 4 [(0, .ref (h 6)), (1, .int p1)] := hl
  unfold fx_Co_compile at hf
  refine lv_aload_n hx hb dX1_compile_0 rfl (lv_at hl 0 rfl) ?_
  refine fg_Co_code hx hb hts hown hK G (hts _ lk_X1_42) dX1_compile_1 ?_
  refine fg_Rc_size (v := rI st 19) hx hb hts hown hK G (hts _ lk_X1_46) rfl dX1_compile_4 ?_
  refine lv_topi (fun v1 e_v1 => ?_)
  replace hf := bd_some hf v1 e_v1
  refine lv_istore_n (lv' := [(2, .int v1), (0, .ref (h 6)), (1, .int p1)]) hx hb dX1_compile_7 rfl hl (by decide) rfl (fun ls hl => ?_)
  refine lv_aload_n hx hb dX1_compile_8 rfl (lv_at hl 1 rfl) ?_
  refine lv_iload_n hx hb dX1_compile_9 rfl (lv_at hl 2 rfl) ?_
  refine fp_Co_function hx hb hts hown hK G (hts _ lk_X1_18) dX1_compile_10 (fun H locs G => ?_)
  refine lv_aload_n hx hb dX1_compile_13 rfl (lv_at hl 1 rfl) ?_
  refine lv_aload_n hx hb dX1_compile_14 rfl (lv_at hl 1 rfl) ?_
  refine fg_Co_program hx hb hts hown hK G (hts _ lk_X1_38) dX1_compile_15 ?_
  refine lv_iload_n hx hb dX1_compile_18 rfl (lv_at hl 2 rfl) ?_
  have hc9 := hcA G
  obtain ⟨r3, st2, hst2, hf⟩ := bn_some hf
  refine cl_viC C hl G (As := [.int p1]) (rest := [.ref (h 6)]) (kx_Pr_allLocals l D k h p1 (wI st 21 p1) _ _ hst2) gi_X1_51 (hwC_1 ..) rfl hd_X3_allLocals ⟨Nat.le_of_ble_eq_true rfl, Nat.le_of_ble_eq_true rfl⟩ rfl rfl (Nat.le_of_ble_eq_true rfl) dX1_compile_19 hc9 (fun H locs e0 G => ?_)
  refine cs_eq e0 ?_
  refine fp_Co_slots hx hb hts hown hK G (hts _ lk_X1_22) dX1_compile_22 (fun H locs G => ?_)
  refine lv_aload_n hx hb dX1_compile_25 rfl (lv_at hl 1 rfl) ?_
  refine lv_iconst (v := 0) hx hb dX1_compile_26 (by decide) ?_
  refine fp_Co_operands hx hb hts hown hK G (hts _ lk_X1_25) dX1_compile_27 (fun H locs G => ?_)
  refine lv_aload_n hx hb dX1_compile_30 rfl (lv_at hl 1 rfl) ?_
  refine lv_iconst (v := 0) hx hb dX1_compile_31 (by decide) ?_
  refine fp_Co_pending hx hb hts hown hK G (hts _ lk_X1_28) dX1_compile_32 (fun H locs G => ?_)
  refine lv_aload_n hx hb dX1_compile_35 rfl (lv_at hl 1 rfl) ?_
  refine lv_iconst (v := 1) hx hb dX1_compile_36 (by decide) ?_
  refine fp_Co_isLive hx hb hts hown hK G (hts _ lk_X1_31) rfl rfl dX1_compile_37 (fun H locs G => ?_)
  refine lv_aload_n hx hb dX1_compile_40 rfl (lv_at hl 1 rfl) ?_
  refine lv_iconst (v := 0) hx hb dX1_compile_41 (by decide) ?_
  refine fp_Co_deadLabels hx hb hts hown hK G (hts _ lk_X1_35) dX1_compile_42 (fun H locs G => ?_)
  refine lv_aload_n hx hb dX1_compile_45 rfl (lv_at hl 1 rfl) ?_
  have hc9 := hcA G
  obtain ⟨st4, hst4, hf⟩ := bv_some hf
  refine cb_vvC C hl G (As := []) (rest := []) (kx_Co_makeRoom l D k h (wI (wI (wI (wI (wI st2 22 r3) 23 0) 24 0) 25 1) 26 0) _ hst4) gi_X1_57 (hwC_6 ..) rfl hd_X1_makeRoom ⟨Nat.le_of_ble_eq_true rfl, Nat.le_of_ble_eq_true rfl⟩ rfl rfl (Nat.le_of_ble_eq_true rfl) dX1_compile_46 (fun k hK H locs G => ?_)
  have C := cxk C hK
  refine lv_aload_n hx hb dX1_compile_49 rfl (lv_at hl 1 rfl) ?_
  refine fg_Co_program hx hb hts hown hK G (hts _ lk_X1_38) dX1_compile_50 ?_
  refine fg_Pr_first hx hb hts hown hK G (hts _ lk_X1_60) dX1_compile_53 ?_
  refine lv_iload_n hx hb dX1_compile_56 rfl (lv_at hl 2 rfl) ?_
  obtain ⟨h_g5, hf⟩ := gd_some hf
  refine ra_IC (v := rA st4 4 p1.toNatClampNeg) hx hb hK G (waC_14 ..) (t0 := 5) rfl rfl h_g5 dX1_compile_57 ?_
  refine lv_topi (fun v6 e_v6 => ?_)
  replace hf := bd_some hf v6 e_v6
  refine lv_istore_n (lv' := [(3, .int v6), (2, .int v1), (0, .ref (h 6)), (1, .int p1)]) hx hb dX1_compile_58 rfl hl (by decide) rfl (fun ls hl => ?_)
  exact kx_Co_compile_b59 N N p1 v1 v6 st4 _ hf _ C _ _ _ (lv_sub hl [2, 3, 1, 0] rfl) G
set_option maxHeartbeats 4000000 in
set_option maxRecDepth 100000 in
theorem kx_Ma_doWhatIsNoStep_b104 {p : Program} {l : Launch} {e : Env} {s : State} {m : MethodId} {args : Array Value} {below : List Frame} {meth : Method} {c : Code} {D : va_G} {h : Nat → Nat} {E : Nat → Nat} {k0 : Nat → Nat × ClassId} (N : Nat) (rec4 : Int32 → Int32 → rs_T → Option (rs_T)) (ih4 : ∀ (x1 : Int32) (x2 : Int32) (st : rs_T) (s' : rs_T), rec4 x1 x2 st = some s' → ∀ (k : Nat → Nat × ClassId) (C : cxC D k p s m args meth c cX9_doWhatIsNoStep 4 none RX9), ∀ (H : Heap) (locs : List Loc) (ls : Array Slot), lv_has ls 4 [(0, .ref (h 0)), (1, .int x1), (2, .int x2)] → gdC D k h (vA E) (arC k0 h s.heap.size) s.heap H locs st → W p l e (rmA 6 156 E) s m args below meth c H locs (st.2.2.2 4 - E 4) (st.2.2.2 5 - E 5) (MQ below (uVC D k0 h E s.heap.size s') args s (s'.2.2.2 4 - E 4) (s'.2.2.2 5 - E 5) (arC k0 h s.heap.size)) (F0 m 4 ls [])) (x1 : Int32) (x2 : Int32) (st : rs_T) (s' : rs_T) (hf : fx_Ma_doWhatIsNoStep_b104 N rec4 x1 x2 st = some s') : ∀ (k : Nat → Nat × ClassId) (C : cxC D k p s m args meth c cX9_doWhatIsNoStep 4 none RX9), ∀ (H : Heap) (locs : List Loc) (ls : Array Slot), lv_has ls 4 [(0, .ref (h 0)), (1, .int x1), (2, .int x2)] → gdC D k h (vA E) (arC k0 h s.heap.size) s.heap H locs st → W p l e (rmA 6 156 E) s m args below meth c H locs (st.2.2.2 4 - E 4) (st.2.2.2 5 - E 5) (MQ below (uVC D k0 h E s.heap.size s') args s (s'.2.2.2 4 - E 4) (s'.2.2.2 5 - E 5) (arC k0 h s.heap.size)) (F0 m 104 ls []) := by
  intro k C H locs ls hl G
  obtain ⟨hx, hb, hml, hr, hown, hts, hK, hN, hlk⟩ := id C
  unfold fx_Ma_doWhatIsNoStep_b104 at hf
  obtain ⟨v10, e_v10⟩ : ∃ z : Int32, z = x2 + 1 := ⟨_, rfl⟩
  replace hf := bd_some hf v10 e_v10
  refine lv_iinc (v := v10) (lv' := [(2, .int v10), (0, .ref (h 0)), (1, .int x1)]) hx hb dX9_doWhatIsNoStep_104 hl (k := 2) rfl (by rw [e_v10]; rfl) (by decide) rfl (fun ls hl => ?_)
  refine lv_goto (tgt := 4) hx hb dX9_doWhatIsNoStep_107 (by decide) ?_
  exact ih4 x1 v10 st _ hf _ C _ _ _ (lv_sub hl [1, 2, 0] rfl) G
set_option maxHeartbeats 4000000 in
set_option maxRecDepth 100000 in
theorem kx_Ma_doWhatIsNoStep_b75 {p : Program} {l : Launch} {e : Env} {s : State} {m : MethodId} {args : Array Value} {below : List Frame} {meth : Method} {c : Code} {D : va_G} {h : Nat → Nat} {E : Nat → Nat} {k0 : Nat → Nat × ClassId} (N : Nat) (rec4 : Int32 → Int32 → rs_T → Option (rs_T)) (ih4 : ∀ (x1 : Int32) (x2 : Int32) (st : rs_T) (s' : rs_T), rec4 x1 x2 st = some s' → ∀ (k : Nat → Nat × ClassId) (C : cxC D k p s m args meth c cX9_doWhatIsNoStep 4 none RX9), ∀ (H : Heap) (locs : List Loc) (ls : Array Slot), lv_has ls 4 [(0, .ref (h 0)), (1, .int x1), (2, .int x2)] → gdC D k h (vA E) (arC k0 h s.heap.size) s.heap H locs st → W p l e (rmA 6 156 E) s m args below meth c H locs (st.2.2.2 4 - E 4) (st.2.2.2 5 - E 5) (MQ below (uVC D k0 h E s.heap.size s') args s (s'.2.2.2 4 - E 4) (s'.2.2.2 5 - E 5) (arC k0 h s.heap.size)) (F0 m 4 ls [])) (x2 : Int32) (st : rs_T) (s' : rs_T) (hf : fx_Ma_doWhatIsNoStep_b75 N rec4 x2 st = some s') : ∀ (k : Nat → Nat × ClassId) (C : cxC D k p s m args meth c cX9_doWhatIsNoStep 4 none RX9), ∀ (H : Heap) (locs : List Loc) (ls : Array Slot), lv_has ls 4 [(0, .ref (h 0)), (2, .int x2)] → gdC D k h (vA E) (arC k0 h s.heap.size) s.heap H locs st → W p l e (rmA 6 156 E) s m args below meth c H locs (st.2.2.2 4 - E 4) (st.2.2.2 5 - E 5) (MQ below (uVC D k0 h E s.heap.size s') args s (s'.2.2.2 4 - E 4) (s'.2.2.2 5 - E 5) (arC k0 h s.heap.size)) (F0 m 75 ls []) := by
  intro k C H locs ls hl G
  obtain ⟨hx, hb, hml, hr, hown, hts, hK, hN, hlk⟩ := id C
  unfold fx_Ma_doWhatIsNoStep_b75 at hf
  refine lv_aload_n hx hb dX9_doWhatIsNoStep_75 rfl (lv_at hl 0 rfl) ?_
  refine fg_Ma_activity hx hb hts hown hK G (hts _ lk_X9_35) dX9_doWhatIsNoStep_76 ?_
  have hc9 := hcA G
  obtain ⟨r6, st5, hst5, hf⟩ := bn_some hf
  refine cl_viC C hl G (As := []) (rest := []) (kx_Ac_isInRegisters l D k h st _ _ hst5) gi_X9_119 (hwC_4 ..) rfl hd_X0_isInRegisters ⟨Nat.le_of_ble_eq_true rfl, Nat.le_of_ble_eq_true rfl⟩ rfl rfl (Nat.le_of_ble_eq_true rfl) dX9_doWhatIsNoStep_79 hc9 (fun H locs e0 G => ?_)
  refine cs_eq e0 ?_
  refine lv_if_eq (tgt := 96) hx hb dX9_doWhatIsNoStep_82 (by decide) (fun c7 => ?_) (fun c7 => ?_)
  · replace hf := if_p hf c7
    refine lv_aload_n hx hb dX9_doWhatIsNoStep_96 rfl (lv_at hl 0 rfl) ?_
    refine fg_Ma_stackRunner hx hb hts hown hK G (hts _ lk_X9_60) dX9_doWhatIsNoStep_97 ?_
    have hc9 := hcA G
    obtain ⟨r9, st8, hst8, hf⟩ := bn_some hf
    refine cl_viC C hl G (As := []) (rest := []) (kx_Sr_performFree l D k h N st5 _ _ hst8) gi_X9_208 (hwC_7 ..) rfl hd_X6_performFree ⟨Nat.le_of_ble_eq_true rfl, Nat.le_of_ble_eq_true rfl⟩ rfl rfl (Nat.le_of_ble_eq_true rfl) dX9_doWhatIsNoStep_100 hc9 (fun H locs e0 G => ?_)
    refine cs_eq e0 ?_
    refine lv_istore_n (lv' := [(1, .int r9), (0, .ref (h 0)), (2, .int x2)]) hx hb dX9_doWhatIsNoStep_103 rfl hl (by decide) rfl (fun ls hl => ?_)
    exact kx_Ma_doWhatIsNoStep_b104 N rec4 ih4 r9 x2 st8 _ hf _ C _ _ _ (lv_sub hl [1, 0, 2] rfl) G
  · replace hf := if_n hf c7
    refine lv_aload_n hx hb dX9_doWhatIsNoStep_85 rfl (lv_at hl 0 rfl) ?_
    refine fg_Ma_registerRunner hx hb hts hown hK G (hts _ lk_X9_69) dX9_doWhatIsNoStep_86 ?_
    have hc9 := hcA G
    obtain ⟨r12, st11, hst11, hf⟩ := bn_some hf
    refine cl_viC C hl G (As := []) (rest := []) (kx_Rr_performFree l D k h N st5 _ _ hst11) gi_X9_205 (hwC_8 ..) rfl hd_X5_performFree ⟨Nat.le_of_ble_eq_true rfl, Nat.le_of_ble_eq_true rfl⟩ rfl rfl (Nat.le_of_ble_eq_true rfl) dX9_doWhatIsNoStep_89 hc9 (fun H locs e0 G => ?_)
    refine cs_eq e0 ?_
    refine lv_istore_n (lv' := [(1, .int r12), (0, .ref (h 0)), (2, .int x2)]) hx hb dX9_doWhatIsNoStep_92 rfl hl (by decide) rfl (fun ls hl => ?_)
    refine lv_goto (tgt := 104) hx hb dX9_doWhatIsNoStep_93 (by decide) ?_
    exact kx_Ma_doWhatIsNoStep_b104 N rec4 ih4 r12 x2 st11 _ hf _ C _ _ _ (lv_sub hl [1, 0, 2] rfl) G
set_option maxHeartbeats 4000000 in
set_option maxRecDepth 100000 in
theorem kx_Ma_doWhatIsNoStep_b59 {p : Program} {l : Launch} {e : Env} {s : State} {m : MethodId} {args : Array Value} {below : List Frame} {meth : Method} {c : Code} {D : va_G} {h : Nat → Nat} {E : Nat → Nat} {k0 : Nat → Nat × ClassId} (N : Nat) (rec4 : Int32 → Int32 → rs_T → Option (rs_T)) (ih4 : ∀ (x1 : Int32) (x2 : Int32) (st : rs_T) (s' : rs_T), rec4 x1 x2 st = some s' → ∀ (k : Nat → Nat × ClassId) (C : cxC D k p s m args meth c cX9_doWhatIsNoStep 4 none RX9), ∀ (H : Heap) (locs : List Loc) (ls : Array Slot), lv_has ls 4 [(0, .ref (h 0)), (1, .int x1), (2, .int x2)] → gdC D k h (vA E) (arC k0 h s.heap.size) s.heap H locs st → W p l e (rmA 6 156 E) s m args below meth c H locs (st.2.2.2 4 - E 4) (st.2.2.2 5 - E 5) (MQ below (uVC D k0 h E s.heap.size s') args s (s'.2.2.2 4 - E 4) (s'.2.2.2 5 - E 5) (arC k0 h s.heap.size)) (F0 m 4 ls [])) (x2 : Int32) (x3 : Int32) (st : rs_T) (s' : rs_T) (hf : fx_Ma_doWhatIsNoStep_b59 N rec4 x2 x3 st = some s') : ∀ (k : Nat → Nat × ClassId) (C : cxC D k p s m args meth c cX9_doWhatIsNoStep 4 none RX9), ∀ (H : Heap) (locs : List Loc) (ls : Array Slot), lv_has ls 4 [(0, .ref (h 0)), (2, .int x2), (3, .int x3)] → gdC D k h (vA E) (arC k0 h s.heap.size) s.heap H locs st → W p l e (rmA 6 156 E) s m args below meth c H locs (st.2.2.2 4 - E 4) (st.2.2.2 5 - E 5) (MQ below (uVC D k0 h E s.heap.size s') args s (s'.2.2.2 4 - E 4) (s'.2.2.2 5 - E 5) (arC k0 h s.heap.size)) (F0 m 59 ls []) := by
  intro k C H locs ls hl G
  obtain ⟨hx, hb, hml, hr, hown, hts, hK, hN, hlk⟩ := id C
  unfold fx_Ma_doWhatIsNoStep_b59 at hf
  refine lv_aload_n hx hb dX9_doWhatIsNoStep_59 rfl (lv_at hl 0 rfl) ?_
  refine fg_Ma_activity hx hb hts hown hK G (hts _ lk_X9_35) dX9_doWhatIsNoStep_60 ?_
  refine lv_aload_n hx hb dX9_doWhatIsNoStep_63 rfl (lv_at hl 0 rfl) ?_
  refine fg_Ma_registerCode hx hb hts hown hK G (hts _ lk_X9_42) dX9_doWhatIsNoStep_64 ?_
  refine fg_Rc_start hx hb hts hown hK G (hts _ lk_X9_200) dX9_doWhatIsNoStep_67 ?_
  refine lv_iload_n hx hb dX9_doWhatIsNoStep_70 rfl (lv_at hl 2 rfl) ?_
  obtain ⟨h_g18, hf⟩ := gd_some hf
  refine ra_IC (v := rA st 22 x3.toNatClampNeg) hx hb hK G (waC_35 ..) (t0 := 26) rfl rfl h_g18 dX9_doWhatIsNoStep_71 ?_
  have hc9 := hcA G
  obtain ⟨st19, hst19, hf⟩ := bv_some hf
  refine cl_vvC C hl G (As := [.int (rA st 22 x3.toNatClampNeg)]) (rest := []) (kx_Ac_settleFrame l D k h (rA st 22 x3.toNatClampNeg) st _ hst19) gi_X9_202 (hwC_4 ..) rfl hd_X0_settleFrame ⟨Nat.le_of_ble_eq_true rfl, Nat.le_of_ble_eq_true rfl⟩ rfl rfl (Nat.le_of_ble_eq_true rfl) dX9_doWhatIsNoStep_72 hc9 (fun H locs e0 G => ?_)
  refine cs_eq e0 ?_
  exact kx_Ma_doWhatIsNoStep_b75 N rec4 ih4 x2 st19 _ hf _ C _ _ _ (lv_sub hl [0, 1] rfl) G
set_option maxHeartbeats 4000000 in
set_option maxRecDepth 100000 in
theorem kx_Ma_doWhatIsNoStep_b4 {p : Program} {l : Launch} {e : Env} {s : State} {m : MethodId} {args : Array Value} {below : List Frame} {meth : Method} {c : Code} {D : va_G} {h : Nat → Nat} {E : Nat → Nat} {k0 : Nat → Nat × ClassId} (N : Nat) : ∀ (n : Nat) (x1 : Int32) (x2 : Int32) (st : rs_T) (s' : rs_T), fx_Ma_doWhatIsNoStep_b4 N n x1 x2 st = some s' → ∀ (k : Nat → Nat × ClassId) (C : cxC D k p s m args meth c cX9_doWhatIsNoStep 4 none RX9), ∀ (H : Heap) (locs : List Loc) (ls : Array Slot), lv_has ls 4 [(0, .ref (h 0)), (1, .int x1), (2, .int x2)] → gdC D k h (vA E) (arC k0 h s.heap.size) s.heap H locs st → W p l e (rmA 6 156 E) s m args below meth c H locs (st.2.2.2 4 - E 4) (st.2.2.2 5 - E 5) (MQ below (uVC D k0 h E s.heap.size s') args s (s'.2.2.2 4 - E 4) (s'.2.2.2 5 - E 5) (arC k0 h s.heap.size)) (F0 m 4 ls []) := by
  intro n
  induction n with
  | zero => intro x1 x2 st s' hf; cases hf
  | succ n ih =>
    intro x1 x2 st s' hf k C H locs ls hl G
    obtain ⟨hx, hb, hml, hr, hown, hts, hK, hN, hlk⟩ := id C
    rw [fx_Ma_doWhatIsNoStep_b4] at hf
    refine lv_iload_n hx hb dX9_doWhatIsNoStep_4 rfl (lv_at hl 2 rfl) ?_
    refine lv_ldc (v := 1000000) hx hb hown (hts _ lk_X9_185) dX9_doWhatIsNoStep_5 ?_
    refine lv_icmp_ge (tgt := 110) hx hb dX9_doWhatIsNoStep_7 (by decide) (fun c1 => ?_) (fun c1 => ?_)
    · replace hf := if_p hf c1
      exact rt_vCA C G hf dX9_doWhatIsNoStep_110
    · replace hf := if_n hf c1
      refine lv_iload_n hx hb dX9_doWhatIsNoStep_10 rfl (lv_at hl 1 rfl) ?_
      refine lv_if_eq (tgt := 110) hx hb dX9_doWhatIsNoStep_11 (by decide) (fun c2 => ?_) (fun c2 => ?_)
      · replace hf := if_p hf c2
        exact rt_vCA C G hf dX9_doWhatIsNoStep_110
      · replace hf := if_n hf c2
        refine lv_aload_n hx hb dX9_doWhatIsNoStep_14 rfl (lv_at hl 0 rfl) ?_
        refine fg_Ma_activity hx hb hts hown hK G (hts _ lk_X9_35) dX9_doWhatIsNoStep_15 ?_
        refine fg_Ac_state (v := rI st 11) hx hb hts hown hK G (hts _ lk_X9_113) rfl dX9_doWhatIsNoStep_18 ?_
        refine lv_iconst (v := 1) hx hb dX9_doWhatIsNoStep_21 (by decide) ?_
        refine lv_icmp_ne (tgt := 110) hx hb dX9_doWhatIsNoStep_22 (by decide) (fun c3 => ?_) (fun c3 => ?_)
        · replace hf := if_n hf c3
          exact rt_vCA C G hf dX9_doWhatIsNoStep_110
        · replace hf := if_p hf c3
          refine lv_aload_n hx hb dX9_doWhatIsNoStep_25 rfl (lv_at hl 0 rfl) ?_
          refine fg_Ma_activity hx hb hts hown hK G (hts _ lk_X9_35) dX9_doWhatIsNoStep_26 ?_
          refine fg_Ac_isFresh (v := rI st 16) hx hb hts hown hK G (hts _ lk_X9_186) rfl dX9_doWhatIsNoStep_29 ?_
          refine lv_if_eq (tgt := 75) hx hb dX9_doWhatIsNoStep_32 (by decide) (fun c4 => ?_) (fun c4 => ?_)
          · replace hf := if_p hf c4
            exact kx_Ma_doWhatIsNoStep_b75 N (fx_Ma_doWhatIsNoStep_b4 N n) ih x2 st _ hf _ C _ _ _ (lv_sub hl [0, 2] rfl) G
          · replace hf := if_n hf c4
            refine lv_aload_n hx hb dX9_doWhatIsNoStep_35 rfl (lv_at hl 0 rfl) ?_
            refine fg_Ma_activity hx hb hts hown hK G (hts _ lk_X9_35) dX9_doWhatIsNoStep_36 ?_
            have hc9 := hcA G
            obtain ⟨r14, st13, hst13, hf⟩ := bn_some hf
            refine cl_viC C hl G (As := []) (rest := []) (kx_Ac_currentFunction l D k h st _ _ hst13) gi_X9_190 (hwC_4 ..) rfl hd_X0_currentFunction ⟨Nat.le_of_ble_eq_true rfl, Nat.le_of_ble_eq_true rfl⟩ rfl rfl (Nat.le_of_ble_eq_true rfl) dX9_doWhatIsNoStep_39 hc9 (fun H locs e0 G => ?_)
            refine cs_eq e0 ?_
            refine lv_istore_n (lv' := [(3, .int r14), (0, .ref (h 0)), (1, .int x1), (2, .int x2)]) hx hb dX9_doWhatIsNoStep_42 rfl hl (by decide) rfl (fun ls hl => ?_)
            refine lv_aload_n hx hb dX9_doWhatIsNoStep_43 rfl (lv_at hl 1 rfl) ?_
            refine lv_iload_n hx hb dX9_doWhatIsNoStep_44 rfl (lv_at hl 0 rfl) ?_
            have hc9 := hcA G
            obtain ⟨r16, st15, hst15, hf⟩ := bn_some hf
            refine cl_viC C hl G (As := [.int r14]) (rest := []) (kx_Ma_isDueWhenCounted l D k h r14 st13 _ _ hst15) gi_X9_193 (hwC_0 ..) rfl hd_X9_isDueWhenCounted ⟨Nat.le_of_ble_eq_true rfl, Nat.le_of_ble_eq_true rfl⟩ rfl rfl (Nat.le_of_ble_eq_true rfl) dX9_doWhatIsNoStep_45 hc9 (fun H locs e0 G => ?_)
            refine cs_eq e0 ?_
            refine lv_if_eq (tgt := 59) hx hb dX9_doWhatIsNoStep_48 (by decide) (fun c17 => ?_) (fun c17 => ?_)
            · replace hf := if_p hf c17
              exact kx_Ma_doWhatIsNoStep_b59 N (fx_Ma_doWhatIsNoStep_b4 N n) ih x2 r14 st15 _ hf _ C _ _ _ (lv_sub hl [1, 3, 0] rfl) G
            · replace hf := if_n hf c17
              refine lv_aload_n hx hb dX9_doWhatIsNoStep_51 rfl (lv_at hl 1 rfl) ?_
              refine fg_Ma_compiler hx hb hts hown hK G (hts _ lk_X9_51) dX9_doWhatIsNoStep_52 ?_
              refine lv_iload_n hx hb dX9_doWhatIsNoStep_55 rfl (lv_at hl 0 rfl) ?_
              have hc9 := hcA G
              obtain ⟨st20, hst20, hf⟩ := bv_some hf
              refine cb_vvC C hl G (As := [.int r14]) (rest := []) (kx_Co_compile l D k h N r14 st15 _ hst20) gi_X9_196 (hwC_6 ..) rfl hd_X1_compile ⟨Nat.le_of_ble_eq_true rfl, Nat.le_of_ble_eq_true rfl⟩ rfl rfl (Nat.le_of_ble_eq_true rfl) dX9_doWhatIsNoStep_56 (fun k hK H locs G => ?_)
              have C := cxk C hK
              exact kx_Ma_doWhatIsNoStep_b59 N (fx_Ma_doWhatIsNoStep_b4 N n) ih x2 r14 st20 _ hf _ C _ _ _ (lv_sub hl [1, 3, 0] rfl) G
set_option maxHeartbeats 4000000 in
set_option maxRecDepth 100000 in
theorem kx_Ma_doWhatIsNoStep (l : Launch) (D : va_G) (k : Nat → Nat × ClassId) (h : Nat → Nat) (N : Nat) (st : rs_T) (s' : rs_T) (hf : fx_Ma_doWhatIsNoStep N st = some s') : nVC l D k h yX9_doWhatIsNoStep cX9_doWhatIsNoStep 4 6 156 [.ref (h 0)] st s' := by
  refine nVC_of (by decide) (Nat.le_of_ble_eq_true rfl) ?_
  intro p e s m below meth c ls C hl G
  obtain ⟨hx, hb, hml, hr, hown, hts, hK, hN, hlk⟩ := id C
  have hown : s.vm.findClass RX9 = some m.cls := hown
  have hl : lv_has ls 4 [(0, .ref (h 0))] := hl
  unfold fx_Ma_doWhatIsNoStep at hf
  refine lv_iconst (v := 1) hx hb dX9_doWhatIsNoStep_0 (by decide) ?_
  refine lv_istore_n (lv' := [(1, .int 1), (0, .ref (h 0))]) hx hb dX9_doWhatIsNoStep_1 rfl hl (by decide) rfl (fun ls hl => ?_)
  refine lv_iconst (v := 0) hx hb dX9_doWhatIsNoStep_2 (by decide) ?_
  refine lv_istore_n (lv' := [(2, .int 0), (1, .int 1), (0, .ref (h 0))]) hx hb dX9_doWhatIsNoStep_3 rfl hl (by decide) rfl (fun ls hl => ?_)
  exact kx_Ma_doWhatIsNoStep_b4 N N 1 0 st _ hf _ C _ _ _ (lv_sub hl [2, 1, 0] rfl) G
set_option maxHeartbeats 4000000 in
set_option maxRecDepth 100000 in
theorem kx_Ma_call (l : Launch) (D : va_G) (k : Nat → Nat × ClassId) (h : Nat → Nat) (N : Nat) (p1 : Int32) (st : rs_T) (r : Int32) (s' : rs_T) (hf : fx_Ma_call N p1 st = some (r, s')) : nIC l D k h yX9_call cX9_call 2 .boolean 7 179 [.ref (h 0), .int p1] st r s' := by
  refine nIC_of (by decide) (Nat.le_of_ble_eq_true rfl) ?_
  intro p e s m below meth c ls C hl G
  obtain ⟨hx, hb, hml, hr, hown, hts, hK, hN, hlk⟩ := id C
  have hown : s.vm.findClass RX9 = some m.cls := hown
  have hl : lv_has ls 2 [(0, .ref (h 0)), (1, .int p1)] := hl
  unfold fx_Ma_call at hf
  refine lv_aload_n hx hb dX9_call_0 rfl (lv_at hl 0 rfl) ?_
  refine fg_Ma_program hx hb hts hown hK G (hts _ lk_X9_12) dX9_call_1 ?_
  refine lv_iload_n hx hb dX9_call_4 rfl (lv_at hl 1 rfl) ?_
  have hc9 := hcA G
  obtain ⟨r2, st1, hst1, hf⟩ := bn_some hf
  refine cl_viC C hl G (As := [.int p1]) (rest := []) (kx_Pr_isWhole l D k h p1 st _ _ hst1) gi_X9_95 (hwC_1 ..) rfl hd_X3_isWhole ⟨Nat.le_of_ble_eq_true rfl, Nat.le_of_ble_eq_true rfl⟩ rfl rfl (Nat.le_of_ble_eq_true rfl) dX9_call_5 hc9 (fun H locs e0 G => ?_)
  refine cs_eq e0 ?_
  refine lv_if_eq (tgt := 27) hx hb dX9_call_8 (by decide) (fun c3 => ?_) (fun c3 => ?_)
  · replace hf := if_p hf c3
    refine lv_iconst (v := 0) hx hb dX9_call_27 (by decide) ?_
    exact rt_zCA C rfl G hf dX9_call_28
  · replace hf := if_n hf c3
    refine lv_aload_n hx hb dX9_call_11 rfl (lv_at hl 0 rfl) ?_
    refine fg_Ma_program hx hb hts hown hK G (hts _ lk_X9_12) dX9_call_12 ?_
    refine fg_Pr_parameters hx hb hts hown hK G (hts _ lk_X9_103) dX9_call_15 ?_
    refine lv_iload_n hx hb dX9_call_18 rfl (lv_at hl 1 rfl) ?_
    obtain ⟨h_g4, hf⟩ := gd_some hf
    refine ra_IC (v := rA st1 0 p1.toNatClampNeg) hx hb hK G (waC_10 ..) (t0 := 1) rfl rfl h_g4 dX9_call_19 ?_
    refine lv_aload_n hx hb dX9_call_20 rfl (lv_at hl 0 rfl) ?_
    refine fg_Ma_argumentCount (v := rI st1 0) hx hb hts hown hK G (hts _ lk_X9_77) rfl dX9_call_21 ?_
    refine lv_icmp_eq (tgt := 29) hx hb dX9_call_24 (by decide) (fun c5 => ?_) (fun c5 => ?_)
    · replace hf := if_p hf c5
      refine lv_aload_n hx hb dX9_call_29 rfl (lv_at hl 0 rfl) ?_
      refine lv_iconst (v := 0) hx hb dX9_call_30 (by decide) ?_
      refine fp_Ma_argumentCount hx hb hts hown hK G (hts _ lk_X9_77) dX9_call_31 (fun H locs G => ?_)
      refine lv_aload_n hx hb dX9_call_34 rfl (lv_at hl 0 rfl) ?_
      refine fg_Ma_activity hx hb hts hown hK G (hts _ lk_X9_35) dX9_call_35 ?_
      refine lv_iload_n hx hb dX9_call_38 rfl (lv_at hl 1 rfl) ?_
      refine lv_aload_n hx hb dX9_call_39 rfl (lv_at hl 0 rfl) ?_
      refine fg_Ma_arguments hx hb hts hown hK G (hts _ lk_X9_73) dX9_call_40 ?_
      have hc9 := hcA G
      obtain ⟨st6, hst6, hf⟩ := bv_some hf
      refine cl_vvC C hl G (As := [.int p1, .ref (k 9).1]) (rest := []) (kx_Ac_restart l D k h N p1 (wI st1 0 0) _ hst6) gi_X9_106 (hwC_4 ..) rfl hd_X0_restart ⟨Nat.le_of_ble_eq_true rfl, Nat.le_of_ble_eq_true rfl⟩ rfl rfl (Nat.le_of_ble_eq_true rfl) dX9_call_43 hc9 (fun H locs e0 G => ?_)
      refine cs_eq e0 ?_
      refine lv_aload_n hx hb dX9_call_46 rfl (lv_at hl 0 rfl) ?_
      have hc9 := hcA G
      obtain ⟨st7, hst7, hf⟩ := bv_some hf
      refine cb_vvC C hl G (As := []) (rest := []) (kx_Ma_doWhatIsNoStep l D k h N st6 _ hst7) gi_X9_110 (hwC_0 ..) rfl hd_X9_doWhatIsNoStep ⟨Nat.le_of_ble_eq_true rfl, Nat.le_of_ble_eq_true rfl⟩ rfl rfl (Nat.le_of_ble_eq_true rfl) dX9_call_47 (fun k hK H locs G => ?_)
      have C := cxk C hK
      refine lv_iconst (v := 1) hx hb dX9_call_50 (by decide) ?_
      exact rt_zCA C rfl G hf dX9_call_51
    · replace hf := if_n hf c5
      refine lv_iconst (v := 0) hx hb dX9_call_27 (by decide) ?_
      exact rt_zCA C rfl G hf dX9_call_28
def rm_Sr_pop : Room := { frames := 1, cells := 0, slots := 0, locals := 21 }
set_option maxHeartbeats 4000000 in
set_option maxRecDepth 100000 in
theorem kx_Sr_pop (l : Launch) (D : va_G) (k : Nat → Nat × ClassId) (h : Nat → Nat) (p1 : Int32) (st : rs_T) (r : Int64) (s' : rs_T) (hf : fx_Sr_pop p1 st = some (r, s')) : mLC l D k h yX6_pop cX6_pop 2 rm_Sr_pop [.ref (h 7), .int p1] st r s' := by
  refine mLC_of (by decide) ⟨rfl, rfl⟩ (Nat.le_of_ble_eq_true rfl) ?_
  intro p e s m below meth c ls C hl G
  obtain ⟨hx, hb, hml, hr, hown, hts, hK, hN, hlk⟩ := id C
  have hown : s.vm.findClass RX6 = some m.cls := hown
  have hl : lv_has ls 2 [(0, .ref (h 7)), (1, .int p1)] := hl
  unfold fx_Sr_pop at hf
  refine lv_aload_n hx hb dX6_pop_0 rfl (lv_at hl 0 rfl) ?_
  refine fg_Sr_activity hx hb hts hown hK G (hts _ lk_X6_19) dX6_pop_1 ?_
  refine fg_Ac_top hx hb hts hown hK G (hts _ lk_X6_136) dX6_pop_4 ?_
  refine lv_iload_n hx hb dX6_pop_7 rfl (lv_at hl 1 rfl) ?_
  refine lv_dup2_11 hx hb dX6_pop_8 rfl rfl ?_
  obtain ⟨h_g1, hf⟩ := gd_some hf
  refine ra_IC (v := rA st 20 p1.toNatClampNeg) hx hb hK G (waC_31 ..) (t0 := 22) rfl rfl h_g1 dX6_pop_9 ?_
  refine lv_iconst (v := 1) hx hb dX6_pop_10 (by decide) ?_
  refine lv_isub hx hb dX6_pop_11 ?_
  obtain ⟨h_g2, hf⟩ := gd_some hf
  refine rw_IC hx hb hK G (waC_31 ..) (t0 := 22) rfl (wsC_31 ..) (zw_31 h_g2) rfl h_g2 dX6_pop_12 (fun H locs G => ?_)
  refine lv_aload_n hx hb dX6_pop_13 rfl (lv_at hl 0 rfl) ?_
  refine fg_Sr_activity hx hb hts hown hK G (hts _ lk_X6_19) dX6_pop_14 ?_
  refine lv_aload_n hx hb dX6_pop_17 rfl (lv_at hl 0 rfl) ?_
  refine fg_Sr_activity hx hb hts hown hK G (hts _ lk_X6_19) dX6_pop_18 ?_
  refine fg_Ac_top hx hb hts hown hK G (hts _ lk_X6_136) dX6_pop_21 ?_
  refine lv_iload_n hx hb dX6_pop_24 rfl (lv_at hl 1 rfl) ?_
  obtain ⟨h_g3, hf⟩ := gd_some hf
  refine ra_IC (v := rA (wA st 20 p1.toNatClampNeg ((rA st 20 p1.toNatClampNeg) - 1)) 20 p1.toNatClampNeg) hx hb hK G (waC_31 ..) (t0 := 22) rfl rfl h_g3 dX6_pop_25 ?_
  obtain ⟨r5, st4, hst4, hf⟩ := bn_some hf
  refine cl_vlC C hl G (As := [.int (rA (wA st 20 p1.toNatClampNeg ((rA st 20 p1.toNatClampNeg) - 1)) 20 p1.toNatClampNeg)]) (rest := []) (kx_Ac_value l D k h (rA (wA st 20 p1.toNatClampNeg ((rA st 20 p1.toNatClampNeg) - 1)) 20 p1.toNatClampNeg) (wA st 20 p1.toNatClampNeg ((rA st 20 p1.toNatClampNeg) - 1)) _ _ hst4) gi_X6_130 (hwC_4 ..) rfl hd_X0_value ⟨Nat.le_of_ble_eq_true rfl, Nat.le_of_ble_eq_true rfl⟩ rfl rfl (Nat.le_of_ble_eq_true rfl) dX6_pop_26 ⟨Nat.zero_le _, Nat.zero_le _⟩ (fun H locs e0 G => ?_)
  exact rt_lC C G hf dX6_pop_29
def rm_Sr_beginIf : Room := { frames := 2, cells := 0, slots := 0, locals := 42 }
set_option maxHeartbeats 4000000 in
set_option maxRecDepth 100000 in
theorem kx_Sr_beginIf_b45 {p : Program} {l : Launch} {e : Env} {s : State} {m : MethodId} {args : Array Value} {below : List Frame} {meth : Method} {c : Code} {D : va_G} {h : Nat → Nat} {E : Nat → Nat} {k : Nat → Nat × ClassId} (C : cxC D k p s m args meth c cX6_beginIf 4 none RX6) (y0 : Int32) (y1 : Int32) (st : rs_T) (s' : rs_T) (hf : fx_Sr_beginIf_b45 y0 y1 st = some s') : ∀ (H : Heap) (locs : List Loc) (ls : Array Slot), lv_has ls 4 [] → gdC D k h (vE E) (arC k h s.heap.size) s.heap H locs st → W p l e rm_Sr_beginIf s m args below meth c H locs 0 0 (MQ below (qVC D k h E s.heap.size s') args s 0 0 (arC k h s.heap.size)) (F0 m 45 ls [.int y0, .int y1, .ref (k 29).1]) := by
  obtain ⟨hx, hb, hml, hr, hown, hts, hK, hN, hlk⟩ := id C
  intro H locs ls hl G
  unfold fx_Sr_beginIf_b45 at hf
  refine lv_iconst (v := 1) hx hb dX6_beginIf_45 (by decide) ?_
  refine lv_iadd hx hb dX6_beginIf_46 ?_
  obtain ⟨h_g7, hf⟩ := gd_some hf
  refine rw_IC hx hb hK G (waC_29 ..) (t0 := 20) rfl (wsC_29 ..) (zw_29 h_g7) rfl h_g7 dX6_beginIf_47 (fun H locs G => ?_)
  exact rt_vC C G hf dX6_beginIf_48
set_option maxHeartbeats 4000000 in
set_option maxRecDepth 100000 in
theorem kx_Sr_beginIf (l : Launch) (D : va_G) (k : Nat → Nat × ClassId) (h : Nat → Nat) (p1 : Int32) (p2 : Int32) (st : rs_T) (s' : rs_T) (hf : fx_Sr_beginIf p1 p2 st = some s') : mVC l D k h yX6_beginIf cX6_beginIf 4 rm_Sr_beginIf [.ref (h 7), .int p1, .int p2] st s' := by
  refine mVC_of (by decide) ⟨rfl, rfl⟩ (Nat.le_of_ble_eq_true rfl) ?_
  intro p e s m below meth c ls C hl G
  obtain ⟨hx, hb, hml, hr, hown, hts, hK, hN, hlk⟩ := id C
  have hown : s.vm.findClass RX6 = some m.cls := hown
  have hl : lv_has ls 4 [(0, .ref (h 7)), (1, .int p1), (2, .int p2)] := hl
  unfold fx_Sr_beginIf at hf
  refine lv_aload_n hx hb dX6_beginIf_0 rfl (lv_at hl 0 rfl) ?_
  refine lv_iload_n hx hb dX6_beginIf_1 rfl (lv_at hl 1 rfl) ?_
  obtain ⟨r2, st1, hst1, hf⟩ := bn_some hf
  refine cl_vlC C hl G (As := [.int p1]) (rest := []) (kx_Sr_pop l D k h p1 st _ _ hst1) gi_X6_82 (hwC_7 ..) rfl hd_X6_pop ⟨Nat.le_of_ble_eq_true rfl, Nat.le_of_ble_eq_true rfl⟩ rfl rfl (Nat.le_of_ble_eq_true rfl) dX6_beginIf_2 ⟨Nat.zero_le _, Nat.zero_le _⟩ (fun H locs e0 G => ?_)
  refine lv_l2i (v := r2.toInt32) hx hb dX6_beginIf_5 rfl ?_
  refine lv_if_ne (tgt := 48) hx hb dX6_beginIf_6 (by decide) (fun c3 => ?_) (fun c3 => ?_)
  · replace hf := if_n hf c3
    exact rt_vC C G hf dX6_beginIf_48
  · replace hf := if_p hf c3
    refine lv_aload_n hx hb dX6_beginIf_9 rfl (lv_at hl 0 rfl) ?_
    refine fg_Sr_program hx hb hts hown hK G (hts _ lk_X6_9) dX6_beginIf_10 ?_
    refine fg_Pr_other hx hb hts hown hK G (hts _ lk_X6_163) dX6_beginIf_13 ?_
    refine lv_iload_n hx hb dX6_beginIf_16 rfl (lv_at hl 2 rfl) ?_
    obtain ⟨h_g4, hf⟩ := gd_some hf
    refine ra_IC (v := rA st1 11 p2.toNatClampNeg) hx hb hK G (waC_21 ..) (t0 := 12) rfl rfl h_g4 dX6_beginIf_17 ?_
    refine lv_topi (fun v5 e_v5 => ?_)
    replace hf := bd_some hf v5 e_v5
    refine lv_istore_n (lv' := [(3, .int v5), (0, .ref (h 7)), (1, .int p1), (2, .int p2)]) hx hb dX6_beginIf_18 rfl hl (by decide) rfl (fun ls hl => ?_)
    refine lv_aload_n hx hb dX6_beginIf_19 rfl (lv_at hl 1 rfl) ?_
    refine fg_Sr_activity hx hb hts hown hK G (hts _ lk_X6_19) dX6_beginIf_20 ?_
    refine fg_Ac_next hx hb hts hown hK G (hts _ lk_X6_42) dX6_beginIf_23 ?_
    refine lv_iload_n hx hb dX6_beginIf_26 rfl (lv_at hl 2 rfl) ?_
    refine lv_iload_n hx hb dX6_beginIf_27 rfl (lv_at hl 0 rfl) ?_
    refine lv_iconst (v := (-1)) hx hb dX6_beginIf_28 (by decide) ?_
    refine lv_icmp_ne (tgt := 44) hx hb dX6_beginIf_29 (by decide) (fun c6 => ?_) (fun c6 => ?_)
    · replace hf := if_n hf c6
      refine lv_iload_n hx hb dX6_beginIf_44 rfl (lv_at hl 0 rfl) ?_
      exact kx_Sr_beginIf_b45 C v5 p1 st1 _ hf _ _ _ (lv_sub hl [] rfl) G
    · replace hf := if_p hf c6
      refine lv_aload_n hx hb dX6_beginIf_32 rfl (lv_at hl 1 rfl) ?_
      refine fg_Sr_program hx hb hts hown hK G (hts _ lk_X6_9) dX6_beginIf_33 ?_
      refine fg_Pr_link hx hb hts hown hK G (hts _ lk_X6_45) dX6_beginIf_36 ?_
      refine lv_iload_n hx hb dX6_beginIf_39 rfl (lv_at hl 3 rfl) ?_
      obtain ⟨h_g8, hf⟩ := gd_some hf
      refine ra_IC (v := rA st1 10 p2.toNatClampNeg) hx hb hK G (waC_20 ..) (t0 := 11) rfl rfl h_g8 dX6_beginIf_40 ?_
      refine lv_goto (tgt := 45) hx hb dX6_beginIf_41 (by decide) ?_
      exact kx_Sr_beginIf_b45 C (rA st1 10 p2.toNatClampNeg) p1 st1 _ hf _ _ _ (lv_sub hl [] rfl) G
def rm_Sr_branch : Room := { frames := 3, cells := 0, slots := 0, locals := 68 }
set_option maxHeartbeats 4000000 in
set_option maxRecDepth 100000 in
theorem kx_Sr_branch_b144 {p : Program} {l : Launch} {e : Env} {s : State} {m : MethodId} {args : Array Value} {below : List Frame} {meth : Method} {c : Code} {D : va_G} {h : Nat → Nat} {E : Nat → Nat} {k : Nat → Nat × ClassId} (C : cxC D k p s m args meth c cX6_branch 7 none RX6) (N : Nat) (y0 : Int32) (y1 : Int32) (st : rs_T) (s' : rs_T) (hf : fx_Sr_branch_b144 N y0 y1 st = some s') : ∀ (H : Heap) (locs : List Loc) (ls : Array Slot), lv_has ls 7 [] → gdC D k h (vE E) (arC k h s.heap.size) s.heap H locs st → W p l e rm_Sr_branch s m args below meth c H locs 0 0 (MQ below (qVC D k h E s.heap.size s') args s 0 0 (arC k h s.heap.size)) (F0 m 144 ls [.int y0, .int y1, .ref (k 29).1]) := by
  obtain ⟨hx, hb, hml, hr, hown, hts, hK, hN, hlk⟩ := id C
  intro H locs ls hl G
  unfold fx_Sr_branch_b144 at hf
  refine lv_iconst (v := 1) hx hb dX6_branch_144 (by decide) ?_
  refine lv_iadd hx hb dX6_branch_145 ?_
  obtain ⟨h_g20, hf⟩ := gd_some hf
  refine rw_IC hx hb hK G (waC_29 ..) (t0 := 20) rfl (wsC_29 ..) (zw_29 h_g20) rfl h_g20 dX6_branch_146 (fun H locs G => ?_)
  exact rt_vC C G hf dX6_branch_147
set_option maxHeartbeats 4000000 in
set_option maxRecDepth 100000 in
theorem kx_Sr_branch (l : Launch) (D : va_G) (k : Nat → Nat × ClassId) (h : Nat → Nat) (N : Nat) (p1 : Int32) (p2 : Int32) (st : rs_T) (s' : rs_T) (hf : fx_Sr_branch N p1 p2 st = some s') : mVC l D k h yX6_branch cX6_branch 7 rm_Sr_branch [.ref (h 7), .int p1, .int p2] st s' := by
  refine mVC_of (by decide) ⟨rfl, rfl⟩ (Nat.le_of_ble_eq_true rfl) ?_
  intro p e s m below meth c ls C hl G
  obtain ⟨hx, hb, hml, hr, hown, hts, hK, hN, hlk⟩ := id C
  have hown : s.vm.findClass RX6 = some m.cls := hown
  have hl : lv_has ls 7 [(0, .ref (h 7)), (1, .int p1), (2, .int p2)] := hl
  unfold fx_Sr_branch at hf
  refine lv_aload_n hx hb dX6_branch_0 rfl (lv_at hl 0 rfl) ?_
  refine fg_Sr_program hx hb hts hown hK G (hts _ lk_X6_9) dX6_branch_1 ?_
  refine fg_Pr_link hx hb hts hown hK G (hts _ lk_X6_45) dX6_branch_4 ?_
  refine lv_iload_n hx hb dX6_branch_7 rfl (lv_at hl 2 rfl) ?_
  obtain ⟨h_g1, hf⟩ := gd_some hf
  refine ra_IC (v := rA st 10 p2.toNatClampNeg) hx hb hK G (waC_20 ..) (t0 := 11) rfl rfl h_g1 dX6_branch_8 ?_
  refine lv_topi (fun v2 e_v2 => ?_)
  replace hf := bd_some hf v2 e_v2
  refine lv_istore_n (lv' := [(3, .int v2), (0, .ref (h 7)), (1, .int p1), (2, .int p2)]) hx hb dX6_branch_9 rfl hl (by decide) rfl (fun ls hl => ?_)
  refine lv_iload_n hx hb dX6_branch_10 rfl (lv_at hl 0 rfl) ?_
  refine lv_iconst (v := (-1)) hx hb dX6_branch_11 (by decide) ?_
  refine lv_icmp_ne (tgt := 21) hx hb dX6_branch_12 (by decide) (fun c3 => ?_) (fun c3 => ?_)
  · replace hf := if_n hf c3
    refine lv_aload_n hx hb dX6_branch_21 rfl (lv_at hl 1 rfl) ?_
    refine fg_Sr_activity hx hb hts hown hK G (hts _ lk_X6_19) dX6_branch_22 ?_
    refine fg_Ac_function hx hb hts hown hK G (hts _ lk_X6_166) dX6_branch_25 ?_
    refine lv_iload_n hx hb dX6_branch_28 rfl (lv_at hl 2 rfl) ?_
    obtain ⟨h_g4, hf⟩ := gd_some hf
    refine ra_IC (v := rA st 17 p1.toNatClampNeg) hx hb hK G (waC_28 ..) (t0 := 19) rfl rfl h_g4 dX6_branch_29 ?_
    refine lv_topi (fun v5 e_v5 => ?_)
    replace hf := bd_some hf v5 e_v5
    refine lv_istore (lv' := [(4, .int v5), (3, .int v2), (0, .ref (h 7)), (1, .int p1), (2, .int p2)]) hx hb dX6_branch_30 hl (by decide) rfl (fun ls hl => ?_)
    refine lv_aload_n hx hb dX6_branch_32 rfl (lv_at hl 2 rfl) ?_
    refine fg_Sr_program hx hb hts hown hK G (hts _ lk_X6_9) dX6_branch_33 ?_
    refine lv_iload_n hx hb dX6_branch_36 rfl (lv_at hl 1 rfl) ?_
    refine lv_iload hx hb dX6_branch_37 (lv_at hl 0 rfl) ?_
    obtain ⟨r7, st6, hst6, hf⟩ := bn_some hf
    refine cl_viC C hl G (As := [.int v2, .int v5]) (rest := []) (kx_Pr_wantedBy l D k h v2 v5 st _ _ hst6) gi_X6_169 (hwC_1 ..) rfl hd_X3_wantedBy ⟨Nat.le_of_ble_eq_true rfl, Nat.le_of_ble_eq_true rfl⟩ rfl rfl (Nat.le_of_ble_eq_true rfl) dX6_branch_39 ⟨Nat.zero_le _, Nat.zero_le _⟩ (fun H locs e0 G => ?_)
    refine lv_istore (lv' := [(5, .int r7), (4, .int v5), (3, .int v2), (0, .ref (h 7)), (1, .int p1), (2, .int p2)]) hx hb dX6_branch_42 hl (by decide) rfl (fun ls hl => ?_)
    refine lv_aload_n hx hb dX6_branch_44 rfl (lv_at hl 3 rfl) ?_
    refine fg_Sr_activity hx hb hts hown hK G (hts _ lk_X6_19) dX6_branch_45 ?_
    refine fg_Ac_base hx hb hts hown hK G (hts _ lk_X6_124) dX6_branch_48 ?_
    refine lv_iload_n hx hb dX6_branch_51 rfl (lv_at hl 4 rfl) ?_
    obtain ⟨h_g8, hf⟩ := gd_some hf
    refine ra_IC (v := rA st6 19 p1.toNatClampNeg) hx hb hK G (waC_30 ..) (t0 := 21) rfl rfl h_g8 dX6_branch_52 ?_
    refine lv_aload_n hx hb dX6_branch_53 rfl (lv_at hl 3 rfl) ?_
    refine fg_Sr_program hx hb hts hown hK G (hts _ lk_X6_9) dX6_branch_54 ?_
    refine lv_iload hx hb dX6_branch_57 (lv_at hl 1 rfl) ?_
    obtain ⟨r10, st9, hst9, hf⟩ := bn_some hf
    refine cl_viC C hl G (As := [.int v5]) (rest := [.int (rA st6 19 p1.toNatClampNeg)]) (kx_Pr_allLocals l D k h v5 st6 _ _ hst9) gi_X6_173 (hwC_1 ..) rfl hd_X3_allLocals ⟨Nat.le_of_ble_eq_true rfl, Nat.le_of_ble_eq_true rfl⟩ rfl rfl (Nat.le_of_ble_eq_true rfl) dX6_branch_59 ⟨Nat.zero_le _, Nat.zero_le _⟩ (fun H locs e0 G => ?_)
    refine lv_iadd hx hb dX6_branch_62 ?_
    refine lv_aload_n hx hb dX6_branch_63 rfl (lv_at hl 3 rfl) ?_
    refine fg_Sr_program hx hb hts hown hK G (hts _ lk_X6_9) dX6_branch_64 ?_
    refine fg_Pr_height hx hb hts hown hK G (hts _ lk_X6_176) dX6_branch_67 ?_
    refine lv_iload_n hx hb dX6_branch_70 rfl (lv_at hl 2 rfl) ?_
    obtain ⟨h_g11, hf⟩ := gd_some hf
    refine ra_IC (v := rA st9 12 v2.toNatClampNeg) hx hb hK G (waC_22 ..) (t0 := 13) rfl rfl h_g11 dX6_branch_71 ?_
    refine lv_iadd hx hb dX6_branch_72 ?_
    refine lv_topi (fun v12 e_v12 => ?_)
    replace hf := bd_some hf v12 e_v12
    refine lv_istore (lv' := [(6, .int v12), (5, .int r7), (4, .int v5), (3, .int v2), (0, .ref (h 7)), (1, .int p1), (2, .int p2)]) hx hb dX6_branch_73 hl (by decide) rfl (fun ls hl => ?_)
    refine lv_aload_n hx hb dX6_branch_75 rfl (lv_at hl 4 rfl) ?_
    refine fg_Sr_activity hx hb hts hown hK G (hts _ lk_X6_19) dX6_branch_76 ?_
    refine lv_aload_n hx hb dX6_branch_79 rfl (lv_at hl 4 rfl) ?_
    refine fg_Sr_activity hx hb hts hown hK G (hts _ lk_X6_19) dX6_branch_80 ?_
    refine fg_Ac_top hx hb hts hown hK G (hts _ lk_X6_136) dX6_branch_83 ?_
    refine lv_iload_n hx hb dX6_branch_86 rfl (lv_at hl 5 rfl) ?_
    obtain ⟨h_g13, hf⟩ := gd_some hf
    refine ra_IC (v := rA st9 20 p1.toNatClampNeg) hx hb hK G (waC_31 ..) (t0 := 22) rfl rfl h_g13 dX6_branch_87 ?_
    refine lv_iload hx hb dX6_branch_88 (lv_at hl 1 rfl) ?_
    refine lv_isub hx hb dX6_branch_90 ?_
    refine lv_iload hx hb dX6_branch_91 (lv_at hl 0 rfl) ?_
    refine lv_iload hx hb dX6_branch_93 (lv_at hl 1 rfl) ?_
    obtain ⟨st14, hst14, hf⟩ := bv_some hf
    refine cl_vvC C hl G (As := [.int ((rA st9 20 p1.toNatClampNeg) - r7), .int v12, .int r7]) (rest := []) (kx_Ac_move l D k h N ((rA st9 20 p1.toNatClampNeg) - r7) v12 r7 st9 _ hst14) gi_X6_179 (hwC_4 ..) rfl hd_X0_move ⟨Nat.le_of_ble_eq_true rfl, Nat.le_of_ble_eq_true rfl⟩ rfl rfl (Nat.le_of_ble_eq_true rfl) dX6_branch_95 ⟨Nat.zero_le _, Nat.zero_le _⟩ (fun H locs e0 G => ?_)
    refine lv_aload_n hx hb dX6_branch_98 rfl (lv_at hl 4 rfl) ?_
    refine fg_Sr_activity hx hb hts hown hK G (hts _ lk_X6_19) dX6_branch_99 ?_
    refine fg_Ac_top hx hb hts hown hK G (hts _ lk_X6_136) dX6_branch_102 ?_
    refine lv_iload_n hx hb dX6_branch_105 rfl (lv_at hl 5 rfl) ?_
    refine lv_iload hx hb dX6_branch_106 (lv_at hl 0 rfl) ?_
    refine lv_iload hx hb dX6_branch_108 (lv_at hl 1 rfl) ?_
    refine lv_iadd hx hb dX6_branch_110 ?_
    obtain ⟨h_g15, hf⟩ := gd_some hf
    refine rw_IC hx hb hK G (waC_31 ..) (t0 := 22) rfl (wsC_31 ..) (zw_31 h_g15) rfl h_g15 dX6_branch_111 (fun H locs G => ?_)
    refine lv_aload_n hx hb dX6_branch_112 rfl (lv_at hl 4 rfl) ?_
    refine fg_Sr_activity hx hb hts hown hK G (hts _ lk_X6_19) dX6_branch_113 ?_
    refine fg_Ac_next hx hb hts hown hK G (hts _ lk_X6_42) dX6_branch_116 ?_
    refine lv_iload_n hx hb dX6_branch_119 rfl (lv_at hl 5 rfl) ?_
    refine lv_aload_n hx hb dX6_branch_120 rfl (lv_at hl 4 rfl) ?_
    refine fg_Sr_program hx hb hts hown hK G (hts _ lk_X6_9) dX6_branch_121 ?_
    refine lv_iload_n hx hb dX6_branch_124 rfl (lv_at hl 3 rfl) ?_
    obtain ⟨r17, st16, hst16, hf⟩ := bn_some hf
    refine cl_viC C hl G (As := [.int v2]) (rest := [.int p1, .ref (k 29).1]) (kx_Pr_isLoop l D k h v2 (wA st14 20 p1.toNatClampNeg (v12 + r7)) _ _ hst16) gi_X6_182 (hwC_1 ..) rfl hd_X3_isLoop ⟨Nat.le_of_ble_eq_true rfl, Nat.le_of_ble_eq_true rfl⟩ rfl rfl (Nat.le_of_ble_eq_true rfl) dX6_branch_125 ⟨Nat.zero_le _, Nat.zero_le _⟩ (fun H locs e0 G => ?_)
    refine lv_if_eq (tgt := 135) hx hb dX6_branch_128 (by decide) (fun c18 => ?_) (fun c18 => ?_)
    · replace hf := if_p hf c18
      refine lv_aload_n hx hb dX6_branch_135 rfl (lv_at hl 4 rfl) ?_
      refine fg_Sr_program hx hb hts hown hK G (hts _ lk_X6_9) dX6_branch_136 ?_
      refine fg_Pr_link hx hb hts hown hK G (hts _ lk_X6_45) dX6_branch_139 ?_
      refine lv_iload_n hx hb dX6_branch_142 rfl (lv_at hl 3 rfl) ?_
      obtain ⟨h_g19, hf⟩ := gd_some hf
      refine ra_IC (v := rA st16 10 v2.toNatClampNeg) hx hb hK G (waC_20 ..) (t0 := 11) rfl rfl h_g19 dX6_branch_143 ?_
      exact kx_Sr_branch_b144 C N (rA st16 10 v2.toNatClampNeg) p1 st16 _ hf _ _ _ (lv_sub hl [] rfl) G
    · replace hf := if_n hf c18
      refine lv_iload_n hx hb dX6_branch_131 rfl (lv_at hl 3 rfl) ?_
      refine lv_goto (tgt := 144) hx hb dX6_branch_132 (by decide) ?_
      exact kx_Sr_branch_b144 C N v2 p1 st16 _ hf _ _ _ (lv_sub hl [] rfl) G
  · replace hf := if_p hf c3
    refine lv_aload_n hx hb dX6_branch_15 rfl (lv_at hl 1 rfl) ?_
    refine lv_iload_n hx hb dX6_branch_16 rfl (lv_at hl 2 rfl) ?_
    obtain ⟨st21, hst21, hf⟩ := bv_some hf
    refine cl_vvC C hl G (As := [.int p1]) (rest := []) (kx_Sr_giveBack l D k h N p1 st _ hst21) gi_X6_48 (hwC_7 ..) rfl hd_X6_giveBack ⟨Nat.le_of_ble_eq_true rfl, Nat.le_of_ble_eq_true rfl⟩ rfl rfl (Nat.le_of_ble_eq_true rfl) dX6_branch_17 ⟨Nat.zero_le _, Nat.zero_le _⟩ (fun H locs e0 G => ?_)
    exact rt_vC C G hf dX6_branch_20
def rm_Sr_invoke : Room := { frames := 2, cells := 0, slots := 0, locals := 49 }
set_option maxHeartbeats 4000000 in
set_option maxRecDepth 100000 in
theorem kx_Sr_invoke (l : Launch) (D : va_G) (k : Nat → Nat × ClassId) (h : Nat → Nat) (N : Nat) (p1 : Int32) (p2 : Int32) (st : rs_T) (s' : rs_T) (hf : fx_Sr_invoke N p1 p2 st = some s') : mVC l D k h yX6_invoke cX6_invoke 3 rm_Sr_invoke [.ref (h 7), .int p1, .int p2] st s' := by
  refine mVC_of (by decide) ⟨rfl, rfl⟩ (Nat.le_of_ble_eq_true rfl) ?_
  intro p e s m below meth c ls C hl G
  obtain ⟨hx, hb, hml, hr, hown, hts, hK, hN, hlk⟩ := id C
  have hown : s.vm.findClass RX6 = some m.cls := hown
  have hl : lv_has ls 3 [(0, .ref (h 7)), (1, .int p1), (2, .int p2)] := hl
  unfold fx_Sr_invoke at hf
  refine lv_aload_n hx hb dX6_invoke_0 rfl (lv_at hl 0 rfl) ?_
  refine fg_Sr_activity hx hb hts hown hK G (hts _ lk_X6_19) dX6_invoke_1 ?_
  refine lv_iload_n hx hb dX6_invoke_4 rfl (lv_at hl 2 rfl) ?_
  refine lv_aload_n hx hb dX6_invoke_5 rfl (lv_at hl 0 rfl) ?_
  refine fg_Sr_activity hx hb hts hown hK G (hts _ lk_X6_19) dX6_invoke_6 ?_
  refine fg_Ac_values hx hb hts hown hK G (hts _ lk_X6_192) dX6_invoke_9 ?_
  refine lv_aload_n hx hb dX6_invoke_12 rfl (lv_at hl 0 rfl) ?_
  refine fg_Sr_activity hx hb hts hown hK G (hts _ lk_X6_19) dX6_invoke_13 ?_
  refine fg_Ac_top hx hb hts hown hK G (hts _ lk_X6_136) dX6_invoke_16 ?_
  refine lv_iload_n hx hb dX6_invoke_19 rfl (lv_at hl 1 rfl) ?_
  obtain ⟨h_g1, hf⟩ := gd_some hf
  refine ra_IC (v := rA st 20 p1.toNatClampNeg) hx hb hK G (waC_31 ..) (t0 := 22) rfl rfl h_g1 dX6_invoke_20 ?_
  refine lv_aload_n hx hb dX6_invoke_21 rfl (lv_at hl 0 rfl) ?_
  refine fg_Sr_program hx hb hts hown hK G (hts _ lk_X6_9) dX6_invoke_22 ?_
  refine fg_Pr_parameters hx hb hts hown hK G (hts _ lk_X6_195) dX6_invoke_25 ?_
  refine lv_iload_n hx hb dX6_invoke_28 rfl (lv_at hl 2 rfl) ?_
  obtain ⟨h_g2, hf⟩ := gd_some hf
  refine ra_IC (v := rA st 0 p2.toNatClampNeg) hx hb hK G (waC_10 ..) (t0 := 1) rfl rfl h_g2 dX6_invoke_29 ?_
  refine lv_isub hx hb dX6_invoke_30 ?_
  obtain ⟨st3, hst3, hf⟩ := bv_some hf
  refine cl_vvC C hl G (As := [.int p2, .ref (k 33).1, .int ((rA st 20 p1.toNatClampNeg) - (rA st 0 p2.toNatClampNeg))]) (rest := []) (kx_Ac_enter_v l D k h N p2 ((rA st 20 p1.toNatClampNeg) - (rA st 0 p2.toNatClampNeg)) st _ hst3) gi_X6_198 (hwC_4 ..) rfl hd_X0_enter ⟨Nat.le_of_ble_eq_true rfl, Nat.le_of_ble_eq_true rfl⟩ rfl rfl (Nat.le_of_ble_eq_true rfl) dX6_invoke_31 ⟨Nat.zero_le _, Nat.zero_le _⟩ (fun H locs e0 G => ?_)
  exact rt_vC C G hf dX6_invoke_34
def rm_Sr_invokeEntry : Room := { frames := 3, cells := 0, slots := 0, locals := 71 }
set_option maxHeartbeats 4000000 in
set_option maxRecDepth 100000 in
theorem kx_Sr_invokeEntry (l : Launch) (D : va_G) (k : Nat → Nat × ClassId) (h : Nat → Nat) (N : Nat) (p1 : Int32) (p2 : Int32) (st : rs_T) (s' : rs_T) (hf : fx_Sr_invokeEntry N p1 p2 st = some s') : mVC l D k h yX6_invokeEntry cX6_invokeEntry 4 rm_Sr_invokeEntry [.ref (h 7), .int p1, .int p2] st s' := by
  refine mVC_of (by decide) ⟨rfl, rfl⟩ (Nat.le_of_ble_eq_true rfl) ?_
  intro p e s m below meth c ls C hl G
  obtain ⟨hx, hb, hml, hr, hown, hts, hK, hN, hlk⟩ := id C
  have hown : s.vm.findClass RX6 = some m.cls := hown
  have hl : lv_has ls 4 [(0, .ref (h 7)), (1, .int p1), (2, .int p2)] := hl
  unfold fx_Sr_invokeEntry at hf
  refine lv_aload_n hx hb dX6_invokeEntry_0 rfl (lv_at hl 0 rfl) ?_
  refine fg_Sr_world hx hb hts hown hK G (hts _ lk_X6_15) dX6_invokeEntry_1 ?_
  refine lv_aload_n hx hb dX6_invokeEntry_4 rfl (lv_at hl 0 rfl) ?_
  refine lv_iload_n hx hb dX6_invokeEntry_5 rfl (lv_at hl 1 rfl) ?_
  obtain ⟨r2, st1, hst1, hf⟩ := bn_some hf
  refine cl_vlC C hl G (As := [.int p1]) (rest := [.ref (h 3)]) (kx_Sr_pop l D k h p1 st _ _ hst1) gi_X6_82 (hwC_7 ..) rfl hd_X6_pop ⟨Nat.le_of_ble_eq_true rfl, Nat.le_of_ble_eq_true rfl⟩ rfl rfl (Nat.le_of_ble_eq_true rfl) dX6_invokeEntry_6 ⟨Nat.zero_le _, Nat.zero_le _⟩ (fun H locs e0 G => ?_)
  refine lv_aload_n hx hb dX6_invokeEntry_9 rfl (lv_at hl 0 rfl) ?_
  refine fg_Sr_program hx hb hts hown hK G (hts _ lk_X6_9) dX6_invokeEntry_10 ?_
  refine fg_Pr_a hx hb hts hown hK G (hts _ lk_X6_64) dX6_invokeEntry_13 ?_
  refine lv_iload_n hx hb dX6_invokeEntry_16 rfl (lv_at hl 2 rfl) ?_
  obtain ⟨h_g3, hf⟩ := gd_some hf
  refine ra_IC (v := rA st1 8 p2.toNatClampNeg) hx hb hK G (waC_18 ..) (t0 := 9) rfl rfl h_g3 dX6_invokeEntry_17 ?_
  refine lv_aload_n hx hb dX6_invokeEntry_18 rfl (lv_at hl 0 rfl) ?_
  refine fg_Sr_program hx hb hts hown hK G (hts _ lk_X6_9) dX6_invokeEntry_19 ?_
  refine fg_Pr_b hx hb hts hown hK G (hts _ lk_X6_202) dX6_invokeEntry_22 ?_
  refine lv_iload_n hx hb dX6_invokeEntry_25 rfl (lv_at hl 2 rfl) ?_
  obtain ⟨h_g4, hf⟩ := gd_some hf
  refine ra_IC (v := rA st1 9 p2.toNatClampNeg) hx hb hK G (waC_19 ..) (t0 := 10) rfl rfl h_g4 dX6_invokeEntry_26 ?_
  refine lv_aload_n hx hb dX6_invokeEntry_27 rfl (lv_at hl 0 rfl) ?_
  refine fg_Sr_program hx hb hts hown hK G (hts _ lk_X6_9) dX6_invokeEntry_28 ?_
  obtain ⟨r6, st5, hst5, hf⟩ := bn_some hf
  refine cl_viC C hl G (As := [.long r2, .int (rA st1 8 p2.toNatClampNeg), .int (rA st1 9 p2.toNatClampNeg), .ref (h 1)]) (rest := []) (kx_Wo_find l D k h r2 (rA st1 8 p2.toNatClampNeg) (rA st1 9 p2.toNatClampNeg) st1 _ _ hst5) gi_X6_205 (hwC_3 ..) rfl hd_X7_find ⟨Nat.le_of_ble_eq_true rfl, Nat.le_of_ble_eq_true rfl⟩ rfl rfl (Nat.le_of_ble_eq_true rfl) dX6_invokeEntry_31 ⟨Nat.zero_le _, Nat.zero_le _⟩ (fun H locs e0 G => ?_)
  refine lv_istore_n (lv' := [(3, .int r6), (0, .ref (h 7)), (1, .int p1), (2, .int p2)]) hx hb dX6_invokeEntry_34 rfl hl (by decide) rfl (fun ls hl => ?_)
  refine lv_iload_n hx hb dX6_invokeEntry_35 rfl (lv_at hl 0 rfl) ?_
  refine lv_if_ge (tgt := 51) hx hb dX6_invokeEntry_36 (by decide) (fun c7 => ?_) (fun c7 => ?_)
  · replace hf := if_p hf c7
    refine lv_aload_n hx hb dX6_invokeEntry_51 rfl (lv_at hl 1 rfl) ?_
    refine lv_iload_n hx hb dX6_invokeEntry_52 rfl (lv_at hl 2 rfl) ?_
    refine lv_iload_n hx hb dX6_invokeEntry_53 rfl (lv_at hl 0 rfl) ?_
    obtain ⟨st8, hst8, hf⟩ := bv_some hf
    refine cl_vvC C hl G (As := [.int p1, .int r6]) (rest := []) (kx_Sr_invoke l D k h N p1 r6 st5 _ hst8) gi_X6_157 (hwC_7 ..) rfl hd_X6_invoke ⟨Nat.le_of_ble_eq_true rfl, Nat.le_of_ble_eq_true rfl⟩ rfl rfl (Nat.le_of_ble_eq_true rfl) dX6_invokeEntry_54 ⟨Nat.zero_le _, Nat.zero_le _⟩ (fun H locs e0 G => ?_)
    exact rt_vC C G hf dX6_invokeEntry_57
  · replace hf := if_n hf c7
    refine lv_aload_n hx hb dX6_invokeEntry_39 rfl (lv_at hl 1 rfl) ?_
    refine fg_Sr_activity hx hb hts hown hK G (hts _ lk_X6_19) dX6_invokeEntry_40 ?_
    refine lv_iload_n hx hb dX6_invokeEntry_43 rfl (lv_at hl 0 rfl) ?_
    refine lv_ineg hx hb dX6_invokeEntry_44 ?_
    obtain ⟨st9, hst9, hf⟩ := bv_some hf
    refine cl_vvC C hl G (As := [.int (-r6)]) (rest := []) (kx_Ac_fail l D k h (-r6) st5 _ hst9) gi_X6_89 (hwC_4 ..) rfl hd_X0_fail ⟨Nat.le_of_ble_eq_true rfl, Nat.le_of_ble_eq_true rfl⟩ rfl rfl (Nat.le_of_ble_eq_true rfl) dX6_invokeEntry_45 ⟨Nat.zero_le _, Nat.zero_le _⟩ (fun H locs e0 G => ?_)
    refine lv_goto (tgt := 57) hx hb dX6_invokeEntry_48 (by decide) ?_
    exact rt_vC C G hf dX6_invokeEntry_57
def rm_Sr_control : Room := { frames := 4, cells := 0, slots := 0, locals := 94 }
set_option maxHeartbeats 4000000 in
set_option maxRecDepth 100000 in
theorem kx_Sr_control (l : Launch) (D : va_G) (k : Nat → Nat × ClassId) (h : Nat → Nat) (N : Nat) (p1 : Int32) (p2 : Int32) (p3 : Int32) (st : rs_T) (s' : rs_T) (hf : fx_Sr_control N p1 p2 p3 st = some s') : mVC l D k h yX6_control cX6_control 4 rm_Sr_control [.ref (h 7), .int p1, .int p2, .int p3] st s' := by
  refine mVC_of (by decide) ⟨rfl, rfl⟩ (Nat.le_of_ble_eq_true rfl) ?_
  intro p e s m below meth c ls C hl G
  obtain ⟨hx, hb, hml, hr, hown, hts, hK, hN, hlk⟩ := id C
  have hown : s.vm.findClass RX6 = some m.cls := hown
  have hl : lv_has ls 4 [(0, .ref (h 7)), (1, .int p1), (2, .int p2), (3, .int p3)] := hl
  unfold fx_Sr_control at hf
  refine lv_iload_n hx hb dX6_control_0 rfl (lv_at hl 2 rfl) ?_
  by_cases s1_0 : p2 ∈ ([0] : List Int32)
  · replace hf := if_p hf s1_0
    refine sw_tb (tgt := 88) (off := 87) hx hb dX6_control_1 (sw_tbt s1_0 (by decide)) (by decide) (by decide) ?_
    refine lv_aload_n hx hb dX6_control_88 rfl (lv_at hl 0 rfl) ?_
    refine fg_Sr_activity hx hb hts hown hK G (hts _ lk_X6_19) dX6_control_89 ?_
    refine lv_iconst (v := 1) hx hb dX6_control_92 (by decide) ?_
    obtain ⟨st2, hst2, hf⟩ := bv_some hf
    refine cl_vvC C hl G (As := [.int 1]) (rest := []) (kx_Ac_fail l D k h 1 st _ hst2) gi_X6_89 (hwC_4 ..) rfl hd_X0_fail ⟨Nat.le_of_ble_eq_true rfl, Nat.le_of_ble_eq_true rfl⟩ rfl rfl (Nat.le_of_ble_eq_true rfl) dX6_control_93 ⟨Nat.zero_le _, Nat.zero_le _⟩ (fun H locs e0 G => ?_)
    refine lv_goto (tgt := 204) hx hb dX6_control_96 (by decide) ?_
    exact rt_vC C G hf dX6_control_204
  replace hf := if_n hf s1_0
  by_cases s1_1 : p2 ∈ ([4] : List Int32)
  · replace hf := if_p hf s1_1
    refine sw_tb (tgt := 99) (off := 98) hx hb dX6_control_1 (sw_tbt s1_1 (by decide)) (by decide) (by decide) ?_
    refine lv_aload_n hx hb dX6_control_99 rfl (lv_at hl 0 rfl) ?_
    refine lv_iload_n hx hb dX6_control_100 rfl (lv_at hl 1 rfl) ?_
    refine lv_iload_n hx hb dX6_control_101 rfl (lv_at hl 3 rfl) ?_
    obtain ⟨st3, hst3, hf⟩ := bv_some hf
    refine cl_vvC C hl G (As := [.int p1, .int p3]) (rest := []) (kx_Sr_beginIf l D k h p1 p3 st _ hst3) gi_X6_143 (hwC_7 ..) rfl hd_X6_beginIf ⟨Nat.le_of_ble_eq_true rfl, Nat.le_of_ble_eq_true rfl⟩ rfl rfl (Nat.le_of_ble_eq_true rfl) dX6_control_102 ⟨Nat.zero_le _, Nat.zero_le _⟩ (fun H locs e0 G => ?_)
    refine lv_goto (tgt := 204) hx hb dX6_control_105 (by decide) ?_
    exact rt_vC C G hf dX6_control_204
  replace hf := if_n hf s1_1
  by_cases s1_2 : p2 ∈ ([12] : List Int32)
  · replace hf := if_p hf s1_2
    refine sw_tb (tgt := 108) (off := 107) hx hb dX6_control_1 (sw_tbt s1_2 (by decide)) (by decide) (by decide) ?_
    refine lv_aload_n hx hb dX6_control_108 rfl (lv_at hl 0 rfl) ?_
    refine lv_iload_n hx hb dX6_control_109 rfl (lv_at hl 1 rfl) ?_
    refine lv_iload_n hx hb dX6_control_110 rfl (lv_at hl 3 rfl) ?_
    obtain ⟨st4, hst4, hf⟩ := bv_some hf
    refine cl_vvC C hl G (As := [.int p1, .int p3]) (rest := []) (kx_Sr_branch l D k h N p1 p3 st _ hst4) gi_X6_146 (hwC_7 ..) rfl hd_X6_branch ⟨Nat.le_of_ble_eq_true rfl, Nat.le_of_ble_eq_true rfl⟩ rfl rfl (Nat.le_of_ble_eq_true rfl) dX6_control_111 ⟨Nat.zero_le _, Nat.zero_le _⟩ (fun H locs e0 G => ?_)
    refine lv_goto (tgt := 204) hx hb dX6_control_114 (by decide) ?_
    exact rt_vC C G hf dX6_control_204
  replace hf := if_n hf s1_2
  by_cases s1_3 : p2 ∈ ([13] : List Int32)
  · replace hf := if_p hf s1_3
    refine sw_tb (tgt := 117) (off := 116) hx hb dX6_control_1 (sw_tbt s1_3 (by decide)) (by decide) (by decide) ?_
    refine lv_aload_n hx hb dX6_control_117 rfl (lv_at hl 0 rfl) ?_
    refine lv_iload_n hx hb dX6_control_118 rfl (lv_at hl 1 rfl) ?_
    obtain ⟨r6, st5, hst5, hf⟩ := bn_some hf
    refine cl_vlC C hl G (As := [.int p1]) (rest := []) (kx_Sr_pop l D k h p1 st _ _ hst5) gi_X6_82 (hwC_7 ..) rfl hd_X6_pop ⟨Nat.le_of_ble_eq_true rfl, Nat.le_of_ble_eq_true rfl⟩ rfl rfl (Nat.le_of_ble_eq_true rfl) dX6_control_119 ⟨Nat.zero_le _, Nat.zero_le _⟩ (fun H locs e0 G => ?_)
    refine lv_l2i (v := r6.toInt32) hx hb dX6_control_122 rfl ?_
    refine lv_if_eq (tgt := 204) hx hb dX6_control_123 (by decide) (fun c7 => ?_) (fun c7 => ?_)
    · replace hf := if_p hf c7
      exact rt_vC C G hf dX6_control_204
    · replace hf := if_n hf c7
      refine lv_aload_n hx hb dX6_control_126 rfl (lv_at hl 0 rfl) ?_
      refine lv_iload_n hx hb dX6_control_127 rfl (lv_at hl 1 rfl) ?_
      refine lv_iload_n hx hb dX6_control_128 rfl (lv_at hl 3 rfl) ?_
      obtain ⟨st8, hst8, hf⟩ := bv_some hf
      refine cl_vvC C hl G (As := [.int p1, .int p3]) (rest := []) (kx_Sr_branch l D k h N p1 p3 st5 _ hst8) gi_X6_146 (hwC_7 ..) rfl hd_X6_branch ⟨Nat.le_of_ble_eq_true rfl, Nat.le_of_ble_eq_true rfl⟩ rfl rfl (Nat.le_of_ble_eq_true rfl) dX6_control_129 ⟨Nat.zero_le _, Nat.zero_le _⟩ (fun H locs e0 G => ?_)
      refine lv_goto (tgt := 204) hx hb dX6_control_132 (by decide) ?_
      exact rt_vC C G hf dX6_control_204
  replace hf := if_n hf s1_3
  by_cases s1_4 : p2 ∈ ([14] : List Int32)
  · replace hf := if_p hf s1_4
    refine sw_tb (tgt := 135) (off := 134) hx hb dX6_control_1 (sw_tbt s1_4 (by decide)) (by decide) (by decide) ?_
    refine lv_aload_n hx hb dX6_control_135 rfl (lv_at hl 0 rfl) ?_
    refine lv_iload_n hx hb dX6_control_136 rfl (lv_at hl 1 rfl) ?_
    refine lv_iload_n hx hb dX6_control_137 rfl (lv_at hl 3 rfl) ?_
    refine lv_iconst (v := 1) hx hb dX6_control_138 (by decide) ?_
    refine lv_iadd hx hb dX6_control_139 ?_
    refine lv_aload_n hx hb dX6_control_140 rfl (lv_at hl 0 rfl) ?_
    refine lv_iload_n hx hb dX6_control_141 rfl (lv_at hl 1 rfl) ?_
    obtain ⟨r10, st9, hst9, hf⟩ := bn_some hf
    refine cl_vlC C hl G (As := [.int p1]) (rest := [.int (p3 + 1), .int p1, .ref (h 7)]) (kx_Sr_pop l D k h p1 st _ _ hst9) gi_X6_82 (hwC_7 ..) rfl hd_X6_pop ⟨Nat.le_of_ble_eq_true rfl, Nat.le_of_ble_eq_true rfl⟩ rfl rfl (Nat.le_of_ble_eq_true rfl) dX6_control_142 ⟨Nat.zero_le _, Nat.zero_le _⟩ (fun H locs e0 G => ?_)
    refine lv_ldc2 (v := 4294967295) hx hb hown (hts _ lk_X6_149) dX6_control_145 ?_
    refine lv_land hx hb dX6_control_148 ?_
    refine lv_aload_n hx hb dX6_control_149 rfl (lv_at hl 0 rfl) ?_
    refine fg_Sr_program hx hb hts hown hK G (hts _ lk_X6_9) dX6_control_150 ?_
    refine fg_Pr_a hx hb hts hown hK G (hts _ lk_X6_64) dX6_control_153 ?_
    refine lv_iload_n hx hb dX6_control_156 rfl (lv_at hl 3 rfl) ?_
    obtain ⟨h_g11, hf⟩ := gd_some hf
    refine ra_IC (v := rA st9 8 p3.toNatClampNeg) hx hb hK G (waC_18 ..) (t0 := 9) rfl rfl h_g11 dX6_control_157 ?_
    refine lv_i2l (v := (rA st9 8 p3.toNatClampNeg).toInt64) hx hb dX6_control_158 rfl ?_
    refine cm_mmin_longC C hl lk_X6_151 (Nat.le_of_ble_eq_true rfl) (Nat.le_of_ble_eq_true rfl) dX6_control_159 ⟨Nat.zero_le _, Nat.zero_le _⟩ ?_
    refine lv_l2i (v := (if ((rA st9 8 p3.toNatClampNeg).toInt64) < (r10 &&& 4294967295) then ((rA st9 8 p3.toNatClampNeg).toInt64) else (r10 &&& 4294967295)).toInt32) hx hb dX6_control_162 rfl ?_
    refine lv_iadd hx hb dX6_control_163 ?_
    obtain ⟨st12, hst12, hf⟩ := bv_some hf
    refine cl_vvC C hl G (As := [.int p1, .int ((p3 + 1) + ((if ((rA st9 8 p3.toNatClampNeg).toInt64) < (r10 &&& 4294967295) then ((rA st9 8 p3.toNatClampNeg).toInt64) else (r10 &&& 4294967295)).toInt32))]) (rest := []) (kx_Sr_branch l D k h N p1 ((p3 + 1) + ((if ((rA st9 8 p3.toNatClampNeg).toInt64) < (r10 &&& 4294967295) then ((rA st9 8 p3.toNatClampNeg).toInt64) else (r10 &&& 4294967295)).toInt32)) st9 _ hst12) gi_X6_146 (hwC_7 ..) rfl hd_X6_branch ⟨Nat.le_of_ble_eq_true rfl, Nat.le_of_ble_eq_true rfl⟩ rfl rfl (Nat.le_of_ble_eq_true rfl) dX6_control_164 ⟨Nat.zero_le _, Nat.zero_le _⟩ (fun H locs e0 G => ?_)
    refine lv_goto (tgt := 204) hx hb dX6_control_167 (by decide) ?_
    exact rt_vC C G hf dX6_control_204
  replace hf := if_n hf s1_4
  by_cases s1_5 : p2 ∈ ([15] : List Int32)
  · replace hf := if_p hf s1_5
    refine sw_tb (tgt := 170) (off := 169) hx hb dX6_control_1 (sw_tbt s1_5 (by decide)) (by decide) (by decide) ?_
    refine lv_aload_n hx hb dX6_control_170 rfl (lv_at hl 0 rfl) ?_
    refine lv_iload_n hx hb dX6_control_171 rfl (lv_at hl 1 rfl) ?_
    obtain ⟨st13, hst13, hf⟩ := bv_some hf
    refine cl_vvC C hl G (As := [.int p1]) (rest := []) (kx_Sr_giveBack l D k h N p1 st _ hst13) gi_X6_48 (hwC_7 ..) rfl hd_X6_giveBack ⟨Nat.le_of_ble_eq_true rfl, Nat.le_of_ble_eq_true rfl⟩ rfl rfl (Nat.le_of_ble_eq_true rfl) dX6_control_172 ⟨Nat.zero_le _, Nat.zero_le _⟩ (fun H locs e0 G => ?_)
    refine lv_goto (tgt := 204) hx hb dX6_control_175 (by decide) ?_
    exact rt_vC C G hf dX6_control_204
  replace hf := if_n hf s1_5
  by_cases s1_6 : p2 ∈ ([16] : List Int32)
  · replace hf := if_p hf s1_6
    refine sw_tb (tgt := 178) (off := 177) hx hb dX6_control_1 (sw_tbt s1_6 (by decide)) (by decide) (by decide) ?_
    refine lv_aload_n hx hb dX6_control_178 rfl (lv_at hl 0 rfl) ?_
    refine lv_iload_n hx hb dX6_control_179 rfl (lv_at hl 1 rfl) ?_
    refine lv_aload_n hx hb dX6_control_180 rfl (lv_at hl 0 rfl) ?_
    refine fg_Sr_program hx hb hts hown hK G (hts _ lk_X6_9) dX6_control_181 ?_
    refine fg_Pr_a hx hb hts hown hK G (hts _ lk_X6_64) dX6_control_184 ?_
    refine lv_iload_n hx hb dX6_control_187 rfl (lv_at hl 3 rfl) ?_
    obtain ⟨h_g14, hf⟩ := gd_some hf
    refine ra_IC (v := rA st 8 p3.toNatClampNeg) hx hb hK G (waC_18 ..) (t0 := 9) rfl rfl h_g14 dX6_control_188 ?_
    obtain ⟨st15, hst15, hf⟩ := bv_some hf
    refine cl_vvC C hl G (As := [.int p1, .int (rA st 8 p3.toNatClampNeg)]) (rest := []) (kx_Sr_invoke l D k h N p1 (rA st 8 p3.toNatClampNeg) st _ hst15) gi_X6_157 (hwC_7 ..) rfl hd_X6_invoke ⟨Nat.le_of_ble_eq_true rfl, Nat.le_of_ble_eq_true rfl⟩ rfl rfl (Nat.le_of_ble_eq_true rfl) dX6_control_189 ⟨Nat.zero_le _, Nat.zero_le _⟩ (fun H locs e0 G => ?_)
    refine lv_goto (tgt := 204) hx hb dX6_control_192 (by decide) ?_
    exact rt_vC C G hf dX6_control_204
  replace hf := if_n hf s1_6
  by_cases s1_7 : p2 ∈ ([17] : List Int32)
  · replace hf := if_p hf s1_7
    refine sw_tb (tgt := 195) (off := 194) hx hb dX6_control_1 (sw_tbt s1_7 (by decide)) (by decide) (by decide) ?_
    refine lv_aload_n hx hb dX6_control_195 rfl (lv_at hl 0 rfl) ?_
    refine lv_iload_n hx hb dX6_control_196 rfl (lv_at hl 1 rfl) ?_
    refine lv_iload_n hx hb dX6_control_197 rfl (lv_at hl 3 rfl) ?_
    obtain ⟨st16, hst16, hf⟩ := bv_some hf
    refine cl_vvC C hl G (As := [.int p1, .int p3]) (rest := []) (kx_Sr_invokeEntry l D k h N p1 p3 st _ hst16) gi_X6_160 (hwC_7 ..) rfl hd_X6_invokeEntry ⟨Nat.le_of_ble_eq_true rfl, Nat.le_of_ble_eq_true rfl⟩ rfl rfl (Nat.le_of_ble_eq_true rfl) dX6_control_198 ⟨Nat.zero_le _, Nat.zero_le _⟩ (fun H locs e0 G => ?_)
    refine lv_goto (tgt := 204) hx hb dX6_control_201 (by decide) ?_
    exact rt_vC C G hf dX6_control_204
  replace hf := if_n hf s1_7
  refine sw_tb (tgt := 204) (off := 203) hx hb dX6_control_1 (sw_tbd (sw_cons s1_0 (sw_cons s1_1 (sw_cons s1_2 (sw_cons s1_3 (sw_cons s1_4 (sw_cons s1_5 (sw_cons s1_6 (sw_cons s1_7 sw_nil)))))))) (by decide)) (by decide) (by decide) ?_
  exact rt_vC C G hf dX6_control_204
def rm_Sr_push : Room := { frames := 1, cells := 0, slots := 0, locals := 23 }
set_option maxHeartbeats 4000000 in
set_option maxRecDepth 100000 in
theorem kx_Sr_push (l : Launch) (D : va_G) (k : Nat → Nat × ClassId) (h : Nat → Nat) (p1 : Int32) (p2 : Int64) (st : rs_T) (s' : rs_T) (hf : fx_Sr_push p1 p2 st = some s') : mVC l D k h yX6_push cX6_push 4 rm_Sr_push [.ref (h 7), .int p1, .long p2] st s' := by
  refine mVC_of (by decide) ⟨rfl, rfl⟩ (Nat.le_of_ble_eq_true rfl) ?_
  intro p e s m below meth c ls C hl G
  obtain ⟨hx, hb, hml, hr, hown, hts, hK, hN, hlk⟩ := id C
  have hown : s.vm.findClass RX6 = some m.cls := hown
  have hl : lv_has ls 4 [(0, .ref (h 7)), (1, .int p1), (2, .long p2)] := hl
  unfold fx_Sr_push at hf
  refine lv_aload_n hx hb dX6_push_0 rfl (lv_at hl 0 rfl) ?_
  refine fg_Sr_activity hx hb hts hown hK G (hts _ lk_X6_19) dX6_push_1 ?_
  refine lv_aload_n hx hb dX6_push_4 rfl (lv_at hl 0 rfl) ?_
  refine fg_Sr_activity hx hb hts hown hK G (hts _ lk_X6_19) dX6_push_5 ?_
  refine fg_Ac_top hx hb hts hown hK G (hts _ lk_X6_136) dX6_push_8 ?_
  refine lv_iload_n hx hb dX6_push_11 rfl (lv_at hl 1 rfl) ?_
  obtain ⟨h_g1, hf⟩ := gd_some hf
  refine ra_IC (v := rA st 20 p1.toNatClampNeg) hx hb hK G (waC_31 ..) (t0 := 22) rfl rfl h_g1 dX6_push_12 ?_
  refine lv_lload_n hx hb dX6_push_13 rfl (lv_at hl 2 rfl) ?_
  obtain ⟨st2, hst2, hf⟩ := bv_some hf
  refine cl_vvC C hl G (As := [.int (rA st 20 p1.toNatClampNeg), .long p2]) (rest := []) (kx_Ac_setValue l D k h (rA st 20 p1.toNatClampNeg) p2 st _ hst2) gi_X6_133 (hwC_4 ..) rfl hd_X0_setValue ⟨Nat.le_of_ble_eq_true rfl, Nat.le_of_ble_eq_true rfl⟩ rfl rfl (Nat.le_of_ble_eq_true rfl) dX6_push_14 ⟨Nat.zero_le _, Nat.zero_le _⟩ (fun H locs e0 G => ?_)
  refine lv_aload_n hx hb dX6_push_17 rfl (lv_at hl 0 rfl) ?_
  refine fg_Sr_activity hx hb hts hown hK G (hts _ lk_X6_19) dX6_push_18 ?_
  refine fg_Ac_top hx hb hts hown hK G (hts _ lk_X6_136) dX6_push_21 ?_
  refine lv_iload_n hx hb dX6_push_24 rfl (lv_at hl 1 rfl) ?_
  refine lv_dup2_11 hx hb dX6_push_25 rfl rfl ?_
  obtain ⟨h_g3, hf⟩ := gd_some hf
  refine ra_IC (v := rA st2 20 p1.toNatClampNeg) hx hb hK G (waC_31 ..) (t0 := 22) rfl rfl h_g3 dX6_push_26 ?_
  refine lv_iconst (v := 1) hx hb dX6_push_27 (by decide) ?_
  refine lv_iadd hx hb dX6_push_28 ?_
  obtain ⟨h_g4, hf⟩ := gd_some hf
  refine rw_IC hx hb hK G (waC_31 ..) (t0 := 22) rfl (wsC_31 ..) (zw_31 h_g4) rfl h_g4 dX6_push_29 (fun H locs G => ?_)
  exact rt_vC C G hf dX6_push_30
def rm_Sr_select : Room := { frames := 2, cells := 0, slots := 0, locals := 46 }
set_option maxHeartbeats 4000000 in
set_option maxRecDepth 100000 in
theorem kx_Sr_select_b40 {p : Program} {l : Launch} {e : Env} {s : State} {m : MethodId} {args : Array Value} {below : List Frame} {meth : Method} {c : Code} {D : va_G} {h : Nat → Nat} {E : Nat → Nat} {k : Nat → Nat × ClassId} (C : cxC D k p s m args meth c cX6_select 7 none RX6) (y0 : Int64) (y1 : Int32) (st : rs_T) (s' : rs_T) (hf : fx_Sr_select_b40 y0 y1 st = some s') : ∀ (H : Heap) (locs : List Loc) (ls : Array Slot), lv_has ls 7 [] → gdC D k h (vE E) (arC k h s.heap.size) s.heap H locs st → W p l e rm_Sr_select s m args below meth c H locs 0 0 (MQ below (qVC D k h E s.heap.size s') args s 0 0 (arC k h s.heap.size)) (F0 m 40 ls [.long y0, .int y1, .ref (h 7)]) := by
  obtain ⟨hx, hb, hml, hr, hown, hts, hK, hN, hlk⟩ := id C
  intro H locs ls hl G
  unfold fx_Sr_select_b40 at hf
  obtain ⟨st9, hst9, hf⟩ := bv_some hf
  refine cl_vvC C hl G (As := [.int y1, .long y0]) (rest := []) (kx_Sr_push l D k h y1 y0 st _ hst9) gi_X6_60 (hwC_7 ..) rfl hd_X6_push ⟨Nat.le_of_ble_eq_true rfl, Nat.le_of_ble_eq_true rfl⟩ rfl rfl (Nat.le_of_ble_eq_true rfl) dX6_select_40 ⟨Nat.zero_le _, Nat.zero_le _⟩ (fun H locs e0 G => ?_)
  exact rt_vC C G hf dX6_select_43
set_option maxHeartbeats 4000000 in
set_option maxRecDepth 100000 in
theorem kx_Sr_select_b14 {p : Program} {l : Launch} {e : Env} {s : State} {m : MethodId} {args : Array Value} {below : List Frame} {meth : Method} {c : Code} {D : va_G} {h : Nat → Nat} {E : Nat → Nat} {k : Nat → Nat × ClassId} (C : cxC D k p s m args meth c cX6_select 7 none RX6) (x1 : Int32) (y0 : Int32) (st : rs_T) (s' : rs_T) (hf : fx_Sr_select_b14 x1 y0 st = some s') : ∀ (H : Heap) (locs : List Loc) (ls : Array Slot), lv_has ls 7 [(0, .ref (h 7)), (1, .int x1)] → gdC D k h (vE E) (arC k h s.heap.size) s.heap H locs st → W p l e rm_Sr_select s m args below meth c H locs 0 0 (MQ below (qVC D k h E s.heap.size s') args s 0 0 (arC k h s.heap.size)) (F0 m 14 ls [.int y0]) := by
  obtain ⟨hx, hb, hml, hr, hown, hts, hK, hN, hlk⟩ := id C
  intro H locs ls hl G
  unfold fx_Sr_select_b14 at hf
  refine lv_istore_n (lv' := [(2, .int y0), (0, .ref (h 7)), (1, .int x1)]) hx hb dX6_select_14 rfl hl (by decide) rfl (fun ls hl => ?_)
  refine lv_aload_n hx hb dX6_select_15 rfl (lv_at hl 1 rfl) ?_
  refine lv_iload_n hx hb dX6_select_16 rfl (lv_at hl 2 rfl) ?_
  obtain ⟨r5, st4, hst4, hf⟩ := bn_some hf
  refine cl_vlC C hl G (As := [.int x1]) (rest := []) (kx_Sr_pop l D k h x1 st _ _ hst4) gi_X6_82 (hwC_7 ..) rfl hd_X6_pop ⟨Nat.le_of_ble_eq_true rfl, Nat.le_of_ble_eq_true rfl⟩ rfl rfl (Nat.le_of_ble_eq_true rfl) dX6_select_17 ⟨Nat.zero_le _, Nat.zero_le _⟩ (fun H locs e0 G => ?_)
  refine lv_lstore_n (lv' := [(3, .long r5), (2, .int y0), (0, .ref (h 7)), (1, .int x1)]) hx hb dX6_select_20 rfl hl (by decide) rfl (fun ls hl => ?_)
  refine lv_aload_n hx hb dX6_select_21 rfl (lv_at hl 2 rfl) ?_
  refine lv_iload_n hx hb dX6_select_22 rfl (lv_at hl 3 rfl) ?_
  obtain ⟨r7, st6, hst6, hf⟩ := bn_some hf
  refine cl_vlC C hl G (As := [.int x1]) (rest := []) (kx_Sr_pop l D k h x1 st4 _ _ hst6) gi_X6_82 (hwC_7 ..) rfl hd_X6_pop ⟨Nat.le_of_ble_eq_true rfl, Nat.le_of_ble_eq_true rfl⟩ rfl rfl (Nat.le_of_ble_eq_true rfl) dX6_select_23 ⟨Nat.zero_le _, Nat.zero_le _⟩ (fun H locs e0 G => ?_)
  refine lv_lstore (lv' := [(5, .long r7), (3, .long r5), (2, .int y0), (0, .ref (h 7)), (1, .int x1)]) hx hb dX6_select_26 hl (by decide) rfl (fun ls hl => ?_)
  refine lv_aload_n hx hb dX6_select_28 rfl (lv_at hl 3 rfl) ?_
  refine lv_iload_n hx hb dX6_select_29 rfl (lv_at hl 4 rfl) ?_
  refine lv_iload_n hx hb dX6_select_30 rfl (lv_at hl 2 rfl) ?_
  refine lv_if_eq (tgt := 39) hx hb dX6_select_31 (by decide) (fun c8 => ?_) (fun c8 => ?_)
  · replace hf := if_p hf c8
    refine lv_lload_n hx hb dX6_select_39 rfl (lv_at hl 1 rfl) ?_
    exact kx_Sr_select_b40 C r5 x1 st6 _ hf _ _ _ (lv_sub hl [] rfl) G
  · replace hf := if_n hf c8
    refine lv_lload hx hb dX6_select_34 (lv_at hl 0 rfl) ?_
    refine lv_goto (tgt := 40) hx hb dX6_select_36 (by decide) ?_
    exact kx_Sr_select_b40 C r7 x1 st6 _ hf _ _ _ (lv_sub hl [] rfl) G
set_option maxHeartbeats 4000000 in
set_option maxRecDepth 100000 in
theorem kx_Sr_select (l : Launch) (D : va_G) (k : Nat → Nat × ClassId) (h : Nat → Nat) (p1 : Int32) (st : rs_T) (s' : rs_T) (hf : fx_Sr_select p1 st = some s') : mVC l D k h yX6_select cX6_select 7 rm_Sr_select [.ref (h 7), .int p1] st s' := by
  refine mVC_of (by decide) ⟨rfl, rfl⟩ (Nat.le_of_ble_eq_true rfl) ?_
  intro p e s m below meth c ls C hl G
  obtain ⟨hx, hb, hml, hr, hown, hts, hK, hN, hlk⟩ := id C
  have hown : s.vm.findClass RX6 = some m.cls := hown
  have hl : lv_has ls 7 [(0, .ref (h 7)), (1, .int p1)] := hl
  unfold fx_Sr_select at hf
  refine lv_aload_n hx hb dX6_select_0 rfl (lv_at hl 0 rfl) ?_
  refine lv_iload_n hx hb dX6_select_1 rfl (lv_at hl 1 rfl) ?_
  obtain ⟨r2, st1, hst1, hf⟩ := bn_some hf
  refine cl_vlC C hl G (As := [.int p1]) (rest := []) (kx_Sr_pop l D k h p1 st _ _ hst1) gi_X6_82 (hwC_7 ..) rfl hd_X6_pop ⟨Nat.le_of_ble_eq_true rfl, Nat.le_of_ble_eq_true rfl⟩ rfl rfl (Nat.le_of_ble_eq_true rfl) dX6_select_2 ⟨Nat.zero_le _, Nat.zero_le _⟩ (fun H locs e0 G => ?_)
  refine lv_l2i (v := r2.toInt32) hx hb dX6_select_5 rfl ?_
  refine lv_if_eq (tgt := 13) hx hb dX6_select_6 (by decide) (fun c3 => ?_) (fun c3 => ?_)
  · replace hf := if_p hf c3
    refine lv_iconst (v := 0) hx hb dX6_select_13 (by decide) ?_
    exact kx_Sr_select_b14 C p1 0 st1 _ hf _ _ _ (lv_sub hl [0, 1] rfl) G
  · replace hf := if_n hf c3
    refine lv_iconst (v := 1) hx hb dX6_select_9 (by decide) ?_
    refine lv_goto (tgt := 14) hx hb dX6_select_10 (by decide) ?_
    exact kx_Sr_select_b14 C p1 1 st1 _ hf _ _ _ (lv_sub hl [0, 1] rfl) G
