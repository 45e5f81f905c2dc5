def rm_Co_push : Room := { frames := 0, cells := 0, slots := 0, locals := 0 }
set_option maxHeartbeats 4000000 in
set_option maxRecDepth 100000 in
theorem kx_Co_push (l : Launch) (D : va_G) (k : Nat → Nat × ClassId) (h : Nat → Nat) (p1 : Int32) (st : rs_T) (s' : rs_T) (hf : fx_Co_push p1 st = some s') : mVC l D k h yX1_push cX1_push 2 rm_Co_push [.ref (h 6), .int p1] st s' := by
  refine mVC_of (by decide) ⟨rfl, rfl⟩ (Nat.le_of_ble_eq_true rfl) ?_
  intro p e s m below meth c ls C hl G
  obtain ⟨hx, hb, hml, hr, hown, hts, hK, hN, hlk⟩ := id C
  have hown : s.vm.findClass RX1 = some m.cls := hown
  have hl : lv_has ls 2 [(0, .ref (h 6)), (1, .int p1)] := hl
  unfold fx_Co_push at hf
  refine lv_aload_n hx hb dX1_push_0 rfl (lv_at hl 0 rfl) ?_
  refine fg_Co_operands (v := rI st 23) hx hb hts hown hK G (hts _ lk_X1_25) rfl dX1_push_1 ?_
  refine lv_sipush (v := 220) hx hb dX1_push_4 (by decide) ?_
  refine lv_icmp_ge (tgt := 30) hx hb dX1_push_7 (by decide) (fun c1 => ?_) (fun c1 => ?_)
  · replace hf := if_p hf c1
    exact rt_vC C G hf dX1_push_30
  · replace hf := if_n hf c1
    refine lv_aload_n hx hb dX1_push_10 rfl (lv_at hl 0 rfl) ?_
    refine fg_Co_where hx hb hts hown hK G (hts _ lk_X1_9) dX1_push_11 ?_
    refine lv_aload_n hx hb dX1_push_14 rfl (lv_at hl 0 rfl) ?_
    refine fg_Co_operands (v := rI st 23) hx hb hts hown hK G (hts _ lk_X1_25) rfl dX1_push_15 ?_
    refine lv_iload_n hx hb dX1_push_18 rfl (lv_at hl 1 rfl) ?_
    obtain ⟨h_g2, hf⟩ := gd_some hf
    refine rw_IC hx hb hK G (waC_42 ..) (t0 := 33) rfl (wsC_42 ..) (zw_42 h_g2) rfl h_g2 dX1_push_19 (fun H locs G => ?_)
    refine lv_aload_n hx hb dX1_push_20 rfl (lv_at hl 0 rfl) ?_
    refine lv_dup hx hb dX1_push_21 rfl ?_
    refine fg_Co_operands (v := rI st 23) hx hb hts hown hK G (hts _ lk_X1_25) rfl dX1_push_22 ?_
    refine lv_iconst (v := 1) hx hb dX1_push_25 (by decide) ?_
    refine lv_iadd hx hb dX1_push_26 ?_
    refine fp_Co_operands hx hb hts hown hK G (hts _ lk_X1_25) dX1_push_27 (fun H locs G => ?_)
    exact rt_vC C G hf dX1_push_30
def rm_Co_setLocal : Room := { frames := 1, cells := 0, slots := 0, locals := 26 }
set_option maxHeartbeats 4000000 in
set_option maxRecDepth 100000 in
theorem kx_Co_setLocal_b54 {p : Program} {l : Launch} {e : Env} {s : State} {m : MethodId} {args : Array Value} {below : List Frame} {meth : Method} {c : Code} {D : va_G} {h : Nat → Nat} {E : Nat → Nat} {k : Nat → Nat × ClassId} (C : cxC D k p s m args meth c cX1_setLocal 4 none RX1) (N : Nat) (rec8 : Int32 → Int32 → Int32 → rs_T → Option (rs_T)) (ih8 : ∀ (x1 : Int32) (x2 : Int32) (x3 : Int32) (st : rs_T) (s' : rs_T), rec8 x1 x2 x3 st = some s' → ∀ (H : Heap) (locs : List Loc) (ls : Array Slot), lv_has ls 4 [(0, .ref (h 6)), (1, .int x1), (2, .int x2), (3, .int x3)] → gdC D k h (vE E) (arC k h s.heap.size) s.heap H locs st → W p l e rm_Co_setLocal s m args below meth c H locs 0 0 (MQ below (qVC D k h E s.heap.size s') args s 0 0 (arC k h s.heap.size)) (F0 m 8 ls [])) (x1 : Int32) (x2 : Int32) (x3 : Int32) (st : rs_T) (s' : rs_T) (hf : fx_Co_setLocal_b54 N rec8 x1 x2 x3 st = some s') : ∀ (H : Heap) (locs : List Loc) (ls : Array Slot), lv_has ls 4 [(0, .ref (h 6)), (1, .int x1), (2, .int x2), (3, .int x3)] → gdC D k h (vE E) (arC k h s.heap.size) s.heap H locs st → W p l e rm_Co_setLocal s m args below meth c H locs 0 0 (MQ below (qVC D k h E s.heap.size s') args s 0 0 (arC k h s.heap.size)) (F0 m 54 ls []) := by
  obtain ⟨hx, hb, hml, hr, hown, hts, hK, hN, hlk⟩ := id C
  intro H locs ls hl G
  unfold fx_Co_setLocal_b54 at hf
  obtain ⟨v6, e_v6⟩ : ∃ z : Int32, z = x3 + 1 := ⟨_, rfl⟩
  replace hf := bd_some hf v6 e_v6
  refine lv_iinc (v := v6) (lv' := [(3, .int v6), (0, .ref (h 6)), (1, .int x1), (2, .int x2)]) hx hb dX1_setLocal_54 hl (k := 3) rfl (by rw [e_v6]; rfl) (by decide) rfl (fun ls hl => ?_)
  refine lv_goto (tgt := 8) hx hb dX1_setLocal_57 (by decide) ?_
  exact ih8 x1 x2 v6 st _ hf _ _ _ (lv_sub hl [1, 2, 3, 0] rfl) G
set_option maxHeartbeats 4000000 in
set_option maxRecDepth 100000 in
theorem kx_Co_setLocal_b8 {p : Program} {l : Launch} {e : Env} {s : State} {m : MethodId} {args : Array Value} {below : List Frame} {meth : Method} {c : Code} {D : va_G} {h : Nat → Nat} {E : Nat → Nat} {k : Nat → Nat × ClassId} (C : cxC D k p s m args meth c cX1_setLocal 4 none RX1) (N : Nat) : ∀ (n : Nat) (x1 : Int32) (x2 : Int32) (x3 : Int32) (st : rs_T) (s' : rs_T), fx_Co_setLocal_b8 N n x1 x2 x3 st = some s' → ∀ (H : Heap) (locs : List Loc) (ls : Array Slot), lv_has ls 4 [(0, .ref (h 6)), (1, .int x1), (2, .int x2), (3, .int x3)] → gdC D k h (vE E) (arC k h s.heap.size) s.heap H locs st → W p l e rm_Co_setLocal s m args below meth c H locs 0 0 (MQ below (qVC D k h E s.heap.size s') args s 0 0 (arC k h s.heap.size)) (F0 m 8 ls []) := by
  obtain ⟨hx, hb, hml, hr, hown, hts, hK, hN, hlk⟩ := id C
  intro n
  induction n with
  | zero => intro x1 x2 x3 st s' hf; cases hf
  | succ n ih =>
    intro x1 x2 x3 st s' hf H locs ls hl G
    rw [fx_Co_setLocal_b8] at hf
    refine lv_iload_n hx hb dX1_setLocal_8 rfl (lv_at hl 3 rfl) ?_
    refine lv_aload_n hx hb dX1_setLocal_9 rfl (lv_at hl 0 rfl) ?_
    refine fg_Co_operands (v := rI st 23) hx hb hts hown hK G (hts _ lk_X1_25) rfl dX1_setLocal_10 ?_
    refine lv_icmp_ge (tgt := 60) hx hb dX1_setLocal_13 (by decide) (fun c2 => ?_) (fun c2 => ?_)
    · replace hf := if_p hf c2
      refine lv_aload_n hx hb dX1_setLocal_60 rfl (lv_at hl 0 rfl) ?_
      refine lv_sipush (v := 200) hx hb dX1_setLocal_61 (by decide) ?_
      refine lv_iload_n hx hb dX1_setLocal_64 rfl (lv_at hl 1 rfl) ?_
      refine lv_iload_n hx hb dX1_setLocal_65 rfl (lv_at hl 2 rfl) ?_
      refine lv_iconst (v := 0) hx hb dX1_setLocal_66 (by decide) ?_
      refine lv_iconst (v := 0) hx hb dX1_setLocal_67 (by decide) ?_
      obtain ⟨st3, hst3, hf⟩ := bv_some hf
      refine cl_vvC C hl G (As := [.int 200, .int x1, .int x2, .int 0, .int 0]) (rest := []) (kx_Co_emit l D k h 200 x1 x2 0 0 st _ hst3) gi_X1_129 (hwC_6 ..) rfl hd_X1_emit ⟨Nat.le_of_ble_eq_true rfl, Nat.le_of_ble_eq_true rfl⟩ rfl rfl (Nat.le_of_ble_eq_true rfl) dX1_setLocal_68 ⟨Nat.zero_le _, Nat.zero_le _⟩ (fun H locs e0 G => ?_)
      exact rt_vC C G hf dX1_setLocal_71
    · replace hf := if_n hf c2
      refine lv_aload_n hx hb dX1_setLocal_16 rfl (lv_at hl 0 rfl) ?_
      refine fg_Co_where hx hb hts hown hK G (hts _ lk_X1_9) dX1_setLocal_17 ?_
      refine lv_iload_n hx hb dX1_setLocal_20 rfl (lv_at hl 3 rfl) ?_
      obtain ⟨h_g4, hf⟩ := gd_some hf
      refine ra_IC (v := rA st 29 x3.toNatClampNeg) hx hb hK G (waC_42 ..) (t0 := 33) rfl rfl h_g4 dX1_setLocal_21 ?_
      refine lv_iload_n hx hb dX1_setLocal_22 rfl (lv_at hl 1 rfl) ?_
      refine lv_icmp_ne (tgt := 54) hx hb dX1_setLocal_23 (by decide) (fun c5 => ?_) (fun c5 => ?_)
      · replace hf := if_n hf c5
        exact kx_Co_setLocal_b54 C N (fx_Co_setLocal_b8 N n) ih x1 x2 x3 st _ hf _ _ _ (lv_sub hl [0, 1, 2, 3] rfl) G
      · replace hf := if_p hf c5
        refine lv_aload_n hx hb dX1_setLocal_26 rfl (lv_at hl 0 rfl) ?_
        refine lv_sipush (v := 200) hx hb dX1_setLocal_27 (by decide) ?_
        refine lv_aload_n hx hb dX1_setLocal_30 rfl (lv_at hl 0 rfl) ?_
        refine fg_Co_slots (v := rI st 22) hx hb hts hown hK G (hts _ lk_X1_22) rfl dX1_setLocal_31 ?_
        refine lv_iload_n hx hb dX1_setLocal_34 rfl (lv_at hl 3 rfl) ?_
        refine lv_iadd hx hb dX1_setLocal_35 ?_
        refine lv_iload_n hx hb dX1_setLocal_36 rfl (lv_at hl 1 rfl) ?_
        refine lv_iconst (v := 0) hx hb dX1_setLocal_37 (by decide) ?_
        refine lv_iconst (v := 0) hx hb dX1_setLocal_38 (by decide) ?_
        obtain ⟨st7, hst7, hf⟩ := bv_some hf
        refine cl_vvC C hl G (As := [.int 200, .int ((rI st 22) + x3), .int x1, .int 0, .int 0]) (rest := []) (kx_Co_emit l D k h 200 ((rI st 22) + x3) x1 0 0 st _ hst7) gi_X1_129 (hwC_6 ..) rfl hd_X1_emit ⟨Nat.le_of_ble_eq_true rfl, Nat.le_of_ble_eq_true rfl⟩ rfl rfl (Nat.le_of_ble_eq_true rfl) dX1_setLocal_39 ⟨Nat.zero_le _, Nat.zero_le _⟩ (fun H locs e0 G => ?_)
        refine lv_aload_n hx hb dX1_setLocal_42 rfl (lv_at hl 0 rfl) ?_
        refine fg_Co_where hx hb hts hown hK G (hts _ lk_X1_9) dX1_setLocal_43 ?_
        refine lv_iload_n hx hb dX1_setLocal_46 rfl (lv_at hl 3 rfl) ?_
        refine lv_aload_n hx hb dX1_setLocal_47 rfl (lv_at hl 0 rfl) ?_
        refine fg_Co_slots (v := rI st7 22) hx hb hts hown hK G (hts _ lk_X1_22) rfl dX1_setLocal_48 ?_
        refine lv_iload_n hx hb dX1_setLocal_51 rfl (lv_at hl 3 rfl) ?_
        refine lv_iadd hx hb dX1_setLocal_52 ?_
        obtain ⟨h_g8, hf⟩ := gd_some hf
        refine rw_IC hx hb hK G (waC_42 ..) (t0 := 33) rfl (wsC_42 ..) (zw_42 h_g8) rfl h_g8 dX1_setLocal_53 (fun H locs G => ?_)
        exact kx_Co_setLocal_b54 C N (fx_Co_setLocal_b8 N n) ih x1 x2 x3 (wA st7 29 x3.toNatClampNeg ((rI st7 22) + x3)) _ hf _ _ _ (lv_sub hl [0, 1, 2, 3] rfl) G
set_option maxHeartbeats 4000000 in
set_option maxRecDepth 100000 in
theorem kx_Co_setLocal (l : Launch) (D : va_G) (k : Nat → Nat × ClassId) (h : Nat → Nat) (N : Nat) (p1 : Int32) (p2 : Int32) (st : rs_T) (s' : rs_T) (hf : fx_Co_setLocal N p1 p2 st = some s') : mVC l D k h yX1_setLocal cX1_setLocal 4 rm_Co_setLocal [.ref (h 6), .int p1, .int p2] st s' := by
  refine mVC_of (by decide) ⟨rfl, rfl⟩ (Nat.le_of_ble_eq_true rfl) ?_
  intro p e s m below meth c ls C hl G
  obtain ⟨hx, hb, hml, hr, hown, hts, hK, hN, hlk⟩ := id C
  have hown : s.vm.findClass RX1 = some m.cls := hown
  have hl : lv_has ls 4 [(0, .ref (h 6)), (1, .int p1), (2, .int p2)] := hl
  unfold fx_Co_setLocal at hf
  refine lv_iload_n hx hb dX1_setLocal_0 rfl (lv_at hl 2 rfl) ?_
  refine lv_iload_n hx hb dX1_setLocal_1 rfl (lv_at hl 1 rfl) ?_
  refine lv_icmp_ne (tgt := 6) hx hb dX1_setLocal_2 (by decide) (fun c1 => ?_) (fun c1 => ?_)
  · replace hf := if_n hf c1
    refine lv_iconst (v := 0) hx hb dX1_setLocal_6 (by decide) ?_
    refine lv_istore_n (lv' := [(3, .int 0), (0, .ref (h 6)), (1, .int p1), (2, .int p2)]) hx hb dX1_setLocal_7 rfl hl (by decide) rfl (fun ls hl => ?_)
    exact kx_Co_setLocal_b8 C N N p1 p2 0 st _ hf _ _ _ (lv_sub hl [1, 2, 3, 0] rfl) G
  · replace hf := if_p hf c1
    exact rt_vC C G hf dX1_setLocal_5
def rm_Co_useVariable : Room := { frames := 2, cells := 0, slots := 0, locals := 49 }
set_option maxHeartbeats 4000000 in
set_option maxRecDepth 100000 in
theorem kx_Co_useVariable (l : Launch) (D : va_G) (k : Nat → Nat × ClassId) (h : Nat → Nat) (N : Nat) (p1 : Int32) (p2 : Int32) (st : rs_T) (s' : rs_T) (hf : fx_Co_useVariable N p1 p2 st = some s') : mVC l D k h yX1_useVariable cX1_useVariable 4 rm_Co_useVariable [.ref (h 6), .int p1, .int p2] st s' := by
  refine mVC_of (by decide) ⟨rfl, rfl⟩ (Nat.le_of_ble_eq_true rfl) ?_
  intro p e s m below meth c ls C hl G
  obtain ⟨hx, hb, hml, hr, hown, hts, hK, hN, hlk⟩ := id C
  have hown : s.vm.findClass RX1 = some m.cls := hown
  have hl : lv_has ls 4 [(0, .ref (h 6)), (1, .int p1), (2, .int p2)] := hl
  unfold fx_Co_useVariable at hf
  refine lv_iload_n hx hb dX1_useVariable_0 rfl (lv_at hl 1 rfl) ?_
  by_cases s1_0 : p1 ∈ ([26] : List Int32)
  · replace hf := if_p hf s1_0
    refine sw_tb (tgt := 60) (off := 59) hx hb dX1_useVariable_1 (sw_tbt s1_0 (by decide)) (by decide) (by decide) ?_
    refine lv_aload_n hx hb dX1_useVariable_60 rfl (lv_at hl 0 rfl) ?_
    obtain ⟨r3, st2, hst2, hf⟩ := bn_some hf
    refine cl_viC C hl G (As := []) (rest := []) (kx_Co_pop l D k h st _ _ hst2) gi_X1_116 (hwC_6 ..) rfl hd_X1_pop ⟨Nat.le_of_ble_eq_true rfl, Nat.le_of_ble_eq_true rfl⟩ rfl rfl (Nat.le_of_ble_eq_true rfl) dX1_useVariable_61 ⟨Nat.zero_le _, Nat.zero_le _⟩ (fun H locs e0 G => ?_)
    refine lv_pop hx hb dX1_useVariable_64 rfl ?_
    refine lv_goto (tgt := 154) hx hb dX1_useVariable_65 (by decide) ?_
    exact rt_vC C G hf dX1_useVariable_154
  replace hf := if_n hf s1_0
  by_cases s1_1 : p1 ∈ ([27] : List Int32)
  · replace hf := if_p hf s1_1
    refine sw_tb (tgt := 68) (off := 67) hx hb dX1_useVariable_1 (sw_tbt s1_1 (by decide)) (by decide) (by decide) ?_
    refine lv_aload_n hx hb dX1_useVariable_68 rfl (lv_at hl 0 rfl) ?_
    obtain ⟨st4, hst4, hf⟩ := bv_some hf
    refine cl_vvC C hl G (As := []) (rest := []) (kx_Co_select l D k h N st _ hst4) gi_X1_153 (hwC_6 ..) rfl hd_X1_select ⟨Nat.le_of_ble_eq_true rfl, Nat.le_of_ble_eq_true rfl⟩ rfl rfl (Nat.le_of_ble_eq_true rfl) dX1_useVariable_69 ⟨Nat.zero_le _, Nat.zero_le _⟩ (fun H locs e0 G => ?_)
    refine lv_goto (tgt := 154) hx hb dX1_useVariable_72 (by decide) ?_
    exact rt_vC C G hf dX1_useVariable_154
  replace hf := if_n hf s1_1
  by_cases s1_2 : p1 ∈ ([32] : List Int32)
  · replace hf := if_p hf s1_2
    refine sw_tb (tgt := 75) (off := 74) hx hb dX1_useVariable_1 (sw_tbt s1_2 (by decide)) (by decide) (by decide) ?_
    refine lv_aload_n hx hb dX1_useVariable_75 rfl (lv_at hl 0 rfl) ?_
    refine lv_iload_n hx hb dX1_useVariable_76 rfl (lv_at hl 2 rfl) ?_
    obtain ⟨st5, hst5, hf⟩ := bv_some hf
    refine cl_vvC C hl G (As := [.int p2]) (rest := []) (kx_Co_push l D k h p2 st _ hst5) gi_X1_92 (hwC_6 ..) rfl hd_X1_push ⟨Nat.le_of_ble_eq_true rfl, Nat.le_of_ble_eq_true rfl⟩ rfl rfl (Nat.le_of_ble_eq_true rfl) dX1_useVariable_77 ⟨Nat.zero_le _, Nat.zero_le _⟩ (fun H locs e0 G => ?_)
    refine lv_goto (tgt := 154) hx hb dX1_useVariable_80 (by decide) ?_
    exact rt_vC C G hf dX1_useVariable_154
  replace hf := if_n hf s1_2
  by_cases s1_3 : p1 ∈ ([33] : List Int32)
  · replace hf := if_p hf s1_3
    refine sw_tb (tgt := 83) (off := 82) hx hb dX1_useVariable_1 (sw_tbt s1_3 (by decide)) (by decide) (by decide) ?_
    refine lv_aload_n hx hb dX1_useVariable_83 rfl (lv_at hl 0 rfl) ?_
    refine lv_iload_n hx hb dX1_useVariable_84 rfl (lv_at hl 2 rfl) ?_
    refine lv_aload_n hx hb dX1_useVariable_85 rfl (lv_at hl 0 rfl) ?_
    obtain ⟨r7, st6, hst6, hf⟩ := bn_some hf
    refine cl_viC C hl G (As := []) (rest := [.int p2, .ref (h 6)]) (kx_Co_pop l D k h st _ _ hst6) gi_X1_116 (hwC_6 ..) rfl hd_X1_pop ⟨Nat.le_of_ble_eq_true rfl, Nat.le_of_ble_eq_true rfl⟩ rfl rfl (Nat.le_of_ble_eq_true rfl) dX1_useVariable_86 ⟨Nat.zero_le _, Nat.zero_le _⟩ (fun H locs e0 G => ?_)
    obtain ⟨st8, hst8, hf⟩ := bv_some hf
    refine cl_vvC C hl G (As := [.int p2, .int r7]) (rest := []) (kx_Co_setLocal l D k h N p2 r7 st6 _ hst8) gi_X1_156 (hwC_6 ..) rfl hd_X1_setLocal ⟨Nat.le_of_ble_eq_true rfl, Nat.le_of_ble_eq_true rfl⟩ rfl rfl (Nat.le_of_ble_eq_true rfl) dX1_useVariable_89 ⟨Nat.zero_le _, Nat.zero_le _⟩ (fun H locs e0 G => ?_)
    refine lv_goto (tgt := 154) hx hb dX1_useVariable_92 (by decide) ?_
    exact rt_vC C G hf dX1_useVariable_154
  replace hf := if_n hf s1_3
  by_cases s1_4 : p1 ∈ ([34] : List Int32)
  · replace hf := if_p hf s1_4
    refine sw_tb (tgt := 95) (off := 94) hx hb dX1_useVariable_1 (sw_tbt s1_4 (by decide)) (by decide) (by decide) ?_
    refine lv_aload_n hx hb dX1_useVariable_95 rfl (lv_at hl 0 rfl) ?_
    obtain ⟨r10, st9, hst9, hf⟩ := bn_some hf
    refine cl_viC C hl G (As := []) (rest := []) (kx_Co_pop l D k h st _ _ hst9) gi_X1_116 (hwC_6 ..) rfl hd_X1_pop ⟨Nat.le_of_ble_eq_true rfl, Nat.le_of_ble_eq_true rfl⟩ rfl rfl (Nat.le_of_ble_eq_true rfl) dX1_useVariable_96 ⟨Nat.zero_le _, Nat.zero_le _⟩ (fun H locs e0 G => ?_)
    refine lv_istore_n (lv' := [(3, .int r10), (0, .ref (h 6)), (1, .int p1), (2, .int p2)]) hx hb dX1_useVariable_99 rfl hl (by decide) rfl (fun ls hl => ?_)
    refine lv_aload_n hx hb dX1_useVariable_100 rfl (lv_at hl 1 rfl) ?_
    refine lv_iload_n hx hb dX1_useVariable_101 rfl (lv_at hl 3 rfl) ?_
    refine lv_iload_n hx hb dX1_useVariable_102 rfl (lv_at hl 0 rfl) ?_
    obtain ⟨st11, hst11, hf⟩ := bv_some hf
    refine cl_vvC C hl G (As := [.int p2, .int r10]) (rest := []) (kx_Co_setLocal l D k h N p2 r10 st9 _ hst11) gi_X1_156 (hwC_6 ..) rfl hd_X1_setLocal ⟨Nat.le_of_ble_eq_true rfl, Nat.le_of_ble_eq_true rfl⟩ rfl rfl (Nat.le_of_ble_eq_true rfl) dX1_useVariable_103 ⟨Nat.zero_le _, Nat.zero_le _⟩ (fun H locs e0 G => ?_)
    refine lv_aload_n hx hb dX1_useVariable_106 rfl (lv_at hl 1 rfl) ?_
    refine lv_iload_n hx hb dX1_useVariable_107 rfl (lv_at hl 0 rfl) ?_
    obtain ⟨st12, hst12, hf⟩ := bv_some hf
    refine cl_vvC C hl G (As := [.int r10]) (rest := []) (kx_Co_push l D k h r10 st11 _ hst12) gi_X1_92 (hwC_6 ..) rfl hd_X1_push ⟨Nat.le_of_ble_eq_true rfl, Nat.le_of_ble_eq_true rfl⟩ rfl rfl (Nat.le_of_ble_eq_true rfl) dX1_useVariable_108 ⟨Nat.zero_le _, Nat.zero_le _⟩ (fun H locs e0 G => ?_)
    refine lv_goto (tgt := 154) hx hb dX1_useVariable_111 (by decide) ?_
    exact rt_vC C G hf dX1_useVariable_154
  replace hf := if_n hf s1_4
  by_cases s1_5 : p1 ∈ ([35] : List Int32)
  · replace hf := if_p hf s1_5
    refine sw_tb (tgt := 114) (off := 113) hx hb dX1_useVariable_1 (sw_tbt s1_5 (by decide)) (by decide) (by decide) ?_
    refine lv_aload_n hx hb dX1_useVariable_114 rfl (lv_at hl 0 rfl) ?_
    refine lv_iload_n hx hb dX1_useVariable_115 rfl (lv_at hl 1 rfl) ?_
    refine lv_aload_n hx hb dX1_useVariable_116 rfl (lv_at hl 0 rfl) ?_
    refine fg_Co_slots (v := rI st 22) hx hb hts hown hK G (hts _ lk_X1_22) rfl dX1_useVariable_117 ?_
    refine lv_aload_n hx hb dX1_useVariable_120 rfl (lv_at hl 0 rfl) ?_
    refine fg_Co_operands (v := rI st 23) hx hb hts hown hK G (hts _ lk_X1_25) rfl dX1_useVariable_121 ?_
    refine lv_iadd hx hb dX1_useVariable_124 ?_
    refine lv_iconst (v := 0) hx hb dX1_useVariable_125 (by decide) ?_
    refine lv_iconst (v := 0) hx hb dX1_useVariable_126 (by decide) ?_
    refine lv_iload_n hx hb dX1_useVariable_127 rfl (lv_at hl 2 rfl) ?_
    obtain ⟨st13, hst13, hf⟩ := bv_some hf
    refine cl_vvC C hl G (As := [.int p1, .int ((rI st 22) + (rI st 23)), .int 0, .int 0, .int p2]) (rest := []) (kx_Co_emit l D k h p1 ((rI st 22) + (rI st 23)) 0 0 p2 st _ hst13) gi_X1_129 (hwC_6 ..) rfl hd_X1_emit ⟨Nat.le_of_ble_eq_true rfl, Nat.le_of_ble_eq_true rfl⟩ rfl rfl (Nat.le_of_ble_eq_true rfl) dX1_useVariable_128 ⟨Nat.zero_le _, Nat.zero_le _⟩ (fun H locs e0 G => ?_)
    refine lv_aload_n hx hb dX1_useVariable_131 rfl (lv_at hl 0 rfl) ?_
    refine lv_iconst (v := 1) hx hb dX1_useVariable_132 (by decide) ?_
    obtain ⟨st14, hst14, hf⟩ := bv_some hf
    refine cl_vvC C hl G (As := [.int 1]) (rest := []) (kx_Co_putSlots l D k h N 1 st13 _ hst14) gi_X1_145 (hwC_6 ..) rfl hd_X1_putSlots ⟨Nat.le_of_ble_eq_true rfl, Nat.le_of_ble_eq_true rfl⟩ rfl rfl (Nat.le_of_ble_eq_true rfl) dX1_useVariable_133 ⟨Nat.zero_le _, Nat.zero_le _⟩ (fun H locs e0 G => ?_)
    refine lv_goto (tgt := 154) hx hb dX1_useVariable_136 (by decide) ?_
    exact rt_vC C G hf dX1_useVariable_154
  replace hf := if_n hf s1_5
  by_cases s1_6 : p1 ∈ ([36] : List Int32)
  · replace hf := if_p hf s1_6
    refine sw_tb (tgt := 139) (off := 138) hx hb dX1_useVariable_1 (sw_tbt s1_6 (by decide)) (by decide) (by decide) ?_
    refine lv_aload_n hx hb dX1_useVariable_139 rfl (lv_at hl 0 rfl) ?_
    refine lv_iload_n hx hb dX1_useVariable_140 rfl (lv_at hl 1 rfl) ?_
    refine lv_iconst (v := 0) hx hb dX1_useVariable_141 (by decide) ?_
    refine lv_aload_n hx hb dX1_useVariable_142 rfl (lv_at hl 0 rfl) ?_
    obtain ⟨r16, st15, hst15, hf⟩ := bn_some hf
    refine cl_viC C hl G (As := []) (rest := [.int 0, .int p1, .ref (h 6)]) (kx_Co_pop l D k h st _ _ hst15) gi_X1_116 (hwC_6 ..) rfl hd_X1_pop ⟨Nat.le_of_ble_eq_true rfl, Nat.le_of_ble_eq_true rfl⟩ rfl rfl (Nat.le_of_ble_eq_true rfl) dX1_useVariable_143 ⟨Nat.zero_le _, Nat.zero_le _⟩ (fun H locs e0 G => ?_)
    refine lv_iconst (v := 0) hx hb dX1_useVariable_146 (by decide) ?_
    refine lv_iload_n hx hb dX1_useVariable_147 rfl (lv_at hl 2 rfl) ?_
    obtain ⟨st17, hst17, hf⟩ := bv_some hf
    refine cl_vvC C hl G (As := [.int p1, .int 0, .int r16, .int 0, .int p2]) (rest := []) (kx_Co_emit l D k h p1 0 r16 0 p2 st15 _ hst17) gi_X1_129 (hwC_6 ..) rfl hd_X1_emit ⟨Nat.le_of_ble_eq_true rfl, Nat.le_of_ble_eq_true rfl⟩ rfl rfl (Nat.le_of_ble_eq_true rfl) dX1_useVariable_148 ⟨Nat.zero_le _, Nat.zero_le _⟩ (fun H locs e0 G => ?_)
    refine lv_goto (tgt := 154) hx hb dX1_useVariable_151 (by decide) ?_
    exact rt_vC C G hf dX1_useVariable_154
  replace hf := if_n hf s1_6
  refine sw_tb (tgt := 154) (off := 153) hx hb dX1_useVariable_1 (sw_tbd (sw_cons s1_0 (sw_cons s1_1 (sw_cons s1_2 (sw_cons s1_3 (sw_cons s1_4 (sw_cons s1_5 (sw_cons s1_6 sw_nil))))))) (by decide)) (by decide) (by decide) ?_
  exact rt_vC C G hf dX1_useVariable_154
def rm_Co_useMemory : Room := { frames := 1, cells := 0, slots := 0, locals := 26 }
set_option maxHeartbeats 4000000 in
set_option maxRecDepth 100000 in
theorem kx_Co_useMemory_b48 {p : Program} {l : Launch} {e : Env} {s : State} {m : MethodId} {args : Array Value} {below : List Frame} {meth : Method} {c : Code} {D : va_G} {h : Nat → Nat} {E : Nat → Nat} {k : Nat → Nat × ClassId} (C : cxC D k p s m args meth c cX1_useMemory 5 none RX1) (N : Nat) (x1 : Int32) (x2 : Int32) (y0 : Int32) (st : rs_T) (s' : rs_T) (hf : fx_Co_useMemory_b48 N x1 x2 y0 st = some s') : ∀ (H : Heap) (locs : List Loc) (ls : Array Slot), lv_has ls 5 [(0, .ref (h 6)), (1, .int x1), (2, .int x2)] → gdC D k h (vE E) (arC k h s.heap.size) s.heap H locs st → W p l e rm_Co_useMemory s m args below meth c H locs 0 0 (MQ below (qVC D k h E s.heap.size s') args s 0 0 (arC k h s.heap.size)) (F0 m 48 ls [.int y0]) := by
  obtain ⟨hx, hb, hml, hr, hown, hts, hK, hN, hlk⟩ := id C
  intro H locs ls hl G
  unfold fx_Co_useMemory_b48 at hf
  refine lv_istore_n (lv' := [(3, .int y0), (0, .ref (h 6)), (1, .int x1), (2, .int x2)]) hx hb dX1_useMemory_48 rfl hl (by decide) rfl (fun ls hl => ?_)
  refine lv_aload_n hx hb dX1_useMemory_49 rfl (lv_at hl 1 rfl) ?_
  refine lv_iload_n hx hb dX1_useMemory_50 rfl (lv_at hl 2 rfl) ?_
  refine lv_aload_n hx hb dX1_useMemory_51 rfl (lv_at hl 1 rfl) ?_
  refine fg_Co_slots (v := rI st 22) hx hb hts hown hK G (hts _ lk_X1_22) rfl dX1_useMemory_52 ?_
  refine lv_aload_n hx hb dX1_useMemory_55 rfl (lv_at hl 1 rfl) ?_
  refine fg_Co_operands (v := rI st 23) hx hb hts hown hK G (hts _ lk_X1_25) rfl dX1_useMemory_56 ?_
  refine lv_iadd hx hb dX1_useMemory_59 ?_
  refine lv_iload_n hx hb dX1_useMemory_60 rfl (lv_at hl 0 rfl) ?_
  refine lv_iconst (v := 0) hx hb dX1_useMemory_61 (by decide) ?_
  refine lv_iload_n hx hb dX1_useMemory_62 rfl (lv_at hl 3 rfl) ?_
  obtain ⟨st5, hst5, hf⟩ := bv_some hf
  refine cl_vvC C hl G (As := [.int x1, .int ((rI st 22) + (rI st 23)), .int y0, .int 0, .int x2]) (rest := []) (kx_Co_emit l D k h x1 ((rI st 22) + (rI st 23)) y0 0 x2 st _ hst5) gi_X1_129 (hwC_6 ..) rfl hd_X1_emit ⟨Nat.le_of_ble_eq_true rfl, Nat.le_of_ble_eq_true rfl⟩ rfl rfl (Nat.le_of_ble_eq_true rfl) dX1_useMemory_63 ⟨Nat.zero_le _, Nat.zero_le _⟩ (fun H locs e0 G => ?_)
  refine lv_aload_n hx hb dX1_useMemory_66 rfl (lv_at hl 1 rfl) ?_
  refine lv_iconst (v := 1) hx hb dX1_useMemory_67 (by decide) ?_
  obtain ⟨st6, hst6, hf⟩ := bv_some hf
  refine cl_vvC C hl G (As := [.int 1]) (rest := []) (kx_Co_putSlots l D k h N 1 st5 _ hst6) gi_X1_145 (hwC_6 ..) rfl hd_X1_putSlots ⟨Nat.le_of_ble_eq_true rfl, Nat.le_of_ble_eq_true rfl⟩ rfl rfl (Nat.le_of_ble_eq_true rfl) dX1_useMemory_68 ⟨Nat.zero_le _, Nat.zero_le _⟩ (fun H locs e0 G => ?_)
  exact rt_vC C G hf dX1_useMemory_71
set_option maxHeartbeats 4000000 in
set_option maxRecDepth 100000 in
theorem kx_Co_useMemory_b34 {p : Program} {l : Launch} {e : Env} {s : State} {m : MethodId} {args : Array Value} {below : List Frame} {meth : Method} {c : Code} {D : va_G} {h : Nat → Nat} {E : Nat → Nat} {k : Nat → Nat × ClassId} (C : cxC D k p s m args meth c cX1_useMemory 5 none RX1) (N : Nat) (x1 : Int32) (x2 : Int32) (st : rs_T) (s' : rs_T) (hf : fx_Co_useMemory_b34 N x1 x2 st = some s') : ∀ (H : Heap) (locs : List Loc) (ls : Array Slot), lv_has ls 5 [(0, .ref (h 6)), (1, .int x1), (2, .int x2)] → gdC D k h (vE E) (arC k h s.heap.size) s.heap H locs st → W p l e rm_Co_useMemory s m args below meth c H locs 0 0 (MQ below (qVC D k h E s.heap.size s') args s 0 0 (arC k h s.heap.size)) (F0 m 34 ls []) := by
  obtain ⟨hx, hb, hml, hr, hown, hts, hK, hN, hlk⟩ := id C
  intro H locs ls hl G
  unfold fx_Co_useMemory_b34 at hf
  refine lv_iload_n hx hb dX1_useMemory_34 rfl (lv_at hl 1 rfl) ?_
  refine lv_bipush (v := 63) hx hb dX1_useMemory_35 (by decide) ?_
  refine lv_icmp_ne (tgt := 44) hx hb dX1_useMemory_37 (by decide) (fun c2 => ?_) (fun c2 => ?_)
  · replace hf := if_n hf c2
    refine lv_aload_n hx hb dX1_useMemory_44 rfl (lv_at hl 0 rfl) ?_
    obtain ⟨r4, st3, hst3, hf⟩ := bn_some hf
    refine cl_viC C hl G (As := []) (rest := []) (kx_Co_pop l D k h st _ _ hst3) gi_X1_116 (hwC_6 ..) rfl hd_X1_pop ⟨Nat.le_of_ble_eq_true rfl, Nat.le_of_ble_eq_true rfl⟩ rfl rfl (Nat.le_of_ble_eq_true rfl) dX1_useMemory_45 ⟨Nat.zero_le _, Nat.zero_le _⟩ (fun H locs e0 G => ?_)
    exact kx_Co_useMemory_b48 C N x1 x2 r4 st3 _ hf _ _ _ (lv_sub hl [0, 1, 2] rfl) G
  · replace hf := if_p hf c2
    refine lv_iconst (v := 0) hx hb dX1_useMemory_40 (by decide) ?_
    refine lv_goto (tgt := 48) hx hb dX1_useMemory_41 (by decide) ?_
    exact kx_Co_useMemory_b48 C N x1 x2 0 st _ hf _ _ _ (lv_sub hl [0, 1, 2] rfl) G
set_option maxHeartbeats 4000000 in
set_option maxRecDepth 100000 in
theorem kx_Co_useMemory (l : Launch) (D : va_G) (k : Nat → Nat × ClassId) (h : Nat → Nat) (N : Nat) (p1 : Int32) (p2 : Int32) (st : rs_T) (s' : rs_T) (hf : fx_Co_useMemory N p1 p2 st = some s') : mVC l D k h yX1_useMemory cX1_useMemory 5 rm_Co_useMemory [.ref (h 6), .int p1, .int p2] st s' := by
  refine mVC_of (by decide) ⟨rfl, rfl⟩ (Nat.le_of_ble_eq_true rfl) ?_
  intro p e s m below meth c ls C hl G
  obtain ⟨hx, hb, hml, hr, hown, hts, hK, hN, hlk⟩ := id C
  have hown : s.vm.findClass RX1 = some m.cls := hown
  have hl : lv_has ls 5 [(0, .ref (h 6)), (1, .int p1), (2, .int p2)] := hl
  unfold fx_Co_useMemory at hf
  refine lv_iload_n hx hb dX1_useMemory_0 rfl (lv_at hl 1 rfl) ?_
  refine lv_bipush (v := 54) hx hb dX1_useMemory_1 (by decide) ?_
  refine lv_icmp_lt (tgt := 34) hx hb dX1_useMemory_3 (by decide) (fun c1 => ?_) (fun c1 => ?_)
  · replace hf := if_p hf c1
    exact kx_Co_useMemory_b34 C N p1 p2 st _ hf _ _ _ (lv_sub hl [0, 1, 2] rfl) G
  · replace hf := if_n hf c1
    refine lv_iload_n hx hb dX1_useMemory_6 rfl (lv_at hl 1 rfl) ?_
    refine lv_bipush (v := 62) hx hb dX1_useMemory_7 (by decide) ?_
    refine lv_icmp_gt (tgt := 34) hx hb dX1_useMemory_9 (by decide) (fun c7 => ?_) (fun c7 => ?_)
    · replace hf := if_p hf c7
      exact kx_Co_useMemory_b34 C N p1 p2 st _ hf _ _ _ (lv_sub hl [0, 1, 2] rfl) G
    · replace hf := if_n hf c7
      refine lv_aload_n hx hb dX1_useMemory_12 rfl (lv_at hl 0 rfl) ?_
      obtain ⟨r9, st8, hst8, hf⟩ := bn_some hf
      refine cl_viC C hl G (As := []) (rest := []) (kx_Co_pop l D k h st _ _ hst8) gi_X1_116 (hwC_6 ..) rfl hd_X1_pop ⟨Nat.le_of_ble_eq_true rfl, Nat.le_of_ble_eq_true rfl⟩ rfl rfl (Nat.le_of_ble_eq_true rfl) dX1_useMemory_13 ⟨Nat.zero_le _, Nat.zero_le _⟩ (fun H locs e0 G => ?_)
      refine lv_istore_n (lv' := [(3, .int r9), (0, .ref (h 6)), (1, .int p1), (2, .int p2)]) hx hb dX1_useMemory_16 rfl hl (by decide) rfl (fun ls hl => ?_)
      refine lv_aload_n hx hb dX1_useMemory_17 rfl (lv_at hl 1 rfl) ?_
      obtain ⟨r11, st10, hst10, hf⟩ := bn_some hf
      refine cl_viC C hl G (As := []) (rest := []) (kx_Co_pop l D k h st8 _ _ hst10) gi_X1_116 (hwC_6 ..) rfl hd_X1_pop ⟨Nat.le_of_ble_eq_true rfl, Nat.le_of_ble_eq_true rfl⟩ rfl rfl (Nat.le_of_ble_eq_true rfl) dX1_useMemory_18 ⟨Nat.zero_le _, Nat.zero_le _⟩ (fun H locs e0 G => ?_)
      refine lv_istore (lv' := [(4, .int r11), (3, .int r9), (0, .ref (h 6)), (1, .int p1), (2, .int p2)]) hx hb dX1_useMemory_21 hl (by decide) rfl (fun ls hl => ?_)
      refine lv_aload_n hx hb dX1_useMemory_23 rfl (lv_at hl 2 rfl) ?_
      refine lv_iload_n hx hb dX1_useMemory_24 rfl (lv_at hl 3 rfl) ?_
      refine lv_iconst (v := 0) hx hb dX1_useMemory_25 (by decide) ?_
      refine lv_iload hx hb dX1_useMemory_26 (lv_at hl 0 rfl) ?_
      refine lv_iload_n hx hb dX1_useMemory_28 rfl (lv_at hl 1 rfl) ?_
      refine lv_iload_n hx hb dX1_useMemory_29 rfl (lv_at hl 4 rfl) ?_
      obtain ⟨st12, hst12, hf⟩ := bv_some hf
      refine cl_vvC C hl G (As := [.int p1, .int 0, .int r11, .int r9, .int p2]) (rest := []) (kx_Co_emit l D k h p1 0 r11 r9 p2 st10 _ hst12) gi_X1_129 (hwC_6 ..) rfl hd_X1_emit ⟨Nat.le_of_ble_eq_true rfl, Nat.le_of_ble_eq_true rfl⟩ rfl rfl (Nat.le_of_ble_eq_true rfl) dX1_useMemory_30 ⟨Nat.zero_le _, Nat.zero_le _⟩ (fun H locs e0 G => ?_)
      exact rt_vC C G hf dX1_useMemory_33
def rm_Co_operate : Room := { frames := 1, cells := 0, slots := 0, locals := 26 }
set_option maxHeartbeats 4000000 in
set_option maxRecDepth 100000 in
theorem kx_Co_operate_b16 {p : Program} {l : Launch} {e : Env} {s : State} {m : MethodId} {args : Array Value} {below : List Frame} {meth : Method} {c : Code} {D : va_G} {h : Nat → Nat} {E : Nat → Nat} {k : Nat → Nat × ClassId} (C : cxC D k p s m args meth c cX1_operate 4 none RX1) (N : Nat) (x1 : Int32) (y0 : Int32) (st : rs_T) (s' : rs_T) (hf : fx_Co_operate_b16 N x1 y0 st = some s') : ∀ (H : Heap) (locs : List Loc) (ls : Array Slot), lv_has ls 4 [(0, .ref (h 6)), (1, .int x1)] → gdC D k h (vE E) (arC k h s.heap.size) s.heap H locs st → W p l e rm_Co_operate s m args below meth c H locs 0 0 (MQ below (qVC D k h E s.heap.size s') args s 0 0 (arC k h s.heap.size)) (F0 m 16 ls [.int y0]) := by
  obtain ⟨hx, hb, hml, hr, hown, hts, hK, hN, hlk⟩ := id C
  intro H locs ls hl G
  unfold fx_Co_operate_b16 at hf
  refine lv_istore_n (lv' := [(2, .int y0), (0, .ref (h 6)), (1, .int x1)]) hx hb dX1_operate_16 rfl hl (by decide) rfl (fun ls hl => ?_)
  refine lv_aload_n hx hb dX1_operate_17 rfl (lv_at hl 1 rfl) ?_
  obtain ⟨r5, st4, hst4, hf⟩ := bn_some hf
  refine cl_viC C hl G (As := []) (rest := []) (kx_Co_pop l D k h st _ _ hst4) gi_X1_116 (hwC_6 ..) rfl hd_X1_pop ⟨Nat.le_of_ble_eq_true rfl, Nat.le_of_ble_eq_true rfl⟩ rfl rfl (Nat.le_of_ble_eq_true rfl) dX1_operate_18 ⟨Nat.zero_le _, Nat.zero_le _⟩ (fun H locs e0 G => ?_)
  refine lv_istore_n (lv' := [(3, .int r5), (2, .int y0), (0, .ref (h 6)), (1, .int x1)]) hx hb dX1_operate_21 rfl hl (by decide) rfl (fun ls hl => ?_)
  refine lv_aload_n hx hb dX1_operate_22 rfl (lv_at hl 2 rfl) ?_
  refine lv_iload_n hx hb dX1_operate_23 rfl (lv_at hl 3 rfl) ?_
  refine lv_aload_n hx hb dX1_operate_24 rfl (lv_at hl 2 rfl) ?_
  refine fg_Co_slots (v := rI st4 22) hx hb hts hown hK G (hts _ lk_X1_22) rfl dX1_operate_25 ?_
  refine lv_aload_n hx hb dX1_operate_28 rfl (lv_at hl 2 rfl) ?_
  refine fg_Co_operands (v := rI st4 23) hx hb hts hown hK G (hts _ lk_X1_25) rfl dX1_operate_29 ?_
  refine lv_iadd hx hb dX1_operate_32 ?_
  refine lv_iload_n hx hb dX1_operate_33 rfl (lv_at hl 0 rfl) ?_
  refine lv_iload_n hx hb dX1_operate_34 rfl (lv_at hl 1 rfl) ?_
  refine lv_iconst (v := 0) hx hb dX1_operate_35 (by decide) ?_
  obtain ⟨st6, hst6, hf⟩ := bv_some hf
  refine cl_vvC C hl G (As := [.int x1, .int ((rI st4 22) + (rI st4 23)), .int r5, .int y0, .int 0]) (rest := []) (kx_Co_emit l D k h x1 ((rI st4 22) + (rI st4 23)) r5 y0 0 st4 _ hst6) gi_X1_129 (hwC_6 ..) rfl hd_X1_emit ⟨Nat.le_of_ble_eq_true rfl, Nat.le_of_ble_eq_true rfl⟩ rfl rfl (Nat.le_of_ble_eq_true rfl) dX1_operate_36 ⟨Nat.zero_le _, Nat.zero_le _⟩ (fun H locs e0 G => ?_)
  refine lv_aload_n hx hb dX1_operate_39 rfl (lv_at hl 2 rfl) ?_
  refine lv_iconst (v := 1) hx hb dX1_operate_40 (by decide) ?_
  obtain ⟨st7, hst7, hf⟩ := bv_some hf
  refine cl_vvC C hl G (As := [.int 1]) (rest := []) (kx_Co_putSlots l D k h N 1 st6 _ hst7) gi_X1_145 (hwC_6 ..) rfl hd_X1_putSlots ⟨Nat.le_of_ble_eq_true rfl, Nat.le_of_ble_eq_true rfl⟩ rfl rfl (Nat.le_of_ble_eq_true rfl) dX1_operate_41 ⟨Nat.zero_le _, Nat.zero_le _⟩ (fun H locs e0 G => ?_)
  exact rt_vC C G hf dX1_operate_44
set_option maxHeartbeats 4000000 in
set_option maxRecDepth 100000 in
theorem kx_Co_operate (l : Launch) (D : va_G) (k : Nat → Nat × ClassId) (h : Nat → Nat) (N : Nat) (p1 : Int32) (st : rs_T) (s' : rs_T) (hf : fx_Co_operate N p1 st = some s') : mVC l D k h yX1_operate cX1_operate 4 rm_Co_operate [.ref (h 6), .int p1] st s' := by
  refine mVC_of (by decide) ⟨rfl, rfl⟩ (Nat.le_of_ble_eq_true rfl) ?_
  intro p e s m below meth c ls C hl G
  obtain ⟨hx, hb, hml, hr, hown, hts, hK, hN, hlk⟩ := id C
  have hown : s.vm.findClass RX1 = some m.cls := hown
  have hl : lv_has ls 4 [(0, .ref (h 6)), (1, .int p1)] := hl
  unfold fx_Co_operate at hf
  refine lv_iload_n hx hb dX1_operate_0 rfl (lv_at hl 1 rfl) ?_
  obtain ⟨r2, st1, hst1, hf⟩ := bn_some hf
  refine cl_siC C hl G (As := [.int p1]) (rest := []) (kx_Op_operatorTakes l D k h p1 st _ _ hst1) gi_X1_148 hd_X2_operatorTakes ⟨Nat.le_of_ble_eq_true rfl, Nat.le_of_ble_eq_true rfl⟩ rfl rfl (Nat.le_of_ble_eq_true rfl) dX1_operate_1 ⟨Nat.zero_le _, Nat.zero_le _⟩ (fun H locs e0 G => ?_)
  refine lv_iconst (v := 2) hx hb dX1_operate_4 (by decide) ?_
  refine lv_icmp_ne (tgt := 15) hx hb dX1_operate_5 (by decide) (fun c3 => ?_) (fun c3 => ?_)
  · replace hf := if_n hf c3
    refine lv_iconst (v := 0) hx hb dX1_operate_15 (by decide) ?_
    exact kx_Co_operate_b16 C N p1 0 st1 _ hf _ _ _ (lv_sub hl [0, 1] rfl) G
  · replace hf := if_p hf c3
    refine lv_aload_n hx hb dX1_operate_8 rfl (lv_at hl 0 rfl) ?_
    obtain ⟨r9, st8, hst8, hf⟩ := bn_some hf
    refine cl_viC C hl G (As := []) (rest := []) (kx_Co_pop l D k h st1 _ _ hst8) gi_X1_116 (hwC_6 ..) rfl hd_X1_pop ⟨Nat.le_of_ble_eq_true rfl, Nat.le_of_ble_eq_true rfl⟩ rfl rfl (Nat.le_of_ble_eq_true rfl) dX1_operate_9 ⟨Nat.zero_le _, Nat.zero_le _⟩ (fun H locs e0 G => ?_)
    refine lv_goto (tgt := 16) hx hb dX1_operate_12 (by decide) ?_
    exact kx_Co_operate_b16 C N p1 r9 st8 _ hf _ _ _ (lv_sub hl [0, 1] rfl) G
def rm_Co_emitPending : Room := { frames := 1, cells := 0, slots := 0, locals := 26 }
set_option maxHeartbeats 4000000 in
set_option maxRecDepth 100000 in
theorem kx_Co_emitPending (l : Launch) (D : va_G) (k : Nat → Nat × ClassId) (h : Nat → Nat) (st : rs_T) (s' : rs_T) (hf : fx_Co_emitPending st = some s') : mVC l D k h yX1_emitPending cX1_emitPending 1 rm_Co_emitPending [.ref (h 6)] st s' := by
  refine mVC_of (by decide) ⟨rfl, rfl⟩ (Nat.le_of_ble_eq_true rfl) ?_
  intro p e s m below meth c ls C hl G
  obtain ⟨hx, hb, hml, hr, hown, hts, hK, hN, hlk⟩ := id C
  have hown : s.vm.findClass RX1 = some m.cls := hown
  have hl : lv_has ls 1 [(0, .ref (h 6))] := hl
  unfold fx_Co_emitPending at hf
  refine lv_aload_n hx hb dX1_emitPending_0 rfl (lv_at hl 0 rfl) ?_
  refine fg_Co_pending (v := rI st 24) hx hb hts hown hK G (hts _ lk_X1_28) rfl dX1_emitPending_1 ?_
  refine lv_if_le (tgt := 16) hx hb dX1_emitPending_4 (by decide) (fun c1 => ?_) (fun c1 => ?_)
  · replace hf := if_p hf c1
    exact rt_vC C G hf dX1_emitPending_16
  · replace hf := if_n hf c1
    refine lv_aload_n hx hb dX1_emitPending_7 rfl (lv_at hl 0 rfl) ?_
    refine lv_iconst (v := 1) hx hb dX1_emitPending_8 (by decide) ?_
    refine lv_iconst (v := 0) hx hb dX1_emitPending_9 (by decide) ?_
    refine lv_iconst (v := 0) hx hb dX1_emitPending_10 (by decide) ?_
    refine lv_iconst (v := 0) hx hb dX1_emitPending_11 (by decide) ?_
    refine lv_iconst (v := 0) hx hb dX1_emitPending_12 (by decide) ?_
    obtain ⟨st2, hst2, hf⟩ := bv_some hf
    refine cl_vvC C hl G (As := [.int 1, .int 0, .int 0, .int 0, .int 0]) (rest := []) (kx_Co_emit l D k h 1 0 0 0 0 st _ hst2) gi_X1_129 (hwC_6 ..) rfl hd_X1_emit ⟨Nat.le_of_ble_eq_true rfl, Nat.le_of_ble_eq_true rfl⟩ rfl rfl (Nat.le_of_ble_eq_true rfl) dX1_emitPending_13 ⟨Nat.zero_le _, Nat.zero_le _⟩ (fun H locs e0 G => ?_)
    exact rt_vC C G hf dX1_emitPending_16
def rm_Co_begin : Room := { frames := 2, cells := 0, slots := 0, locals := 48 }
set_option maxHeartbeats 4000000 in
set_option maxRecDepth 100000 in
theorem kx_Co_begin_b82 {p : Program} {l : Launch} {e : Env} {s : State} {m : MethodId} {args : Array Value} {below : List Frame} {meth : Method} {c : Code} {D : va_G} {h : Nat → Nat} {E : Nat → Nat} {k : Nat → Nat × ClassId} (C : cxC D k p s m args meth c cX1_begin 4 none RX1) (N : Nat) (y0 : Int32) (y1 : Int32) (y2 : Int32) (y3 : Int32) (y4 : Int32) (st : rs_T) (s' : rs_T) (hf : fx_Co_begin_b82 N y0 y1 y2 y3 y4 st = some s') : ∀ (H : Heap) (locs : List Loc) (ls : Array Slot), lv_has ls 4 [] → gdC D k h (vE E) (arC k h s.heap.size) s.heap H locs st → W p l e rm_Co_begin s m args below meth c H locs 0 0 (MQ below (qVC D k h E s.heap.size s') args s 0 0 (arC k h s.heap.size)) (F0 m 82 ls [.int y0, .int y1, .int y2, .int y3, .int y4, .ref (h 6)]) := by
  obtain ⟨hx, hb, hml, hr, hown, hts, hK, hN, hlk⟩ := id C
  intro H locs ls hl G
  unfold fx_Co_begin_b82 at hf
  obtain ⟨st13, hst13, hf⟩ := bv_some hf
  refine cl_vvC C hl G (As := [.int y4, .int y3, .int y2, .int y1, .int y0]) (rest := []) (kx_Co_emit l D k h y4 y3 y2 y1 y0 st _ hst13) gi_X1_129 (hwC_6 ..) rfl hd_X1_emit ⟨Nat.le_of_ble_eq_true rfl, Nat.le_of_ble_eq_true rfl⟩ rfl rfl (Nat.le_of_ble_eq_true rfl) dX1_begin_82 ⟨Nat.zero_le _, Nat.zero_le _⟩ (fun H locs e0 G => ?_)
  exact rt_vC C G hf dX1_begin_85
set_option maxHeartbeats 4000000 in
set_option maxRecDepth 100000 in
theorem kx_Co_begin (l : Launch) (D : va_G) (k : Nat → Nat × ClassId) (h : Nat → Nat) (N : Nat) (p1 : Int32) (p2 : Int32) (st : rs_T) (s' : rs_T) (hf : fx_Co_begin N p1 p2 st = some s') : mVC l D k h yX1_begin cX1_begin 4 rm_Co_begin [.ref (h 6), .int p1, .int p2] st s' := by
  refine mVC_of (by decide) ⟨rfl, rfl⟩ (Nat.le_of_ble_eq_true rfl) ?_
  intro p e s m below meth c ls C hl G
  obtain ⟨hx, hb, hml, hr, hown, hts, hK, hN, hlk⟩ := id C
  have hown : s.vm.findClass RX1 = some m.cls := hown
  have hl : lv_has ls 4 [(0, .ref (h 6)), (1, .int p1), (2, .int p2)] := hl
  unfold fx_Co_begin at hf
  refine lv_aload_n hx hb dX1_begin_0 rfl (lv_at hl 0 rfl) ?_
  refine fg_Co_isLive (v := rI st 25) hx hb hts hown hK G (hts _ lk_X1_31) rfl dX1_begin_1 ?_
  refine lv_if_ne (tgt := 18) hx hb dX1_begin_4 (by decide) (fun c1 => ?_) (fun c1 => ?_)
  · replace hf := if_n hf c1
    refine lv_iload_n hx hb dX1_begin_18 rfl (lv_at hl 1 rfl) ?_
    refine lv_iconst (v := 4) hx hb dX1_begin_19 (by decide) ?_
    refine lv_icmp_ne (tgt := 86) hx hb dX1_begin_20 (by decide) (fun c2 => ?_) (fun c2 => ?_)
    · replace hf := if_n hf c2
      refine lv_aload_n hx hb dX1_begin_86 rfl (lv_at hl 0 rfl) ?_
      refine lv_iconst (v := 0) hx hb dX1_begin_87 (by decide) ?_
      obtain ⟨st3, hst3, hf⟩ := bv_some hf
      refine cl_vvC C hl G (As := [.int 0]) (rest := []) (kx_Co_fillSlots l D k h N 0 st _ hst3) gi_X1_120 (hwC_6 ..) rfl hd_X1_fillSlots ⟨Nat.le_of_ble_eq_true rfl, Nat.le_of_ble_eq_true rfl⟩ rfl rfl (Nat.le_of_ble_eq_true rfl) dX1_begin_88 ⟨Nat.zero_le _, Nat.zero_le _⟩ (fun H locs e0 G => ?_)
      refine lv_iload_n hx hb dX1_begin_91 rfl (lv_at hl 1 rfl) ?_
      refine lv_iconst (v := 3) hx hb dX1_begin_92 (by decide) ?_
      refine lv_icmp_ne (tgt := 113) hx hb dX1_begin_93 (by decide) (fun c4 => ?_) (fun c4 => ?_)
      · replace hf := if_n hf c4
        exact rt_vC C G hf dX1_begin_113
      · replace hf := if_p hf c4
        refine lv_aload_n hx hb dX1_begin_96 rfl (lv_at hl 0 rfl) ?_
        obtain ⟨st5, hst5, hf⟩ := bv_some hf
        refine cl_vvC C hl G (As := []) (rest := []) (kx_Co_emitPending l D k h st3 _ hst5) gi_X1_133 (hwC_6 ..) rfl hd_X1_emitPending ⟨Nat.le_of_ble_eq_true rfl, Nat.le_of_ble_eq_true rfl⟩ rfl rfl (Nat.le_of_ble_eq_true rfl) dX1_begin_97 ⟨Nat.zero_le _, Nat.zero_le _⟩ (fun H locs e0 G => ?_)
        refine lv_aload_n hx hb dX1_begin_100 rfl (lv_at hl 0 rfl) ?_
        refine fg_Co_places hx hb hts hown hK G (hts _ lk_X1_15) dX1_begin_101 ?_
        refine lv_iload_n hx hb dX1_begin_104 rfl (lv_at hl 2 rfl) ?_
        refine lv_aload_n hx hb dX1_begin_105 rfl (lv_at hl 0 rfl) ?_
        refine fg_Co_code hx hb hts hown hK G (hts _ lk_X1_42) dX1_begin_106 ?_
        refine fg_Rc_size (v := rI st5 19) hx hb hts hown hK G (hts _ lk_X1_46) rfl dX1_begin_109 ?_
        obtain ⟨h_g6, hf⟩ := gd_some hf
        refine rw_IC hx hb hK G (waC_43 ..) (t0 := 34) rfl (wsC_43 ..) (zw_43 h_g6) rfl h_g6 dX1_begin_112 (fun H locs G => ?_)
        exact rt_vC C G hf dX1_begin_113
    · replace hf := if_p hf c2
      refine lv_aload_n hx hb dX1_begin_23 rfl (lv_at hl 0 rfl) ?_
      refine lv_dup hx hb dX1_begin_24 rfl ?_
      refine fg_Co_pending (v := rI st 24) hx hb hts hown hK G (hts _ lk_X1_28) rfl dX1_begin_25 ?_
      refine lv_iconst (v := 1) hx hb dX1_begin_28 (by decide) ?_
      refine lv_iadd hx hb dX1_begin_29 ?_
      refine fp_Co_pending hx hb hts hown hK G (hts _ lk_X1_28) dX1_begin_30 (fun H locs G => ?_)
      refine lv_aload_n hx hb dX1_begin_33 rfl (lv_at hl 0 rfl) ?_
      obtain ⟨r8, st7, hst7, hf⟩ := bn_some hf
      refine cl_viC C hl G (As := []) (rest := []) (kx_Co_pop l D k h (wI st 24 ((rI st 24) + 1)) _ _ hst7) gi_X1_116 (hwC_6 ..) rfl hd_X1_pop ⟨Nat.le_of_ble_eq_true rfl, Nat.le_of_ble_eq_true rfl⟩ rfl rfl (Nat.le_of_ble_eq_true rfl) dX1_begin_34 ⟨Nat.zero_le _, Nat.zero_le _⟩ (fun H locs e0 G => ?_)
      refine lv_istore_n (lv' := [(3, .int r8), (0, .ref (h 6)), (1, .int p1), (2, .int p2)]) hx hb dX1_begin_37 rfl hl (by decide) rfl (fun ls hl => ?_)
      refine lv_aload_n hx hb dX1_begin_38 rfl (lv_at hl 1 rfl) ?_
      refine lv_iconst (v := 0) hx hb dX1_begin_39 (by decide) ?_
      obtain ⟨st9, hst9, hf⟩ := bv_some hf
      refine cl_vvC C hl G (As := [.int 0]) (rest := []) (kx_Co_fillSlots l D k h N 0 st7 _ hst9) gi_X1_120 (hwC_6 ..) rfl hd_X1_fillSlots ⟨Nat.le_of_ble_eq_true rfl, Nat.le_of_ble_eq_true rfl⟩ rfl rfl (Nat.le_of_ble_eq_true rfl) dX1_begin_40 ⟨Nat.zero_le _, Nat.zero_le _⟩ (fun H locs e0 G => ?_)
      refine lv_aload_n hx hb dX1_begin_43 rfl (lv_at hl 1 rfl) ?_
      refine lv_iconst (v := 4) hx hb dX1_begin_44 (by decide) ?_
      refine lv_iconst (v := 0) hx hb dX1_begin_45 (by decide) ?_
      refine lv_iload_n hx hb dX1_begin_46 rfl (lv_at hl 0 rfl) ?_
      refine lv_iconst (v := 0) hx hb dX1_begin_47 (by decide) ?_
      refine lv_aload_n hx hb dX1_begin_48 rfl (lv_at hl 1 rfl) ?_
      refine fg_Co_program hx hb hts hown hK G (hts _ lk_X1_38) dX1_begin_49 ?_
      refine fg_Pr_other hx hb hts hown hK G (hts _ lk_X1_123) dX1_begin_52 ?_
      refine lv_iload_n hx hb dX1_begin_55 rfl (lv_at hl 3 rfl) ?_
      obtain ⟨h_g10, hf⟩ := gd_some hf
      refine ra_IC (v := rA st9 11 p2.toNatClampNeg) hx hb hK G (waC_21 ..) (t0 := 12) rfl rfl h_g10 dX1_begin_56 ?_
      refine lv_iconst (v := (-1)) hx hb dX1_begin_57 (by decide) ?_
      refine lv_icmp_ne (tgt := 73) hx hb dX1_begin_58 (by decide) (fun c11 => ?_) (fun c11 => ?_)
      · replace hf := if_n hf c11
        refine lv_aload_n hx hb dX1_begin_73 rfl (lv_at hl 1 rfl) ?_
        refine fg_Co_program hx hb hts hown hK G (hts _ lk_X1_38) dX1_begin_74 ?_
        refine fg_Pr_other hx hb hts hown hK G (hts _ lk_X1_123) dX1_begin_77 ?_
        refine lv_iload_n hx hb dX1_begin_80 rfl (lv_at hl 3 rfl) ?_
        obtain ⟨h_g12, hf⟩ := gd_some hf
        refine ra_IC (v := rA st9 11 p2.toNatClampNeg) hx hb hK G (waC_21 ..) (t0 := 12) rfl rfl h_g12 dX1_begin_81 ?_
        exact kx_Co_begin_b82 C N (rA st9 11 p2.toNatClampNeg) 0 r8 0 4 st9 _ hf _ _ _ (lv_sub hl [] rfl) G
      · replace hf := if_p hf c11
        refine lv_aload_n hx hb dX1_begin_61 rfl (lv_at hl 1 rfl) ?_
        refine fg_Co_program hx hb hts hown hK G (hts _ lk_X1_38) dX1_begin_62 ?_
        refine fg_Pr_link hx hb hts hown hK G (hts _ lk_X1_126) dX1_begin_65 ?_
        refine lv_iload_n hx hb dX1_begin_68 rfl (lv_at hl 3 rfl) ?_
        obtain ⟨h_g14, hf⟩ := gd_some hf
        refine ra_IC (v := rA st9 10 p2.toNatClampNeg) hx hb hK G (waC_20 ..) (t0 := 11) rfl rfl h_g14 dX1_begin_69 ?_
        refine lv_goto (tgt := 82) hx hb dX1_begin_70 (by decide) ?_
        exact kx_Co_begin_b82 C N (rA st9 10 p2.toNatClampNeg) 0 r8 0 4 st9 _ hf _ _ _ (lv_sub hl [] rfl) G
  · replace hf := if_p hf c1
    refine lv_aload_n hx hb dX1_begin_7 rfl (lv_at hl 0 rfl) ?_
    refine lv_dup hx hb dX1_begin_8 rfl ?_
    refine fg_Co_deadLabels (v := rI st 26) hx hb hts hown hK G (hts _ lk_X1_35) rfl dX1_begin_9 ?_
    refine lv_iconst (v := 1) hx hb dX1_begin_12 (by decide) ?_
    refine lv_iadd hx hb dX1_begin_13 ?_
    refine fp_Co_deadLabels hx hb hts hown hK G (hts _ lk_X1_35) dX1_begin_14 (fun H locs G => ?_)
    exact rt_vC C G hf dX1_begin_17
def rm_Co_comeToLife : Room := { frames := 1, cells := 0, slots := 0, locals := 22 }
set_option maxHeartbeats 4000000 in
set_option maxRecDepth 100000 in
theorem kx_Co_comeToLife (l : Launch) (D : va_G) (k : Nat → Nat × ClassId) (h : Nat → Nat) (N : Nat) (p1 : Int32) (p2 : Int32) (st : rs_T) (s' : rs_T) (hf : fx_Co_comeToLife N p1 p2 st = some s') : mVC l D k h yX1_comeToLife cX1_comeToLife 3 rm_Co_comeToLife [.ref (h 6), .int p1, .int p2] st s' := by
  refine mVC_of (by decide) ⟨rfl, rfl⟩ (Nat.le_of_ble_eq_true rfl) ?_
  intro p e s m below meth c ls C hl G
  obtain ⟨hx, hb, hml, hr, hown, hts, hK, hN, hlk⟩ := id C
  have hown : s.vm.findClass RX1 = some m.cls := hown
  have hl : lv_has ls 3 [(0, .ref (h 6)), (1, .int p1), (2, .int p2)] := hl
  unfold fx_Co_comeToLife at hf
  refine lv_aload_n hx hb dX1_comeToLife_0 rfl (lv_at hl 0 rfl) ?_
  refine fg_Co_places hx hb hts hown hK G (hts _ lk_X1_15) dX1_comeToLife_1 ?_
  refine lv_iload_n hx hb dX1_comeToLife_4 rfl (lv_at hl 1 rfl) ?_
  refine lv_aload_n hx hb dX1_comeToLife_5 rfl (lv_at hl 0 rfl) ?_
  refine fg_Co_code hx hb hts hown hK G (hts _ lk_X1_42) dX1_comeToLife_6 ?_
  refine fg_Rc_size (v := rI st 19) hx hb hts hown hK G (hts _ lk_X1_46) rfl dX1_comeToLife_9 ?_
  obtain ⟨h_g1, hf⟩ := gd_some hf
  refine rw_IC hx hb hK G (waC_43 ..) (t0 := 34) rfl (wsC_43 ..) (zw_43 h_g1) rfl h_g1 dX1_comeToLife_12 (fun H locs G => ?_)
  refine lv_aload_n hx hb dX1_comeToLife_13 rfl (lv_at hl 0 rfl) ?_
  refine lv_iconst (v := 1) hx hb dX1_comeToLife_14 (by decide) ?_
  refine fp_Co_isLive hx hb hts hown hK G (hts _ lk_X1_31) rfl rfl dX1_comeToLife_15 (fun H locs G => ?_)
  refine lv_aload_n hx hb dX1_comeToLife_18 rfl (lv_at hl 0 rfl) ?_
  refine lv_iconst (v := 0) hx hb dX1_comeToLife_19 (by decide) ?_
  refine fp_Co_operands hx hb hts hown hK G (hts _ lk_X1_25) dX1_comeToLife_20 (fun H locs G => ?_)
  refine lv_aload_n hx hb dX1_comeToLife_23 rfl (lv_at hl 0 rfl) ?_
  refine lv_iload_n hx hb dX1_comeToLife_24 rfl (lv_at hl 2 rfl) ?_
  obtain ⟨st2, hst2, hf⟩ := bv_some hf
  refine cl_vvC C hl G (As := [.int p2]) (rest := []) (kx_Co_putSlots l D k h N p2 (wI (wI (wA st 30 p1.toNatClampNeg (rI st 19)) 25 1) 23 0) _ hst2) gi_X1_145 (hwC_6 ..) rfl hd_X1_putSlots ⟨Nat.le_of_ble_eq_true rfl, Nat.le_of_ble_eq_true rfl⟩ rfl rfl (Nat.le_of_ble_eq_true rfl) dX1_comeToLife_25 ⟨Nat.zero_le _, Nat.zero_le _⟩ (fun H locs e0 G => ?_)
  exact rt_vC C G hf dX1_comeToLife_28
def rm_Co_turn : Room := { frames := 2, cells := 0, slots := 0, locals := 48 }
set_option maxHeartbeats 4000000 in
set_option maxRecDepth 100000 in
theorem kx_Co_turn_b48 {p : Program} {l : Launch} {e : Env} {s : State} {m : MethodId} {args : Array Value} {below : List Frame} {meth : Method} {c : Code} {D : va_G} {h : Nat → Nat} {E : Nat → Nat} {k : Nat → Nat × ClassId} (C : cxC D k p s m args meth c cX1_turn 3 none RX1) (N : Nat) (x1 : Int32) (x2 : Int32) (st : rs_T) (s' : rs_T) (hf : fx_Co_turn_b48 N x1 x2 st = some s') : ∀ (H : Heap) (locs : List Loc) (ls : Array Slot), lv_has ls 3 [(0, .ref (h 6)), (1, .int x1), (2, .int x2)] → gdC D k h (vE E) (arC k h s.heap.size) s.heap H locs st → W p l e rm_Co_turn s m args below meth c H locs 0 0 (MQ below (qVC D k h E s.heap.size s') args s 0 0 (arC k h s.heap.size)) (F0 m 48 ls []) := by
  obtain ⟨hx, hb, hml, hr, hown, hts, hK, hN, hlk⟩ := id C
  intro H locs ls hl G
  unfold fx_Co_turn_b48 at hf
  refine lv_aload_n hx hb dX1_turn_48 rfl (lv_at hl 0 rfl) ?_
  refine lv_iload_n hx hb dX1_turn_49 rfl (lv_at hl 1 rfl) ?_
  refine lv_aload_n hx hb dX1_turn_50 rfl (lv_at hl 0 rfl) ?_
  refine fg_Co_program hx hb hts hown hK G (hts _ lk_X1_38) dX1_turn_51 ?_
  refine fg_Pr_height hx hb hts hown hK G (hts _ lk_X1_136) dX1_turn_54 ?_
  refine lv_iload_n hx hb dX1_turn_57 rfl (lv_at hl 2 rfl) ?_
  obtain ⟨h_g5, hf⟩ := gd_some hf
  refine ra_IC (v := rA st 12 x2.toNatClampNeg) hx hb hK G (waC_22 ..) (t0 := 13) rfl rfl h_g5 dX1_turn_58 ?_
  refine lv_aload_n hx hb dX1_turn_59 rfl (lv_at hl 0 rfl) ?_
  refine fg_Co_program hx hb hts hown hK G (hts _ lk_X1_38) dX1_turn_60 ?_
  refine fg_Pr_a hx hb hts hown hK G (hts _ lk_X1_95) dX1_turn_63 ?_
  refine lv_iload_n hx hb dX1_turn_66 rfl (lv_at hl 2 rfl) ?_
  obtain ⟨h_g6, hf⟩ := gd_some hf
  refine ra_IC (v := rA st 8 x2.toNatClampNeg) hx hb hK G (waC_18 ..) (t0 := 9) rfl rfl h_g6 dX1_turn_67 ?_
  refine lv_iadd hx hb dX1_turn_68 ?_
  obtain ⟨st7, hst7, hf⟩ := bv_some hf
  refine cl_vvC C hl G (As := [.int x1, .int ((rA st 12 x2.toNatClampNeg) + (rA st 8 x2.toNatClampNeg))]) (rest := []) (kx_Co_comeToLife l D k h N x1 ((rA st 12 x2.toNatClampNeg) + (rA st 8 x2.toNatClampNeg)) st _ hst7) gi_X1_139 (hwC_6 ..) rfl hd_X1_comeToLife ⟨Nat.le_of_ble_eq_true rfl, Nat.le_of_ble_eq_true rfl⟩ rfl rfl (Nat.le_of_ble_eq_true rfl) dX1_turn_69 ⟨Nat.zero_le _, Nat.zero_le _⟩ (fun H locs e0 G => ?_)
  exact rt_vC C G hf dX1_turn_72
set_option maxHeartbeats 4000000 in
set_option maxRecDepth 100000 in
theorem kx_Co_turn (l : Launch) (D : va_G) (k : Nat → Nat × ClassId) (h : Nat → Nat) (N : Nat) (p1 : Int32) (st : rs_T) (s' : rs_T) (hf : fx_Co_turn N p1 st = some s') : mVC l D k h yX1_turn cX1_turn 3 rm_Co_turn [.ref (h 6), .int p1] st s' := by
  refine mVC_of (by decide) ⟨rfl, rfl⟩ (Nat.le_of_ble_eq_true rfl) ?_
  intro p e s m below meth c ls C hl G
  obtain ⟨hx, hb, hml, hr, hown, hts, hK, hN, hlk⟩ := id C
  have hown : s.vm.findClass RX1 = some m.cls := hown
  have hl : lv_has ls 3 [(0, .ref (h 6)), (1, .int p1)] := hl
  unfold fx_Co_turn at hf
  refine lv_aload_n hx hb dX1_turn_0 rfl (lv_at hl 0 rfl) ?_
  refine fg_Co_deadLabels (v := rI st 26) hx hb hts hown hK G (hts _ lk_X1_35) rfl dX1_turn_1 ?_
  refine lv_if_le (tgt := 8) hx hb dX1_turn_4 (by decide) (fun c1 => ?_) (fun c1 => ?_)
  · replace hf := if_p hf c1
    refine lv_aload_n hx hb dX1_turn_8 rfl (lv_at hl 0 rfl) ?_
    refine fg_Co_program hx hb hts hown hK G (hts _ lk_X1_38) dX1_turn_9 ?_
    refine fg_Pr_other hx hb hts hown hK G (hts _ lk_X1_123) dX1_turn_12 ?_
    refine lv_iload_n hx hb dX1_turn_15 rfl (lv_at hl 1 rfl) ?_
    obtain ⟨h_g2, hf⟩ := gd_some hf
    refine ra_IC (v := rA st 11 p1.toNatClampNeg) hx hb hK G (waC_21 ..) (t0 := 12) rfl rfl h_g2 dX1_turn_16 ?_
    refine lv_topi (fun v3 e_v3 => ?_)
    replace hf := bd_some hf v3 e_v3
    refine lv_istore_n (lv' := [(2, .int v3), (0, .ref (h 6)), (1, .int p1)]) hx hb dX1_turn_17 rfl hl (by decide) rfl (fun ls hl => ?_)
    refine lv_aload_n hx hb dX1_turn_18 rfl (lv_at hl 1 rfl) ?_
    refine fg_Co_isLive (v := rI st 25) hx hb hts hown hK G (hts _ lk_X1_31) rfl dX1_turn_19 ?_
    refine lv_if_eq (tgt := 48) hx hb dX1_turn_22 (by decide) (fun c4 => ?_) (fun c4 => ?_)
    · replace hf := if_p hf c4
      exact kx_Co_turn_b48 C N p1 v3 st _ hf _ _ _ (lv_sub hl [1, 2, 0] rfl) G
    · replace hf := if_n hf c4
      refine lv_aload_n hx hb dX1_turn_25 rfl (lv_at hl 1 rfl) ?_
      refine lv_iconst (v := 0) hx hb dX1_turn_26 (by decide) ?_
      obtain ⟨st8, hst8, hf⟩ := bv_some hf
      refine cl_vvC C hl G (As := [.int 0]) (rest := []) (kx_Co_fillSlots l D k h N 0 st _ hst8) gi_X1_120 (hwC_6 ..) rfl hd_X1_fillSlots ⟨Nat.le_of_ble_eq_true rfl, Nat.le_of_ble_eq_true rfl⟩ rfl rfl (Nat.le_of_ble_eq_true rfl) dX1_turn_27 ⟨Nat.zero_le _, Nat.zero_le _⟩ (fun H locs e0 G => ?_)
      refine lv_aload_n hx hb dX1_turn_30 rfl (lv_at hl 1 rfl) ?_
      refine lv_bipush (v := 12) hx hb dX1_turn_31 (by decide) ?_
      refine lv_iconst (v := 0) hx hb dX1_turn_33 (by decide) ?_
      refine lv_iconst (v := 0) hx hb dX1_turn_34 (by decide) ?_
      refine lv_iconst (v := 0) hx hb dX1_turn_35 (by decide) ?_
      refine lv_aload_n hx hb dX1_turn_36 rfl (lv_at hl 1 rfl) ?_
      refine fg_Co_program hx hb hts hown hK G (hts _ lk_X1_38) dX1_turn_37 ?_
      refine fg_Pr_link hx hb hts hown hK G (hts _ lk_X1_126) dX1_turn_40 ?_
      refine lv_iload_n hx hb dX1_turn_43 rfl (lv_at hl 2 rfl) ?_
      obtain ⟨h_g9, hf⟩ := gd_some hf
      refine ra_IC (v := rA st8 10 p1.toNatClampNeg) hx hb hK G (waC_20 ..) (t0 := 11) rfl rfl h_g9 dX1_turn_44 ?_
      obtain ⟨st10, hst10, hf⟩ := bv_some hf
      refine cl_vvC C hl G (As := [.int 12, .int 0, .int 0, .int 0, .int (rA st8 10 p1.toNatClampNeg)]) (rest := []) (kx_Co_emit l D k h 12 0 0 0 (rA st8 10 p1.toNatClampNeg) st8 _ hst10) gi_X1_129 (hwC_6 ..) rfl hd_X1_emit ⟨Nat.le_of_ble_eq_true rfl, Nat.le_of_ble_eq_true rfl⟩ rfl rfl (Nat.le_of_ble_eq_true rfl) dX1_turn_45 ⟨Nat.zero_le _, Nat.zero_le _⟩ (fun H locs e0 G => ?_)
      exact kx_Co_turn_b48 C N p1 v3 st10 _ hf _ _ _ (lv_sub hl [1, 2, 0] rfl) G
  · replace hf := if_n hf c1
    exact rt_vC C G hf dX1_turn_7
def rm_Co_end : Room := { frames := 2, cells := 0, slots := 0, locals := 48 }
set_option maxHeartbeats 4000000 in
set_option maxRecDepth 100000 in
theorem kx_Co_end_b63 {p : Program} {l : Launch} {e : Env} {s : State} {m : MethodId} {args : Array Value} {below : List Frame} {meth : Method} {c : Code} {D : va_G} {h : Nat → Nat} {E : Nat → Nat} {k : Nat → Nat × ClassId} (C : cxC D k p s m args meth c cX1_end 3 none RX1) (N : Nat) (x1 : Int32) (x2 : Int32) (st : rs_T) (s' : rs_T) (hf : fx_Co_end_b63 N x1 x2 st = some s') : ∀ (H : Heap) (locs : List Loc) (ls : Array Slot), lv_has ls 3 [(0, .ref (h 6)), (1, .int x1), (2, .int x2)] → gdC D k h (vE E) (arC k h s.heap.size) s.heap H locs st → W p l e rm_Co_end s m args below meth c H locs 0 0 (MQ below (qVC D k h E s.heap.size s') args s 0 0 (arC k h s.heap.size)) (F0 m 63 ls []) := by
  obtain ⟨hx, hb, hml, hr, hown, hts, hK, hN, hlk⟩ := id C
  intro H locs ls hl G
  unfold fx_Co_end_b63 at hf
  refine lv_iload_n hx hb dX1_end_63 rfl (lv_at hl 2 rfl) ?_
  refine lv_iconst (v := (-1)) hx hb dX1_end_64 (by decide) ?_
  refine lv_icmp_eq (tgt := 92) hx hb dX1_end_65 (by decide) (fun c5 => ?_) (fun c5 => ?_)
  · replace hf := if_p hf c5
    exact rt_vC C G hf dX1_end_92
  · replace hf := if_n hf c5
    refine lv_aload_n hx hb dX1_end_68 rfl (lv_at hl 0 rfl) ?_
    refine lv_iload_n hx hb dX1_end_69 rfl (lv_at hl 1 rfl) ?_
    refine lv_aload_n hx hb dX1_end_70 rfl (lv_at hl 0 rfl) ?_
    refine fg_Co_program hx hb hts hown hK G (hts _ lk_X1_38) dX1_end_71 ?_
    refine fg_Pr_height hx hb hts hown hK G (hts _ lk_X1_136) dX1_end_74 ?_
    refine lv_iload_n hx hb dX1_end_77 rfl (lv_at hl 2 rfl) ?_
    obtain ⟨h_g6, hf⟩ := gd_some hf
    refine ra_IC (v := rA st 12 x2.toNatClampNeg) hx hb hK G (waC_22 ..) (t0 := 13) rfl rfl h_g6 dX1_end_78 ?_
    refine lv_aload_n hx hb dX1_end_79 rfl (lv_at hl 0 rfl) ?_
    refine fg_Co_program hx hb hts hown hK G (hts _ lk_X1_38) dX1_end_80 ?_
    refine fg_Pr_b hx hb hts hown hK G (hts _ lk_X1_142) dX1_end_83 ?_
    refine lv_iload_n hx hb dX1_end_86 rfl (lv_at hl 2 rfl) ?_
    obtain ⟨h_g7, hf⟩ := gd_some hf
    refine ra_IC (v := rA st 9 x2.toNatClampNeg) hx hb hK G (waC_19 ..) (t0 := 10) rfl rfl h_g7 dX1_end_87 ?_
    refine lv_iadd hx hb dX1_end_88 ?_
    obtain ⟨st8, hst8, hf⟩ := bv_some hf
    refine cl_vvC C hl G (As := [.int x1, .int ((rA st 12 x2.toNatClampNeg) + (rA st 9 x2.toNatClampNeg))]) (rest := []) (kx_Co_comeToLife l D k h N x1 ((rA st 12 x2.toNatClampNeg) + (rA st 9 x2.toNatClampNeg)) st _ hst8) gi_X1_139 (hwC_6 ..) rfl hd_X1_comeToLife ⟨Nat.le_of_ble_eq_true rfl, Nat.le_of_ble_eq_true rfl⟩ rfl rfl (Nat.le_of_ble_eq_true rfl) dX1_end_89 ⟨Nat.zero_le _, Nat.zero_le _⟩ (fun H locs e0 G => ?_)
    exact rt_vC C G hf dX1_end_92
set_option maxHeartbeats 4000000 in
set_option maxRecDepth 100000 in
theorem kx_Co_end (l : Launch) (D : va_G) (k : Nat → Nat × ClassId) (h : Nat → Nat) (N : Nat) (p1 : Int32) (st : rs_T) (s' : rs_T) (hf : fx_Co_end N p1 st = some s') : mVC l D k h yX1_end cX1_end 3 rm_Co_end [.ref (h 6), .int p1] st s' := by
  refine mVC_of (by decide) ⟨rfl, rfl⟩ (Nat.le_of_ble_eq_true rfl) ?_
  intro p e s m below meth c ls C hl G
  obtain ⟨hx, hb, hml, hr, hown, hts, hK, hN, hlk⟩ := id C
  have hown : s.vm.findClass RX1 = some m.cls := hown
  have hl : lv_has ls 3 [(0, .ref (h 6)), (1, .int p1)] := hl
  unfold fx_Co_end at hf
  refine lv_aload_n hx hb dX1_end_0 rfl (lv_at hl 0 rfl) ?_
  refine fg_Co_deadLabels (v := rI st 26) hx hb hts hown hK G (hts _ lk_X1_35) rfl dX1_end_1 ?_
  refine lv_if_le (tgt := 18) hx hb dX1_end_4 (by decide) (fun c1 => ?_) (fun c1 => ?_)
  · replace hf := if_p hf c1
    refine lv_aload_n hx hb dX1_end_18 rfl (lv_at hl 0 rfl) ?_
    refine fg_Co_program hx hb hts hown hK G (hts _ lk_X1_38) dX1_end_19 ?_
    refine fg_Pr_link hx hb hts hown hK G (hts _ lk_X1_126) dX1_end_22 ?_
    refine lv_iload_n hx hb dX1_end_25 rfl (lv_at hl 1 rfl) ?_
    obtain ⟨h_g2, hf⟩ := gd_some hf
    refine ra_IC (v := rA st 10 p1.toNatClampNeg) hx hb hK G (waC_20 ..) (t0 := 11) rfl rfl h_g2 dX1_end_26 ?_
    refine lv_topi (fun v3 e_v3 => ?_)
    replace hf := bd_some hf v3 e_v3
    refine lv_istore_n (lv' := [(2, .int v3), (0, .ref (h 6)), (1, .int p1)]) hx hb dX1_end_27 rfl hl (by decide) rfl (fun ls hl => ?_)
    refine lv_aload_n hx hb dX1_end_28 rfl (lv_at hl 1 rfl) ?_
    refine fg_Co_isLive (v := rI st 25) hx hb hts hown hK G (hts _ lk_X1_31) rfl dX1_end_29 ?_
    refine lv_if_eq (tgt := 63) hx hb dX1_end_32 (by decide) (fun c4 => ?_) (fun c4 => ?_)
    · replace hf := if_p hf c4
      exact kx_Co_end_b63 C N p1 v3 st _ hf _ _ _ (lv_sub hl [1, 2, 0] rfl) G
    · replace hf := if_n hf c4
      refine lv_aload_n hx hb dX1_end_35 rfl (lv_at hl 1 rfl) ?_
      refine lv_iconst (v := 0) hx hb dX1_end_36 (by decide) ?_
      obtain ⟨st9, hst9, hf⟩ := bv_some hf
      refine cl_vvC C hl G (As := [.int 0]) (rest := []) (kx_Co_fillSlots l D k h N 0 st _ hst9) gi_X1_120 (hwC_6 ..) rfl hd_X1_fillSlots ⟨Nat.le_of_ble_eq_true rfl, Nat.le_of_ble_eq_true rfl⟩ rfl rfl (Nat.le_of_ble_eq_true rfl) dX1_end_37 ⟨Nat.zero_le _, Nat.zero_le _⟩ (fun H locs e0 G => ?_)
      refine lv_iload_n hx hb dX1_end_40 rfl (lv_at hl 0 rfl) ?_
      refine lv_iconst (v := (-1)) hx hb dX1_end_41 (by decide) ?_
      refine lv_icmp_ne (tgt := 59) hx hb dX1_end_42 (by decide) (fun c10 => ?_) (fun c10 => ?_)
      · replace hf := if_n hf c10
        refine lv_aload_n hx hb dX1_end_59 rfl (lv_at hl 1 rfl) ?_
        obtain ⟨st11, hst11, hf⟩ := bv_some hf
        refine cl_vvC C hl G (As := []) (rest := []) (kx_Co_emitPending l D k h st9 _ hst11) gi_X1_133 (hwC_6 ..) rfl hd_X1_emitPending ⟨Nat.le_of_ble_eq_true rfl, Nat.le_of_ble_eq_true rfl⟩ rfl rfl (Nat.le_of_ble_eq_true rfl) dX1_end_60 ⟨Nat.zero_le _, Nat.zero_le _⟩ (fun H locs e0 G => ?_)
        exact kx_Co_end_b63 C N p1 v3 st11 _ hf _ _ _ (lv_sub hl [1, 2, 0] rfl) G
      · replace hf := if_p hf c10
        refine lv_aload_n hx hb dX1_end_45 rfl (lv_at hl 1 rfl) ?_
        refine lv_bipush (v := 15) hx hb dX1_end_46 (by decide) ?_
        refine lv_iconst (v := 0) hx hb dX1_end_48 (by decide) ?_
        refine lv_aload_n hx hb dX1_end_49 rfl (lv_at hl 1 rfl) ?_
        refine fg_Co_slots (v := rI st9 22) hx hb hts hown hK G (hts _ lk_X1_22) rfl dX1_end_50 ?_
        refine lv_iconst (v := 0) hx hb dX1_end_53 (by decide) ?_
        refine lv_iconst (v := 0) hx hb dX1_end_54 (by decide) ?_
        obtain ⟨st12, hst12, hf⟩ := bv_some hf
        refine cl_vvC C hl G (As := [.int 15, .int 0, .int (rI st9 22), .int 0, .int 0]) (rest := []) (kx_Co_emit l D k h 15 0 (rI st9 22) 0 0 st9 _ hst12) gi_X1_129 (hwC_6 ..) rfl hd_X1_emit ⟨Nat.le_of_ble_eq_true rfl, Nat.le_of_ble_eq_true rfl⟩ rfl rfl (Nat.le_of_ble_eq_true rfl) dX1_end_55 ⟨Nat.zero_le _, Nat.zero_le _⟩ (fun H locs e0 G => ?_)
        exact rt_vC C G hf dX1_end_58
  · replace hf := if_n hf c1
    refine lv_aload_n hx hb dX1_end_7 rfl (lv_at hl 0 rfl) ?_
    refine lv_dup hx hb dX1_end_8 rfl ?_
    refine fg_Co_deadLabels (v := rI st 26) hx hb hts hown hK G (hts _ lk_X1_35) rfl dX1_end_9 ?_
    refine lv_iconst (v := 1) hx hb dX1_end_12 (by decide) ?_
    refine lv_isub hx hb dX1_end_13 ?_
    refine fp_Co_deadLabels hx hb hts hown hK G (hts _ lk_X1_35) dX1_end_14 (fun H locs G => ?_)
    exact rt_vC C G hf dX1_end_17
def rm_Co_structure : Room := { frames := 3, cells := 0, slots := 0, locals := 71 }
set_option maxHeartbeats 4000000 in
set_option maxRecDepth 100000 in
theorem kx_Co_structure (l : Launch) (D : va_G) (k : Nat → Nat × ClassId) (h : Nat → Nat) (N : Nat) (p1 : Int32) (p2 : Int32) (st : rs_T) (s' : rs_T) (hf : fx_Co_structure N p1 p2 st = some s') : mVC l D k h yX1_structure cX1_structure 3 rm_Co_structure [.ref (h 6), .int p1, .int p2] st s' := by
  refine mVC_of (by decide) ⟨rfl, rfl⟩ (Nat.le_of_ble_eq_true rfl) ?_
  intro p e s m below meth c ls C hl G
  obtain ⟨hx, hb, hml, hr, hown, hts, hK, hN, hlk⟩ := id C
  have hown : s.vm.findClass RX1 = some m.cls := hown
  have hl : lv_has ls 3 [(0, .ref (h 6)), (1, .int p1), (2, .int p2)] := hl
  unfold fx_Co_structure at hf
  refine lv_iload_n hx hb dX1_structure_0 rfl (lv_at hl 1 rfl) ?_
  by_cases s1_0 : p1 ∈ ([2, 3, 4] : List Int32)
  · replace hf := if_p hf s1_0
    refine sw_tb (tgt := 56) (off := 55) hx hb dX1_structure_1 (sw_tbt s1_0 (by decide)) (by decide) (by decide) ?_
    refine lv_aload_n hx hb dX1_structure_56 rfl (lv_at hl 0 rfl) ?_
    refine lv_iload_n hx hb dX1_structure_57 rfl (lv_at hl 1 rfl) ?_
    refine lv_iload_n hx hb dX1_structure_58 rfl (lv_at hl 2 rfl) ?_
    obtain ⟨st2, hst2, hf⟩ := bv_some hf
    refine cl_vvC C hl G (As := [.int p1, .int p2]) (rest := []) (kx_Co_begin l D k h N p1 p2 st _ hst2) gi_X1_107 (hwC_6 ..) rfl hd_X1_begin ⟨Nat.le_of_ble_eq_true rfl, Nat.le_of_ble_eq_true rfl⟩ rfl rfl (Nat.le_of_ble_eq_true rfl) dX1_structure_59 ⟨Nat.zero_le _, Nat.zero_le _⟩ (fun H locs e0 G => ?_)
    refine lv_goto (tgt := 81) hx hb dX1_structure_62 (by decide) ?_
    exact rt_vC C G hf dX1_structure_81
  replace hf := if_n hf s1_0
  by_cases s1_1 : p1 ∈ ([5] : List Int32)
  · replace hf := if_p hf s1_1
    refine sw_tb (tgt := 65) (off := 64) hx hb dX1_structure_1 (sw_tbt s1_1 (by decide)) (by decide) (by decide) ?_
    refine lv_aload_n hx hb dX1_structure_65 rfl (lv_at hl 0 rfl) ?_
    refine lv_iload_n hx hb dX1_structure_66 rfl (lv_at hl 2 rfl) ?_
    obtain ⟨st3, hst3, hf⟩ := bv_some hf
    refine cl_vvC C hl G (As := [.int p2]) (rest := []) (kx_Co_turn l D k h N p2 st _ hst3) gi_X1_110 (hwC_6 ..) rfl hd_X1_turn ⟨Nat.le_of_ble_eq_true rfl, Nat.le_of_ble_eq_true rfl⟩ rfl rfl (Nat.le_of_ble_eq_true rfl) dX1_structure_67 ⟨Nat.zero_le _, Nat.zero_le _⟩ (fun H locs e0 G => ?_)
    refine lv_goto (tgt := 81) hx hb dX1_structure_70 (by decide) ?_
    exact rt_vC C G hf dX1_structure_81
  replace hf := if_n hf s1_1
  by_cases s1_2 : p1 ∈ ([11] : List Int32)
  · replace hf := if_p hf s1_2
    refine sw_tb (tgt := 73) (off := 72) hx hb dX1_structure_1 (sw_tbt s1_2 (by decide)) (by decide) (by decide) ?_
    refine lv_aload_n hx hb dX1_structure_73 rfl (lv_at hl 0 rfl) ?_
    refine lv_iload_n hx hb dX1_structure_74 rfl (lv_at hl 2 rfl) ?_
    obtain ⟨st4, hst4, hf⟩ := bv_some hf
    refine cl_vvC C hl G (As := [.int p2]) (rest := []) (kx_Co_end l D k h N p2 st _ hst4) gi_X1_113 (hwC_6 ..) rfl hd_X1_end ⟨Nat.le_of_ble_eq_true rfl, Nat.le_of_ble_eq_true rfl⟩ rfl rfl (Nat.le_of_ble_eq_true rfl) dX1_structure_75 ⟨Nat.zero_le _, Nat.zero_le _⟩ (fun H locs e0 G => ?_)
    refine lv_goto (tgt := 81) hx hb dX1_structure_78 (by decide) ?_
    exact rt_vC C G hf dX1_structure_81
  replace hf := if_n hf s1_2
  refine sw_tb (tgt := 81) (off := 80) hx hb dX1_structure_1 (sw_tbd (sw_cons s1_0 (sw_cons s1_1 (sw_cons s1_2 sw_nil))) (by decide)) (by decide) (by decide) ?_
  exact rt_vC C G hf dX1_structure_81
def rm_Co_translate : Room := { frames := 4, cells := 0, slots := 0, locals := 96 }
set_option maxHeartbeats 4000000 in
set_option maxRecDepth 100000 in
theorem kx_Co_translate_b28 {p : Program} {l : Launch} {e : Env} {s : State} {m : MethodId} {args : Array Value} {below : List Frame} {meth : Method} {c : Code} {D : va_G} {h : Nat → Nat} {E : Nat → Nat} {k : Nat → Nat × ClassId} (C : cxC D k p s m args meth c cX1_translate 3 none RX1) (N : Nat) (x1 : Int32) (x2 : Int32) (st : rs_T) (s' : rs_T) (hf : fx_Co_translate_b28 N x1 x2 st = some s') : ∀ (H : Heap) (locs : List Loc) (ls : Array Slot), lv_has ls 3 [(0, .ref (h 6)), (1, .int x1), (2, .int x2)] → gdC D k h (vE E) (arC k h s.heap.size) s.heap H locs st → W p l e rm_Co_translate s m args below meth c H locs 0 0 (MQ below (qVC D k h E s.heap.size s') args s 0 0 (arC k h s.heap.size)) (F0 m 28 ls []) := by
  obtain ⟨hx, hb, hml, hr, hown, hts, hK, hN, hlk⟩ := id C
  intro H locs ls hl G
  unfold fx_Co_translate_b28 at hf
  refine lv_aload_n hx hb dX1_translate_28 rfl (lv_at hl 0 rfl) ?_
  refine fg_Co_isLive (v := rI st 25) hx hb hts hown hK G (hts _ lk_X1_31) rfl dX1_translate_29 ?_
  refine lv_if_ne (tgt := 36) hx hb dX1_translate_32 (by decide) (fun c4 => ?_) (fun c4 => ?_)
  · replace hf := if_n hf c4
    refine lv_aload_n hx hb dX1_translate_36 rfl (lv_at hl 0 rfl) ?_
    refine lv_dup hx hb dX1_translate_37 rfl ?_
    refine fg_Co_pending (v := rI st 24) hx hb hts hown hK G (hts _ lk_X1_28) rfl dX1_translate_38 ?_
    refine lv_iconst (v := 1) hx hb dX1_translate_41 (by decide) ?_
    refine lv_iadd hx hb dX1_translate_42 ?_
    refine fp_Co_pending hx hb hts hown hK G (hts _ lk_X1_28) dX1_translate_43 (fun H locs G => ?_)
    refine lv_iload_n hx hb dX1_translate_46 rfl (lv_at hl 2 rfl) ?_
    refine lv_bipush (v := 69) hx hb dX1_translate_47 (by decide) ?_
    refine lv_icmp_lt (tgt := 60) hx hb dX1_translate_49 (by decide) (fun c5 => ?_) (fun c5 => ?_)
    · replace hf := if_p hf c5
      refine lv_iload_n hx hb dX1_translate_60 rfl (lv_at hl 2 rfl) ?_
      refine lv_bipush (v := 65) hx hb dX1_translate_61 (by decide) ?_
      refine lv_icmp_lt (tgt := 76) hx hb dX1_translate_63 (by decide) (fun c6 => ?_) (fun c6 => ?_)
      · replace hf := if_p hf c6
        refine lv_iload_n hx hb dX1_translate_76 rfl (lv_at hl 2 rfl) ?_
        refine lv_bipush (v := 40) hx hb dX1_translate_77 (by decide) ?_
        refine lv_icmp_lt (tgt := 99) hx hb dX1_translate_79 (by decide) (fun c7 => ?_) (fun c7 => ?_)
        · replace hf := if_p hf c7
          refine lv_iload_n hx hb dX1_translate_99 rfl (lv_at hl 2 rfl) ?_
          refine lv_bipush (v := 26) hx hb dX1_translate_100 (by decide) ?_
          refine lv_icmp_lt (tgt := 122) hx hb dX1_translate_102 (by decide) (fun c8 => ?_) (fun c8 => ?_)
          · replace hf := if_p hf c8
            refine lv_aload_n hx hb dX1_translate_122 rfl (lv_at hl 0 rfl) ?_
            refine lv_iload_n hx hb dX1_translate_123 rfl (lv_at hl 2 rfl) ?_
            refine lv_iload_n hx hb dX1_translate_124 rfl (lv_at hl 1 rfl) ?_
            obtain ⟨st9, hst9, hf⟩ := bv_some hf
            refine cl_vvC C hl G (As := [.int x2, .int x1]) (rest := []) (kx_Co_control l D k h N x2 x1 (wI st 24 ((rI st 24) + 1)) _ hst9) gi_X1_104 (hwC_6 ..) rfl hd_X1_control ⟨Nat.le_of_ble_eq_true rfl, Nat.le_of_ble_eq_true rfl⟩ rfl rfl (Nat.le_of_ble_eq_true rfl) dX1_translate_125 ⟨Nat.zero_le _, Nat.zero_le _⟩ (fun H locs e0 G => ?_)
            exact rt_vC C G hf dX1_translate_128
          · replace hf := if_n hf c8
            refine lv_aload_n hx hb dX1_translate_105 rfl (lv_at hl 0 rfl) ?_
            refine lv_iload_n hx hb dX1_translate_106 rfl (lv_at hl 2 rfl) ?_
            refine lv_aload_n hx hb dX1_translate_107 rfl (lv_at hl 0 rfl) ?_
            refine fg_Co_program hx hb hts hown hK G (hts _ lk_X1_38) dX1_translate_108 ?_
            refine fg_Pr_a hx hb hts hown hK G (hts _ lk_X1_95) dX1_translate_111 ?_
            refine lv_iload_n hx hb dX1_translate_114 rfl (lv_at hl 1 rfl) ?_
            obtain ⟨h_g10, hf⟩ := gd_some hf
            refine ra_IC (v := rA st 8 x1.toNatClampNeg) hx hb hK G (waC_18 ..) (t0 := 9) rfl rfl h_g10 dX1_translate_115 ?_
            obtain ⟨st11, hst11, hf⟩ := bv_some hf
            refine cl_vvC C hl G (As := [.int x2, .int (rA st 8 x1.toNatClampNeg)]) (rest := []) (kx_Co_useVariable l D k h N x2 (rA st 8 x1.toNatClampNeg) (wI st 24 ((rI st 24) + 1)) _ hst11) gi_X1_101 (hwC_6 ..) rfl hd_X1_useVariable ⟨Nat.le_of_ble_eq_true rfl, Nat.le_of_ble_eq_true rfl⟩ rfl rfl (Nat.le_of_ble_eq_true rfl) dX1_translate_116 ⟨Nat.zero_le _, Nat.zero_le _⟩ (fun H locs e0 G => ?_)
            refine lv_goto (tgt := 128) hx hb dX1_translate_119 (by decide) ?_
            exact rt_vC C G hf dX1_translate_128
        · replace hf := if_n hf c7
          refine lv_aload_n hx hb dX1_translate_82 rfl (lv_at hl 0 rfl) ?_
          refine lv_iload_n hx hb dX1_translate_83 rfl (lv_at hl 2 rfl) ?_
          refine lv_aload_n hx hb dX1_translate_84 rfl (lv_at hl 0 rfl) ?_
          refine fg_Co_program hx hb hts hown hK G (hts _ lk_X1_38) dX1_translate_85 ?_
          refine fg_Pr_a hx hb hts hown hK G (hts _ lk_X1_95) dX1_translate_88 ?_
          refine lv_iload_n hx hb dX1_translate_91 rfl (lv_at hl 1 rfl) ?_
          obtain ⟨h_g12, hf⟩ := gd_some hf
          refine ra_IC (v := rA st 8 x1.toNatClampNeg) hx hb hK G (waC_18 ..) (t0 := 9) rfl rfl h_g12 dX1_translate_92 ?_
          obtain ⟨st13, hst13, hf⟩ := bv_some hf
          refine cl_vvC C hl G (As := [.int x2, .int (rA st 8 x1.toNatClampNeg)]) (rest := []) (kx_Co_useMemory l D k h N x2 (rA st 8 x1.toNatClampNeg) (wI st 24 ((rI st 24) + 1)) _ hst13) gi_X1_98 (hwC_6 ..) rfl hd_X1_useMemory ⟨Nat.le_of_ble_eq_true rfl, Nat.le_of_ble_eq_true rfl⟩ rfl rfl (Nat.le_of_ble_eq_true rfl) dX1_translate_93 ⟨Nat.zero_le _, Nat.zero_le _⟩ (fun H locs e0 G => ?_)
          refine lv_goto (tgt := 128) hx hb dX1_translate_96 (by decide) ?_
          exact rt_vC C G hf dX1_translate_128
      · replace hf := if_n hf c6
        refine lv_aload_n hx hb dX1_translate_66 rfl (lv_at hl 0 rfl) ?_
        refine lv_iload_n hx hb dX1_translate_67 rfl (lv_at hl 1 rfl) ?_
        refine lv_iconst (v := (-1)) hx hb dX1_translate_68 (by decide) ?_
        refine lv_ixor hx hb dX1_translate_69 ?_
        obtain ⟨st14, hst14, hf⟩ := bv_some hf
        refine cl_vvC C hl G (As := [.int (x1 ^^^ (-1))]) (rest := []) (kx_Co_push l D k h (x1 ^^^ (-1)) (wI st 24 ((rI st 24) + 1)) _ hst14) gi_X1_92 (hwC_6 ..) rfl hd_X1_push ⟨Nat.le_of_ble_eq_true rfl, Nat.le_of_ble_eq_true rfl⟩ rfl rfl (Nat.le_of_ble_eq_true rfl) dX1_translate_70 ⟨Nat.zero_le _, Nat.zero_le _⟩ (fun H locs e0 G => ?_)
        refine lv_goto (tgt := 128) hx hb dX1_translate_73 (by decide) ?_
        exact rt_vC C G hf dX1_translate_128
    · replace hf := if_n hf c5
      refine lv_aload_n hx hb dX1_translate_52 rfl (lv_at hl 0 rfl) ?_
      refine lv_iload_n hx hb dX1_translate_53 rfl (lv_at hl 2 rfl) ?_
      obtain ⟨st15, hst15, hf⟩ := bv_some hf
      refine cl_vvC C hl G (As := [.int x2]) (rest := []) (kx_Co_operate l D k h N x2 (wI st 24 ((rI st 24) + 1)) _ hst15) gi_X1_89 (hwC_6 ..) rfl hd_X1_operate ⟨Nat.le_of_ble_eq_true rfl, Nat.le_of_ble_eq_true rfl⟩ rfl rfl (Nat.le_of_ble_eq_true rfl) dX1_translate_54 ⟨Nat.zero_le _, Nat.zero_le _⟩ (fun H locs e0 G => ?_)
      refine lv_goto (tgt := 128) hx hb dX1_translate_57 (by decide) ?_
      exact rt_vC C G hf dX1_translate_128
  · replace hf := if_p hf c4
    exact rt_vC C G hf dX1_translate_35
set_option maxHeartbeats 4000000 in
set_option maxRecDepth 100000 in
theorem kx_Co_translate (l : Launch) (D : va_G) (k : Nat → Nat × ClassId) (h : Nat → Nat) (N : Nat) (p1 : Int32) (st : rs_T) (s' : rs_T) (hf : fx_Co_translate N p1 st = some s') : mVC l D k h yX1_translate cX1_translate 3 rm_Co_translate [.ref (h 6), .int p1] st s' := by
  refine mVC_of (by decide) ⟨rfl, rfl⟩ (Nat.le_of_ble_eq_true rfl) ?_
  intro p e s m below meth c ls C hl G
  obtain ⟨hx, hb, hml, hr, hown, hts, hK, hN, hlk⟩ := id C
  have hown : s.vm.findClass RX1 = some m.cls := hown
  have hl : lv_has ls 3 [(0, .ref (h 6)), (1, .int p1)] := hl
  unfold fx_Co_translate at hf
  refine lv_aload_n hx hb dX1_translate_0 rfl (lv_at hl 0 rfl) ?_
  refine fg_Co_program hx hb hts hown hK G (hts _ lk_X1_38) dX1_translate_1 ?_
  refine fg_Pr_operation hx hb hts hown hK G (hts _ lk_X1_84) dX1_translate_4 ?_
  refine lv_iload_n hx hb dX1_translate_7 rfl (lv_at hl 1 rfl) ?_
  obtain ⟨h_g1, hf⟩ := gd_some hf
  refine ra_IC (v := rA st 7 p1.toNatClampNeg) hx hb hK G (waC_17 ..) (t0 := 8) rfl rfl h_g1 dX1_translate_8 ?_
  refine lv_topi (fun v2 e_v2 => ?_)
  replace hf := bd_some hf v2 e_v2
  refine lv_istore_n (lv' := [(2, .int v2), (0, .ref (h 6)), (1, .int p1)]) hx hb dX1_translate_9 rfl hl (by decide) rfl (fun ls hl => ?_)
  refine lv_iload_n hx hb dX1_translate_10 rfl (lv_at hl 0 rfl) ?_
  refine lv_iconst (v := 2) hx hb dX1_translate_11 (by decide) ?_
  refine lv_icmp_lt (tgt := 28) hx hb dX1_translate_12 (by decide) (fun c3 => ?_) (fun c3 => ?_)
  · replace hf := if_p hf c3
    exact kx_Co_translate_b28 C N p1 v2 st _ hf _ _ _ (lv_sub hl [1, 2, 0] rfl) G
  · replace hf := if_n hf c3
    refine lv_iload_n hx hb dX1_translate_15 rfl (lv_at hl 0 rfl) ?_
    refine lv_bipush (v := 11) hx hb dX1_translate_16 (by decide) ?_
    refine lv_icmp_gt (tgt := 28) hx hb dX1_translate_18 (by decide) (fun c16 => ?_) (fun c16 => ?_)
    · replace hf := if_p hf c16
      exact kx_Co_translate_b28 C N p1 v2 st _ hf _ _ _ (lv_sub hl [1, 2, 0] rfl) G
    · replace hf := if_n hf c16
      refine lv_aload_n hx hb dX1_translate_21 rfl (lv_at hl 1 rfl) ?_
      refine lv_iload_n hx hb dX1_translate_22 rfl (lv_at hl 0 rfl) ?_
      refine lv_iload_n hx hb dX1_translate_23 rfl (lv_at hl 2 rfl) ?_
      obtain ⟨st17, hst17, hf⟩ := bv_some hf
      refine cl_vvC C hl G (As := [.int v2, .int p1]) (rest := []) (kx_Co_structure l D k h N v2 p1 st _ hst17) gi_X1_85 (hwC_6 ..) rfl hd_X1_structure ⟨Nat.le_of_ble_eq_true rfl, Nat.le_of_ble_eq_true rfl⟩ rfl rfl (Nat.le_of_ble_eq_true rfl) dX1_translate_24 ⟨Nat.zero_le _, Nat.zero_le _⟩ (fun H locs e0 G => ?_)
      exact rt_vC C G hf dX1_translate_27
