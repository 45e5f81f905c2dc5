def rm_Ac_nextWithin : Room := { frames := 0, cells := 0, slots := 0, locals := 0 }
set_option maxHeartbeats 4000000 in
set_option maxRecDepth 100000 in
theorem kx_Ac_nextWithin (l : Launch) (D : va_G) (k : Nat → Nat × ClassId) (h : Nat → Nat) (p1 : Int32) (st : rs_T) (r : Int32) (s' : rs_T) (hf : fx_Ac_nextWithin p1 st = some (r, s')) : mIC l D k h yX0_nextWithin cX0_nextWithin 2 .int rm_Ac_nextWithin [.ref (h 4), .int p1] st r s' := by
  refine mIC_of (by decide) ⟨rfl, rfl⟩ (Nat.le_of_ble_eq_true rfl) ?_
  intro p e s m below meth c ls C hl G
  obtain ⟨hx, hb, hml, hr, hown, hts, hK, hN, hlk⟩ := id C
  have hown : s.vm.findClass RX0 = some m.cls := hown
  have hl : lv_has ls 2 [(0, .ref (h 4)), (1, .int p1)] := hl
  unfold fx_Ac_nextWithin at hf
  refine lv_aload_n hx hb dX0_nextWithin_0 rfl (lv_at hl 0 rfl) ?_
  refine fg_Ac_frames (v := rI st 14) hx hb hts hown hK G (hts _ lk_X0_48) rfl dX0_nextWithin_1 ?_
  refine lv_if_le (tgt := 50) hx hb dX0_nextWithin_4 (by decide) (fun c1 => ?_) (fun c1 => ?_)
  · replace hf := if_p hf c1
    refine lv_iconst (v := (-1)) hx hb dX0_nextWithin_50 (by decide) ?_
    exact rt_iC C G hf dX0_nextWithin_51
  · replace hf := if_n hf c1
    refine lv_aload_n hx hb dX0_nextWithin_7 rfl (lv_at hl 0 rfl) ?_
    refine fg_Ac_next hx hb hts hown hK G (hts _ lk_X0_15) dX0_nextWithin_8 ?_
    refine lv_aload_n hx hb dX0_nextWithin_11 rfl (lv_at hl 0 rfl) ?_
    refine fg_Ac_frames (v := rI st 14) hx hb hts hown hK G (hts _ lk_X0_48) rfl dX0_nextWithin_12 ?_
    refine lv_iconst (v := 1) hx hb dX0_nextWithin_15 (by decide) ?_
    refine lv_isub hx hb dX0_nextWithin_16 ?_
    obtain ⟨h_g2, hf⟩ := gd_some hf
    refine ra_IC (v := rA st 18 (((rI st 14) - 1).toNatClampNeg)) hx hb hK G (waC_29 ..) (t0 := 20) rfl rfl h_g2 dX0_nextWithin_17 ?_
    refine lv_if_lt (tgt := 50) hx hb dX0_nextWithin_18 (by decide) (fun c3 => ?_) (fun c3 => ?_)
    · replace hf := if_p hf c3
      refine lv_iconst (v := (-1)) hx hb dX0_nextWithin_50 (by decide) ?_
      exact rt_iC C G hf dX0_nextWithin_51
    · replace hf := if_n hf c3
      refine lv_aload_n hx hb dX0_nextWithin_21 rfl (lv_at hl 0 rfl) ?_
      refine fg_Ac_next hx hb hts hown hK G (hts _ lk_X0_15) dX0_nextWithin_22 ?_
      refine lv_aload_n hx hb dX0_nextWithin_25 rfl (lv_at hl 0 rfl) ?_
      refine fg_Ac_frames (v := rI st 14) hx hb hts hown hK G (hts _ lk_X0_48) rfl dX0_nextWithin_26 ?_
      refine lv_iconst (v := 1) hx hb dX0_nextWithin_29 (by decide) ?_
      refine lv_isub hx hb dX0_nextWithin_30 ?_
      obtain ⟨h_g4, hf⟩ := gd_some hf
      refine ra_IC (v := rA st 18 (((rI st 14) - 1).toNatClampNeg)) hx hb hK G (waC_29 ..) (t0 := 20) rfl rfl h_g4 dX0_nextWithin_31 ?_
      refine lv_iload_n hx hb dX0_nextWithin_32 rfl (lv_at hl 1 rfl) ?_
      refine lv_icmp_ge (tgt := 50) hx hb dX0_nextWithin_33 (by decide) (fun c5 => ?_) (fun c5 => ?_)
      · replace hf := if_p hf c5
        refine lv_iconst (v := (-1)) hx hb dX0_nextWithin_50 (by decide) ?_
        exact rt_iC C G hf dX0_nextWithin_51
      · replace hf := if_n hf c5
        refine lv_aload_n hx hb dX0_nextWithin_36 rfl (lv_at hl 0 rfl) ?_
        refine fg_Ac_next hx hb hts hown hK G (hts _ lk_X0_15) dX0_nextWithin_37 ?_
        refine lv_aload_n hx hb dX0_nextWithin_40 rfl (lv_at hl 0 rfl) ?_
        refine fg_Ac_frames (v := rI st 14) hx hb hts hown hK G (hts _ lk_X0_48) rfl dX0_nextWithin_41 ?_
        refine lv_iconst (v := 1) hx hb dX0_nextWithin_44 (by decide) ?_
        refine lv_isub hx hb dX0_nextWithin_45 ?_
        obtain ⟨h_g6, hf⟩ := gd_some hf
        refine ra_IC (v := rA st 18 (((rI st 14) - 1).toNatClampNeg)) hx hb hK G (waC_29 ..) (t0 := 20) rfl rfl h_g6 dX0_nextWithin_46 ?_
        refine lv_goto (tgt := 51) hx hb dX0_nextWithin_47 (by decide) ?_
        exact rt_iC C G hf dX0_nextWithin_51
def rm_Ac_move : Room := { frames := 0, cells := 0, slots := 0, locals := 0 }
set_option maxHeartbeats 4000000 in
set_option maxRecDepth 100000 in
theorem kx_Ac_move_b22 {p : Program} {l : Launch} {e : Env} {s : State} {m : MethodId} {args : Array Value} {below : List Frame} {meth : Method} {c : Code} {D : va_G} {h : Nat → Nat} {E : Nat → Nat} {k : Nat → Nat × ClassId} (C : cxC D k p s m args meth c cX0_move 5 none RX0) (N : Nat) : ∀ (n : Nat) (x1 : Int32) (x2 : Int32) (x3 : Int32) (x4 : Int32) (st : rs_T) (s' : rs_T), fx_Ac_move_b22 N n x1 x2 x3 x4 st = some s' → ∀ (H : Heap) (locs : List Loc) (ls : Array Slot), lv_has ls 5 [(0, .ref (h 4)), (1, .int x1), (2, .int x2), (3, .int x3), (4, .int x4)] → gdC D k h (vE E) (arC k h s.heap.size) s.heap H locs st → W p l e rm_Ac_move s m args below meth c H locs 0 0 (MQ below (qVC D k h E s.heap.size s') args s 0 0 (arC k h s.heap.size)) (F0 m 22 ls []) := by
  obtain ⟨hx, hb, hml, hr, hown, hts, hK, hN, hlk⟩ := id C
  intro n
  induction n with
  | zero => intro x1 x2 x3 x4 st s' hf; cases hf
  | succ n ih =>
    intro x1 x2 x3 x4 st s' hf H locs ls hl G
    rw [fx_Ac_move_b22] at hf
    refine lv_iload hx hb dX0_move_22 (lv_at hl 4 rfl) ?_
    refine lv_iload_n hx hb dX0_move_24 rfl (lv_at hl 3 rfl) ?_
    refine lv_icmp_ge (tgt := 52) hx hb dX0_move_25 (by decide) (fun c4 => ?_) (fun c4 => ?_)
    · replace hf := if_p hf c4
      exact rt_vC C G hf dX0_move_52
    · replace hf := if_n hf c4
      refine lv_aload_n hx hb dX0_move_28 rfl (lv_at hl 0 rfl) ?_
      refine fg_Ac_values hx hb hts hown hK G (hts _ lk_X0_28) dX0_move_29 ?_
      refine lv_iload_n hx hb dX0_move_32 rfl (lv_at hl 2 rfl) ?_
      refine lv_iload hx hb dX0_move_33 (lv_at hl 4 rfl) ?_
      refine lv_iadd hx hb dX0_move_35 ?_
      refine lv_aload_n hx hb dX0_move_36 rfl (lv_at hl 0 rfl) ?_
      refine fg_Ac_values hx hb hts hown hK G (hts _ lk_X0_28) dX0_move_37 ?_
      refine lv_iload_n hx hb dX0_move_40 rfl (lv_at hl 1 rfl) ?_
      refine lv_iload hx hb dX0_move_41 (lv_at hl 4 rfl) ?_
      refine lv_iadd hx hb dX0_move_43 ?_
      obtain ⟨h_g5, hf⟩ := gd_some hf
      refine ra_JC (v := rL st 2 ((x1 + x4).toNatClampNeg)) hx hb hK G (waC_33 ..) (t0 := 24) rfl rfl h_g5 dX0_move_44 ?_
      obtain ⟨h_g6, hf⟩ := gd_some hf
      refine rw_JC hx hb hK G (waC_33 ..) (t0 := 24) rfl (wsC_33 ..) (zw_33 h_g6) rfl h_g6 dX0_move_45 (fun H locs G => ?_)
      obtain ⟨v7, e_v7⟩ : ∃ z : Int32, z = x4 + 1 := ⟨_, rfl⟩
      replace hf := bd_some hf v7 e_v7
      refine lv_iinc (v := v7) (lv' := [(4, .int v7), (0, .ref (h 4)), (1, .int x1), (2, .int x2), (3, .int x3)]) hx hb dX0_move_46 hl (k := 4) rfl (by rw [e_v7]; rfl) (by decide) rfl (fun ls hl => ?_)
      refine lv_goto (tgt := 22) hx hb dX0_move_49 (by decide) ?_
      exact ih x1 x2 x3 v7 (wL st 2 ((x2 + x4).toNatClampNeg) (rL st 2 ((x1 + x4).toNatClampNeg))) _ hf _ _ _ (lv_sub hl [1, 2, 3, 4, 0] rfl) G
set_option maxHeartbeats 4000000 in
set_option maxRecDepth 100000 in
theorem kx_Ac_move (l : Launch) (D : va_G) (k : Nat → Nat × ClassId) (h : Nat → Nat) (N : Nat) (p1 : Int32) (p2 : Int32) (p3 : Int32) (st : rs_T) (s' : rs_T) (hf : fx_Ac_move N p1 p2 p3 st = some s') : mVC l D k h yX0_move cX0_move 5 rm_Ac_move [.ref (h 4), .int p1, .int p2, .int p3] st s' := by
  refine mVC_of (by decide) ⟨rfl, rfl⟩ (Nat.le_of_ble_eq_true rfl) ?_
  intro p e s m below meth c ls C hl G
  obtain ⟨hx, hb, hml, hr, hown, hts, hK, hN, hlk⟩ := id C
  have hown : s.vm.findClass RX0 = some m.cls := hown
  have hl : lv_has ls 5 [(0, .ref (h 4)), (1, .int p1), (2, .int p2), (3, .int p3)] := hl
  unfold fx_Ac_move at hf
  refine lv_iload_n hx hb dX0_move_0 rfl (lv_at hl 2 rfl) ?_
  refine lv_if_lt (tgt := 18) hx hb dX0_move_1 (by decide) (fun c1 => ?_) (fun c1 => ?_)
  · replace hf := if_p hf c1
    exact rt_vC C G hf dX0_move_18
  · replace hf := if_n hf c1
    refine lv_iload_n hx hb dX0_move_4 rfl (lv_at hl 1 rfl) ?_
    refine lv_iload_n hx hb dX0_move_5 rfl (lv_at hl 2 rfl) ?_
    refine lv_icmp_lt (tgt := 18) hx hb dX0_move_6 (by decide) (fun c2 => ?_) (fun c2 => ?_)
    · replace hf := if_p hf c2
      exact rt_vC C G hf dX0_move_18
    · replace hf := if_n hf c2
      refine lv_iload_n hx hb dX0_move_9 rfl (lv_at hl 1 rfl) ?_
      refine lv_iload_n hx hb dX0_move_10 rfl (lv_at hl 3 rfl) ?_
      refine lv_iadd hx hb dX0_move_11 ?_
      refine lv_sipush (v := 220) hx hb dX0_move_12 (by decide) ?_
      refine lv_icmp_le (tgt := 19) hx hb dX0_move_15 (by decide) (fun c3 => ?_) (fun c3 => ?_)
      · replace hf := if_p hf c3
        refine lv_iconst (v := 0) hx hb dX0_move_19 (by decide) ?_
        refine lv_istore (lv' := [(4, .int 0), (0, .ref (h 4)), (1, .int p1), (2, .int p2), (3, .int p3)]) hx hb dX0_move_20 hl (by decide) rfl (fun ls hl => ?_)
        exact kx_Ac_move_b22 C N N p1 p2 p3 0 st _ hf _ _ _ (lv_sub hl [1, 2, 3, 4, 0] rfl) G
      · replace hf := if_n hf c3
        exact rt_vC C G hf dX0_move_18
def rm_Ac_value : Room := { frames := 0, cells := 0, slots := 0, locals := 0 }
set_option maxHeartbeats 4000000 in
set_option maxRecDepth 100000 in
theorem kx_Ac_value (l : Launch) (D : va_G) (k : Nat → Nat × ClassId) (h : Nat → Nat) (p1 : Int32) (st : rs_T) (r : Int64) (s' : rs_T) (hf : fx_Ac_value p1 st = some (r, s')) : mLC l D k h yX0_value cX0_value 2 rm_Ac_value [.ref (h 4), .int p1] st r s' := by
  refine mLC_of (by decide) ⟨rfl, rfl⟩ (Nat.le_of_ble_eq_true rfl) ?_
  intro p e s m below meth c ls C hl G
  obtain ⟨hx, hb, hml, hr, hown, hts, hK, hN, hlk⟩ := id C
  have hown : s.vm.findClass RX0 = some m.cls := hown
  have hl : lv_has ls 2 [(0, .ref (h 4)), (1, .int p1)] := hl
  unfold fx_Ac_value at hf
  refine lv_iload_n hx hb dX0_value_0 rfl (lv_at hl 1 rfl) ?_
  refine lv_if_lt (tgt := 20) hx hb dX0_value_1 (by decide) (fun c1 => ?_) (fun c1 => ?_)
  · replace hf := if_p hf c1
    refine lv_lconst (v := 0) hx hb dX0_value_20 (by decide) ?_
    exact rt_lC C G hf dX0_value_21
  · replace hf := if_n hf c1
    refine lv_iload_n hx hb dX0_value_4 rfl (lv_at hl 1 rfl) ?_
    refine lv_sipush (v := 220) hx hb dX0_value_5 (by decide) ?_
    refine lv_icmp_ge (tgt := 20) hx hb dX0_value_8 (by decide) (fun c2 => ?_) (fun c2 => ?_)
    · replace hf := if_p hf c2
      refine lv_lconst (v := 0) hx hb dX0_value_20 (by decide) ?_
      exact rt_lC C G hf dX0_value_21
    · replace hf := if_n hf c2
      refine lv_aload_n hx hb dX0_value_11 rfl (lv_at hl 0 rfl) ?_
      refine fg_Ac_values hx hb hts hown hK G (hts _ lk_X0_28) dX0_value_12 ?_
      refine lv_iload_n hx hb dX0_value_15 rfl (lv_at hl 1 rfl) ?_
      obtain ⟨h_g3, hf⟩ := gd_some hf
      refine ra_JC (v := rL st 2 p1.toNatClampNeg) hx hb hK G (waC_33 ..) (t0 := 24) rfl rfl h_g3 dX0_value_16 ?_
      refine lv_goto (tgt := 21) hx hb dX0_value_17 (by decide) ?_
      exact rt_lC C G hf dX0_value_21
def rm_Ac_leave : Room := { frames := 1, cells := 0, slots := 0, locals := 24 }
set_option maxHeartbeats 4000000 in
set_option maxRecDepth 100000 in
theorem kx_Ac_leave_b58 {p : Program} {l : Launch} {e : Env} {s : State} {m : MethodId} {args : Array Value} {below : List Frame} {meth : Method} {c : Code} {D : va_G} {h : Nat → Nat} {E : Nat → Nat} {k : Nat → Nat × ClassId} (C : cxC D k p s m args meth c cX0_leave 4 none RX0) (N : Nat) : ∀ (n : Nat) (x1 : Int32) (x2 : Int32) (x3 : Int32) (st : rs_T) (s' : rs_T), fx_Ac_leave_b58 N n x1 x2 x3 st = some s' → ∀ (H : Heap) (locs : List Loc) (ls : Array Slot), lv_has ls 4 [(0, .ref (h 4)), (1, .int x1), (2, .int x2), (3, .int x3)] → gdC D k h (vE E) (arC k h s.heap.size) s.heap H locs st → W p l e rm_Ac_leave s m args below meth c H locs 0 0 (MQ below (qVC D k h E s.heap.size s') args s 0 0 (arC k h s.heap.size)) (F0 m 58 ls []) := by
  obtain ⟨hx, hb, hml, hr, hown, hts, hK, hN, hlk⟩ := id C
  intro n
  induction n with
  | zero => intro x1 x2 x3 st s' hf; cases hf
  | succ n ih =>
    intro x1 x2 x3 st s' hf H locs ls hl G
    rw [fx_Ac_leave_b58] at hf
    refine lv_iload_n hx hb dX0_leave_58 rfl (lv_at hl 3 rfl) ?_
    refine lv_iload_n hx hb dX0_leave_59 rfl (lv_at hl 2 rfl) ?_
    refine lv_icmp_ge (tgt := 82) hx hb dX0_leave_60 (by decide) (fun c11 => ?_) (fun c11 => ?_)
    · replace hf := if_p hf c11
      refine lv_aload_n hx hb dX0_leave_82 rfl (lv_at hl 0 rfl) ?_
      refine lv_iload_n hx hb dX0_leave_83 rfl (lv_at hl 2 rfl) ?_
      refine fp_Ac_resultCount hx hb hts hown hK G (hts _ lk_X0_35) dX0_leave_84 (fun H locs G => ?_)
      refine lv_aload_n hx hb dX0_leave_87 rfl (lv_at hl 0 rfl) ?_
      refine lv_iconst (v := 2) hx hb dX0_leave_88 (by decide) ?_
      refine fp_Ac_state hx hb hts hown hK G (hts _ lk_X0_39) dX0_leave_89 (fun H locs G => ?_)
      exact rt_vC C G hf dX0_leave_92
    · replace hf := if_n hf c11
      refine lv_aload_n hx hb dX0_leave_63 rfl (lv_at hl 0 rfl) ?_
      refine fg_Ac_results hx hb hts hown hK G (hts _ lk_X0_32) dX0_leave_64 ?_
      refine lv_iload_n hx hb dX0_leave_67 rfl (lv_at hl 3 rfl) ?_
      refine lv_aload_n hx hb dX0_leave_68 rfl (lv_at hl 0 rfl) ?_
      refine lv_iload_n hx hb dX0_leave_69 rfl (lv_at hl 1 rfl) ?_
      refine lv_iload_n hx hb dX0_leave_70 rfl (lv_at hl 3 rfl) ?_
      refine lv_iadd hx hb dX0_leave_71 ?_
      obtain ⟨r13, st12, hst12, hf⟩ := bn_some hf
      refine cl_vlC C hl G (As := [.int (x1 + x3)]) (rest := [.int x3, .ref (k 34).1]) (kx_Ac_value l D k h (x1 + x3) st _ _ hst12) gi_X0_89 (hwC_4 ..) rfl hd_X0_value ⟨Nat.le_of_ble_eq_true rfl, Nat.le_of_ble_eq_true rfl⟩ rfl rfl (Nat.le_of_ble_eq_true rfl) dX0_leave_72 ⟨Nat.zero_le _, Nat.zero_le _⟩ (fun H locs e0 G => ?_)
      obtain ⟨h_g14, hf⟩ := gd_some hf
      refine rw_JC hx hb hK G (waC_34 ..) (t0 := 25) rfl (wsC_34 ..) (zw_34 h_g14) rfl h_g14 dX0_leave_75 (fun H locs G => ?_)
      obtain ⟨v15, e_v15⟩ : ∃ z : Int32, z = x3 + 1 := ⟨_, rfl⟩
      replace hf := bd_some hf v15 e_v15
      refine lv_iinc (v := v15) (lv' := [(3, .int v15), (0, .ref (h 4)), (1, .int x1), (2, .int x2)]) hx hb dX0_leave_76 hl (k := 3) rfl (by rw [e_v15]; rfl) (by decide) rfl (fun ls hl => ?_)
      refine lv_goto (tgt := 58) hx hb dX0_leave_79 (by decide) ?_
      exact ih x1 x2 v15 (wL st12 3 x3.toNatClampNeg r13) _ hf _ _ _ (lv_sub hl [1, 2, 3, 0] rfl) G
set_option maxHeartbeats 4000000 in
set_option maxRecDepth 100000 in
theorem kx_Ac_leave (l : Launch) (D : va_G) (k : Nat → Nat × ClassId) (h : Nat → Nat) (N : Nat) (p1 : Int32) (st : rs_T) (s' : rs_T) (hf : fx_Ac_leave N p1 st = some s') : mVC l D k h yX0_leave cX0_leave 4 rm_Ac_leave [.ref (h 4), .int p1] st s' := by
  refine mVC_of (by decide) ⟨rfl, rfl⟩ (Nat.le_of_ble_eq_true rfl) ?_
  intro p e s m below meth c ls C hl G
  obtain ⟨hx, hb, hml, hr, hown, hts, hK, hN, hlk⟩ := id C
  have hown : s.vm.findClass RX0 = some m.cls := hown
  have hl : lv_has ls 4 [(0, .ref (h 4)), (1, .int p1)] := hl
  unfold fx_Ac_leave at hf
  refine lv_aload_n hx hb dX0_leave_0 rfl (lv_at hl 0 rfl) ?_
  refine fg_Ac_frames (v := rI st 14) hx hb hts hown hK G (hts _ lk_X0_48) rfl dX0_leave_1 ?_
  refine lv_if_gt (tgt := 8) hx hb dX0_leave_4 (by decide) (fun c1 => ?_) (fun c1 => ?_)
  · replace hf := if_p hf c1
    refine lv_aload_n hx hb dX0_leave_8 rfl (lv_at hl 0 rfl) ?_
    refine lv_dup hx hb dX0_leave_9 rfl ?_
    refine fg_Ac_frames (v := rI st 14) hx hb hts hown hK G (hts _ lk_X0_48) rfl dX0_leave_10 ?_
    refine lv_iconst (v := 1) hx hb dX0_leave_13 (by decide) ?_
    refine lv_isub hx hb dX0_leave_14 ?_
    refine fp_Ac_frames hx hb hts hown hK G (hts _ lk_X0_48) dX0_leave_15 (fun H locs G => ?_)
    refine lv_aload_n hx hb dX0_leave_18 rfl (lv_at hl 0 rfl) ?_
    refine lv_aload_n hx hb dX0_leave_19 rfl (lv_at hl 0 rfl) ?_
    refine fg_Ac_base hx hb hts hown hK G (hts _ lk_X0_18) dX0_leave_20 ?_
    refine lv_aload_n hx hb dX0_leave_23 rfl (lv_at hl 0 rfl) ?_
    refine fg_Ac_frames (v := (rI st 14) - 1) hx hb hts hown hK G (hts _ lk_X0_48) rfl dX0_leave_24 ?_
    obtain ⟨h_g2, hf⟩ := gd_some hf
    refine ra_IC (v := rA st 19 (((rI st 14) - 1).toNatClampNeg)) hx hb hK G (waC_30 ..) (t0 := 21) rfl rfl h_g2 dX0_leave_27 ?_
    refine fp_Ac_used hx hb hts hown hK G (hts _ lk_X0_61) dX0_leave_28 (fun H locs G => ?_)
    refine lv_aload_n hx hb dX0_leave_31 rfl (lv_at hl 0 rfl) ?_
    refine fg_Ac_program hx hb hts hown hK G (hts _ lk_X0_64) dX0_leave_32 ?_
    refine fg_Pr_results hx hb hts hown hK G (hts _ lk_X0_87) dX0_leave_35 ?_
    refine lv_aload_n hx hb dX0_leave_38 rfl (lv_at hl 0 rfl) ?_
    refine fg_Ac_function hx hb hts hown hK G (hts _ lk_X0_9) dX0_leave_39 ?_
    refine lv_aload_n hx hb dX0_leave_42 rfl (lv_at hl 0 rfl) ?_
    refine fg_Ac_frames (v := (rI st 14) - 1) hx hb hts hown hK G (hts _ lk_X0_48) rfl dX0_leave_43 ?_
    obtain ⟨h_g3, hf⟩ := gd_some hf
    refine ra_IC (v := rA st 17 (((rI st 14) - 1).toNatClampNeg)) hx hb hK G (waC_28 ..) (t0 := 19) rfl rfl h_g3 dX0_leave_46 ?_
    obtain ⟨h_g4, hf⟩ := gd_some hf
    refine ra_IC (v := rA st 1 ((rA st 17 (((rI st 14) - 1).toNatClampNeg)).toNatClampNeg)) hx hb hK G (waC_11 ..) (t0 := 2) rfl rfl h_g4 dX0_leave_47 ?_
    refine lv_topi (fun v5 e_v5 => ?_)
    replace hf := bd_some hf v5 e_v5
    refine lv_istore_n (lv' := [(2, .int v5), (0, .ref (h 4)), (1, .int p1)]) hx hb dX0_leave_48 rfl hl (by decide) rfl (fun ls hl => ?_)
    refine lv_aload_n hx hb dX0_leave_49 rfl (lv_at hl 1 rfl) ?_
    refine fg_Ac_frames (v := (rI st 14) - 1) hx hb hts hown hK G (hts _ lk_X0_48) rfl dX0_leave_50 ?_
    refine lv_if_ne (tgt := 93) hx hb dX0_leave_53 (by decide) (fun c6 => ?_) (fun c6 => ?_)
    · replace hf := if_n hf c6
      refine lv_aload_n hx hb dX0_leave_93 rfl (lv_at hl 1 rfl) ?_
      refine lv_iload_n hx hb dX0_leave_94 rfl (lv_at hl 2 rfl) ?_
      refine lv_aload_n hx hb dX0_leave_95 rfl (lv_at hl 1 rfl) ?_
      refine fg_Ac_top hx hb hts hown hK G (hts _ lk_X0_21) dX0_leave_96 ?_
      refine lv_aload_n hx hb dX0_leave_99 rfl (lv_at hl 1 rfl) ?_
      refine fg_Ac_frames (v := (rI st 14) - 1) hx hb hts hown hK G (hts _ lk_X0_48) rfl dX0_leave_100 ?_
      refine lv_iconst (v := 1) hx hb dX0_leave_103 (by decide) ?_
      refine lv_isub hx hb dX0_leave_104 ?_
      obtain ⟨h_g7, hf⟩ := gd_some hf
      refine ra_IC (v := rA st 20 ((((rI st 14) - 1) - 1).toNatClampNeg)) hx hb hK G (waC_31 ..) (t0 := 22) rfl rfl h_g7 dX0_leave_105 ?_
      refine lv_iload_n hx hb dX0_leave_106 rfl (lv_at hl 0 rfl) ?_
      obtain ⟨st8, hst8, hf⟩ := bv_some hf
      refine cl_vvC C hl G (As := [.int p1, .int (rA st 20 ((((rI st 14) - 1) - 1).toNatClampNeg)), .int v5]) (rest := []) (kx_Ac_move l D k h N p1 (rA st 20 ((((rI st 14) - 1) - 1).toNatClampNeg)) v5 (wI (wI st 14 ((rI st 14) - 1)) 18 (rA st 19 (((rI st 14) - 1).toNatClampNeg))) _ hst8) gi_X0_93 (hwC_4 ..) rfl hd_X0_move ⟨Nat.le_of_ble_eq_true rfl, Nat.le_of_ble_eq_true rfl⟩ rfl rfl (Nat.le_of_ble_eq_true rfl) dX0_leave_107 ⟨Nat.zero_le _, Nat.zero_le _⟩ (fun H locs e0 G => ?_)
      refine lv_aload_n hx hb dX0_leave_110 rfl (lv_at hl 1 rfl) ?_
      refine fg_Ac_top hx hb hts hown hK G (hts _ lk_X0_21) dX0_leave_111 ?_
      refine lv_aload_n hx hb dX0_leave_114 rfl (lv_at hl 1 rfl) ?_
      refine fg_Ac_frames (v := rI st8 14) hx hb hts hown hK G (hts _ lk_X0_48) rfl dX0_leave_115 ?_
      refine lv_iconst (v := 1) hx hb dX0_leave_118 (by decide) ?_
      refine lv_isub hx hb dX0_leave_119 ?_
      refine lv_dup2_11 hx hb dX0_leave_120 rfl rfl ?_
      obtain ⟨h_g9, hf⟩ := gd_some hf
      refine ra_IC (v := rA st8 20 (((rI st8 14) - 1).toNatClampNeg)) hx hb hK G (waC_31 ..) (t0 := 22) rfl rfl h_g9 dX0_leave_121 ?_
      refine lv_iload_n hx hb dX0_leave_122 rfl (lv_at hl 0 rfl) ?_
      refine lv_iadd hx hb dX0_leave_123 ?_
      obtain ⟨h_g10, hf⟩ := gd_some hf
      refine rw_IC hx hb hK G (waC_31 ..) (t0 := 22) rfl (wsC_31 ..) (zw_31 h_g10) rfl h_g10 dX0_leave_124 (fun H locs G => ?_)
      exact rt_vC C G hf dX0_leave_125
    · replace hf := if_p hf c6
      refine lv_iconst (v := 0) hx hb dX0_leave_56 (by decide) ?_
      refine lv_istore_n (lv' := [(3, .int 0), (2, .int v5), (0, .ref (h 4)), (1, .int p1)]) hx hb dX0_leave_57 rfl hl (by decide) rfl (fun ls hl => ?_)
      exact kx_Ac_leave_b58 C N N p1 v5 0 (wI (wI st 14 ((rI st 14) - 1)) 18 (rA st 19 (((rI st 14) - 1).toNatClampNeg))) _ hf _ _ _ (lv_sub hl [2, 3, 1, 0] rfl) G
  · replace hf := if_n hf c1
    exact rt_vC C G hf dX0_leave_7
def rm_Sr_giveBack : Room := { frames := 2, cells := 0, slots := 0, locals := 47 }
set_option maxHeartbeats 4000000 in
set_option maxRecDepth 100000 in
theorem kx_Sr_giveBack (l : Launch) (D : va_G) (k : Nat → Nat × ClassId) (h : Nat → Nat) (N : Nat) (p1 : Int32) (st : rs_T) (s' : rs_T) (hf : fx_Sr_giveBack N p1 st = some s') : mVC l D k h yX6_giveBack cX6_giveBack 2 rm_Sr_giveBack [.ref (h 7), .int p1] st s' := by
  refine mVC_of (by decide) ⟨rfl, rfl⟩ (Nat.le_of_ble_eq_true rfl) ?_
  intro p e s m below meth c ls C hl G
  obtain ⟨hx, hb, hml, hr, hown, hts, hK, hN, hlk⟩ := id C
  have hown : s.vm.findClass RX6 = some m.cls := hown
  have hl : lv_has ls 2 [(0, .ref (h 7)), (1, .int p1)] := hl
  unfold fx_Sr_giveBack at hf
  refine lv_aload_n hx hb dX6_giveBack_0 rfl (lv_at hl 0 rfl) ?_
  refine fg_Sr_activity hx hb hts hown hK G (hts _ lk_X6_19) dX6_giveBack_1 ?_
  refine lv_aload_n hx hb dX6_giveBack_4 rfl (lv_at hl 0 rfl) ?_
  refine fg_Sr_activity hx hb hts hown hK G (hts _ lk_X6_19) dX6_giveBack_5 ?_
  refine fg_Ac_top hx hb hts hown hK G (hts _ lk_X6_136) dX6_giveBack_8 ?_
  refine lv_iload_n hx hb dX6_giveBack_11 rfl (lv_at hl 1 rfl) ?_
  obtain ⟨h_g1, hf⟩ := gd_some hf
  refine ra_IC (v := rA st 20 p1.toNatClampNeg) hx hb hK G (waC_31 ..) (t0 := 22) rfl rfl h_g1 dX6_giveBack_12 ?_
  refine lv_aload_n hx hb dX6_giveBack_13 rfl (lv_at hl 0 rfl) ?_
  refine fg_Sr_program hx hb hts hown hK G (hts _ lk_X6_9) dX6_giveBack_14 ?_
  refine fg_Pr_results hx hb hts hown hK G (hts _ lk_X6_186) dX6_giveBack_17 ?_
  refine lv_aload_n hx hb dX6_giveBack_20 rfl (lv_at hl 0 rfl) ?_
  refine fg_Sr_activity hx hb hts hown hK G (hts _ lk_X6_19) dX6_giveBack_21 ?_
  refine fg_Ac_function hx hb hts hown hK G (hts _ lk_X6_166) dX6_giveBack_24 ?_
  refine lv_iload_n hx hb dX6_giveBack_27 rfl (lv_at hl 1 rfl) ?_
  obtain ⟨h_g2, hf⟩ := gd_some hf
  refine ra_IC (v := rA st 17 p1.toNatClampNeg) hx hb hK G (waC_28 ..) (t0 := 19) rfl rfl h_g2 dX6_giveBack_28 ?_
  obtain ⟨h_g3, hf⟩ := gd_some hf
  refine ra_IC (v := rA st 1 ((rA st 17 p1.toNatClampNeg).toNatClampNeg)) hx hb hK G (waC_11 ..) (t0 := 2) rfl rfl h_g3 dX6_giveBack_29 ?_
  refine lv_isub hx hb dX6_giveBack_30 ?_
  obtain ⟨st4, hst4, hf⟩ := bv_some hf
  refine cl_vvC C hl G (As := [.int ((rA st 20 p1.toNatClampNeg) - (rA st 1 ((rA st 17 p1.toNatClampNeg).toNatClampNeg)))]) (rest := []) (kx_Ac_leave l D k h N ((rA st 20 p1.toNatClampNeg) - (rA st 1 ((rA st 17 p1.toNatClampNeg).toNatClampNeg))) st _ hst4) gi_X6_189 (hwC_4 ..) rfl hd_X0_leave ⟨Nat.le_of_ble_eq_true rfl, Nat.le_of_ble_eq_true rfl⟩ rfl rfl (Nat.le_of_ble_eq_true rfl) dX6_giveBack_31 ⟨Nat.zero_le _, Nat.zero_le _⟩ (fun H locs e0 G => ?_)
  exact rt_vC C G hf dX6_giveBack_34
def rm_Sr_performFree : Room := { frames := 3, cells := 0, slots := 0, locals := 68 }
set_option maxHeartbeats 4000000 in
set_option maxRecDepth 100000 in
theorem kx_Sr_performFree (l : Launch) (D : va_G) (k : Nat → Nat × ClassId) (h : Nat → Nat) (N : Nat) (st : rs_T) (r : Int32) (s' : rs_T) (hf : fx_Sr_performFree N st = some (r, s')) : mIC l D k h yX6_performFree cX6_performFree 3 .boolean rm_Sr_performFree [.ref (h 7)] st r s' := by
  refine mIC_of (by decide) ⟨rfl, rfl⟩ (Nat.le_of_ble_eq_true rfl) ?_
  intro p e s m below meth c ls C hl G
  obtain ⟨hx, hb, hml, hr, hown, hts, hK, hN, hlk⟩ := id C
  have hown : s.vm.findClass RX6 = some m.cls := hown
  have hl : lv_has ls 3 [(0, .ref (h 7))] := hl
  unfold fx_Sr_performFree at hf
  refine lv_aload_n hx hb dX6_performFree_0 rfl (lv_at hl 0 rfl) ?_
  refine fg_Sr_activity hx hb hts hown hK G (hts _ lk_X6_19) dX6_performFree_1 ?_
  refine lv_aload_n hx hb dX6_performFree_4 rfl (lv_at hl 0 rfl) ?_
  refine fg_Sr_program hx hb hts hown hK G (hts _ lk_X6_9) dX6_performFree_5 ?_
  refine fg_Pr_size (v := rI st 4) hx hb hts hown hK G (hts _ lk_X6_23) rfl dX6_performFree_8 ?_
  obtain ⟨r2, st1, hst1, hf⟩ := bn_some hf
  refine cl_viC C hl G (As := [.int (rI st 4)]) (rest := []) (kx_Ac_nextWithin l D k h (rI st 4) st _ _ hst1) gi_X6_29 (hwC_4 ..) rfl hd_X0_nextWithin ⟨Nat.le_of_ble_eq_true rfl, Nat.le_of_ble_eq_true rfl⟩ rfl rfl (Nat.le_of_ble_eq_true rfl) dX6_performFree_11 ⟨Nat.zero_le _, Nat.zero_le _⟩ (fun H locs e0 G => ?_)
  refine lv_istore_n (lv' := [(1, .int r2), (0, .ref (h 7))]) hx hb dX6_performFree_14 rfl hl (by decide) rfl (fun ls hl => ?_)
  refine lv_iload_n hx hb dX6_performFree_15 rfl (lv_at hl 0 rfl) ?_
  refine lv_iconst (v := (-1)) hx hb dX6_performFree_16 (by decide) ?_
  refine lv_icmp_ne (tgt := 22) hx hb dX6_performFree_17 (by decide) (fun c3 => ?_) (fun c3 => ?_)
  · replace hf := if_n hf c3
    refine lv_aload_n hx hb dX6_performFree_22 rfl (lv_at hl 1 rfl) ?_
    refine fg_Sr_activity hx hb hts hown hK G (hts _ lk_X6_19) dX6_performFree_23 ?_
    refine fg_Ac_frames (v := rI st1 14) hx hb hts hown hK G (hts _ lk_X6_35) rfl dX6_performFree_26 ?_
    refine lv_iconst (v := 1) hx hb dX6_performFree_29 (by decide) ?_
    refine lv_isub hx hb dX6_performFree_30 ?_
    refine lv_topi (fun v4 e_v4 => ?_)
    replace hf := bd_some hf v4 e_v4
    refine lv_istore_n (lv' := [(2, .int v4), (1, .int r2), (0, .ref (h 7))]) hx hb dX6_performFree_31 rfl hl (by decide) rfl (fun ls hl => ?_)
    refine lv_aload_n hx hb dX6_performFree_32 rfl (lv_at hl 2 rfl) ?_
    refine fg_Sr_program hx hb hts hown hK G (hts _ lk_X6_9) dX6_performFree_33 ?_
    refine fg_Pr_operation hx hb hts hown hK G (hts _ lk_X6_38) dX6_performFree_36 ?_
    refine lv_iload_n hx hb dX6_performFree_39 rfl (lv_at hl 1 rfl) ?_
    obtain ⟨h_g5, hf⟩ := gd_some hf
    refine ra_IC (v := rA st1 7 r2.toNatClampNeg) hx hb hK G (waC_17 ..) (t0 := 8) rfl rfl h_g5 dX6_performFree_40 ?_
    refine lv_topi (fun v6 e_v6 => ?_)
    replace hf := bd_some hf v6 e_v6
    by_cases s7_0 : v6 ∈ ([2, 3] : List Int32)
    · replace hf := if_p hf s7_0
      refine sw_tb (tgt := 96) (off := 55) hx hb dX6_performFree_41 (sw_tbt s7_0 (by decide)) (by decide) (by decide) ?_
      refine lv_aload_n hx hb dX6_performFree_96 rfl (lv_at hl 2 rfl) ?_
      refine fg_Sr_activity hx hb hts hown hK G (hts _ lk_X6_19) dX6_performFree_97 ?_
      refine fg_Ac_next hx hb hts hown hK G (hts _ lk_X6_42) dX6_performFree_100 ?_
      refine lv_iload_n hx hb dX6_performFree_103 rfl (lv_at hl 0 rfl) ?_
      refine lv_iload_n hx hb dX6_performFree_104 rfl (lv_at hl 1 rfl) ?_
      refine lv_iconst (v := 1) hx hb dX6_performFree_105 (by decide) ?_
      refine lv_iadd hx hb dX6_performFree_106 ?_
      obtain ⟨h_g8, hf⟩ := gd_some hf
      refine rw_IC hx hb hK G (waC_29 ..) (t0 := 20) rfl (wsC_29 ..) (zw_29 h_g8) rfl h_g8 dX6_performFree_107 (fun H locs G => ?_)
      refine lv_iconst (v := 1) hx hb dX6_performFree_108 (by decide) ?_
      exact rt_zC C rfl G hf dX6_performFree_109
    replace hf := if_n hf s7_0
    by_cases s7_1 : v6 ∈ ([5] : List Int32)
    · replace hf := if_p hf s7_1
      refine sw_tb (tgt := 110) (off := 69) hx hb dX6_performFree_41 (sw_tbt s7_1 (by decide)) (by decide) (by decide) ?_
      refine lv_aload_n hx hb dX6_performFree_110 rfl (lv_at hl 2 rfl) ?_
      refine fg_Sr_activity hx hb hts hown hK G (hts _ lk_X6_19) dX6_performFree_111 ?_
      refine fg_Ac_next hx hb hts hown hK G (hts _ lk_X6_42) dX6_performFree_114 ?_
      refine lv_iload_n hx hb dX6_performFree_117 rfl (lv_at hl 0 rfl) ?_
      refine lv_aload_n hx hb dX6_performFree_118 rfl (lv_at hl 2 rfl) ?_
      refine fg_Sr_program hx hb hts hown hK G (hts _ lk_X6_9) dX6_performFree_119 ?_
      refine fg_Pr_link hx hb hts hown hK G (hts _ lk_X6_45) dX6_performFree_122 ?_
      refine lv_iload_n hx hb dX6_performFree_125 rfl (lv_at hl 1 rfl) ?_
      obtain ⟨h_g9, hf⟩ := gd_some hf
      refine ra_IC (v := rA st1 10 r2.toNatClampNeg) hx hb hK G (waC_20 ..) (t0 := 11) rfl rfl h_g9 dX6_performFree_126 ?_
      refine lv_iconst (v := 1) hx hb dX6_performFree_127 (by decide) ?_
      refine lv_iadd hx hb dX6_performFree_128 ?_
      obtain ⟨h_g10, hf⟩ := gd_some hf
      refine rw_IC hx hb hK G (waC_29 ..) (t0 := 20) rfl (wsC_29 ..) (zw_29 h_g10) rfl h_g10 dX6_performFree_129 (fun H locs G => ?_)
      refine lv_iconst (v := 1) hx hb dX6_performFree_130 (by decide) ?_
      exact rt_zC C rfl G hf dX6_performFree_131
    replace hf := if_n hf s7_1
    by_cases s7_2 : v6 ∈ ([11] : List Int32)
    · replace hf := if_p hf s7_2
      refine sw_tb (tgt := 132) (off := 91) hx hb dX6_performFree_41 (sw_tbt s7_2 (by decide)) (by decide) (by decide) ?_
      refine lv_aload_n hx hb dX6_performFree_132 rfl (lv_at hl 2 rfl) ?_
      refine fg_Sr_activity hx hb hts hown hK G (hts _ lk_X6_19) dX6_performFree_133 ?_
      refine fg_Ac_next hx hb hts hown hK G (hts _ lk_X6_42) dX6_performFree_136 ?_
      refine lv_iload_n hx hb dX6_performFree_139 rfl (lv_at hl 0 rfl) ?_
      refine lv_iload_n hx hb dX6_performFree_140 rfl (lv_at hl 1 rfl) ?_
      refine lv_iconst (v := 1) hx hb dX6_performFree_141 (by decide) ?_
      refine lv_iadd hx hb dX6_performFree_142 ?_
      obtain ⟨h_g11, hf⟩ := gd_some hf
      refine rw_IC hx hb hK G (waC_29 ..) (t0 := 20) rfl (wsC_29 ..) (zw_29 h_g11) rfl h_g11 dX6_performFree_143 (fun H locs G => ?_)
      refine lv_aload_n hx hb dX6_performFree_144 rfl (lv_at hl 2 rfl) ?_
      refine fg_Sr_program hx hb hts hown hK G (hts _ lk_X6_9) dX6_performFree_145 ?_
      refine fg_Pr_link hx hb hts hown hK G (hts _ lk_X6_45) dX6_performFree_148 ?_
      refine lv_iload_n hx hb dX6_performFree_151 rfl (lv_at hl 1 rfl) ?_
      obtain ⟨h_g12, hf⟩ := gd_some hf
      refine ra_IC (v := rA st1 10 r2.toNatClampNeg) hx hb hK G (waC_20 ..) (t0 := 11) rfl rfl h_g12 dX6_performFree_152 ?_
      refine lv_iconst (v := (-1)) hx hb dX6_performFree_153 (by decide) ?_
      refine lv_icmp_ne (tgt := 162) hx hb dX6_performFree_154 (by decide) (fun c13 => ?_) (fun c13 => ?_)
      · replace hf := if_n hf c13
        refine lv_iconst (v := 1) hx hb dX6_performFree_162 (by decide) ?_
        exact rt_zC C rfl G hf dX6_performFree_163
      · replace hf := if_p hf c13
        refine lv_aload_n hx hb dX6_performFree_157 rfl (lv_at hl 2 rfl) ?_
        refine lv_iload_n hx hb dX6_performFree_158 rfl (lv_at hl 0 rfl) ?_
        obtain ⟨st14, hst14, hf⟩ := bv_some hf
        refine cl_vvC C hl G (As := [.int v4]) (rest := []) (kx_Sr_giveBack l D k h N v4 (wA st1 18 v4.toNatClampNeg (r2 + 1)) _ hst14) gi_X6_48 (hwC_7 ..) rfl hd_X6_giveBack ⟨Nat.le_of_ble_eq_true rfl, Nat.le_of_ble_eq_true rfl⟩ rfl rfl (Nat.le_of_ble_eq_true rfl) dX6_performFree_159 ⟨Nat.zero_le _, Nat.zero_le _⟩ (fun H locs e0 G => ?_)
        refine lv_iconst (v := 1) hx hb dX6_performFree_162 (by decide) ?_
        exact rt_zC C rfl G hf dX6_performFree_163
    replace hf := if_n hf s7_2
    refine sw_tb (tgt := 164) (off := 123) hx hb dX6_performFree_41 (sw_tbd (sw_cons s7_0 (sw_cons s7_1 (sw_cons s7_2 sw_nil))) (by decide)) (by decide) (by decide) ?_
    refine lv_iconst (v := 0) hx hb dX6_performFree_164 (by decide) ?_
    exact rt_zC C rfl G hf dX6_performFree_165
  · replace hf := if_p hf c3
    refine lv_iconst (v := 0) hx hb dX6_performFree_20 (by decide) ?_
    exact rt_zC C rfl G hf dX6_performFree_21
def rm_Ac_fail : Room := { frames := 0, cells := 0, slots := 0, locals := 0 }
set_option maxHeartbeats 4000000 in
set_option maxRecDepth 100000 in
theorem kx_Ac_fail (l : Launch) (D : va_G) (k : Nat → Nat × ClassId) (h : Nat → Nat) (p1 : Int32) (st : rs_T) (s' : rs_T) (hf : fx_Ac_fail p1 st = some s') : mVC l D k h yX0_fail cX0_fail 2 rm_Ac_fail [.ref (h 4), .int p1] st s' := by
  refine mVC_of (by decide) ⟨rfl, rfl⟩ (Nat.le_of_ble_eq_true rfl) ?_
  intro p e s m below meth c ls C hl G
  obtain ⟨hx, hb, hml, hr, hown, hts, hK, hN, hlk⟩ := id C
  have hown : s.vm.findClass RX0 = some m.cls := hown
  have hl : lv_has ls 2 [(0, .ref (h 4)), (1, .int p1)] := hl
  unfold fx_Ac_fail at hf
  refine lv_aload_n hx hb dX0_fail_0 rfl (lv_at hl 0 rfl) ?_
  refine lv_iload_n hx hb dX0_fail_1 rfl (lv_at hl 1 rfl) ?_
  refine fp_Ac_trap hx hb hts hown hK G (hts _ lk_X0_42) dX0_fail_2 (fun H locs G => ?_)
  refine lv_aload_n hx hb dX0_fail_5 rfl (lv_at hl 0 rfl) ?_
  refine lv_iconst (v := 3) hx hb dX0_fail_6 (by decide) ?_
  refine fp_Ac_state hx hb hts hown hK G (hts _ lk_X0_39) dX0_fail_7 (fun H locs G => ?_)
  exact rt_vC C G hf dX0_fail_10
def rm_Pr_constant : Room := { frames := 0, cells := 0, slots := 0, locals := 0 }
set_option maxHeartbeats 4000000 in
set_option maxRecDepth 100000 in
theorem kx_Pr_constant (l : Launch) (D : va_G) (k : Nat → Nat × ClassId) (h : Nat → Nat) (p1 : Int32) (st : rs_T) (r : Int64) (s' : rs_T) (hf : fx_Pr_constant p1 st = some (r, s')) : mLC l D k h yX3_constant cX3_constant 4 rm_Pr_constant [.ref (h 1), .int p1] st r s' := by
  refine mLC_of (by decide) ⟨rfl, rfl⟩ (Nat.le_of_ble_eq_true rfl) ?_
  intro p e s m below meth c ls C hl G
  obtain ⟨hx, hb, hml, hr, hown, hts, hK, hN, hlk⟩ := id C
  have hown : s.vm.findClass RX3 = some m.cls := hown
  have hl : lv_has ls 4 [(0, .ref (h 1)), (1, .int p1)] := hl
  unfold fx_Pr_constant at hf
  refine lv_aload_n hx hb dX3_constant_0 rfl (lv_at hl 0 rfl) ?_
  refine fg_Pr_a hx hb hts hown hK G (hts _ lk_X3_36) dX3_constant_1 ?_
  refine lv_iload_n hx hb dX3_constant_4 rfl (lv_at hl 1 rfl) ?_
  obtain ⟨h_g1, hf⟩ := gd_some hf
  refine ra_IC (v := rA st 8 p1.toNatClampNeg) hx hb hK G (waC_18 ..) (t0 := 9) rfl rfl h_g1 dX3_constant_5 ?_
  refine lv_i2l (v := (rA st 8 p1.toNatClampNeg).toInt64) hx hb dX3_constant_6 rfl ?_
  refine lv_ldc2 (v := 4294967295) hx hb hown (hts _ lk_X3_73) dX3_constant_7 ?_
  refine lv_land hx hb dX3_constant_10 ?_
  refine lv_topl (fun v2 e_v2 => ?_)
  replace hf := bd_some hf v2 e_v2
  refine lv_lstore_n (lv' := [(2, .long v2), (0, .ref (h 1)), (1, .int p1)]) hx hb dX3_constant_11 rfl hl (by decide) rfl (fun ls hl => ?_)
  refine lv_aload_n hx hb dX3_constant_12 rfl (lv_at hl 1 rfl) ?_
  refine fg_Pr_operation hx hb hts hown hK G (hts _ lk_X3_33) dX3_constant_13 ?_
  refine lv_iload_n hx hb dX3_constant_16 rfl (lv_at hl 2 rfl) ?_
  obtain ⟨h_g3, hf⟩ := gd_some hf
  refine ra_IC (v := rA st 7 p1.toNatClampNeg) hx hb hK G (waC_17 ..) (t0 := 8) rfl rfl h_g3 dX3_constant_17 ?_
  refine lv_bipush (v := 66) hx hb dX3_constant_18 (by decide) ?_
  refine lv_icmp_ne (tgt := 38) hx hb dX3_constant_20 (by decide) (fun c4 => ?_) (fun c4 => ?_)
  · replace hf := if_n hf c4
    refine lv_lload_n hx hb dX3_constant_38 rfl (lv_at hl 0 rfl) ?_
    exact rt_lC C G hf dX3_constant_39
  · replace hf := if_p hf c4
    refine lv_aload_n hx hb dX3_constant_23 rfl (lv_at hl 1 rfl) ?_
    refine fg_Pr_b hx hb hts hown hK G (hts _ lk_X3_39) dX3_constant_24 ?_
    refine lv_iload_n hx hb dX3_constant_27 rfl (lv_at hl 2 rfl) ?_
    obtain ⟨h_g5, hf⟩ := gd_some hf
    refine ra_IC (v := rA st 9 p1.toNatClampNeg) hx hb hK G (waC_19 ..) (t0 := 10) rfl rfl h_g5 dX3_constant_28 ?_
    refine lv_i2l (v := (rA st 9 p1.toNatClampNeg).toInt64) hx hb dX3_constant_29 rfl ?_
    refine lv_bipush (v := 32) hx hb dX3_constant_30 (by decide) ?_
    refine lv_lshl (v := ((rA st 9 p1.toNatClampNeg).toInt64) <<< ((32 : Int32).toInt64 &&& 63)) hx hb dX3_constant_32 rfl ?_
    refine lv_lload_n hx hb dX3_constant_33 rfl (lv_at hl 0 rfl) ?_
    refine lv_lor hx hb dX3_constant_34 ?_
    refine lv_goto (tgt := 39) hx hb dX3_constant_35 (by decide) ?_
    exact rt_lC C G hf dX3_constant_39
def rm_Rr_read : Room := { frames := 1, cells := 0, slots := 0, locals := 23 }
set_option maxHeartbeats 4000000 in
set_option maxRecDepth 100000 in
theorem kx_Rr_read (l : Launch) (D : va_G) (k : Nat → Nat × ClassId) (h : Nat → Nat) (p1 : Int32) (p2 : Int32) (st : rs_T) (r : Int64) (s' : rs_T) (hf : fx_Rr_read p1 p2 st = some (r, s')) : mLC l D k h yX5_read cX5_read 3 rm_Rr_read [.ref (h 8), .int p1, .int p2] st r s' := by
  refine mLC_of (by decide) ⟨rfl, rfl⟩ (Nat.le_of_ble_eq_true rfl) ?_
  intro p e s m below meth c ls C hl G
  obtain ⟨hx, hb, hml, hr, hown, hts, hK, hN, hlk⟩ := id C
  have hown : s.vm.findClass RX5 = some m.cls := hown
  have hl : lv_has ls 3 [(0, .ref (h 8)), (1, .int p1), (2, .int p2)] := hl
  unfold fx_Rr_read at hf
  refine lv_iload_n hx hb dX5_read_0 rfl (lv_at hl 2 rfl) ?_
  refine lv_if_ge (tgt := 17) hx hb dX5_read_1 (by decide) (fun c1 => ?_) (fun c1 => ?_)
  · replace hf := if_p hf c1
    refine lv_aload_n hx hb dX5_read_17 rfl (lv_at hl 0 rfl) ?_
    refine fg_Rr_activity hx hb hts hown hK G (hts _ lk_X5_23) dX5_read_18 ?_
    refine lv_aload_n hx hb dX5_read_21 rfl (lv_at hl 0 rfl) ?_
    refine fg_Rr_activity hx hb hts hown hK G (hts _ lk_X5_23) dX5_read_22 ?_
    refine fg_Ac_base hx hb hts hown hK G (hts _ lk_X5_147) dX5_read_25 ?_
    refine lv_iload_n hx hb dX5_read_28 rfl (lv_at hl 1 rfl) ?_
    obtain ⟨h_g2, hf⟩ := gd_some hf
    refine ra_IC (v := rA st 19 p1.toNatClampNeg) hx hb hK G (waC_30 ..) (t0 := 21) rfl rfl h_g2 dX5_read_29 ?_
    refine lv_iload_n hx hb dX5_read_30 rfl (lv_at hl 2 rfl) ?_
    refine lv_iadd hx hb dX5_read_31 ?_
    obtain ⟨r4, st3, hst3, hf⟩ := bn_some hf
    refine cl_vlC C hl G (As := [.int ((rA st 19 p1.toNatClampNeg) + p2)]) (rest := []) (kx_Ac_value l D k h ((rA st 19 p1.toNatClampNeg) + p2) st _ _ hst3) gi_X5_184 (hwC_4 ..) rfl hd_X0_value ⟨Nat.le_of_ble_eq_true rfl, Nat.le_of_ble_eq_true rfl⟩ rfl rfl (Nat.le_of_ble_eq_true rfl) dX5_read_32 ⟨Nat.zero_le _, Nat.zero_le _⟩ (fun H locs e0 G => ?_)
    exact rt_lC C G hf dX5_read_35
  · replace hf := if_n hf c1
    refine lv_aload_n hx hb dX5_read_4 rfl (lv_at hl 0 rfl) ?_
    refine fg_Rr_program hx hb hts hown hK G (hts _ lk_X5_9) dX5_read_5 ?_
    refine lv_iload_n hx hb dX5_read_8 rfl (lv_at hl 2 rfl) ?_
    refine lv_iconst (v := (-1)) hx hb dX5_read_9 (by decide) ?_
    refine lv_ixor hx hb dX5_read_10 ?_
    obtain ⟨r6, st5, hst5, hf⟩ := bn_some hf
    refine cl_vlC C hl G (As := [.int (p2 ^^^ (-1))]) (rest := []) (kx_Pr_constant l D k h (p2 ^^^ (-1)) st _ _ hst5) gi_X5_178 (hwC_1 ..) rfl hd_X3_constant ⟨Nat.le_of_ble_eq_true rfl, Nat.le_of_ble_eq_true rfl⟩ rfl rfl (Nat.le_of_ble_eq_true rfl) dX5_read_11 ⟨Nat.zero_le _, Nat.zero_le _⟩ (fun H locs e0 G => ?_)
    refine lv_goto (tgt := 35) hx hb dX5_read_14 (by decide) ?_
    exact rt_lC C G hf dX5_read_35
def rm_Rr_isZero : Room := { frames := 2, cells := 0, slots := 0, locals := 45 }
set_option maxHeartbeats 4000000 in
set_option maxRecDepth 100000 in
theorem kx_Rr_isZero (l : Launch) (D : va_G) (k : Nat → Nat × ClassId) (h : Nat → Nat) (p1 : Int32) (p2 : Int32) (st : rs_T) (r : Int32) (s' : rs_T) (hf : fx_Rr_isZero p1 p2 st = some (r, s')) : mIC l D k h yX5_isZero cX5_isZero 3 .boolean rm_Rr_isZero [.ref (h 8), .int p1, .int p2] st r s' := by
  refine mIC_of (by decide) ⟨rfl, rfl⟩ (Nat.le_of_ble_eq_true rfl) ?_
  intro p e s m below meth c ls C hl G
  obtain ⟨hx, hb, hml, hr, hown, hts, hK, hN, hlk⟩ := id C
  have hown : s.vm.findClass RX5 = some m.cls := hown
  have hl : lv_has ls 3 [(0, .ref (h 8)), (1, .int p1), (2, .int p2)] := hl
  unfold fx_Rr_isZero at hf
  refine lv_aload_n hx hb dX5_isZero_0 rfl (lv_at hl 0 rfl) ?_
  refine lv_iload_n hx hb dX5_isZero_1 rfl (lv_at hl 1 rfl) ?_
  refine lv_aload_n hx hb dX5_isZero_2 rfl (lv_at hl 0 rfl) ?_
  refine fg_Rr_code hx hb hts hown hK G (hts _ lk_X5_15) dX5_isZero_3 ?_
  refine fg_Rc_x hx hb hts hown hK G (hts _ lk_X5_62) dX5_isZero_6 ?_
  refine lv_iload_n hx hb dX5_isZero_9 rfl (lv_at hl 2 rfl) ?_
  obtain ⟨h_g1, hf⟩ := gd_some hf
  refine ra_IC (v := rA st 26 p2.toNatClampNeg) hx hb hK G (waC_39 ..) (t0 := 30) rfl rfl h_g1 dX5_isZero_10 ?_
  obtain ⟨r3, st2, hst2, hf⟩ := bn_some hf
  refine cl_vlC C hl G (As := [.int p1, .int (rA st 26 p2.toNatClampNeg)]) (rest := []) (kx_Rr_read l D k h p1 (rA st 26 p2.toNatClampNeg) st _ _ hst2) gi_X5_65 (hwC_8 ..) rfl hd_X5_read ⟨Nat.le_of_ble_eq_true rfl, Nat.le_of_ble_eq_true rfl⟩ rfl rfl (Nat.le_of_ble_eq_true rfl) dX5_isZero_11 ⟨Nat.zero_le _, Nat.zero_le _⟩ (fun H locs e0 G => ?_)
  refine lv_l2i (v := r3.toInt32) hx hb dX5_isZero_14 rfl ?_
  refine lv_if_ne (tgt := 22) hx hb dX5_isZero_15 (by decide) (fun c4 => ?_) (fun c4 => ?_)
  · replace hf := if_n hf c4
    refine lv_iconst (v := 0) hx hb dX5_isZero_22 (by decide) ?_
    exact rt_zC C rfl G hf dX5_isZero_23
  · replace hf := if_p hf c4
    refine lv_iconst (v := 1) hx hb dX5_isZero_18 (by decide) ?_
    refine lv_goto (tgt := 23) hx hb dX5_isZero_19 (by decide) ?_
    exact rt_zC C rfl G hf dX5_isZero_23
def rm_Rr_branch : Room := { frames := 1, cells := 0, slots := 0, locals := 24 }
set_option maxHeartbeats 4000000 in
set_option maxRecDepth 100000 in
theorem kx_Rr_branch (l : Launch) (D : va_G) (k : Nat → Nat × ClassId) (h : Nat → Nat) (N : Nat) (p1 : Int32) (p2 : Int32) (st : rs_T) (s' : rs_T) (hf : fx_Rr_branch N p1 p2 st = some s') : mVC l D k h yX5_branch cX5_branch 4 rm_Rr_branch [.ref (h 8), .int p1, .int p2] st s' := by
  refine mVC_of (by decide) ⟨rfl, rfl⟩ (Nat.le_of_ble_eq_true rfl) ?_
  intro p e s m below meth c ls C hl G
  obtain ⟨hx, hb, hml, hr, hown, hts, hK, hN, hlk⟩ := id C
  have hown : s.vm.findClass RX5 = some m.cls := hown
  have hl : lv_has ls 4 [(0, .ref (h 8)), (1, .int p1), (2, .int p2)] := hl
  unfold fx_Rr_branch at hf
  refine lv_aload_n hx hb dX5_branch_0 rfl (lv_at hl 0 rfl) ?_
  refine fg_Rr_activity hx hb hts hown hK G (hts _ lk_X5_23) dX5_branch_1 ?_
  refine fg_Ac_base hx hb hts hown hK G (hts _ lk_X5_147) dX5_branch_4 ?_
  refine lv_iload_n hx hb dX5_branch_7 rfl (lv_at hl 1 rfl) ?_
  obtain ⟨h_g1, hf⟩ := gd_some hf
  refine ra_IC (v := rA st 19 p1.toNatClampNeg) hx hb hK G (waC_30 ..) (t0 := 21) rfl rfl h_g1 dX5_branch_8 ?_
  refine lv_topi (fun v2 e_v2 => ?_)
  replace hf := bd_some hf v2 e_v2
  refine lv_istore_n (lv' := [(3, .int v2), (0, .ref (h 8)), (1, .int p1), (2, .int p2)]) hx hb dX5_branch_9 rfl hl (by decide) rfl (fun ls hl => ?_)
  refine lv_aload_n hx hb dX5_branch_10 rfl (lv_at hl 1 rfl) ?_
  refine fg_Rr_activity hx hb hts hown hK G (hts _ lk_X5_23) dX5_branch_11 ?_
  refine lv_iload_n hx hb dX5_branch_14 rfl (lv_at hl 0 rfl) ?_
  refine lv_aload_n hx hb dX5_branch_15 rfl (lv_at hl 1 rfl) ?_
  refine fg_Rr_code hx hb hts hown hK G (hts _ lk_X5_15) dX5_branch_16 ?_
  refine fg_Rc_x hx hb hts hown hK G (hts _ lk_X5_62) dX5_branch_19 ?_
  refine lv_iload_n hx hb dX5_branch_22 rfl (lv_at hl 3 rfl) ?_
  obtain ⟨h_g3, hf⟩ := gd_some hf
  refine ra_IC (v := rA st 26 p2.toNatClampNeg) hx hb hK G (waC_39 ..) (t0 := 30) rfl rfl h_g3 dX5_branch_23 ?_
  refine lv_iadd hx hb dX5_branch_24 ?_
  refine lv_iload_n hx hb dX5_branch_25 rfl (lv_at hl 0 rfl) ?_
  refine lv_aload_n hx hb dX5_branch_26 rfl (lv_at hl 1 rfl) ?_
  refine fg_Rr_code hx hb hts hown hK G (hts _ lk_X5_15) dX5_branch_27 ?_
  refine fg_Rc_to hx hb hts hown hK G (hts _ lk_X5_59) dX5_branch_30 ?_
  refine lv_iload_n hx hb dX5_branch_33 rfl (lv_at hl 3 rfl) ?_
  obtain ⟨h_g4, hf⟩ := gd_some hf
  refine ra_IC (v := rA st 25 p2.toNatClampNeg) hx hb hK G (waC_38 ..) (t0 := 29) rfl rfl h_g4 dX5_branch_34 ?_
  refine lv_iadd hx hb dX5_branch_35 ?_
  refine lv_aload_n hx hb dX5_branch_36 rfl (lv_at hl 1 rfl) ?_
  refine fg_Rr_code hx hb hts hown hK G (hts _ lk_X5_15) dX5_branch_37 ?_
  refine fg_Rc_y hx hb hts hown hK G (hts _ lk_X5_86) dX5_branch_40 ?_
  refine lv_iload_n hx hb dX5_branch_43 rfl (lv_at hl 3 rfl) ?_
  obtain ⟨h_g5, hf⟩ := gd_some hf
  refine ra_IC (v := rA st 27 p2.toNatClampNeg) hx hb hK G (waC_40 ..) (t0 := 31) rfl rfl h_g5 dX5_branch_44 ?_
  obtain ⟨st6, hst6, hf⟩ := bv_some hf
  refine cl_vvC C hl G (As := [.int (v2 + (rA st 26 p2.toNatClampNeg)), .int (v2 + (rA st 25 p2.toNatClampNeg)), .int (rA st 27 p2.toNatClampNeg)]) (rest := []) (kx_Ac_move l D k h N (v2 + (rA st 26 p2.toNatClampNeg)) (v2 + (rA st 25 p2.toNatClampNeg)) (rA st 27 p2.toNatClampNeg) st _ hst6) gi_X5_163 (hwC_4 ..) rfl hd_X0_move ⟨Nat.le_of_ble_eq_true rfl, Nat.le_of_ble_eq_true rfl⟩ rfl rfl (Nat.le_of_ble_eq_true rfl) dX5_branch_45 ⟨Nat.zero_le _, Nat.zero_le _⟩ (fun H locs e0 G => ?_)
  refine lv_aload_n hx hb dX5_branch_48 rfl (lv_at hl 1 rfl) ?_
  refine fg_Rr_activity hx hb hts hown hK G (hts _ lk_X5_23) dX5_branch_49 ?_
  refine fg_Ac_next hx hb hts hown hK G (hts _ lk_X5_56) dX5_branch_52 ?_
  refine lv_iload_n hx hb dX5_branch_55 rfl (lv_at hl 2 rfl) ?_
  refine lv_aload_n hx hb dX5_branch_56 rfl (lv_at hl 1 rfl) ?_
  refine fg_Rr_code hx hb hts hown hK G (hts _ lk_X5_15) dX5_branch_57 ?_
  refine fg_Rc_z hx hb hts hown hK G (hts _ lk_X5_111) dX5_branch_60 ?_
  refine lv_iload_n hx hb dX5_branch_63 rfl (lv_at hl 3 rfl) ?_
  obtain ⟨h_g7, hf⟩ := gd_some hf
  refine ra_IC (v := rA st6 28 p2.toNatClampNeg) hx hb hK G (waC_41 ..) (t0 := 32) rfl rfl h_g7 dX5_branch_64 ?_
  obtain ⟨h_g8, hf⟩ := gd_some hf
  refine rw_IC hx hb hK G (waC_29 ..) (t0 := 20) rfl (wsC_29 ..) (zw_29 h_g8) rfl h_g8 dX5_branch_65 (fun H locs G => ?_)
  exact rt_vC C G hf dX5_branch_66
def rm_Rr_tableEntry : Room := { frames := 2, cells := 0, slots := 0, locals := 45 }
set_option maxHeartbeats 4000000 in
set_option maxRecDepth 100000 in
theorem kx_Rr_tableEntry (l : Launch) (D : va_G) (k : Nat → Nat × ClassId) (h : Nat → Nat) (p1 : Int32) (p2 : Int32) (st : rs_T) (r : Int32) (s' : rs_T) (hf : fx_Rr_tableEntry p1 p2 st = some (r, s')) : mIC l D k h yX5_tableEntry cX5_tableEntry 3 .int rm_Rr_tableEntry [.ref (h 8), .int p1, .int p2] st r s' := by
  refine mIC_of (by decide) ⟨rfl, rfl⟩ (Nat.le_of_ble_eq_true rfl) ?_
  intro p e s m below meth c ls C hl G
  obtain ⟨hx, hb, hml, hr, hown, hts, hK, hN, hlk⟩ := id C
  have hown : s.vm.findClass RX5 = some m.cls := hown
  have hl : lv_has ls 3 [(0, .ref (h 8)), (1, .int p1), (2, .int p2)] := hl
  unfold fx_Rr_tableEntry at hf
  refine lv_iload_n hx hb dX5_tableEntry_0 rfl (lv_at hl 2 rfl) ?_
  refine lv_iconst (v := 1) hx hb dX5_tableEntry_1 (by decide) ?_
  refine lv_iadd hx hb dX5_tableEntry_2 ?_
  refine lv_aload_n hx hb dX5_tableEntry_3 rfl (lv_at hl 0 rfl) ?_
  refine lv_iload_n hx hb dX5_tableEntry_4 rfl (lv_at hl 1 rfl) ?_
  refine lv_aload_n hx hb dX5_tableEntry_5 rfl (lv_at hl 0 rfl) ?_
  refine fg_Rr_code hx hb hts hown hK G (hts _ lk_X5_15) dX5_tableEntry_6 ?_
  refine fg_Rc_x hx hb hts hown hK G (hts _ lk_X5_62) dX5_tableEntry_9 ?_
  refine lv_iload_n hx hb dX5_tableEntry_12 rfl (lv_at hl 2 rfl) ?_
  obtain ⟨h_g1, hf⟩ := gd_some hf
  refine ra_IC (v := rA st 26 p2.toNatClampNeg) hx hb hK G (waC_39 ..) (t0 := 30) rfl rfl h_g1 dX5_tableEntry_13 ?_
  obtain ⟨r3, st2, hst2, hf⟩ := bn_some hf
  refine cl_vlC C hl G (As := [.int p1, .int (rA st 26 p2.toNatClampNeg)]) (rest := [.int (p2 + 1)]) (kx_Rr_read l D k h p1 (rA st 26 p2.toNatClampNeg) st _ _ hst2) gi_X5_65 (hwC_8 ..) rfl hd_X5_read ⟨Nat.le_of_ble_eq_true rfl, Nat.le_of_ble_eq_true rfl⟩ rfl rfl (Nat.le_of_ble_eq_true rfl) dX5_tableEntry_14 ⟨Nat.zero_le _, Nat.zero_le _⟩ (fun H locs e0 G => ?_)
  refine lv_ldc2 (v := 4294967295) hx hb hown (hts _ lk_X5_166) dX5_tableEntry_17 ?_
  refine lv_land hx hb dX5_tableEntry_20 ?_
  refine lv_aload_n hx hb dX5_tableEntry_21 rfl (lv_at hl 0 rfl) ?_
  refine fg_Rr_code hx hb hts hown hK G (hts _ lk_X5_15) dX5_tableEntry_22 ?_
  refine fg_Rc_y hx hb hts hown hK G (hts _ lk_X5_86) dX5_tableEntry_25 ?_
  refine lv_iload_n hx hb dX5_tableEntry_28 rfl (lv_at hl 2 rfl) ?_
  obtain ⟨h_g4, hf⟩ := gd_some hf
  refine ra_IC (v := rA st2 27 p2.toNatClampNeg) hx hb hK G (waC_40 ..) (t0 := 31) rfl rfl h_g4 dX5_tableEntry_29 ?_
  refine lv_i2l (v := (rA st2 27 p2.toNatClampNeg).toInt64) hx hb dX5_tableEntry_30 rfl ?_
  refine cm_mmin_longC C hl lk_X5_168 (Nat.le_of_ble_eq_true rfl) (Nat.le_of_ble_eq_true rfl) dX5_tableEntry_31 ⟨Nat.zero_le _, Nat.zero_le _⟩ ?_
  refine lv_l2i (v := (if ((rA st2 27 p2.toNatClampNeg).toInt64) < (r3 &&& 4294967295) then ((rA st2 27 p2.toNatClampNeg).toInt64) else (r3 &&& 4294967295)).toInt32) hx hb dX5_tableEntry_34 rfl ?_
  refine lv_iadd hx hb dX5_tableEntry_35 ?_
  exact rt_iC C G hf dX5_tableEntry_36
def rm_Ac_enter_v : Room := { frames := 1, cells := 0, slots := 0, locals := 21 }
set_option maxHeartbeats 4000000 in
set_option maxRecDepth 100000 in
theorem kx_Ac_enter_v_b57 {p : Program} {l : Launch} {e : Env} {s : State} {m : MethodId} {args : Array Value} {below : List Frame} {meth : Method} {c : Code} {D : va_G} {h : Nat → Nat} {E : Nat → Nat} {k : Nat → Nat × ClassId} (C : cxC D k p s m args meth c cX0_enter 9 none RX0) (N : Nat) (st : rs_T) (s' : rs_T) (hf : fx_Ac_enter_v_b57 N st = some s') : ∀ (H : Heap) (locs : List Loc) (ls : Array Slot), lv_has ls 9 [(0, .ref (h 4))] → gdC D k h (vE E) (arC k h s.heap.size) s.heap H locs st → W p l e rm_Ac_enter_v s m args below meth c H locs 0 0 (MQ below (qVC D k h E s.heap.size s') args s 0 0 (arC k h s.heap.size)) (F0 m 57 ls []) := by
  obtain ⟨hx, hb, hml, hr, hown, hts, hK, hN, hlk⟩ := id C
  intro H locs ls hl G
  unfold fx_Ac_enter_v_b57 at hf
  refine lv_aload_n hx hb dX0_enter_57 rfl (lv_at hl 0 rfl) ?_
  refine lv_iconst (v := 4) hx hb dX0_enter_58 (by decide) ?_
  refine fp_Ac_state hx hb hts hown hK G (hts _ lk_X0_39) dX0_enter_59 (fun H locs G => ?_)
  exact rt_vC C G hf dX0_enter_62
set_option maxHeartbeats 4000000 in
set_option maxRecDepth 100000 in
theorem kx_Ac_enter_v_b148 {p : Program} {l : Launch} {e : Env} {s : State} {m : MethodId} {args : Array Value} {below : List Frame} {meth : Method} {c : Code} {D : va_G} {h : Nat → Nat} {E : Nat → Nat} {k : Nat → Nat × ClassId} (C : cxC D k p s m args meth c cX0_enter 9 none RX0) (N : Nat) (rec85 : Int32 → Int32 → Int32 → Int32 → Int32 → Int32 → rs_T → Option (rs_T)) (ih85 : ∀ (x1 : Int32) (x3 : Int32) (x4 : Int32) (x5 : Int32) (x6 : Int32) (x7 : Int32) (st : rs_T) (s' : rs_T), rec85 x1 x3 x4 x5 x6 x7 st = some s' → ∀ (H : Heap) (locs : List Loc) (ls : Array Slot), lv_has ls 9 [(0, .ref (h 4)), (1, .int x1), (2, .ref (k 33).1), (3, .int x3), (4, .int x4), (5, .int x5), (6, .int x6), (7, .int x7)] → gdC D k h (vE E) (arC k h s.heap.size) s.heap H locs st → W p l e rm_Ac_enter_v s m args below meth c H locs 0 0 (MQ below (qVC D k h E s.heap.size s') args s 0 0 (arC k h s.heap.size)) (F0 m 85 ls [])) (x1 : Int32) (x3 : Int32) (x4 : Int32) (x5 : Int32) (x6 : Int32) (x7 : Int32) (y0 : Int64) (y1 : Int32) (st : rs_T) (s' : rs_T) (hf : fx_Ac_enter_v_b148 N rec85 x1 x3 x4 x5 x6 x7 y0 y1 st = some s') : ∀ (H : Heap) (locs : List Loc) (ls : Array Slot), lv_has ls 9 [(0, .ref (h 4)), (1, .int x1), (2, .ref (k 33).1), (3, .int x3), (4, .int x4), (5, .int x5), (6, .int x6), (7, .int x7)] → gdC D k h (vE E) (arC k h s.heap.size) s.heap H locs st → W p l e rm_Ac_enter_v s m args below meth c H locs 0 0 (MQ below (qVC D k h E s.heap.size s') args s 0 0 (arC k h s.heap.size)) (F0 m 148 ls [.long y0, .int y1, .ref (k 33).1]) := by
  obtain ⟨hx, hb, hml, hr, hown, hts, hK, hN, hlk⟩ := id C
  intro H locs ls hl G
  unfold fx_Ac_enter_v_b148 at hf
  obtain ⟨h_g19, hf⟩ := gd_some hf
  refine rw_JC hx hb hK G (waC_33 ..) (t0 := 24) rfl (wsC_33 ..) (zw_33 h_g19) rfl h_g19 dX0_enter_148 (fun H locs G => ?_)
  obtain ⟨v20, e_v20⟩ : ∃ z : Int32, z = x7 + 1 := ⟨_, rfl⟩
  replace hf := bd_some hf v20 e_v20
  refine lv_iinc (v := v20) (lv' := [(7, .int v20), (0, .ref (h 4)), (1, .int x1), (2, .ref (k 33).1), (3, .int x3), (4, .int x4), (5, .int x5), (6, .int x6)]) hx hb dX0_enter_149 hl (k := 7) rfl (by rw [e_v20]; rfl) (by decide) rfl (fun ls hl => ?_)
  refine lv_goto (tgt := 85) hx hb dX0_enter_152 (by decide) ?_
  exact ih85 x1 x3 x4 x5 x6 v20 (wL st 2 y1.toNatClampNeg y0) _ hf _ _ _ (lv_sub hl [1, 2, 3, 4, 5, 6, 7, 0] rfl) G
set_option maxHeartbeats 4000000 in
set_option maxRecDepth 100000 in
theorem kx_Ac_enter_v_b120 {p : Program} {l : Launch} {e : Env} {s : State} {m : MethodId} {args : Array Value} {below : List Frame} {meth : Method} {c : Code} {D : va_G} {h : Nat → Nat} {E : Nat → Nat} {k : Nat → Nat × ClassId} (C : cxC D k p s m args meth c cX0_enter 9 none RX0) (N : Nat) (rec85 : Int32 → Int32 → Int32 → Int32 → Int32 → Int32 → rs_T → Option (rs_T)) (ih85 : ∀ (x1 : Int32) (x3 : Int32) (x4 : Int32) (x5 : Int32) (x6 : Int32) (x7 : Int32) (st : rs_T) (s' : rs_T), rec85 x1 x3 x4 x5 x6 x7 st = some s' → ∀ (H : Heap) (locs : List Loc) (ls : Array Slot), lv_has ls 9 [(0, .ref (h 4)), (1, .int x1), (2, .ref (k 33).1), (3, .int x3), (4, .int x4), (5, .int x5), (6, .int x6), (7, .int x7)] → gdC D k h (vE E) (arC k h s.heap.size) s.heap H locs st → W p l e rm_Ac_enter_v s m args below meth c H locs 0 0 (MQ below (qVC D k h E s.heap.size s') args s 0 0 (arC k h s.heap.size)) (F0 m 85 ls [])) (x1 : Int32) (x3 : Int32) (x4 : Int32) (x5 : Int32) (x6 : Int32) (x7 : Int32) (y0 : Int32) (st : rs_T) (s' : rs_T) (hf : fx_Ac_enter_v_b120 N rec85 x1 x3 x4 x5 x6 x7 y0 st = some s') : ∀ (H : Heap) (locs : List Loc) (ls : Array Slot), lv_has ls 9 [(0, .ref (h 4)), (1, .int x1), (2, .ref (k 33).1), (3, .int x3), (4, .int x4), (5, .int x5), (6, .int x6), (7, .int x7)] → gdC D k h (vE E) (arC k h s.heap.size) s.heap H locs st → W p l e rm_Ac_enter_v s m args below meth c H locs 0 0 (MQ below (qVC D k h E s.heap.size s') args s 0 0 (arC k h s.heap.size)) (F0 m 120 ls [.int y0]) := by
  obtain ⟨hx, hb, hml, hr, hown, hts, hK, hN, hlk⟩ := id C
  intro H locs ls hl G
  unfold fx_Ac_enter_v_b120 at hf
  refine lv_istore (lv' := [(8, .int y0), (0, .ref (h 4)), (1, .int x1), (2, .ref (k 33).1), (3, .int x3), (4, .int x4), (5, .int x5), (6, .int x6), (7, .int x7)]) hx hb dX0_enter_120 hl (by decide) rfl (fun ls hl => ?_)
  refine lv_aload_n hx hb dX0_enter_122 rfl (lv_at hl 1 rfl) ?_
  refine fg_Ac_values hx hb hts hown hK G (hts _ lk_X0_28) dX0_enter_123 ?_
  refine lv_aload_n hx hb dX0_enter_126 rfl (lv_at hl 1 rfl) ?_
  refine fg_Ac_used (v := rI st 18) hx hb hts hown hK G (hts _ lk_X0_61) rfl dX0_enter_127 ?_
  refine lv_iload hx hb dX0_enter_130 (lv_at hl 8 rfl) ?_
  refine lv_iadd hx hb dX0_enter_132 ?_
  refine lv_iload hx hb dX0_enter_133 (lv_at hl 0 rfl) ?_
  refine lv_if_eq (tgt := 147) hx hb dX0_enter_135 (by decide) (fun c18 => ?_) (fun c18 => ?_)
  · replace hf := if_p hf c18
    refine lv_lconst (v := 0) hx hb dX0_enter_147 (by decide) ?_
    exact kx_Ac_enter_v_b148 C N rec85 ih85 x1 x3 x4 x5 x6 x7 0 ((rI st 18) + x7) st _ hf _ _ _ (lv_sub hl [1, 2, 3, 4, 5, 6, 7, 8] rfl) G
  · replace hf := if_n hf c18
    refine lv_aload_n hx hb dX0_enter_138 rfl (lv_at hl 3 rfl) ?_
    refine lv_iload_n hx hb dX0_enter_139 rfl (lv_at hl 4 rfl) ?_
    refine lv_iload hx hb dX0_enter_140 (lv_at hl 8 rfl) ?_
    refine lv_iadd hx hb dX0_enter_142 ?_
    obtain ⟨h_g21, hf⟩ := gd_some hf
    refine ra_JC (v := rL st 2 ((x3 + x7).toNatClampNeg)) hx hb hK G (waC_33 ..) (t0 := 24) rfl rfl h_g21 dX0_enter_143 ?_
    refine lv_goto (tgt := 148) hx hb dX0_enter_144 (by decide) ?_
    exact kx_Ac_enter_v_b148 C N rec85 ih85 x1 x3 x4 x5 x6 x7 (rL st 2 ((x3 + x7).toNatClampNeg)) ((rI st 18) + x7) st _ hf _ _ _ (lv_sub hl [1, 2, 3, 4, 5, 6, 7, 8] rfl) G
set_option maxHeartbeats 4000000 in
set_option maxRecDepth 100000 in
theorem kx_Ac_enter_v_b119 {p : Program} {l : Launch} {e : Env} {s : State} {m : MethodId} {args : Array Value} {below : List Frame} {meth : Method} {c : Code} {D : va_G} {h : Nat → Nat} {E : Nat → Nat} {k : Nat → Nat × ClassId} (C : cxC D k p s m args meth c cX0_enter 9 none RX0) (N : Nat) (rec85 : Int32 → Int32 → Int32 → Int32 → Int32 → Int32 → rs_T → Option (rs_T)) (ih85 : ∀ (x1 : Int32) (x3 : Int32) (x4 : Int32) (x5 : Int32) (x6 : Int32) (x7 : Int32) (st : rs_T) (s' : rs_T), rec85 x1 x3 x4 x5 x6 x7 st = some s' → ∀ (H : Heap) (locs : List Loc) (ls : Array Slot), lv_has ls 9 [(0, .ref (h 4)), (1, .int x1), (2, .ref (k 33).1), (3, .int x3), (4, .int x4), (5, .int x5), (6, .int x6), (7, .int x7)] → gdC D k h (vE E) (arC k h s.heap.size) s.heap H locs st → W p l e rm_Ac_enter_v s m args below meth c H locs 0 0 (MQ below (qVC D k h E s.heap.size s') args s 0 0 (arC k h s.heap.size)) (F0 m 85 ls [])) (x1 : Int32) (x3 : Int32) (x4 : Int32) (x5 : Int32) (x6 : Int32) (x7 : Int32) (st : rs_T) (s' : rs_T) (hf : fx_Ac_enter_v_b119 N rec85 x1 x3 x4 x5 x6 x7 st = some s') : ∀ (H : Heap) (locs : List Loc) (ls : Array Slot), lv_has ls 9 [(0, .ref (h 4)), (1, .int x1), (2, .ref (k 33).1), (3, .int x3), (4, .int x4), (5, .int x5), (6, .int x6), (7, .int x7)] → gdC D k h (vE E) (arC k h s.heap.size) s.heap H locs st → W p l e rm_Ac_enter_v s m args below meth c H locs 0 0 (MQ below (qVC D k h E s.heap.size s') args s 0 0 (arC k h s.heap.size)) (F0 m 119 ls []) := by
  obtain ⟨hx, hb, hml, hr, hown, hts, hK, hN, hlk⟩ := id C
  intro H locs ls hl G
  unfold fx_Ac_enter_v_b119 at hf
  refine lv_iconst (v := 0) hx hb dX0_enter_119 (by decide) ?_
  exact kx_Ac_enter_v_b120 C N rec85 ih85 x1 x3 x4 x5 x6 x7 0 st _ hf _ _ _ (lv_sub hl [0, 1, 2, 3, 4, 5, 6, 7] rfl) G
set_option maxHeartbeats 4000000 in
set_option maxRecDepth 100000 in
theorem kx_Ac_enter_v_b85 {p : Program} {l : Launch} {e : Env} {s : State} {m : MethodId} {args : Array Value} {below : List Frame} {meth : Method} {c : Code} {D : va_G} {h : Nat → Nat} {E : Nat → Nat} {k : Nat → Nat × ClassId} (C : cxC D k p s m args meth c cX0_enter 9 none RX0) (N : Nat) : ∀ (n : Nat) (x1 : Int32) (x3 : Int32) (x4 : Int32) (x5 : Int32) (x6 : Int32) (x7 : Int32) (st : rs_T) (s' : rs_T), fx_Ac_enter_v_b85 N n x1 x3 x4 x5 x6 x7 st = some s' → ∀ (H : Heap) (locs : List Loc) (ls : Array Slot), lv_has ls 9 [(0, .ref (h 4)), (1, .int x1), (2, .ref (k 33).1), (3, .int x3), (4, .int x4), (5, .int x5), (6, .int x6), (7, .int x7)] → gdC D k h (vE E) (arC k h s.heap.size) s.heap H locs st → W p l e rm_Ac_enter_v s m args below meth c H locs 0 0 (MQ below (qVC D k h E s.heap.size s') args s 0 0 (arC k h s.heap.size)) (F0 m 85 ls []) := by
  obtain ⟨hx, hb, hml, hr, hown, hts, hK, hN, hlk⟩ := id C
  intro n
  induction n with
  | zero => intro x1 x3 x4 x5 x6 x7 st s' hf; cases hf
  | succ n ih =>
    intro x1 x3 x4 x5 x6 x7 st s' hf H locs ls hl G
    rw [fx_Ac_enter_v_b85] at hf
    refine lv_iload hx hb dX0_enter_85 (lv_at hl 7 rfl) ?_
    refine lv_iload hx hb dX0_enter_87 (lv_at hl 4 rfl) ?_
    refine lv_icmp_ge (tgt := 155) hx hb dX0_enter_89 (by decide) (fun c10 => ?_) (fun c10 => ?_)
    · replace hf := if_p hf c10
      refine lv_aload_n hx hb dX0_enter_155 rfl (lv_at hl 0 rfl) ?_
      refine fg_Ac_function hx hb hts hown hK G (hts _ lk_X0_9) dX0_enter_156 ?_
      refine lv_aload_n hx hb dX0_enter_159 rfl (lv_at hl 0 rfl) ?_
      refine fg_Ac_frames (v := rI st 14) hx hb hts hown hK G (hts _ lk_X0_48) rfl dX0_enter_160 ?_
      refine lv_iload_n hx hb dX0_enter_163 rfl (lv_at hl 1 rfl) ?_
      obtain ⟨h_g11, hf⟩ := gd_some hf
      refine rw_IC hx hb hK G (waC_28 ..) (t0 := 19) rfl (wsC_28 ..) (zw_28 h_g11) rfl h_g11 dX0_enter_164 (fun H locs G => ?_)
      refine lv_aload_n hx hb dX0_enter_165 rfl (lv_at hl 0 rfl) ?_
      refine fg_Ac_next hx hb hts hown hK G (hts _ lk_X0_15) dX0_enter_166 ?_
      refine lv_aload_n hx hb dX0_enter_169 rfl (lv_at hl 0 rfl) ?_
      refine fg_Ac_frames (v := rI st 14) hx hb hts hown hK G (hts _ lk_X0_48) rfl dX0_enter_170 ?_
      refine lv_aload_n hx hb dX0_enter_173 rfl (lv_at hl 0 rfl) ?_
      refine fg_Ac_program hx hb hts hown hK G (hts _ lk_X0_64) dX0_enter_174 ?_
      refine fg_Pr_first hx hb hts hown hK G (hts _ lk_X0_84) dX0_enter_177 ?_
      refine lv_iload_n hx hb dX0_enter_180 rfl (lv_at hl 1 rfl) ?_
      obtain ⟨h_g12, hf⟩ := gd_some hf
      refine ra_IC (v := rA st 4 x1.toNatClampNeg) hx hb hK G (waC_14 ..) (t0 := 5) rfl rfl h_g12 dX0_enter_181 ?_
      obtain ⟨h_g13, hf⟩ := gd_some hf
      refine rw_IC hx hb hK G (waC_29 ..) (t0 := 20) rfl (wsC_29 ..) (zw_29 h_g13) rfl h_g13 dX0_enter_182 (fun H locs G => ?_)
      refine lv_aload_n hx hb dX0_enter_183 rfl (lv_at hl 0 rfl) ?_
      refine fg_Ac_base hx hb hts hown hK G (hts _ lk_X0_18) dX0_enter_184 ?_
      refine lv_aload_n hx hb dX0_enter_187 rfl (lv_at hl 0 rfl) ?_
      refine fg_Ac_frames (v := rI st 14) hx hb hts hown hK G (hts _ lk_X0_48) rfl dX0_enter_188 ?_
      refine lv_aload_n hx hb dX0_enter_191 rfl (lv_at hl 0 rfl) ?_
      refine fg_Ac_used (v := rI st 18) hx hb hts hown hK G (hts _ lk_X0_61) rfl dX0_enter_192 ?_
      obtain ⟨h_g14, hf⟩ := gd_some hf
      refine rw_IC hx hb hK G (waC_30 ..) (t0 := 21) rfl (wsC_30 ..) (zw_30 h_g14) rfl h_g14 dX0_enter_195 (fun H locs G => ?_)
      refine lv_aload_n hx hb dX0_enter_196 rfl (lv_at hl 0 rfl) ?_
      refine fg_Ac_top hx hb hts hown hK G (hts _ lk_X0_21) dX0_enter_197 ?_
      refine lv_aload_n hx hb dX0_enter_200 rfl (lv_at hl 0 rfl) ?_
      refine fg_Ac_frames (v := rI st 14) hx hb hts hown hK G (hts _ lk_X0_48) rfl dX0_enter_201 ?_
      refine lv_aload_n hx hb dX0_enter_204 rfl (lv_at hl 0 rfl) ?_
      refine fg_Ac_used (v := rI st 18) hx hb hts hown hK G (hts _ lk_X0_61) rfl dX0_enter_205 ?_
      refine lv_iload hx hb dX0_enter_208 (lv_at hl 4 rfl) ?_
      refine lv_iadd hx hb dX0_enter_210 ?_
      obtain ⟨h_g15, hf⟩ := gd_some hf
      refine rw_IC hx hb hK G (waC_31 ..) (t0 := 22) rfl (wsC_31 ..) (zw_31 h_g15) rfl h_g15 dX0_enter_211 (fun H locs G => ?_)
      refine lv_aload_n hx hb dX0_enter_212 rfl (lv_at hl 0 rfl) ?_
      refine fg_Ac_inRegisters hx hb hts hown hK G (hts _ lk_X0_24) dX0_enter_213 ?_
      refine lv_aload_n hx hb dX0_enter_216 rfl (lv_at hl 0 rfl) ?_
      refine fg_Ac_frames (v := rI st 14) hx hb hts hown hK G (hts _ lk_X0_48) rfl dX0_enter_217 ?_
      refine lv_iconst (v := 0) hx hb dX0_enter_220 (by decide) ?_
      obtain ⟨h_g16, hf⟩ := gd_some hf
      refine rw_ZC hx hb hK G (waC_32 ..) (t0 := 23) rfl (wsC_32 ..) (zw_32 h_g16) rfl rfl h_g16 dX0_enter_221 (fun H locs G => ?_)
      refine lv_aload_n hx hb dX0_enter_222 rfl (lv_at hl 0 rfl) ?_
      refine lv_dup hx hb dX0_enter_223 rfl ?_
      refine fg_Ac_frames (v := rI st 14) hx hb hts hown hK G (hts _ lk_X0_48) rfl dX0_enter_224 ?_
      refine lv_iconst (v := 1) hx hb dX0_enter_227 (by decide) ?_
      refine lv_iadd hx hb dX0_enter_228 ?_
      refine fp_Ac_frames hx hb hts hown hK G (hts _ lk_X0_48) dX0_enter_229 (fun H locs G => ?_)
      refine lv_aload_n hx hb dX0_enter_232 rfl (lv_at hl 0 rfl) ?_
      refine lv_dup hx hb dX0_enter_233 rfl ?_
      refine fg_Ac_used (v := rI st 18) hx hb hts hown hK G (hts _ lk_X0_61) rfl dX0_enter_234 ?_
      refine lv_iload hx hb dX0_enter_237 (lv_at hl 6 rfl) ?_
      refine lv_iadd hx hb dX0_enter_239 ?_
      refine fp_Ac_used hx hb hts hown hK G (hts _ lk_X0_61) dX0_enter_240 (fun H locs G => ?_)
      refine lv_aload_n hx hb dX0_enter_243 rfl (lv_at hl 0 rfl) ?_
      refine lv_iconst (v := 1) hx hb dX0_enter_244 (by decide) ?_
      refine fp_Ac_isFresh hx hb hts hown hK G (hts _ lk_X0_54) rfl rfl dX0_enter_245 (fun H locs G => ?_)
      exact rt_vC C G hf dX0_enter_248
    · replace hf := if_n hf c10
      refine lv_iload hx hb dX0_enter_92 (lv_at hl 7 rfl) ?_
      refine lv_iload hx hb dX0_enter_94 (lv_at hl 5 rfl) ?_
      refine lv_icmp_ge (tgt := 119) hx hb dX0_enter_96 (by decide) (fun c17 => ?_) (fun c17 => ?_)
      · replace hf := if_p hf c17
        exact kx_Ac_enter_v_b119 C N (fx_Ac_enter_v_b85 N n) ih x1 x3 x4 x5 x6 x7 st _ hf _ _ _ (lv_sub hl [0, 1, 2, 3, 4, 5, 6, 7] rfl) G
      · replace hf := if_n hf c17
        refine lv_iload_n hx hb dX0_enter_99 rfl (lv_at hl 3 rfl) ?_
        refine lv_iload hx hb dX0_enter_100 (lv_at hl 7 rfl) ?_
        refine lv_iadd hx hb dX0_enter_102 ?_
        refine lv_if_lt (tgt := 119) hx hb dX0_enter_103 (by decide) (fun c22 => ?_) (fun c22 => ?_)
        · replace hf := if_p hf c22
          exact kx_Ac_enter_v_b119 C N (fx_Ac_enter_v_b85 N n) ih x1 x3 x4 x5 x6 x7 st _ hf _ _ _ (lv_sub hl [0, 1, 2, 3, 4, 5, 6, 7] rfl) G
        · replace hf := if_n hf c22
          refine lv_iload_n hx hb dX0_enter_106 rfl (lv_at hl 3 rfl) ?_
          refine lv_iload hx hb dX0_enter_107 (lv_at hl 7 rfl) ?_
          refine lv_iadd hx hb dX0_enter_109 ?_
          refine lv_aload_n hx hb dX0_enter_110 rfl (lv_at hl 2 rfl) ?_
          refine va_alen (v := 220) hx hb hK G.1 33 24 (waC_33 ..) rfl rfl dX0_enter_111 ?_
          refine lv_icmp_ge (tgt := 119) hx hb dX0_enter_112 (by decide) (fun c23 => ?_) (fun c23 => ?_)
          · replace hf := if_p hf c23
            exact kx_Ac_enter_v_b119 C N (fx_Ac_enter_v_b85 N n) ih x1 x3 x4 x5 x6 x7 st _ hf _ _ _ (lv_sub hl [0, 1, 2, 3, 4, 5, 6, 7] rfl) G
          · replace hf := if_n hf c23
            refine lv_iconst (v := 1) hx hb dX0_enter_115 (by decide) ?_
            refine lv_goto (tgt := 120) hx hb dX0_enter_116 (by decide) ?_
            exact kx_Ac_enter_v_b120 C N (fx_Ac_enter_v_b85 N n) ih x1 x3 x4 x5 x6 x7 1 st _ hf _ _ _ (lv_sub hl [0, 1, 2, 3, 4, 5, 6, 7] rfl) G
set_option maxHeartbeats 4000000 in
set_option maxRecDepth 100000 in
theorem kx_Ac_enter_v_b82 {p : Program} {l : Launch} {e : Env} {s : State} {m : MethodId} {args : Array Value} {below : List Frame} {meth : Method} {c : Code} {D : va_G} {h : Nat → Nat} {E : Nat → Nat} {k : Nat → Nat × ClassId} (C : cxC D k p s m args meth c cX0_enter 9 none RX0) (N : Nat) (x1 : Int32) (x3 : Int32) (x4 : Int32) (x5 : Int32) (x6 : Int32) (st : rs_T) (s' : rs_T) (hf : fx_Ac_enter_v_b82 N x1 x3 x4 x5 x6 st = some s') : ∀ (H : Heap) (locs : List Loc) (ls : Array Slot), lv_has ls 9 [(0, .ref (h 4)), (1, .int x1), (2, .ref (k 33).1), (3, .int x3), (4, .int x4), (5, .int x5), (6, .int x6)] → gdC D k h (vE E) (arC k h s.heap.size) s.heap H locs st → W p l e rm_Ac_enter_v s m args below meth c H locs 0 0 (MQ below (qVC D k h E s.heap.size s') args s 0 0 (arC k h s.heap.size)) (F0 m 82 ls []) := by
  obtain ⟨hx, hb, hml, hr, hown, hts, hK, hN, hlk⟩ := id C
  intro H locs ls hl G
  unfold fx_Ac_enter_v_b82 at hf
  refine lv_iconst (v := 0) hx hb dX0_enter_82 (by decide) ?_
  refine lv_istore (lv' := [(7, .int 0), (0, .ref (h 4)), (1, .int x1), (2, .ref (k 33).1), (3, .int x3), (4, .int x4), (5, .int x5), (6, .int x6)]) hx hb dX0_enter_83 hl (by decide) rfl (fun ls hl => ?_)
  exact kx_Ac_enter_v_b85 C N N x1 x3 x4 x5 x6 0 st _ hf _ _ _ (lv_sub hl [1, 2, 3, 4, 5, 6, 7, 0] rfl) G
set_option maxHeartbeats 4000000 in
set_option maxRecDepth 100000 in
theorem kx_Ac_enter_v (l : Launch) (D : va_G) (k : Nat → Nat × ClassId) (h : Nat → Nat) (N : Nat) (p1 : Int32) (p3 : Int32) (st : rs_T) (s' : rs_T) (hf : fx_Ac_enter_v N p1 p3 st = some s') : mVC l D k h yX0_enter cX0_enter 9 rm_Ac_enter_v [.ref (h 4), .int p1, .ref (k 33).1, .int p3] st s' := by
  refine mVC_of (by decide) ⟨rfl, rfl⟩ (Nat.le_of_ble_eq_true rfl) ?_
  intro p e s m below meth c ls C hl G
  obtain ⟨hx, hb, hml, hr, hown, hts, hK, hN, hlk⟩ := id C
  have hown : s.vm.findClass RX0 = some m.cls := hown
  have hl : lv_has ls 9 [(0, .ref (h 4)), (1, .int p1), (2, .ref (k 33).1), (3, .int p3)] := hl
  unfold fx_Ac_enter_v at hf
  refine lv_aload_n hx hb dX0_enter_0 rfl (lv_at hl 0 rfl) ?_
  refine fg_Ac_program hx hb hts hown hK G (hts _ lk_X0_64) dX0_enter_1 ?_
  refine lv_iload_n hx hb dX0_enter_4 rfl (lv_at hl 1 rfl) ?_
  obtain ⟨r2, st1, hst1, hf⟩ := bn_some hf
  refine cl_viC C hl G (As := [.int p1]) (rest := []) (kx_Pr_allLocals l D k h p1 st _ _ hst1) gi_X0_72 (hwC_1 ..) rfl hd_X3_allLocals ⟨Nat.le_of_ble_eq_true rfl, Nat.le_of_ble_eq_true rfl⟩ rfl rfl (Nat.le_of_ble_eq_true rfl) dX0_enter_5 ⟨Nat.zero_le _, Nat.zero_le _⟩ (fun H locs e0 G => ?_)
  refine lv_istore (lv' := [(4, .int r2), (0, .ref (h 4)), (1, .int p1), (2, .ref (k 33).1), (3, .int p3)]) hx hb dX0_enter_8 hl (by decide) rfl (fun ls hl => ?_)
  refine lv_aload_n hx hb dX0_enter_10 rfl (lv_at hl 1 rfl) ?_
  refine fg_Ac_program hx hb hts hown hK G (hts _ lk_X0_64) dX0_enter_11 ?_
  refine fg_Pr_parameters hx hb hts hown hK G (hts _ lk_X0_78) dX0_enter_14 ?_
  refine lv_iload_n hx hb dX0_enter_17 rfl (lv_at hl 2 rfl) ?_
  obtain ⟨h_g3, hf⟩ := gd_some hf
  refine ra_IC (v := rA st1 0 p1.toNatClampNeg) hx hb hK G (waC_10 ..) (t0 := 1) rfl rfl h_g3 dX0_enter_18 ?_
  refine lv_topi (fun v4 e_v4 => ?_)
  replace hf := bd_some hf v4 e_v4
  refine lv_istore (lv' := [(5, .int v4), (4, .int r2), (0, .ref (h 4)), (1, .int p1), (2, .ref (k 33).1), (3, .int p3)]) hx hb dX0_enter_19 hl (by decide) rfl (fun ls hl => ?_)
  refine lv_iload hx hb dX0_enter_21 (lv_at hl 1 rfl) ?_
  refine lv_aload_n hx hb dX0_enter_23 rfl (lv_at hl 2 rfl) ?_
  refine fg_Ac_program hx hb hts hown hK G (hts _ lk_X0_64) dX0_enter_24 ?_
  refine fg_Pr_most hx hb hts hown hK G (hts _ lk_X0_81) dX0_enter_27 ?_
  refine lv_iload_n hx hb dX0_enter_30 rfl (lv_at hl 3 rfl) ?_
  obtain ⟨h_g5, hf⟩ := gd_some hf
  refine ra_IC (v := rA st1 3 p1.toNatClampNeg) hx hb hK G (waC_13 ..) (t0 := 4) rfl rfl h_g5 dX0_enter_31 ?_
  refine lv_iadd hx hb dX0_enter_32 ?_
  refine lv_topi (fun v6 e_v6 => ?_)
  replace hf := bd_some hf v6 e_v6
  refine lv_istore (lv' := [(6, .int v6), (5, .int v4), (4, .int r2), (0, .ref (h 4)), (1, .int p1), (2, .ref (k 33).1), (3, .int p3)]) hx hb dX0_enter_33 hl (by decide) rfl (fun ls hl => ?_)
  refine lv_aload_n hx hb dX0_enter_35 rfl (lv_at hl 3 rfl) ?_
  refine fg_Ac_frames (v := rI st1 14) hx hb hts hown hK G (hts _ lk_X0_48) rfl dX0_enter_36 ?_
  refine lv_bipush (v := 30) hx hb dX0_enter_39 (by decide) ?_
  refine lv_icmp_ge (tgt := 57) hx hb dX0_enter_41 (by decide) (fun c7 => ?_) (fun c7 => ?_)
  · replace hf := if_p hf c7
    exact kx_Ac_enter_v_b57 C N st1 _ hf _ _ _ (lv_sub hl [3] rfl) G
  · replace hf := if_n hf c7
    refine lv_iload hx hb dX0_enter_44 (lv_at hl 0 rfl) ?_
    refine lv_sipush (v := 220) hx hb dX0_enter_46 (by decide) ?_
    refine lv_aload_n hx hb dX0_enter_49 rfl (lv_at hl 3 rfl) ?_
    refine fg_Ac_used (v := rI st1 18) hx hb hts hown hK G (hts _ lk_X0_61) rfl dX0_enter_50 ?_
    refine lv_isub hx hb dX0_enter_53 ?_
    refine lv_icmp_le (tgt := 63) hx hb dX0_enter_54 (by decide) (fun c8 => ?_) (fun c8 => ?_)
    · replace hf := if_p hf c8
      refine lv_aload_n hx hb dX0_enter_63 rfl (lv_at hl 3 rfl) ?_
      refine fg_Ac_frames (v := rI st1 14) hx hb hts hown hK G (hts _ lk_X0_48) rfl dX0_enter_64 ?_
      refine lv_if_le (tgt := 82) hx hb dX0_enter_67 (by decide) (fun c9 => ?_) (fun c9 => ?_)
      · replace hf := if_p hf c9
        exact kx_Ac_enter_v_b82 C N p1 p3 r2 v4 v6 st1 _ hf _ _ _ (lv_sub hl [3, 4, 5, 6, 2, 1, 0] rfl) G
      · replace hf := if_n hf c9
        refine lv_aload_n hx hb dX0_enter_70 rfl (lv_at hl 3 rfl) ?_
        refine fg_Ac_top hx hb hts hown hK G (hts _ lk_X0_21) dX0_enter_71 ?_
        refine lv_aload_n hx hb dX0_enter_74 rfl (lv_at hl 3 rfl) ?_
        refine fg_Ac_frames (v := rI st1 14) hx hb hts hown hK G (hts _ lk_X0_48) rfl dX0_enter_75 ?_
        refine lv_iconst (v := 1) hx hb dX0_enter_78 (by decide) ?_
        refine lv_isub hx hb dX0_enter_79 ?_
        refine lv_iload_n hx hb dX0_enter_80 rfl (lv_at hl 6 rfl) ?_
        obtain ⟨h_g24, hf⟩ := gd_some hf
        refine rw_IC hx hb hK G (waC_31 ..) (t0 := 22) rfl (wsC_31 ..) (zw_31 h_g24) rfl h_g24 dX0_enter_81 (fun H locs G => ?_)
        exact kx_Ac_enter_v_b82 C N p1 p3 r2 v4 v6 (wA st1 20 (((rI st1 14) - 1).toNatClampNeg) p3) _ hf _ _ _ (lv_sub hl [3, 4, 5, 6, 2, 1, 0] rfl) G
    · replace hf := if_n hf c8
      exact kx_Ac_enter_v_b57 C N st1 _ hf _ _ _ (lv_sub hl [3] rfl) G
