def rm_Md_call : Room := { frames := 4, cells := 0, slots := 0, locals := 85 }
set_option maxHeartbeats 4000000 in
set_option maxRecDepth 100000 in
theorem kx_Md_call_b55 {p : Program} {l : Launch} {e : Env} {s : State} {m : MethodId} {args : Array Value} {below : List Frame} {meth : Method} {c : Code} {D : va_G} {k : Nat → ClassId} {h : Nat → Nat} (C : cxM D k p s m args meth c cX10_call 3 (some .boolean) RX10) (N : Nat) : ∀ (n : Nat) (x1 : Int32) (x2 : Int32) (st : rs_T) (r : Int32) (s' : rs_T), fx_Md_call_b55 N n x1 x2 st = some (r, s') → ∀ (H : Heap) (locs : List Loc) (ls : Array Slot), lv_has ls 3 [(0, .ref (h 0)), (1, .int x1), (2, .int x2)] → gdM D k h (arM h s.heap.size) s.heap H locs st → W p l e rm_Md_call s m args below meth c H locs 0 0 (MQ below (qIM D k h s.heap.size r s') args s 0 0 (arM h s.heap.size)) (F0 m 55 ls []) := by
  obtain ⟨hx, hb, hml, hr, hown, hts, hK, hN, hlk⟩ := id C
  intro n
  induction n with
  | zero => intro x1 x2 st r s' hf; cases hf
  | succ n ih =>
    intro x1 x2 st r s' hf H locs ls hl G
    rw [fx_Md_call_b55] at hf
    refine lv_iload_n hx hb dX10_call_55 rfl (lv_at hl 2 rfl) ?_
    refine lv_aload_n hx hb dX10_call_56 rfl (lv_at hl 0 rfl) ?_
    refine fg_Md_arguments (v := rI st 8) hx hb hts hown hK G (hts _ lk_X10_310) rfl dX10_call_57 ?_
    refine lv_icmp_ge (tgt := 79) hx hb dX10_call_60 (by decide) (fun c6 => ?_) (fun c6 => ?_)
    · replace hf := if_p hf c6
      refine lv_aload_n hx hb dX10_call_79 rfl (lv_at hl 0 rfl) ?_
      refine lv_iconst (v := 0) hx hb dX10_call_80 (by decide) ?_
      refine fp_Md_arguments hx hb hts hown hK G (hts _ lk_X10_310) dX10_call_81 (fun H locs G => ?_)
      refine lv_aload_n hx hb dX10_call_84 rfl (lv_at hl 0 rfl) ?_
      refine lv_iload_n hx hb dX10_call_85 rfl (lv_at hl 1 rfl) ?_
      refine fp_Md_latest hx hb hts hown hK G (hts _ lk_X10_91) dX10_call_86 (fun H locs G => ?_)
      refine lv_aload_n hx hb dX10_call_89 rfl (lv_at hl 0 rfl) ?_
      refine lv_iconst (v := 0) hx hb dX10_call_90 (by decide) ?_
      refine fp_Md_at hx hb hts hown hK G (hts _ lk_X10_212) dX10_call_91 (fun H locs G => ?_)
      refine lv_aload_n hx hb dX10_call_94 rfl (lv_at hl 0 rfl) ?_
      refine lv_iload_n hx hb dX10_call_95 rfl (lv_at hl 1 rfl) ?_
      obtain ⟨st7, hst7, hf⟩ := bv_some hf
      refine cl_vvM C hl G (As := [.int x1]) (rest := []) (kx_Md_enter l D k h N x1 (wI (wI (wI st 8 0) 18 x1) 15 0) _ hst7) gi_X10_252 (hwM_0 ..) rfl hd_X10_enter ⟨Nat.le_of_ble_eq_true rfl, Nat.le_of_ble_eq_true rfl⟩ rfl rfl (Nat.le_of_ble_eq_true rfl) dX10_call_96 (fun H locs G => ?_)
      refine lv_aload_n hx hb dX10_call_99 rfl (lv_at hl 0 rfl) ?_
      obtain ⟨st8, hst8, hf⟩ := bv_some hf
      refine cl_vvM C hl G (As := []) (rest := []) (kx_Md_pass l D k h N st7 _ hst8) gi_X10_307 (hwM_0 ..) rfl hd_X10_pass ⟨Nat.le_of_ble_eq_true rfl, Nat.le_of_ble_eq_true rfl⟩ rfl rfl (Nat.le_of_ble_eq_true rfl) dX10_call_100 (fun H locs G => ?_)
      refine lv_iconst (v := 1) hx hb dX10_call_103 (by decide) ?_
      exact rt_zM C rfl G hf dX10_call_104
    · replace hf := if_n hf c6
      refine lv_aload_n hx hb dX10_call_63 rfl (lv_at hl 0 rfl) ?_
      refine lv_aload_n hx hb dX10_call_64 rfl (lv_at hl 0 rfl) ?_
      refine fg_Md_argument hx hb hts hown hK G (hts _ lk_X10_73) dX10_call_65 ?_
      refine lv_iload_n hx hb dX10_call_68 rfl (lv_at hl 2 rfl) ?_
      obtain ⟨h_g9, hf⟩ := gd_some hf
      refine ra_JM (v := rL st 1 x2.toNatClampNeg) hx hb hK G (waM_20 ..) (t0 := 19) rfl rfl h_g9 dX10_call_69 ?_
      obtain ⟨st10, hst10, hf⟩ := bv_some hf
      refine cl_vvM C hl G (As := [.long (rL st 1 x2.toNatClampNeg)]) (rest := []) (kx_Md_push l D k h (rL st 1 x2.toNatClampNeg) st _ hst10) gi_X10_221 (hwM_0 ..) rfl hd_X10_push ⟨Nat.le_of_ble_eq_true rfl, Nat.le_of_ble_eq_true rfl⟩ rfl rfl (Nat.le_of_ble_eq_true rfl) dX10_call_70 (fun H locs G => ?_)
      obtain ⟨v11, e_v11⟩ : ∃ z : Int32, z = x2 + 1 := ⟨_, rfl⟩
      replace hf := bd_some hf v11 e_v11
      refine lv_iinc (v := v11) (lv' := [(2, .int v11), (0, .ref (h 0)), (1, .int x1)]) hx hb dX10_call_73 hl (k := 2) rfl (by rw [e_v11]; rfl) (by decide) rfl (fun ls hl => ?_)
      refine lv_goto (tgt := 55) hx hb dX10_call_76 (by decide) ?_
      exact ih x1 v11 st10 _ _ hf _ _ _ (lv_sub hl [1, 2, 0] rfl) G
set_option maxHeartbeats 4000000 in
set_option maxRecDepth 100000 in
theorem kx_Md_call (l : Launch) (D : va_G) (k : Nat → ClassId) (h : Nat → Nat) (N : Nat) (p1 : Int32) (st : rs_T) (r : Int32) (s' : rs_T) (hf : fx_Md_call N p1 st = some (r, s')) : mIM l D k h yX10_call cX10_call 3 .boolean rm_Md_call [.ref (h 0), .int p1] st r s' := by
  refine mIM_of (by decide) ⟨rfl, rfl⟩ (Nat.le_of_ble_eq_true rfl) ?_
  intro p e s m below meth c ls C hl G
  obtain ⟨hx, hb, hml, hr, hown, hts, hK, hN, hlk⟩ := id C
  have hown : s.vm.findClass RX10 = some m.cls := hown
  have hl : lv_has ls 3 [(0, .ref (h 0)), (1, .int p1)] := hl
  unfold fx_Md_call at hf
  refine lv_aload_n hx hb dX10_call_0 rfl (lv_at hl 0 rfl) ?_
  refine lv_iload_n hx hb dX10_call_1 rfl (lv_at hl 1 rfl) ?_
  obtain ⟨r2, st1, hst1, hf⟩ := bn_some hf
  refine cl_viM C hl G (As := [.int p1]) (rest := []) (kx_Md_isWhole l D k h p1 st _ _ hst1) gi_X10_187 (hwM_0 ..) rfl hd_X10_isWhole ⟨Nat.le_of_ble_eq_true rfl, Nat.le_of_ble_eq_true rfl⟩ rfl rfl (Nat.le_of_ble_eq_true rfl) dX10_call_2 (fun H locs G => ?_)
  refine lv_if_eq (tgt := 21) hx hb dX10_call_5 (by decide) (fun c3 => ?_) (fun c3 => ?_)
  · replace hf := if_p hf c3
    refine lv_iconst (v := 0) hx hb dX10_call_21 (by decide) ?_
    exact rt_zM C rfl G hf dX10_call_22
  · replace hf := if_n hf c3
    refine lv_aload_n hx hb dX10_call_8 rfl (lv_at hl 0 rfl) ?_
    refine fg_Md_arguments (v := rI st1 8) hx hb hts hown hK G (hts _ lk_X10_310) rfl dX10_call_9 ?_
    refine lv_aload_n hx hb dX10_call_12 rfl (lv_at hl 0 rfl) ?_
    refine fg_Md_parameters hx hb hts hown hK G (hts _ lk_X10_16) dX10_call_13 ?_
    refine lv_iload_n hx hb dX10_call_16 rfl (lv_at hl 1 rfl) ?_
    obtain ⟨h_g4, hf⟩ := gd_some hf
    refine ra_IM (v := rA st1 2 p1.toNatClampNeg) hx hb hK G (waM_3 ..) (t0 := 2) rfl rfl h_g4 dX10_call_17 ?_
    refine lv_icmp_eq (tgt := 23) hx hb dX10_call_18 (by decide) (fun c5 => ?_) (fun c5 => ?_)
    · replace hf := if_p hf c5
      refine lv_aload_n hx hb dX10_call_23 rfl (lv_at hl 0 rfl) ?_
      refine lv_iconst (v := 1) hx hb dX10_call_24 (by decide) ?_
      refine fp_Md_state hx hb hts hown hK G (hts _ lk_X10_215) dX10_call_25 (fun H locs G => ?_)
      refine lv_aload_n hx hb dX10_call_28 rfl (lv_at hl 0 rfl) ?_
      refine lv_iconst (v := 0) hx hb dX10_call_29 (by decide) ?_
      refine fp_Md_steps hx hb hts hown hK G (hts _ lk_X10_289) dX10_call_30 (fun H locs G => ?_)
      refine lv_aload_n hx hb dX10_call_33 rfl (lv_at hl 0 rfl) ?_
      refine lv_iconst (v := 0) hx hb dX10_call_34 (by decide) ?_
      refine fp_Md_frames hx hb hts hown hK G (hts _ lk_X10_190) dX10_call_35 (fun H locs G => ?_)
      refine lv_aload_n hx hb dX10_call_38 rfl (lv_at hl 0 rfl) ?_
      refine lv_iconst (v := 0) hx hb dX10_call_39 (by decide) ?_
      refine fp_Md_values hx hb hts hown hK G (hts _ lk_X10_199) dX10_call_40 (fun H locs G => ?_)
      refine lv_aload_n hx hb dX10_call_43 rfl (lv_at hl 0 rfl) ?_
      refine lv_iconst (v := 0) hx hb dX10_call_44 (by decide) ?_
      refine fp_Md_asked hx hb hts hown hK G (hts _ lk_X10_206) dX10_call_45 (fun H locs G => ?_)
      refine lv_aload_n hx hb dX10_call_48 rfl (lv_at hl 0 rfl) ?_
      refine lv_iconst (v := 0) hx hb dX10_call_49 (by decide) ?_
      refine fp_Md_outcomes hx hb hts hown hK G (hts _ lk_X10_218) dX10_call_50 (fun H locs G => ?_)
      refine lv_iconst (v := 0) hx hb dX10_call_53 (by decide) ?_
      refine lv_istore_n (lv' := [(2, .int 0), (0, .ref (h 0)), (1, .int p1)]) hx hb dX10_call_54 rfl hl (by decide) rfl (fun ls hl => ?_)
      exact kx_Md_call_b55 C N N p1 0 (wI (wI (wI (wI (wI (wI st1 9 1) 11 0) 12 0) 13 0) 14 0) 16 0) _ _ hf _ _ _ (lv_sub hl [1, 2, 0] rfl) G
    · replace hf := if_n hf c5
      refine lv_iconst (v := 0) hx hb dX10_call_21 (by decide) ?_
      exact rt_zM C rfl G hf dX10_call_22
def rm_Md_tier : Room := { frames := 0, cells := 0, slots := 0, locals := 0 }
set_option maxHeartbeats 4000000 in
set_option maxRecDepth 100000 in
theorem kx_Md_tier (l : Launch) (D : va_G) (k : Nat → ClassId) (h : Nat → Nat) (p1 : Int32) (st : rs_T) (r : Int32) (s' : rs_T) (hf : fx_Md_tier p1 st = some (r, s')) : mIM l D k h yX10_tier cX10_tier 3 .int rm_Md_tier [.ref (h 0), .int p1] st r s' := by
  refine mIM_of (by decide) ⟨rfl, rfl⟩ (Nat.le_of_ble_eq_true rfl) ?_
  intro p e s m below meth c ls C hl G
  obtain ⟨hx, hb, hml, hr, hown, hts, hK, hN, hlk⟩ := id C
  have hown : s.vm.findClass RX10 = some m.cls := hown
  have hl : lv_has ls 3 [(0, .ref (h 0)), (1, .int p1)] := hl
  unfold fx_Md_tier at hf
  refine lv_iload_n hx hb dX10_tier_0 rfl (lv_at hl 1 rfl) ?_
  refine lv_if_ge (tgt := 6) hx hb dX10_tier_1 (by decide) (fun c1 => ?_) (fun c1 => ?_)
  · replace hf := if_p hf c1
    refine lv_aload_n hx hb dX10_tier_6 rfl (lv_at hl 0 rfl) ?_
    refine fg_Md_often (v := rI st 17) hx hb hts hown hK G (hts _ lk_X10_88) rfl dX10_tier_7 ?_
    refine lv_topi (fun v2 e_v2 => ?_)
    replace hf := bd_some hf v2 e_v2
    refine lv_istore_n (lv' := [(2, .int v2), (0, .ref (h 0)), (1, .int p1)]) hx hb dX10_tier_10 rfl hl (by decide) rfl (fun ls hl => ?_)
    refine lv_aload_n hx hb dX10_tier_11 rfl (lv_at hl 1 rfl) ?_
    refine lv_iload_n hx hb dX10_tier_12 rfl (lv_at hl 2 rfl) ?_
    refine fp_Md_often hx hb hts hown hK G (hts _ lk_X10_88) dX10_tier_13 (fun H locs G => ?_)
    refine lv_iload_n hx hb dX10_tier_16 rfl (lv_at hl 0 rfl) ?_
    exact rt_iM C G hf dX10_tier_17
  · replace hf := if_n hf c1
    refine lv_iconst (v := (-1)) hx hb dX10_tier_4 (by decide) ?_
    exact rt_iM C G hf dX10_tier_5
def rm_Md_traps : Room := { frames := 0, cells := 0, slots := 0, locals := 0 }
set_option maxHeartbeats 4000000 in
set_option maxRecDepth 100000 in
theorem kx_Md_traps (l : Launch) (D : va_G) (k : Nat → ClassId) (h : Nat → Nat) (p1 : Int32) (st : rs_T) (s' : rs_T) (hf : fx_Md_traps p1 st = some s') : mVM l D k h yX10_traps cX10_traps 2 rm_Md_traps [.ref (h 0), .int p1] st s' := by
  refine mVM_of (by decide) ⟨rfl, rfl⟩ (Nat.le_of_ble_eq_true rfl) ?_
  intro p e s m below meth c ls C hl G
  obtain ⟨hx, hb, hml, hr, hown, hts, hK, hN, hlk⟩ := id C
  have hown : s.vm.findClass RX10 = some m.cls := hown
  have hl : lv_has ls 2 [(0, .ref (h 0)), (1, .int p1)] := hl
  unfold fx_Md_traps at hf
  refine lv_aload_n hx hb dX10_traps_0 rfl (lv_at hl 0 rfl) ?_
  refine lv_iconst (v := 3) hx hb dX10_traps_1 (by decide) ?_
  refine fp_Md_state hx hb hts hown hK G (hts _ lk_X10_215) dX10_traps_2 (fun H locs G => ?_)
  refine lv_aload_n hx hb dX10_traps_5 rfl (lv_at hl 0 rfl) ?_
  refine lv_iload_n hx hb dX10_traps_6 rfl (lv_at hl 1 rfl) ?_
  refine fp_Md_trap hx hb hts hown hK G (hts _ lk_X10_238) dX10_traps_7 (fun H locs G => ?_)
  exact rt_vM C G hf dX10_traps_10
def rm_Md_pop : Room := { frames := 0, cells := 0, slots := 0, locals := 0 }
set_option maxHeartbeats 4000000 in
set_option maxRecDepth 100000 in
theorem kx_Md_pop (l : Launch) (D : va_G) (k : Nat → ClassId) (h : Nat → Nat) (st : rs_T) (r : Int64) (s' : rs_T) (hf : fx_Md_pop st = some (r, s')) : mLM l D k h yX10_pop cX10_pop 1 rm_Md_pop [.ref (h 0)] st r s' := by
  refine mLM_of (by decide) ⟨rfl, rfl⟩ (Nat.le_of_ble_eq_true rfl) ?_
  intro p e s m below meth c ls C hl G
  obtain ⟨hx, hb, hml, hr, hown, hts, hK, hN, hlk⟩ := id C
  have hown : s.vm.findClass RX10 = some m.cls := hown
  have hl : lv_has ls 1 [(0, .ref (h 0))] := hl
  unfold fx_Md_pop at hf
  refine lv_aload_n hx hb dX10_pop_0 rfl (lv_at hl 0 rfl) ?_
  refine lv_dup hx hb dX10_pop_1 rfl ?_
  refine fg_Md_values (v := rI st 13) hx hb hts hown hK G (hts _ lk_X10_199) rfl dX10_pop_2 ?_
  refine lv_iconst (v := 1) hx hb dX10_pop_5 (by decide) ?_
  refine lv_isub hx hb dX10_pop_6 ?_
  refine fp_Md_values hx hb hts hown hK G (hts _ lk_X10_199) dX10_pop_7 (fun H locs G => ?_)
  refine lv_aload_n hx hb dX10_pop_10 rfl (lv_at hl 0 rfl) ?_
  refine fg_Md_value hx hb hts hown hK G (hts _ lk_X10_76) dX10_pop_11 ?_
  refine lv_aload_n hx hb dX10_pop_14 rfl (lv_at hl 0 rfl) ?_
  refine fg_Md_values (v := (rI st 13) - 1) hx hb hts hown hK G (hts _ lk_X10_199) rfl dX10_pop_15 ?_
  obtain ⟨h_g1, hf⟩ := gd_some hf
  refine ra_JM (v := rL st 2 (((rI st 13) - 1).toNatClampNeg)) hx hb hK G (waM_21 ..) (t0 := 20) rfl rfl h_g1 dX10_pop_18 ?_
  exact rt_lM C G hf dX10_pop_19
def rm_Md_isTrue : Room := { frames := 0, cells := 0, slots := 0, locals := 0 }
set_option maxHeartbeats 4000000 in
set_option maxRecDepth 100000 in
theorem kx_Md_isTrue (l : Launch) (D : va_G) (k : Nat → ClassId) (h : Nat → Nat) (p0 : Int64) (st : rs_T) (r : Int32) (s' : rs_T) (hf : fx_Md_isTrue p0 st = some (r, s')) : mIM l D k h yX10_isTrue cX10_isTrue 2 .boolean rm_Md_isTrue [.long p0] st r s' := by
  refine mIM_of (by decide) ⟨rfl, rfl⟩ (Nat.le_of_ble_eq_true rfl) ?_
  intro p e s m below meth c ls C hl G
  obtain ⟨hx, hb, hml, hr, hown, hts, hK, hN, hlk⟩ := id C
  have hown : s.vm.findClass RX10 = some m.cls := hown
  have hl : lv_has ls 2 [(0, .long p0)] := hl
  unfold fx_Md_isTrue at hf
  refine lv_lload_n hx hb dX10_isTrue_0 rfl (lv_at hl 0 rfl) ?_
  refine lv_ldc2 (v := 4294967295) hx hb hown (hts _ lk_X10_241) dX10_isTrue_1 ?_
  refine lv_land hx hb dX10_isTrue_4 ?_
  refine lv_lconst (v := 0) hx hb dX10_isTrue_5 (by decide) ?_
  refine W.lcmp hx hb dX10_isTrue_6 ?_
  refine lv_if_eq (tgt := 14) hx hb dX10_isTrue_7 (by decide) (fun c1 => ?_) (fun c1 => ?_)
  · replace hf := if_p hf c1
    refine lv_iconst (v := 0) hx hb dX10_isTrue_14 (by decide) ?_
    exact rt_zM C rfl G hf dX10_isTrue_15
  · replace hf := if_n hf c1
    refine lv_iconst (v := 1) hx hb dX10_isTrue_10 (by decide) ?_
    refine lv_goto (tgt := 15) hx hb dX10_isTrue_11 (by decide) ?_
    exact rt_zM C rfl G hf dX10_isTrue_15
def rm_Md_condition : Room := { frames := 2, cells := 0, slots := 0, locals := 44 }
set_option maxHeartbeats 4000000 in
set_option maxRecDepth 100000 in
theorem kx_Md_condition_b51 {p : Program} {l : Launch} {e : Env} {s : State} {m : MethodId} {args : Array Value} {below : List Frame} {meth : Method} {c : Code} {D : va_G} {k : Nat → ClassId} {h : Nat → Nat} (C : cxM D k p s m args meth c cX10_condition 4 none RX10) (N : Nat) (y0 : Int32) (st : rs_T) (s' : rs_T) (hf : fx_Md_condition_b51 N y0 st = some s') : ∀ (H : Heap) (locs : List Loc) (ls : Array Slot), lv_has ls 4 [] → gdM D k h (arM h s.heap.size) s.heap H locs st → W p l e rm_Md_condition s m args below meth c H locs 0 0 (MQ below (qVM D k h s.heap.size s') args s 0 0 (arM h s.heap.size)) (F0 m 51 ls [.int y0, .ref (h 0)]) := by
  obtain ⟨hx, hb, hml, hr, hown, hts, hK, hN, hlk⟩ := id C
  intro H locs ls hl G
  unfold fx_Md_condition_b51 at hf
  refine fp_Md_at hx hb hts hown hK G (hts _ lk_X10_212) dX10_condition_51 (fun H locs G => ?_)
  exact rt_vM C G hf dX10_condition_54
set_option maxHeartbeats 4000000 in
set_option maxRecDepth 100000 in
theorem kx_Md_condition (l : Launch) (D : va_G) (k : Nat → ClassId) (h : Nat → Nat) (N : Nat) (p1 : Int32) (st : rs_T) (s' : rs_T) (hf : fx_Md_condition N p1 st = some s') : mVM l D k h yX10_condition cX10_condition 4 rm_Md_condition [.ref (h 0), .int p1] st s' := by
  refine mVM_of (by decide) ⟨rfl, rfl⟩ (Nat.le_of_ble_eq_true rfl) ?_
  intro p e s m below meth c ls C hl G
  obtain ⟨hx, hb, hml, hr, hown, hts, hK, hN, hlk⟩ := id C
  have hown : s.vm.findClass RX10 = some m.cls := hown
  have hl : lv_has ls 4 [(0, .ref (h 0)), (1, .int p1)] := hl
  unfold fx_Md_condition at hf
  refine lv_aload_n hx hb dX10_condition_0 rfl (lv_at hl 0 rfl) ?_
  obtain ⟨r2, st1, hst1, hf⟩ := bn_some hf
  refine cl_vlM C hl G (As := []) (rest := []) (kx_Md_pop l D k h st _ _ hst1) gi_X10_243 (hwM_0 ..) rfl hd_X10_pop ⟨Nat.le_of_ble_eq_true rfl, Nat.le_of_ble_eq_true rfl⟩ rfl rfl (Nat.le_of_ble_eq_true rfl) dX10_condition_1 (fun H locs G => ?_)
  obtain ⟨r4, st3, hst3, hf⟩ := bn_some hf
  refine cl_siM C hl G (As := [.long r2]) (rest := []) (kx_Md_isTrue l D k h r2 st1 _ _ hst3) gi_X10_285 hd_X10_isTrue ⟨Nat.le_of_ble_eq_true rfl, Nat.le_of_ble_eq_true rfl⟩ rfl rfl (Nat.le_of_ble_eq_true rfl) dX10_condition_4 (fun H locs G => ?_)
  refine lv_istore_n (lv' := [(2, .int r4), (0, .ref (h 0)), (1, .int p1)]) hx hb dX10_condition_7 rfl hl (by decide) rfl (fun ls hl => ?_)
  refine lv_aload_n hx hb dX10_condition_8 rfl (lv_at hl 1 rfl) ?_
  refine lv_aload_n hx hb dX10_condition_9 rfl (lv_at hl 1 rfl) ?_
  refine fg_Md_at (v := rI st3 15) hx hb hts hown hK G (hts _ lk_X10_212) rfl dX10_condition_10 ?_
  refine lv_iconst (v := 1) hx hb dX10_condition_13 (by decide) ?_
  refine lv_iadd hx hb dX10_condition_14 ?_
  refine lv_iconst (v := 1) hx hb dX10_condition_15 (by decide) ?_
  obtain ⟨r6, st5, hst5, hf⟩ := bn_some hf
  refine cl_viM C hl G (As := [.int ((rI st3 15) + 1), .int 1]) (rest := []) (kx_Md_endOf l D k h N ((rI st3 15) + 1) 1 st3 _ _ hst5) gi_X10_225 (hwM_0 ..) rfl hd_X10_endOf ⟨Nat.le_of_ble_eq_true rfl, Nat.le_of_ble_eq_true rfl⟩ rfl rfl (Nat.le_of_ble_eq_true rfl) dX10_condition_16 (fun H locs G => ?_)
  refine lv_istore_n (lv' := [(3, .int r6), (2, .int r4), (0, .ref (h 0)), (1, .int p1)]) hx hb dX10_condition_19 rfl hl (by decide) rfl (fun ls hl => ?_)
  refine lv_aload_n hx hb dX10_condition_20 rfl (lv_at hl 2 rfl) ?_
  refine lv_iload_n hx hb dX10_condition_21 rfl (lv_at hl 1 rfl) ?_
  refine lv_if_eq (tgt := 34) hx hb dX10_condition_22 (by decide) (fun c7 => ?_) (fun c7 => ?_)
  · replace hf := if_p hf c7
    refine lv_aload_n hx hb dX10_condition_34 rfl (lv_at hl 2 rfl) ?_
    refine fg_Md_op hx hb hts hown hK G (hts _ lk_X10_28) dX10_condition_35 ?_
    refine lv_iload_n hx hb dX10_condition_38 rfl (lv_at hl 0 rfl) ?_
    obtain ⟨h_g8, hf⟩ := gd_some hf
    refine ra_IM (v := rA st5 6 r6.toNatClampNeg) hx hb hK G (waM_7 ..) (t0 := 6) rfl rfl h_g8 dX10_condition_39 ?_
    refine lv_iconst (v := 5) hx hb dX10_condition_40 (by decide) ?_
    refine lv_icmp_ne (tgt := 50) hx hb dX10_condition_41 (by decide) (fun c9 => ?_) (fun c9 => ?_)
    · replace hf := if_n hf c9
      refine lv_iload_n hx hb dX10_condition_50 rfl (lv_at hl 0 rfl) ?_
      exact kx_Md_condition_b51 C N r6 st5 _ hf _ _ _ (lv_sub hl [] rfl) G
    · replace hf := if_p hf c9
      refine lv_iload_n hx hb dX10_condition_44 rfl (lv_at hl 0 rfl) ?_
      refine lv_iconst (v := 1) hx hb dX10_condition_45 (by decide) ?_
      refine lv_iadd hx hb dX10_condition_46 ?_
      refine lv_goto (tgt := 51) hx hb dX10_condition_47 (by decide) ?_
      exact kx_Md_condition_b51 C N (r6 + 1) st5 _ hf _ _ _ (lv_sub hl [] rfl) G
  · replace hf := if_n hf c7
    refine lv_aload_n hx hb dX10_condition_25 rfl (lv_at hl 2 rfl) ?_
    refine fg_Md_at (v := rI st5 15) hx hb hts hown hK G (hts _ lk_X10_212) rfl dX10_condition_26 ?_
    refine lv_iconst (v := 1) hx hb dX10_condition_29 (by decide) ?_
    refine lv_iadd hx hb dX10_condition_30 ?_
    refine lv_goto (tgt := 51) hx hb dX10_condition_31 (by decide) ?_
    exact kx_Md_condition_b51 C N ((rI st5 15) + 1) st5 _ hf _ _ _ (lv_sub hl [] rfl) G
def rm_Md_beginOf : Room := { frames := 1, cells := 0, slots := 0, locals := 20 }
set_option maxHeartbeats 4000000 in
set_option maxRecDepth 100000 in
theorem kx_Md_beginOf_b97 {p : Program} {l : Launch} {e : Env} {s : State} {m : MethodId} {args : Array Value} {below : List Frame} {meth : Method} {c : Code} {D : va_G} {k : Nat → ClassId} {h : Nat → Nat} (C : cxM D k p s m args meth c cX10_beginOf 6 (some .int) RX10) (N : Nat) (rec10 : Int32 → Int32 → Int32 → rs_T → Option (Int32 × rs_T)) (ih10 : ∀ (x3 : Int32) (x4 : Int32) (x5 : Int32) (st : rs_T) (r : Int32) (s' : rs_T), rec10 x3 x4 x5 st = some (r, s') → ∀ (H : Heap) (locs : List Loc) (ls : Array Slot), lv_has ls 6 [(0, .ref (h 0)), (3, .int x3), (4, .int x4), (5, .int x5)] → gdM D k h (arM h s.heap.size) s.heap H locs st → W p l e rm_Md_beginOf s m args below meth c H locs 0 0 (MQ below (qIM D k h s.heap.size r s') args s 0 0 (arM h s.heap.size)) (F0 m 10 ls [])) (x3 : Int32) (x4 : Int32) (x5 : Int32) (st : rs_T) (r : Int32) (s' : rs_T) (hf : fx_Md_beginOf_b97 N rec10 x3 x4 x5 st = some (r, s')) : ∀ (H : Heap) (locs : List Loc) (ls : Array Slot), lv_has ls 6 [(0, .ref (h 0)), (3, .int x3), (4, .int x4), (5, .int x5)] → gdM D k h (arM h s.heap.size) s.heap H locs st → W p l e rm_Md_beginOf s m args below meth c H locs 0 0 (MQ below (qIM D k h s.heap.size r s') args s 0 0 (arM h s.heap.size)) (F0 m 97 ls []) := by
  obtain ⟨hx, hb, hml, hr, hown, hts, hK, hN, hlk⟩ := id C
  intro H locs ls hl G
  unfold fx_Md_beginOf_b97 at hf
  obtain ⟨v11, e_v11⟩ : ∃ z : Int32, z = x5 + (-1) := ⟨_, rfl⟩
  replace hf := bd_some hf v11 e_v11
  refine lv_iinc (v := v11) (lv' := [(5, .int v11), (0, .ref (h 0)), (3, .int x3), (4, .int x4)]) hx hb dX10_beginOf_97 hl (k := 3) rfl (by rw [e_v11]; rfl) (by decide) rfl (fun ls hl => ?_)
  refine lv_goto (tgt := 10) hx hb dX10_beginOf_100 (by decide) ?_
  exact ih10 x3 x4 v11 st _ _ hf _ _ _ (lv_sub hl [1, 2, 3, 0] rfl) G
set_option maxHeartbeats 4000000 in
set_option maxRecDepth 100000 in
theorem kx_Md_beginOf_b95 {p : Program} {l : Launch} {e : Env} {s : State} {m : MethodId} {args : Array Value} {below : List Frame} {meth : Method} {c : Code} {D : va_G} {k : Nat → ClassId} {h : Nat → Nat} (C : cxM D k p s m args meth c cX10_beginOf 6 (some .int) RX10) (N : Nat) (rec10 : Int32 → Int32 → Int32 → rs_T → Option (Int32 × rs_T)) (ih10 : ∀ (x3 : Int32) (x4 : Int32) (x5 : Int32) (st : rs_T) (r : Int32) (s' : rs_T), rec10 x3 x4 x5 st = some (r, s') → ∀ (H : Heap) (locs : List Loc) (ls : Array Slot), lv_has ls 6 [(0, .ref (h 0)), (3, .int x3), (4, .int x4), (5, .int x5)] → gdM D k h (arM h s.heap.size) s.heap H locs st → W p l e rm_Md_beginOf s m args below meth c H locs 0 0 (MQ below (qIM D k h s.heap.size r s') args s 0 0 (arM h s.heap.size)) (F0 m 10 ls [])) (x4 : Int32) (x5 : Int32) (y0 : Int32) (y1 : Int32) (st : rs_T) (r : Int32) (s' : rs_T) (hf : fx_Md_beginOf_b95 N rec10 x4 x5 y0 y1 st = some (r, s')) : ∀ (H : Heap) (locs : List Loc) (ls : Array Slot), lv_has ls 6 [(0, .ref (h 0)), (4, .int x4), (5, .int x5)] → gdM D k h (arM h s.heap.size) s.heap H locs st → W p l e rm_Md_beginOf s m args below meth c H locs 0 0 (MQ below (qIM D k h s.heap.size r s') args s 0 0 (arM h s.heap.size)) (F0 m 95 ls [.int y0, .int y1]) := by
  obtain ⟨hx, hb, hml, hr, hown, hts, hK, hN, hlk⟩ := id C
  intro H locs ls hl G
  unfold fx_Md_beginOf_b95 at hf
  refine lv_isub hx hb dX10_beginOf_95 ?_
  refine lv_topi (fun v16 e_v16 => ?_)
  replace hf := bd_some hf v16 e_v16
  refine lv_istore_n (lv' := [(3, .int v16), (0, .ref (h 0)), (4, .int x4), (5, .int x5)]) hx hb dX10_beginOf_96 rfl hl (by decide) rfl (fun ls hl => ?_)
  exact kx_Md_beginOf_b97 C N rec10 ih10 v16 x4 x5 st _ _ hf _ _ _ (lv_sub hl [1, 0, 2, 3] rfl) G
set_option maxHeartbeats 4000000 in
set_option maxRecDepth 100000 in
theorem kx_Md_beginOf_b82 {p : Program} {l : Launch} {e : Env} {s : State} {m : MethodId} {args : Array Value} {below : List Frame} {meth : Method} {c : Code} {D : va_G} {k : Nat → ClassId} {h : Nat → Nat} (C : cxM D k p s m args meth c cX10_beginOf 6 (some .int) RX10) (N : Nat) (rec10 : Int32 → Int32 → Int32 → rs_T → Option (Int32 × rs_T)) (ih10 : ∀ (x3 : Int32) (x4 : Int32) (x5 : Int32) (st : rs_T) (r : Int32) (s' : rs_T), rec10 x3 x4 x5 st = some (r, s') → ∀ (H : Heap) (locs : List Loc) (ls : Array Slot), lv_has ls 6 [(0, .ref (h 0)), (3, .int x3), (4, .int x4), (5, .int x5)] → gdM D k h (arM h s.heap.size) s.heap H locs st → W p l e rm_Md_beginOf s m args below meth c H locs 0 0 (MQ below (qIM D k h s.heap.size r s') args s 0 0 (arM h s.heap.size)) (F0 m 10 ls [])) (x3 : Int32) (x5 : Int32) (y0 : Int32) (y1 : Int32) (st : rs_T) (r : Int32) (s' : rs_T) (hf : fx_Md_beginOf_b82 N rec10 x3 x5 y0 y1 st = some (r, s')) : ∀ (H : Heap) (locs : List Loc) (ls : Array Slot), lv_has ls 6 [(0, .ref (h 0)), (3, .int x3), (5, .int x5)] → gdM D k h (arM h s.heap.size) s.heap H locs st → W p l e rm_Md_beginOf s m args below meth c H locs 0 0 (MQ below (qIM D k h s.heap.size r s') args s 0 0 (arM h s.heap.size)) (F0 m 82 ls [.int y0, .int y1]) := by
  obtain ⟨hx, hb, hml, hr, hown, hts, hK, hN, hlk⟩ := id C
  intro H locs ls hl G
  unfold fx_Md_beginOf_b82 at hf
  refine lv_isub hx hb dX10_beginOf_82 ?_
  refine lv_topi (fun v14 e_v14 => ?_)
  replace hf := bd_some hf v14 e_v14
  refine lv_istore (lv' := [(4, .int v14), (0, .ref (h 0)), (3, .int x3), (5, .int x5)]) hx hb dX10_beginOf_83 hl (by decide) rfl (fun ls hl => ?_)
  refine lv_iload_n hx hb dX10_beginOf_85 rfl (lv_at hl 2 rfl) ?_
  refine lv_iload_n hx hb dX10_beginOf_86 rfl (lv_at hl 2 rfl) ?_
  refine lv_if_le (tgt := 94) hx hb dX10_beginOf_87 (by decide) (fun c15 => ?_) (fun c15 => ?_)
  · replace hf := if_p hf c15
    refine lv_iconst (v := 0) hx hb dX10_beginOf_94 (by decide) ?_
    exact kx_Md_beginOf_b95 C N rec10 ih10 v14 x5 0 x3 st _ _ hf _ _ _ (lv_sub hl [1, 0, 3] rfl) G
  · replace hf := if_n hf c15
    refine lv_iconst (v := 1) hx hb dX10_beginOf_90 (by decide) ?_
    refine lv_goto (tgt := 95) hx hb dX10_beginOf_91 (by decide) ?_
    exact kx_Md_beginOf_b95 C N rec10 ih10 v14 x5 1 x3 st _ _ hf _ _ _ (lv_sub hl [1, 0, 3] rfl) G
set_option maxHeartbeats 4000000 in
set_option maxRecDepth 100000 in
theorem kx_Md_beginOf_b71 {p : Program} {l : Launch} {e : Env} {s : State} {m : MethodId} {args : Array Value} {below : List Frame} {meth : Method} {c : Code} {D : va_G} {k : Nat → ClassId} {h : Nat → Nat} (C : cxM D k p s m args meth c cX10_beginOf 6 (some .int) RX10) (N : Nat) (rec10 : Int32 → Int32 → Int32 → rs_T → Option (Int32 × rs_T)) (ih10 : ∀ (x3 : Int32) (x4 : Int32) (x5 : Int32) (st : rs_T) (r : Int32) (s' : rs_T), rec10 x3 x4 x5 st = some (r, s') → ∀ (H : Heap) (locs : List Loc) (ls : Array Slot), lv_has ls 6 [(0, .ref (h 0)), (3, .int x3), (4, .int x4), (5, .int x5)] → gdM D k h (arM h s.heap.size) s.heap H locs st → W p l e rm_Md_beginOf s m args below meth c H locs 0 0 (MQ below (qIM D k h s.heap.size r s') args s 0 0 (arM h s.heap.size)) (F0 m 10 ls [])) (x3 : Int32) (x4 : Int32) (x5 : Int32) (st : rs_T) (r : Int32) (s' : rs_T) (hf : fx_Md_beginOf_b71 N rec10 x3 x4 x5 st = some (r, s')) : ∀ (H : Heap) (locs : List Loc) (ls : Array Slot), lv_has ls 6 [(0, .ref (h 0)), (3, .int x3), (4, .int x4), (5, .int x5)] → gdM D k h (arM h s.heap.size) s.heap H locs st → W p l e rm_Md_beginOf s m args below meth c H locs 0 0 (MQ below (qIM D k h s.heap.size r s') args s 0 0 (arM h s.heap.size)) (F0 m 71 ls []) := by
  obtain ⟨hx, hb, hml, hr, hown, hts, hK, hN, hlk⟩ := id C
  intro H locs ls hl G
  unfold fx_Md_beginOf_b71 at hf
  refine lv_iload hx hb dX10_beginOf_71 (lv_at hl 2 rfl) ?_
  refine lv_iload_n hx hb dX10_beginOf_73 rfl (lv_at hl 1 rfl) ?_
  refine lv_if_ne (tgt := 81) hx hb dX10_beginOf_74 (by decide) (fun c13 => ?_) (fun c13 => ?_)
  · replace hf := if_n hf c13
    refine lv_iconst (v := 0) hx hb dX10_beginOf_81 (by decide) ?_
    exact kx_Md_beginOf_b82 C N rec10 ih10 x3 x5 0 x4 st _ _ hf _ _ _ (lv_sub hl [0, 1, 3] rfl) G
  · replace hf := if_p hf c13
    refine lv_iconst (v := 1) hx hb dX10_beginOf_77 (by decide) ?_
    refine lv_goto (tgt := 82) hx hb dX10_beginOf_78 (by decide) ?_
    exact kx_Md_beginOf_b82 C N rec10 ih10 x3 x5 1 x4 st _ _ hf _ _ _ (lv_sub hl [0, 1, 3] rfl) G
set_option maxHeartbeats 4000000 in
set_option maxRecDepth 100000 in
theorem kx_Md_beginOf_b46 {p : Program} {l : Launch} {e : Env} {s : State} {m : MethodId} {args : Array Value} {below : List Frame} {meth : Method} {c : Code} {D : va_G} {k : Nat → ClassId} {h : Nat → Nat} (C : cxM D k p s m args meth c cX10_beginOf 6 (some .int) RX10) (N : Nat) (rec10 : Int32 → Int32 → Int32 → rs_T → Option (Int32 × rs_T)) (ih10 : ∀ (x3 : Int32) (x4 : Int32) (x5 : Int32) (st : rs_T) (r : Int32) (s' : rs_T), rec10 x3 x4 x5 st = some (r, s') → ∀ (H : Heap) (locs : List Loc) (ls : Array Slot), lv_has ls 6 [(0, .ref (h 0)), (3, .int x3), (4, .int x4), (5, .int x5)] → gdM D k h (arM h s.heap.size) s.heap H locs st → W p l e rm_Md_beginOf s m args below meth c H locs 0 0 (MQ below (qIM D k h s.heap.size r s') args s 0 0 (arM h s.heap.size)) (F0 m 10 ls [])) (x3 : Int32) (x4 : Int32) (x5 : Int32) (st : rs_T) (r : Int32) (s' : rs_T) (hf : fx_Md_beginOf_b46 N rec10 x3 x4 x5 st = some (r, s')) : ∀ (H : Heap) (locs : List Loc) (ls : Array Slot), lv_has ls 6 [(0, .ref (h 0)), (3, .int x3), (4, .int x4), (5, .int x5)] → gdM D k h (arM h s.heap.size) s.heap H locs st → W p l e rm_Md_beginOf s m args below meth c H locs 0 0 (MQ below (qIM D k h s.heap.size r s') args s 0 0 (arM h s.heap.size)) (F0 m 46 ls []) := by
  obtain ⟨hx, hb, hml, hr, hown, hts, hK, hN, hlk⟩ := id C
  intro H locs ls hl G
  unfold fx_Md_beginOf_b46 at hf
  refine lv_aload_n hx hb dX10_beginOf_46 rfl (lv_at hl 0 rfl) ?_
  refine fg_Md_op hx hb hts hown hK G (hts _ lk_X10_28) dX10_beginOf_47 ?_
  refine lv_iload hx hb dX10_beginOf_50 (lv_at hl 3 rfl) ?_
  obtain ⟨h_g7, hf⟩ := gd_some hf
  refine ra_IM (v := rA st 6 x5.toNatClampNeg) hx hb hK G (waM_7 ..) (t0 := 6) rfl rfl h_g7 dX10_beginOf_52 ?_
  obtain ⟨r9, st8, hst8, hf⟩ := bn_some hf
  refine cl_siM C hl G (As := [.int (rA st 6 x5.toNatClampNeg)]) (rest := []) (kx_Md_begins l D k h (rA st 6 x5.toNatClampNeg) st _ _ hst8) gi_X10_193 hd_X10_begins ⟨Nat.le_of_ble_eq_true rfl, Nat.le_of_ble_eq_true rfl⟩ rfl rfl (Nat.le_of_ble_eq_true rfl) dX10_beginOf_53 (fun H locs G => ?_)
  refine lv_if_eq (tgt := 97) hx hb dX10_beginOf_56 (by decide) (fun c10 => ?_) (fun c10 => ?_)
  · replace hf := if_p hf c10
    exact kx_Md_beginOf_b97 C N rec10 ih10 x3 x4 x5 st8 _ _ hf _ _ _ (lv_sub hl [0, 1, 2, 3] rfl) G
  · replace hf := if_n hf c10
    refine lv_iload_n hx hb dX10_beginOf_59 rfl (lv_at hl 1 rfl) ?_
    refine lv_if_ne (tgt := 71) hx hb dX10_beginOf_60 (by decide) (fun c12 => ?_) (fun c12 => ?_)
    · replace hf := if_n hf c12
      exact kx_Md_beginOf_b71 C N rec10 ih10 x3 x4 x5 st8 _ _ hf _ _ _ (lv_sub hl [0, 1, 2, 3] rfl) G
    · replace hf := if_p hf c12
      refine lv_iload hx hb dX10_beginOf_63 (lv_at hl 2 rfl) ?_
      refine lv_if_ne (tgt := 71) hx hb dX10_beginOf_65 (by decide) (fun c17 => ?_) (fun c17 => ?_)
      · replace hf := if_n hf c17
        exact kx_Md_beginOf_b71 C N rec10 ih10 x3 x4 x5 st8 _ _ hf _ _ _ (lv_sub hl [0, 1, 2, 3] rfl) G
      · replace hf := if_p hf c17
        refine lv_iload hx hb dX10_beginOf_68 (lv_at hl 3 rfl) ?_
        exact rt_iM C G hf dX10_beginOf_70
set_option maxHeartbeats 4000000 in
set_option maxRecDepth 100000 in
theorem kx_Md_beginOf_b10 {p : Program} {l : Launch} {e : Env} {s : State} {m : MethodId} {args : Array Value} {below : List Frame} {meth : Method} {c : Code} {D : va_G} {k : Nat → ClassId} {h : Nat → Nat} (C : cxM D k p s m args meth c cX10_beginOf 6 (some .int) RX10) (N : Nat) : ∀ (n : Nat) (x3 : Int32) (x4 : Int32) (x5 : Int32) (st : rs_T) (r : Int32) (s' : rs_T), fx_Md_beginOf_b10 N n x3 x4 x5 st = some (r, s') → ∀ (H : Heap) (locs : List Loc) (ls : Array Slot), lv_has ls 6 [(0, .ref (h 0)), (3, .int x3), (4, .int x4), (5, .int x5)] → gdM D k h (arM h s.heap.size) s.heap H locs st → W p l e rm_Md_beginOf s m args below meth c H locs 0 0 (MQ below (qIM D k h s.heap.size r s') args s 0 0 (arM h s.heap.size)) (F0 m 10 ls []) := by
  obtain ⟨hx, hb, hml, hr, hown, hts, hK, hN, hlk⟩ := id C
  intro n
  induction n with
  | zero => intro x3 x4 x5 st r s' hf; cases hf
  | succ n ih =>
    intro x3 x4 x5 st r s' hf H locs ls hl G
    rw [fx_Md_beginOf_b10] at hf
    refine lv_iload hx hb dX10_beginOf_10 (lv_at hl 3 rfl) ?_
    refine lv_aload_n hx hb dX10_beginOf_12 rfl (lv_at hl 0 rfl) ?_
    refine fg_Md_start hx hb hts hown hK G (hts _ lk_X10_7) dX10_beginOf_13 ?_
    refine lv_aload_n hx hb dX10_beginOf_16 rfl (lv_at hl 0 rfl) ?_
    refine fg_Md_function hx hb hts hown hK G (hts _ lk_X10_79) dX10_beginOf_17 ?_
    refine lv_aload_n hx hb dX10_beginOf_20 rfl (lv_at hl 0 rfl) ?_
    refine fg_Md_frames (v := rI st 12) hx hb hts hown hK G (hts _ lk_X10_190) rfl dX10_beginOf_21 ?_
    refine lv_iconst (v := 1) hx hb dX10_beginOf_24 (by decide) ?_
    refine lv_isub hx hb dX10_beginOf_25 ?_
    obtain ⟨h_g2, hf⟩ := gd_some hf
    refine ra_IM (v := rA st 18 (((rI st 12) - 1).toNatClampNeg)) hx hb hK G (waM_22 ..) (t0 := 21) rfl rfl h_g2 dX10_beginOf_26 ?_
    obtain ⟨h_g3, hf⟩ := gd_some hf
    refine ra_IM (v := rA st 0 ((rA st 18 (((rI st 12) - 1).toNatClampNeg)).toNatClampNeg)) hx hb hK G (waM_1 ..) (t0 := 0) rfl rfl h_g3 dX10_beginOf_27 ?_
    refine lv_icmp_lt (tgt := 103) hx hb dX10_beginOf_28 (by decide) (fun c4 => ?_) (fun c4 => ?_)
    · replace hf := if_p hf c4
      refine lv_iconst (v := (-1)) hx hb dX10_beginOf_103 (by decide) ?_
      exact rt_iM C G hf dX10_beginOf_104
    · replace hf := if_n hf c4
      refine lv_aload_n hx hb dX10_beginOf_31 rfl (lv_at hl 0 rfl) ?_
      refine fg_Md_op hx hb hts hown hK G (hts _ lk_X10_28) dX10_beginOf_32 ?_
      refine lv_iload hx hb dX10_beginOf_35 (lv_at hl 3 rfl) ?_
      obtain ⟨h_g5, hf⟩ := gd_some hf
      refine ra_IM (v := rA st 6 x5.toNatClampNeg) hx hb hK G (waM_7 ..) (t0 := 6) rfl rfl h_g5 dX10_beginOf_37 ?_
      refine lv_bipush (v := 11) hx hb dX10_beginOf_38 (by decide) ?_
      refine lv_icmp_ne (tgt := 46) hx hb dX10_beginOf_40 (by decide) (fun c6 => ?_) (fun c6 => ?_)
      · replace hf := if_n hf c6
        exact kx_Md_beginOf_b46 C N (fx_Md_beginOf_b10 N n) ih x3 x4 x5 st _ _ hf _ _ _ (lv_sub hl [0, 1, 2, 3] rfl) G
      · replace hf := if_p hf c6
        obtain ⟨v18, e_v18⟩ : ∃ z : Int32, z = x3 + 1 := ⟨_, rfl⟩
        replace hf := bd_some hf v18 e_v18
        refine lv_iinc (v := v18) (lv' := [(3, .int v18), (0, .ref (h 0)), (4, .int x4), (5, .int x5)]) hx hb dX10_beginOf_43 hl (k := 1) rfl (by rw [e_v18]; rfl) (by decide) rfl (fun ls hl => ?_)
        exact kx_Md_beginOf_b46 C N (fx_Md_beginOf_b10 N n) ih v18 x4 x5 st _ _ hf _ _ _ (lv_sub hl [1, 0, 2, 3] rfl) G
set_option maxHeartbeats 4000000 in
set_option maxRecDepth 100000 in
theorem kx_Md_beginOf (l : Launch) (D : va_G) (k : Nat → ClassId) (h : Nat → Nat) (N : Nat) (p1 : Int32) (p2 : Int32) (st : rs_T) (r : Int32) (s' : rs_T) (hf : fx_Md_beginOf N p1 p2 st = some (r, s')) : mIM l D k h yX10_beginOf cX10_beginOf 6 .int rm_Md_beginOf [.ref (h 0), .int p1, .int p2] st r s' := by
  refine mIM_of (by decide) ⟨rfl, rfl⟩ (Nat.le_of_ble_eq_true rfl) ?_
  intro p e s m below meth c ls C hl G
  obtain ⟨hx, hb, hml, hr, hown, hts, hK, hN, hlk⟩ := id C
  have hown : s.vm.findClass RX10 = some m.cls := hown
  have hl : lv_has ls 6 [(0, .ref (h 0)), (1, .int p1), (2, .int p2)] := hl
  unfold fx_Md_beginOf at hf
  refine lv_iconst (v := 0) hx hb dX10_beginOf_0 (by decide) ?_
  refine lv_istore_n (lv' := [(3, .int 0), (0, .ref (h 0)), (1, .int p1), (2, .int p2)]) hx hb dX10_beginOf_1 rfl hl (by decide) rfl (fun ls hl => ?_)
  refine lv_iload_n hx hb dX10_beginOf_2 rfl (lv_at hl 3 rfl) ?_
  refine lv_istore (lv' := [(4, .int p2), (3, .int 0), (0, .ref (h 0)), (1, .int p1), (2, .int p2)]) hx hb dX10_beginOf_3 hl (by decide) rfl (fun ls hl => ?_)
  refine lv_iload_n hx hb dX10_beginOf_5 rfl (lv_at hl 3 rfl) ?_
  refine lv_iconst (v := 1) hx hb dX10_beginOf_6 (by decide) ?_
  refine lv_isub hx hb dX10_beginOf_7 ?_
  refine lv_topi (fun v1 e_v1 => ?_)
  replace hf := bd_some hf v1 e_v1
  refine lv_istore (lv' := [(5, .int v1), (4, .int p2), (3, .int 0), (0, .ref (h 0)), (1, .int p1), (2, .int p2)]) hx hb dX10_beginOf_8 hl (by decide) rfl (fun ls hl => ?_)
  exact kx_Md_beginOf_b10 C N N 0 p2 v1 st _ _ hf _ _ _ (lv_sub hl [3, 2, 1, 0] rfl) G
def rm_Md_base : Room := { frames := 1, cells := 0, slots := 0, locals := 21 }
set_option maxHeartbeats 4000000 in
set_option maxRecDepth 100000 in
theorem kx_Md_base (l : Launch) (D : va_G) (k : Nat → ClassId) (h : Nat → Nat) (st : rs_T) (r : Int32) (s' : rs_T) (hf : fx_Md_base st = some (r, s')) : mIM l D k h yX10_base cX10_base 1 .int rm_Md_base [.ref (h 0)] st r s' := by
  refine mIM_of (by decide) ⟨rfl, rfl⟩ (Nat.le_of_ble_eq_true rfl) ?_
  intro p e s m below meth c ls C hl G
  obtain ⟨hx, hb, hml, hr, hown, hts, hK, hN, hlk⟩ := id C
  have hown : s.vm.findClass RX10 = some m.cls := hown
  have hl : lv_has ls 1 [(0, .ref (h 0))] := hl
  unfold fx_Md_base at hf
  refine lv_aload_n hx hb dX10_base_0 rfl (lv_at hl 0 rfl) ?_
  refine fg_Md_first hx hb hts hown hK G (hts _ lk_X10_82) dX10_base_1 ?_
  refine lv_aload_n hx hb dX10_base_4 rfl (lv_at hl 0 rfl) ?_
  refine fg_Md_frames (v := rI st 12) hx hb hts hown hK G (hts _ lk_X10_190) rfl dX10_base_5 ?_
  refine lv_iconst (v := 1) hx hb dX10_base_8 (by decide) ?_
  refine lv_isub hx hb dX10_base_9 ?_
  obtain ⟨h_g1, hf⟩ := gd_some hf
  refine ra_IM (v := rA st 19 (((rI st 12) - 1).toNatClampNeg)) hx hb hK G (waM_23 ..) (t0 := 22) rfl rfl h_g1 dX10_base_10 ?_
  refine lv_aload_n hx hb dX10_base_11 rfl (lv_at hl 0 rfl) ?_
  refine lv_aload_n hx hb dX10_base_12 rfl (lv_at hl 0 rfl) ?_
  refine fg_Md_function hx hb hts hown hK G (hts _ lk_X10_79) dX10_base_13 ?_
  refine lv_aload_n hx hb dX10_base_16 rfl (lv_at hl 0 rfl) ?_
  refine fg_Md_frames (v := rI st 12) hx hb hts hown hK G (hts _ lk_X10_190) rfl dX10_base_17 ?_
  refine lv_iconst (v := 1) hx hb dX10_base_20 (by decide) ?_
  refine lv_isub hx hb dX10_base_21 ?_
  obtain ⟨h_g2, hf⟩ := gd_some hf
  refine ra_IM (v := rA st 18 (((rI st 12) - 1).toNatClampNeg)) hx hb hK G (waM_22 ..) (t0 := 21) rfl rfl h_g2 dX10_base_22 ?_
  obtain ⟨r4, st3, hst3, hf⟩ := bn_some hf
  refine cl_viM C hl G (As := [.int (rA st 18 (((rI st 12) - 1).toNatClampNeg))]) (rest := [.int (rA st 19 (((rI st 12) - 1).toNatClampNeg))]) (kx_Md_namesOf l D k h (rA st 18 (((rI st 12) - 1).toNatClampNeg)) st _ _ hst3) gi_X10_196 (hwM_0 ..) rfl hd_X10_namesOf ⟨Nat.le_of_ble_eq_true rfl, Nat.le_of_ble_eq_true rfl⟩ rfl rfl (Nat.le_of_ble_eq_true rfl) dX10_base_23 (fun H locs G => ?_)
  refine lv_iadd hx hb dX10_base_26 ?_
  exact rt_iM C G hf dX10_base_27
def rm_Md_branch : Room := { frames := 3, cells := 0, slots := 0, locals := 64 }
set_option maxHeartbeats 4000000 in
set_option maxRecDepth 100000 in
theorem kx_Md_branch_b86 {p : Program} {l : Launch} {e : Env} {s : State} {m : MethodId} {args : Array Value} {below : List Frame} {meth : Method} {c : Code} {D : va_G} {k : Nat → ClassId} {h : Nat → Nat} (C : cxM D k p s m args meth c cX10_branch 3 none RX10) (N : Nat) (y0 : Int32) (st : rs_T) (s' : rs_T) (hf : fx_Md_branch_b86 N y0 st = some s') : ∀ (H : Heap) (locs : List Loc) (ls : Array Slot), lv_has ls 3 [] → gdM D k h (arM h s.heap.size) s.heap H locs st → W p l e rm_Md_branch s m args below meth c H locs 0 0 (MQ below (qVM D k h s.heap.size s') args s 0 0 (arM h s.heap.size)) (F0 m 86 ls [.int y0, .ref (h 0)]) := by
  obtain ⟨hx, hb, hml, hr, hown, hts, hK, hN, hlk⟩ := id C
  intro H locs ls hl G
  unfold fx_Md_branch_b86 at hf
  refine fp_Md_at hx hb hts hown hK G (hts _ lk_X10_212) dX10_branch_86 (fun H locs G => ?_)
  exact rt_vM C G hf dX10_branch_89
set_option maxHeartbeats 4000000 in
set_option maxRecDepth 100000 in
theorem kx_Md_branch_b45 {p : Program} {l : Launch} {e : Env} {s : State} {m : MethodId} {args : Array Value} {below : List Frame} {meth : Method} {c : Code} {D : va_G} {k : Nat → ClassId} {h : Nat → Nat} (C : cxM D k p s m args meth c cX10_branch 3 none RX10) (N : Nat) (x2 : Int32) (y0 : Int32) (st : rs_T) (s' : rs_T) (hf : fx_Md_branch_b45 N x2 y0 st = some s') : ∀ (H : Heap) (locs : List Loc) (ls : Array Slot), lv_has ls 3 [(0, .ref (h 0)), (2, .int x2)] → gdM D k h (arM h s.heap.size) s.heap H locs st → W p l e rm_Md_branch s m args below meth c H locs 0 0 (MQ below (qVM D k h s.heap.size s') args s 0 0 (arM h s.heap.size)) (F0 m 45 ls [.int y0, .ref (h 0)]) := by
  obtain ⟨hx, hb, hml, hr, hown, hts, hK, hN, hlk⟩ := id C
  intro H locs ls hl G
  unfold fx_Md_branch_b45 at hf
  refine lv_aload_n hx hb dX10_branch_45 rfl (lv_at hl 0 rfl) ?_
  obtain ⟨r8, st7, hst7, hf⟩ := bn_some hf
  refine cl_viM C hl G (As := []) (rest := [.int y0, .ref (h 0)]) (kx_Md_base l D k h st _ _ hst7) gi_X10_235 (hwM_0 ..) rfl hd_X10_base ⟨Nat.le_of_ble_eq_true rfl, Nat.le_of_ble_eq_true rfl⟩ rfl rfl (Nat.le_of_ble_eq_true rfl) dX10_branch_46 (fun H locs G => ?_)
  refine lv_aload_n hx hb dX10_branch_49 rfl (lv_at hl 0 rfl) ?_
  refine fg_Md_below hx hb hts hown hK G (hts _ lk_X10_37) dX10_branch_50 ?_
  refine lv_iload_n hx hb dX10_branch_53 rfl (lv_at hl 1 rfl) ?_
  obtain ⟨h_g9, hf⟩ := gd_some hf
  refine ra_IM (v := rA st7 9 x2.toNatClampNeg) hx hb hK G (waM_10 ..) (t0 := 9) rfl rfl h_g9 dX10_branch_54 ?_
  refine lv_iadd hx hb dX10_branch_55 ?_
  obtain ⟨st10, hst10, hf⟩ := bv_some hf
  refine cl_vvM C hl G (As := [.int y0, .int (r8 + (rA st7 9 x2.toNatClampNeg))]) (rest := []) (kx_Md_keep l D k h N y0 (r8 + (rA st7 9 x2.toNatClampNeg)) st7 _ hst10) gi_X10_202 (hwM_0 ..) rfl hd_X10_keep ⟨Nat.le_of_ble_eq_true rfl, Nat.le_of_ble_eq_true rfl⟩ rfl rfl (Nat.le_of_ble_eq_true rfl) dX10_branch_56 (fun H locs G => ?_)
  refine lv_aload_n hx hb dX10_branch_59 rfl (lv_at hl 0 rfl) ?_
  refine lv_aload_n hx hb dX10_branch_60 rfl (lv_at hl 0 rfl) ?_
  refine fg_Md_op hx hb hts hown hK G (hts _ lk_X10_28) dX10_branch_61 ?_
  refine lv_iload_n hx hb dX10_branch_64 rfl (lv_at hl 1 rfl) ?_
  obtain ⟨h_g11, hf⟩ := gd_some hf
  refine ra_IM (v := rA st10 6 x2.toNatClampNeg) hx hb hK G (waM_7 ..) (t0 := 6) rfl rfl h_g11 dX10_branch_65 ?_
  refine lv_iconst (v := 3) hx hb dX10_branch_66 (by decide) ?_
  refine lv_icmp_ne (tgt := 76) hx hb dX10_branch_67 (by decide) (fun c12 => ?_) (fun c12 => ?_)
  · replace hf := if_n hf c12
    refine lv_aload_n hx hb dX10_branch_76 rfl (lv_at hl 0 rfl) ?_
    refine lv_iload_n hx hb dX10_branch_77 rfl (lv_at hl 1 rfl) ?_
    refine lv_iconst (v := 1) hx hb dX10_branch_78 (by decide) ?_
    refine lv_iadd hx hb dX10_branch_79 ?_
    refine lv_iconst (v := 0) hx hb dX10_branch_80 (by decide) ?_
    obtain ⟨r14, st13, hst13, hf⟩ := bn_some hf
    refine cl_viM C hl G (As := [.int (x2 + 1), .int 0]) (rest := [.ref (h 0)]) (kx_Md_endOf l D k h N (x2 + 1) 0 st10 _ _ hst13) gi_X10_225 (hwM_0 ..) rfl hd_X10_endOf ⟨Nat.le_of_ble_eq_true rfl, Nat.le_of_ble_eq_true rfl⟩ rfl rfl (Nat.le_of_ble_eq_true rfl) dX10_branch_81 (fun H locs G => ?_)
    refine lv_iconst (v := 1) hx hb dX10_branch_84 (by decide) ?_
    refine lv_iadd hx hb dX10_branch_85 ?_
    exact kx_Md_branch_b86 C N (r14 + 1) st13 _ hf _ _ _ (lv_sub hl [] rfl) G
  · replace hf := if_p hf c12
    refine lv_iload_n hx hb dX10_branch_70 rfl (lv_at hl 1 rfl) ?_
    refine lv_iconst (v := 1) hx hb dX10_branch_71 (by decide) ?_
    refine lv_iadd hx hb dX10_branch_72 ?_
    refine lv_goto (tgt := 86) hx hb dX10_branch_73 (by decide) ?_
    exact kx_Md_branch_b86 C N (x2 + 1) st10 _ hf _ _ _ (lv_sub hl [] rfl) G
set_option maxHeartbeats 4000000 in
set_option maxRecDepth 100000 in
theorem kx_Md_branch (l : Launch) (D : va_G) (k : Nat → ClassId) (h : Nat → Nat) (N : Nat) (p1 : Int32) (st : rs_T) (s' : rs_T) (hf : fx_Md_branch N p1 st = some s') : mVM l D k h yX10_branch cX10_branch 3 rm_Md_branch [.ref (h 0), .int p1] st s' := by
  refine mVM_of (by decide) ⟨rfl, rfl⟩ (Nat.le_of_ble_eq_true rfl) ?_
  intro p e s m below meth c ls C hl G
  obtain ⟨hx, hb, hml, hr, hown, hts, hK, hN, hlk⟩ := id C
  have hown : s.vm.findClass RX10 = some m.cls := hown
  have hl : lv_has ls 3 [(0, .ref (h 0)), (1, .int p1)] := hl
  unfold fx_Md_branch at hf
  refine lv_aload_n hx hb dX10_branch_0 rfl (lv_at hl 0 rfl) ?_
  refine lv_aload_n hx hb dX10_branch_1 rfl (lv_at hl 0 rfl) ?_
  refine fg_Md_at (v := rI st 15) hx hb hts hown hK G (hts _ lk_X10_212) rfl dX10_branch_2 ?_
  refine lv_iload_n hx hb dX10_branch_5 rfl (lv_at hl 1 rfl) ?_
  obtain ⟨r2, st1, hst1, hf⟩ := bn_some hf
  refine cl_viM C hl G (As := [.int (rI st 15), .int p1]) (rest := []) (kx_Md_beginOf l D k h N (rI st 15) p1 st _ _ hst1) gi_X10_231 (hwM_0 ..) rfl hd_X10_beginOf ⟨Nat.le_of_ble_eq_true rfl, Nat.le_of_ble_eq_true rfl⟩ rfl rfl (Nat.le_of_ble_eq_true rfl) dX10_branch_6 (fun H locs G => ?_)
  refine lv_istore_n (lv' := [(2, .int r2), (0, .ref (h 0)), (1, .int p1)]) hx hb dX10_branch_9 rfl hl (by decide) rfl (fun ls hl => ?_)
  refine lv_iload_n hx hb dX10_branch_10 rfl (lv_at hl 0 rfl) ?_
  refine lv_if_ge (tgt := 19) hx hb dX10_branch_11 (by decide) (fun c3 => ?_) (fun c3 => ?_)
  · replace hf := if_p hf c3
    refine lv_aload_n hx hb dX10_branch_19 rfl (lv_at hl 1 rfl) ?_
    refine lv_aload_n hx hb dX10_branch_20 rfl (lv_at hl 1 rfl) ?_
    refine fg_Md_op hx hb hts hown hK G (hts _ lk_X10_28) dX10_branch_21 ?_
    refine lv_iload_n hx hb dX10_branch_24 rfl (lv_at hl 0 rfl) ?_
    obtain ⟨h_g4, hf⟩ := gd_some hf
    refine ra_IM (v := rA st1 6 r2.toNatClampNeg) hx hb hK G (waM_7 ..) (t0 := 6) rfl rfl h_g4 dX10_branch_25 ?_
    refine lv_iconst (v := 3) hx hb dX10_branch_26 (by decide) ?_
    refine lv_icmp_ne (tgt := 39) hx hb dX10_branch_27 (by decide) (fun c5 => ?_) (fun c5 => ?_)
    · replace hf := if_n hf c5
      refine lv_aload_n hx hb dX10_branch_39 rfl (lv_at hl 1 rfl) ?_
      refine fg_Md_two hx hb hts hown hK G (hts _ lk_X10_34) dX10_branch_40 ?_
      refine lv_iload_n hx hb dX10_branch_43 rfl (lv_at hl 0 rfl) ?_
      obtain ⟨h_g6, hf⟩ := gd_some hf
      refine ra_IM (v := rA st1 8 r2.toNatClampNeg) hx hb hK G (waM_9 ..) (t0 := 8) rfl rfl h_g6 dX10_branch_44 ?_
      exact kx_Md_branch_b45 C N r2 (rA st1 8 r2.toNatClampNeg) st1 _ hf _ _ _ (lv_sub hl [1, 0] rfl) G
    · replace hf := if_p hf c5
      refine lv_aload_n hx hb dX10_branch_30 rfl (lv_at hl 1 rfl) ?_
      refine fg_Md_one hx hb hts hown hK G (hts _ lk_X10_31) dX10_branch_31 ?_
      refine lv_iload_n hx hb dX10_branch_34 rfl (lv_at hl 0 rfl) ?_
      obtain ⟨h_g15, hf⟩ := gd_some hf
      refine ra_IM (v := rA st1 7 r2.toNatClampNeg) hx hb hK G (waM_8 ..) (t0 := 7) rfl rfl h_g15 dX10_branch_35 ?_
      refine lv_goto (tgt := 45) hx hb dX10_branch_36 (by decide) ?_
      exact kx_Md_branch_b45 C N r2 (rA st1 7 r2.toNatClampNeg) st1 _ hf _ _ _ (lv_sub hl [1, 0] rfl) G
  · replace hf := if_n hf c3
    refine lv_aload_n hx hb dX10_branch_14 rfl (lv_at hl 1 rfl) ?_
    obtain ⟨st16, hst16, hf⟩ := bv_some hf
    refine cl_vvM C hl G (As := []) (rest := []) (kx_Md_back l D k h N st1 _ hst16) gi_X10_229 (hwM_0 ..) rfl hd_X10_back ⟨Nat.le_of_ble_eq_true rfl, Nat.le_of_ble_eq_true rfl⟩ rfl rfl (Nat.le_of_ble_eq_true rfl) dX10_branch_15 (fun H locs G => ?_)
    exact rt_vM C G hf dX10_branch_18
def rm_Md_outermost : Room := { frames := 2, cells := 0, slots := 0, locals := 45 }
set_option maxHeartbeats 4000000 in
set_option maxRecDepth 100000 in
theorem kx_Md_outermost_b2 {p : Program} {l : Launch} {e : Env} {s : State} {m : MethodId} {args : Array Value} {below : List Frame} {meth : Method} {c : Code} {D : va_G} {k : Nat → ClassId} {h : Nat → Nat} (C : cxM D k p s m args meth c cX10_outermost 2 (some .int) RX10) (N : Nat) : ∀ (n : Nat) (x1 : Int32) (st : rs_T) (r : Int32) (s' : rs_T), fx_Md_outermost_b2 N n x1 st = some (r, s') → ∀ (H : Heap) (locs : List Loc) (ls : Array Slot), lv_has ls 2 [(0, .ref (h 0)), (1, .int x1)] → gdM D k h (arM h s.heap.size) s.heap H locs st → W p l e rm_Md_outermost s m args below meth c H locs 0 0 (MQ below (qIM D k h s.heap.size r s') args s 0 0 (arM h s.heap.size)) (F0 m 2 ls []) := by
  obtain ⟨hx, hb, hml, hr, hown, hts, hK, hN, hlk⟩ := id C
  intro n
  induction n with
  | zero => intro x1 st r s' hf; cases hf
  | succ n ih =>
    intro x1 st r s' hf H locs ls hl G
    rw [fx_Md_outermost_b2] at hf
    refine lv_aload_n hx hb dX10_outermost_2 rfl (lv_at hl 0 rfl) ?_
    refine lv_aload_n hx hb dX10_outermost_3 rfl (lv_at hl 0 rfl) ?_
    refine fg_Md_at (v := rI st 15) hx hb hts hown hK G (hts _ lk_X10_212) rfl dX10_outermost_4 ?_
    refine lv_iload_n hx hb dX10_outermost_7 rfl (lv_at hl 1 rfl) ?_
    obtain ⟨r2, st1, hst1, hf⟩ := bn_some hf
    refine cl_viM C hl G (As := [.int (rI st 15), .int x1]) (rest := []) (kx_Md_beginOf l D k h N (rI st 15) x1 st _ _ hst1) gi_X10_231 (hwM_0 ..) rfl hd_X10_beginOf ⟨Nat.le_of_ble_eq_true rfl, Nat.le_of_ble_eq_true rfl⟩ rfl rfl (Nat.le_of_ble_eq_true rfl) dX10_outermost_8 (fun H locs G => ?_)
    refine lv_if_lt (tgt := 20) hx hb dX10_outermost_11 (by decide) (fun c3 => ?_) (fun c3 => ?_)
    · replace hf := if_p hf c3
      refine lv_iload_n hx hb dX10_outermost_20 rfl (lv_at hl 1 rfl) ?_
      exact rt_iM C G hf dX10_outermost_21
    · replace hf := if_n hf c3
      obtain ⟨v4, e_v4⟩ : ∃ z : Int32, z = x1 + 1 := ⟨_, rfl⟩
      replace hf := bd_some hf v4 e_v4
      refine lv_iinc (v := v4) (lv' := [(1, .int v4), (0, .ref (h 0))]) hx hb dX10_outermost_14 hl (k := 1) rfl (by rw [e_v4]; rfl) (by decide) rfl (fun ls hl => ?_)
      refine lv_goto (tgt := 2) hx hb dX10_outermost_17 (by decide) ?_
      exact ih v4 st1 _ _ hf _ _ _ (lv_sub hl [1, 0] rfl) G
set_option maxHeartbeats 4000000 in
set_option maxRecDepth 100000 in
theorem kx_Md_outermost (l : Launch) (D : va_G) (k : Nat → ClassId) (h : Nat → Nat) (N : Nat) (st : rs_T) (r : Int32) (s' : rs_T) (hf : fx_Md_outermost N st = some (r, s')) : mIM l D k h yX10_outermost cX10_outermost 2 .int rm_Md_outermost [.ref (h 0)] st r s' := by
  refine mIM_of (by decide) ⟨rfl, rfl⟩ (Nat.le_of_ble_eq_true rfl) ?_
  intro p e s m below meth c ls C hl G
  obtain ⟨hx, hb, hml, hr, hown, hts, hK, hN, hlk⟩ := id C
  have hown : s.vm.findClass RX10 = some m.cls := hown
  have hl : lv_has ls 2 [(0, .ref (h 0))] := hl
  unfold fx_Md_outermost at hf
  refine lv_iconst (v := 0) hx hb dX10_outermost_0 (by decide) ?_
  refine lv_istore_n (lv' := [(1, .int 0), (0, .ref (h 0))]) hx hb dX10_outermost_1 rfl hl (by decide) rfl (fun ls hl => ?_)
  exact kx_Md_outermost_b2 C N N 0 st _ _ hf _ _ _ (lv_sub hl [1, 0] rfl) G
def rm_Md_callTable : Room := { frames := 3, cells := 0, slots := 0, locals := 64 }
set_option maxHeartbeats 4000000 in
set_option maxRecDepth 100000 in
theorem kx_Md_callTable_b83 {p : Program} {l : Launch} {e : Env} {s : State} {m : MethodId} {args : Array Value} {below : List Frame} {meth : Method} {c : Code} {D : va_G} {k : Nat → ClassId} {h : Nat → Nat} (C : cxM D k p s m args meth c cX10_callTable 6 none RX10) (N : Nat) (st : rs_T) (s' : rs_T) (hf : fx_Md_callTable_b83 N st = some s') : ∀ (H : Heap) (locs : List Loc) (ls : Array Slot), lv_has ls 6 [(0, .ref (h 0))] → gdM D k h (arM h s.heap.size) s.heap H locs st → W p l e rm_Md_callTable s m args below meth c H locs 0 0 (MQ below (qVM D k h s.heap.size s') args s 0 0 (arM h s.heap.size)) (F0 m 83 ls []) := by
  obtain ⟨hx, hb, hml, hr, hown, hts, hK, hN, hlk⟩ := id C
  intro H locs ls hl G
  unfold fx_Md_callTable_b83 at hf
  refine lv_aload_n hx hb dX10_callTable_83 rfl (lv_at hl 0 rfl) ?_
  refine lv_bipush (v := 8) hx hb dX10_callTable_84 (by decide) ?_
  obtain ⟨st9, hst9, hf⟩ := bv_some hf
  refine cl_vvM C hl G (As := [.int 8]) (rest := []) (kx_Md_traps l D k h 8 st _ hst9) gi_X10_249 (hwM_0 ..) rfl hd_X10_traps ⟨Nat.le_of_ble_eq_true rfl, Nat.le_of_ble_eq_true rfl⟩ rfl rfl (Nat.le_of_ble_eq_true rfl) dX10_callTable_86 (fun H locs G => ?_)
  refine lv_goto (tgt := 98) hx hb dX10_callTable_89 (by decide) ?_
  exact rt_vM C G hf dX10_callTable_98
set_option maxHeartbeats 4000000 in
set_option maxRecDepth 100000 in
theorem kx_Md_callTable_b28 {p : Program} {l : Launch} {e : Env} {s : State} {m : MethodId} {args : Array Value} {below : List Frame} {meth : Method} {c : Code} {D : va_G} {k : Nat → ClassId} {h : Nat → Nat} (C : cxM D k p s m args meth c cX10_callTable 6 none RX10) (N : Nat) (x1 : Int32) (x2 : Int32) (x3 : Int64) (y0 : Int32) (st : rs_T) (s' : rs_T) (hf : fx_Md_callTable_b28 N x1 x2 x3 y0 st = some s') : ∀ (H : Heap) (locs : List Loc) (ls : Array Slot), lv_has ls 6 [(0, .ref (h 0)), (1, .int x1), (2, .int x2), (3, .long x3)] → gdM D k h (arM h s.heap.size) s.heap H locs st → W p l e rm_Md_callTable s m args below meth c H locs 0 0 (MQ below (qVM D k h s.heap.size s') args s 0 0 (arM h s.heap.size)) (F0 m 28 ls [.int y0]) := by
  obtain ⟨hx, hb, hml, hr, hown, hts, hK, hN, hlk⟩ := id C
  intro H locs ls hl G
  unfold fx_Md_callTable_b28 at hf
  refine lv_istore (lv' := [(5, .int y0), (0, .ref (h 0)), (1, .int x1), (2, .int x2), (3, .long x3)]) hx hb dX10_callTable_28 hl (by decide) rfl (fun ls hl => ?_)
  refine lv_lload_n hx hb dX10_callTable_30 rfl (lv_at hl 4 rfl) ?_
  refine lv_ldc2 (v := 30) hx hb hown (hts _ lk_X10_247) dX10_callTable_31 ?_
  refine W.lcmp hx hb dX10_callTable_34 ?_
  refine lv_if_lt (tgt := 47) hx hb dX10_callTable_35 (by decide) (fun c5 => ?_) (fun c5 => ?_)
  · replace hf := if_p hf c5
    refine lv_iload hx hb dX10_callTable_47 (lv_at hl 0 rfl) ?_
    refine lv_if_ge (tgt := 61) hx hb dX10_callTable_49 (by decide) (fun c6 => ?_) (fun c6 => ?_)
    · replace hf := if_p hf c6
      refine lv_aload_n hx hb dX10_callTable_61 rfl (lv_at hl 1 rfl) ?_
      refine fg_Md_parameters hx hb hts hown hK G (hts _ lk_X10_16) dX10_callTable_62 ?_
      refine lv_iload hx hb dX10_callTable_65 (lv_at hl 0 rfl) ?_
      obtain ⟨h_g7, hf⟩ := gd_some hf
      refine ra_IM (v := rA st 2 y0.toNatClampNeg) hx hb hK G (waM_3 ..) (t0 := 2) rfl rfl h_g7 dX10_callTable_67 ?_
      refine lv_iload_n hx hb dX10_callTable_68 rfl (lv_at hl 2 rfl) ?_
      refine lv_icmp_ne (tgt := 83) hx hb dX10_callTable_69 (by decide) (fun c8 => ?_) (fun c8 => ?_)
      · replace hf := if_n hf c8
        exact kx_Md_callTable_b83 C N st _ hf _ _ _ (lv_sub hl [1] rfl) G
      · replace hf := if_p hf c8
        refine lv_aload_n hx hb dX10_callTable_72 rfl (lv_at hl 1 rfl) ?_
        refine fg_Md_results hx hb hts hown hK G (hts _ lk_X10_19) dX10_callTable_73 ?_
        refine lv_iload hx hb dX10_callTable_76 (lv_at hl 0 rfl) ?_
        obtain ⟨h_g10, hf⟩ := gd_some hf
        refine ra_IM (v := rA st 3 y0.toNatClampNeg) hx hb hK G (waM_4 ..) (t0 := 3) rfl rfl h_g10 dX10_callTable_78 ?_
        refine lv_iload_n hx hb dX10_callTable_79 rfl (lv_at hl 3 rfl) ?_
        refine lv_icmp_eq (tgt := 92) hx hb dX10_callTable_80 (by decide) (fun c11 => ?_) (fun c11 => ?_)
        · replace hf := if_p hf c11
          refine lv_aload_n hx hb dX10_callTable_92 rfl (lv_at hl 1 rfl) ?_
          refine lv_iload hx hb dX10_callTable_93 (lv_at hl 0 rfl) ?_
          obtain ⟨st12, hst12, hf⟩ := bv_some hf
          refine cl_vvM C hl G (As := [.int y0]) (rest := []) (kx_Md_enter l D k h N y0 st _ hst12) gi_X10_252 (hwM_0 ..) rfl hd_X10_enter ⟨Nat.le_of_ble_eq_true rfl, Nat.le_of_ble_eq_true rfl⟩ rfl rfl (Nat.le_of_ble_eq_true rfl) dX10_callTable_95 (fun H locs G => ?_)
          exact rt_vM C G hf dX10_callTable_98
        · replace hf := if_n hf c11
          exact kx_Md_callTable_b83 C N st _ hf _ _ _ (lv_sub hl [1] rfl) G
    · replace hf := if_n hf c6
      refine lv_aload_n hx hb dX10_callTable_52 rfl (lv_at hl 1 rfl) ?_
      refine lv_bipush (v := 7) hx hb dX10_callTable_53 (by decide) ?_
      obtain ⟨st13, hst13, hf⟩ := bv_some hf
      refine cl_vvM C hl G (As := [.int 7]) (rest := []) (kx_Md_traps l D k h 7 st _ hst13) gi_X10_249 (hwM_0 ..) rfl hd_X10_traps ⟨Nat.le_of_ble_eq_true rfl, Nat.le_of_ble_eq_true rfl⟩ rfl rfl (Nat.le_of_ble_eq_true rfl) dX10_callTable_55 (fun H locs G => ?_)
      refine lv_goto (tgt := 98) hx hb dX10_callTable_58 (by decide) ?_
      exact rt_vM C G hf dX10_callTable_98
  · replace hf := if_n hf c5
    refine lv_aload_n hx hb dX10_callTable_38 rfl (lv_at hl 1 rfl) ?_
    refine lv_bipush (v := 6) hx hb dX10_callTable_39 (by decide) ?_
    obtain ⟨st14, hst14, hf⟩ := bv_some hf
    refine cl_vvM C hl G (As := [.int 6]) (rest := []) (kx_Md_traps l D k h 6 st _ hst14) gi_X10_249 (hwM_0 ..) rfl hd_X10_traps ⟨Nat.le_of_ble_eq_true rfl, Nat.le_of_ble_eq_true rfl⟩ rfl rfl (Nat.le_of_ble_eq_true rfl) dX10_callTable_41 (fun H locs G => ?_)
    refine lv_goto (tgt := 98) hx hb dX10_callTable_44 (by decide) ?_
    exact rt_vM C G hf dX10_callTable_98
set_option maxHeartbeats 4000000 in
set_option maxRecDepth 100000 in
theorem kx_Md_callTable (l : Launch) (D : va_G) (k : Nat → ClassId) (h : Nat → Nat) (N : Nat) (p1 : Int32) (p2 : Int32) (st : rs_T) (s' : rs_T) (hf : fx_Md_callTable N p1 p2 st = some s') : mVM l D k h yX10_callTable cX10_callTable 6 rm_Md_callTable [.ref (h 0), .int p1, .int p2] st s' := by
  refine mVM_of (by decide) ⟨rfl, rfl⟩ (Nat.le_of_ble_eq_true rfl) ?_
  intro p e s m below meth c ls C hl G
  obtain ⟨hx, hb, hml, hr, hown, hts, hK, hN, hlk⟩ := id C
  have hown : s.vm.findClass RX10 = some m.cls := hown
  have hl : lv_has ls 6 [(0, .ref (h 0)), (1, .int p1), (2, .int p2)] := hl
  unfold fx_Md_callTable at hf
  refine lv_aload_n hx hb dX10_callTable_0 rfl (lv_at hl 0 rfl) ?_
  obtain ⟨r2, st1, hst1, hf⟩ := bn_some hf
  refine cl_vlM C hl G (As := []) (rest := []) (kx_Md_pop l D k h st _ _ hst1) gi_X10_243 (hwM_0 ..) rfl hd_X10_pop ⟨Nat.le_of_ble_eq_true rfl, Nat.le_of_ble_eq_true rfl⟩ rfl rfl (Nat.le_of_ble_eq_true rfl) dX10_callTable_1 (fun H locs G => ?_)
  refine lv_ldc2 (v := 4294967295) hx hb hown (hts _ lk_X10_241) dX10_callTable_4 ?_
  refine lv_land hx hb dX10_callTable_7 ?_
  refine lv_topl (fun v3 e_v3 => ?_)
  replace hf := bd_some hf v3 e_v3
  refine lv_lstore_n (lv' := [(3, .long v3), (0, .ref (h 0)), (1, .int p1), (2, .int p2)]) hx hb dX10_callTable_8 rfl hl (by decide) rfl (fun ls hl => ?_)
  refine lv_lload_n hx hb dX10_callTable_9 rfl (lv_at hl 0 rfl) ?_
  refine lv_ldc2 (v := 30) hx hb hown (hts _ lk_X10_247) dX10_callTable_10 ?_
  refine W.lcmp hx hb dX10_callTable_13 ?_
  refine lv_if_ge (tgt := 27) hx hb dX10_callTable_14 (by decide) (fun c4 => ?_) (fun c4 => ?_)
  · replace hf := if_p hf c4
    refine lv_iconst (v := (-1)) hx hb dX10_callTable_27 (by decide) ?_
    exact kx_Md_callTable_b28 C N p1 p2 v3 (-1) st1 _ hf _ _ _ (lv_sub hl [1, 2, 3, 0] rfl) G
  · replace hf := if_n hf c4
    refine lv_aload_n hx hb dX10_callTable_17 rfl (lv_at hl 1 rfl) ?_
    refine fg_Md_table hx hb hts hown hK G (hts _ lk_X10_59) dX10_callTable_18 ?_
    refine lv_lload_n hx hb dX10_callTable_21 rfl (lv_at hl 0 rfl) ?_
    refine lv_l2i (v := v3.toInt32) hx hb dX10_callTable_22 rfl ?_
    obtain ⟨h_g15, hf⟩ := gd_some hf
    refine ra_IM (v := rA st1 16 v3.toInt32.toNatClampNeg) hx hb hK G (waM_17 ..) (t0 := 16) rfl rfl h_g15 dX10_callTable_23 ?_
    refine lv_goto (tgt := 28) hx hb dX10_callTable_24 (by decide) ?_
    exact kx_Md_callTable_b28 C N p1 p2 v3 (rA st1 16 v3.toInt32.toNatClampNeg) st1 _ hf _ _ _ (lv_sub hl [1, 2, 3, 0] rfl) G
def rm_Md_truth : Room := { frames := 0, cells := 0, slots := 0, locals := 0 }
set_option maxHeartbeats 4000000 in
set_option maxRecDepth 100000 in
theorem kx_Md_truth (l : Launch) (D : va_G) (k : Nat → ClassId) (h : Nat → Nat) (p0 : Int32) (st : rs_T) (r : Int64) (s' : rs_T) (hf : fx_Md_truth p0 st = some (r, s')) : mLM l D k h yX10_truth cX10_truth 1 rm_Md_truth [.int p0] st r s' := by
  refine mLM_of (by decide) ⟨rfl, rfl⟩ (Nat.le_of_ble_eq_true rfl) ?_
  intro p e s m below meth c ls C hl G
  obtain ⟨hx, hb, hml, hr, hown, hts, hK, hN, hlk⟩ := id C
  have hown : s.vm.findClass RX10 = some m.cls := hown
  have hl : lv_has ls 1 [(0, .int p0)] := hl
  unfold fx_Md_truth at hf
  refine lv_iload_n hx hb dX10_truth_0 rfl (lv_at hl 0 rfl) ?_
  refine lv_if_eq (tgt := 8) hx hb dX10_truth_1 (by decide) (fun c1 => ?_) (fun c1 => ?_)
  · replace hf := if_p hf c1
    refine lv_lconst (v := 0) hx hb dX10_truth_8 (by decide) ?_
    exact rt_lM C G hf dX10_truth_9
  · replace hf := if_n hf c1
    refine lv_lconst (v := 1) hx hb dX10_truth_4 (by decide) ?_
    refine lv_goto (tgt := 9) hx hb dX10_truth_5 (by decide) ?_
    exact rt_lM C G hf dX10_truth_9
