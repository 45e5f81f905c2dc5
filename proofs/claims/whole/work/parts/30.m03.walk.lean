def rm_Md_entry : Room := { frames := 1, cells := 0, slots := 0, locals := 21 }
set_option maxHeartbeats 4000000 in
set_option maxRecDepth 100000 in
theorem kx_Md_entry_b24 {p : Program} {l : Launch} {e : Env} {s : State} {m : MethodId} {args : Array Value} {below : List Frame} {meth : Method} {c : Code} {D : va_G} {k : Nat → ClassId} {h : Nat → Nat} (C : cxM D k p s m args meth c cX10_entry 3 (some .boolean) RX10) (x1 : Int32) (x2 : Int32) (st : rs_T) (r : Int32) (s' : rs_T) (hf : fx_Md_entry_b24 x1 x2 st = some (r, s')) : ∀ (H : Heap) (locs : List Loc) (ls : Array Slot), lv_has ls 3 [(0, .ref (h 0)), (1, .int x1), (2, .int x2)] → gdM D k h (arM h s.heap.size) s.heap H locs st → W p l e rm_Md_entry s m args below meth c H locs 0 0 (MQ below (qIM D k h s.heap.size r s') args s 0 0 (arM h s.heap.size)) (F0 m 24 ls []) := by
  obtain ⟨hx, hb, hml, hr, hown, hts, hK, hN, hlk⟩ := id C
  intro H locs ls hl G
  unfold fx_Md_entry_b24 at hf
  refine lv_aload_n hx hb dX10_entry_24 rfl (lv_at hl 0 rfl) ?_
  refine fg_Md_table hx hb hts hown hK G (hts _ lk_X10_59) dX10_entry_25 ?_
  refine lv_iload_n hx hb dX10_entry_28 rfl (lv_at hl 1 rfl) ?_
  refine lv_iload_n hx hb dX10_entry_29 rfl (lv_at hl 2 rfl) ?_
  obtain ⟨h_g5, hf⟩ := gd_some hf
  refine rw_IM hx hb hK G (waM_17 ..) (t0 := 16) rfl (wsM_17 ..) h_g5 dX10_entry_30 (fun H locs G => ?_)
  refine lv_iconst (v := 1) hx hb dX10_entry_31 (by decide) ?_
  exact rt_zM C rfl G hf dX10_entry_32
set_option maxHeartbeats 4000000 in
set_option maxRecDepth 100000 in
theorem kx_Md_entry (l : Launch) (D : va_G) (k : Nat → ClassId) (h : Nat → Nat) (p1 : Int32) (p2 : Int32) (st : rs_T) (r : Int32) (s' : rs_T) (hf : fx_Md_entry p1 p2 st = some (r, s')) : mIM l D k h yX10_entry cX10_entry 3 .boolean rm_Md_entry [.ref (h 0), .int p1, .int p2] st r s' := by
  refine mIM_of (by decide) ⟨rfl, rfl⟩ (Nat.le_of_ble_eq_true rfl) ?_
  intro p e s m below meth c ls C hl G
  obtain ⟨hx, hb, hml, hr, hown, hts, hK, hN, hlk⟩ := id C
  have hown : s.vm.findClass RX10 = some m.cls := hown
  have hl : lv_has ls 3 [(0, .ref (h 0)), (1, .int p1), (2, .int p2)] := hl
  unfold fx_Md_entry at hf
  refine lv_iload_n hx hb dX10_entry_0 rfl (lv_at hl 1 rfl) ?_
  refine lv_bipush (v := 29) hx hb dX10_entry_1 (by decide) ?_
  obtain ⟨r2, st1, hst1, hf⟩ := bn_some hf
  refine cl_siM C hl G (As := [.int p1, .int 29]) (rest := []) (kx_Md_within l D k h p1 29 st _ _ hst1) gi_X10_110 hd_X10_within ⟨Nat.le_of_ble_eq_true rfl, Nat.le_of_ble_eq_true rfl⟩ rfl rfl (Nat.le_of_ble_eq_true rfl) dX10_entry_3 (fun H locs G => ?_)
  refine lv_if_eq (tgt := 22) hx hb dX10_entry_6 (by decide) (fun c3 => ?_) (fun c3 => ?_)
  · replace hf := if_p hf c3
    refine lv_iconst (v := 0) hx hb dX10_entry_22 (by decide) ?_
    exact rt_zM C rfl G hf dX10_entry_23
  · replace hf := if_n hf c3
    refine lv_iload_n hx hb dX10_entry_9 rfl (lv_at hl 2 rfl) ?_
    refine lv_iconst (v := (-1)) hx hb dX10_entry_10 (by decide) ?_
    refine lv_icmp_eq (tgt := 24) hx hb dX10_entry_11 (by decide) (fun c4 => ?_) (fun c4 => ?_)
    · replace hf := if_p hf c4
      exact kx_Md_entry_b24 C p1 p2 st1 _ _ hf _ _ _ (lv_sub hl [0, 1, 2] rfl) G
    · replace hf := if_n hf c4
      refine lv_aload_n hx hb dX10_entry_14 rfl (lv_at hl 0 rfl) ?_
      refine lv_iload_n hx hb dX10_entry_15 rfl (lv_at hl 2 rfl) ?_
      obtain ⟨r7, st6, hst6, hf⟩ := bn_some hf
      refine cl_viM C hl G (As := [.int p2]) (rest := []) (kx_Md_isWhole l D k h p2 st1 _ _ hst6) gi_X10_187 (hwM_0 ..) rfl hd_X10_isWhole ⟨Nat.le_of_ble_eq_true rfl, Nat.le_of_ble_eq_true rfl⟩ rfl rfl (Nat.le_of_ble_eq_true rfl) dX10_entry_16 (fun H locs G => ?_)
      refine lv_if_ne (tgt := 24) hx hb dX10_entry_19 (by decide) (fun c8 => ?_) (fun c8 => ?_)
      · replace hf := if_n hf c8
        exact kx_Md_entry_b24 C p1 p2 st6 _ _ hf _ _ _ (lv_sub hl [0, 1, 2] rfl) G
      · replace hf := if_p hf c8
        refine lv_iconst (v := 0) hx hb dX10_entry_22 (by decide) ?_
        exact rt_zM C rfl G hf dX10_entry_23
def rm_Md_argument : Room := { frames := 0, cells := 0, slots := 0, locals := 0 }
set_option maxHeartbeats 4000000 in
set_option maxRecDepth 100000 in
theorem kx_Md_argument (l : Launch) (D : va_G) (k : Nat → ClassId) (h : Nat → Nat) (p1 : Int64) (st : rs_T) (r : Int32) (s' : rs_T) (hf : fx_Md_argument p1 st = some (r, s')) : mIM l D k h yX10_argument cX10_argument 3 .int rm_Md_argument [.ref (h 0), .long p1] st r s' := by
  refine mIM_of (by decide) ⟨rfl, rfl⟩ (Nat.le_of_ble_eq_true rfl) ?_
  intro p e s m below meth c ls C hl G
  obtain ⟨hx, hb, hml, hr, hown, hts, hK, hN, hlk⟩ := id C
  have hown : s.vm.findClass RX10 = some m.cls := hown
  have hl : lv_has ls 3 [(0, .ref (h 0)), (1, .long p1)] := hl
  unfold fx_Md_argument at hf
  refine lv_aload_n hx hb dX10_argument_0 rfl (lv_at hl 0 rfl) ?_
  refine fg_Md_arguments (v := rI st 8) hx hb hts hown hK G (hts _ lk_X10_310) rfl dX10_argument_1 ?_
  refine lv_bipush (v := 8) hx hb dX10_argument_4 (by decide) ?_
  refine lv_icmp_ne (tgt := 11) hx hb dX10_argument_6 (by decide) (fun c1 => ?_) (fun c1 => ?_)
  · replace hf := if_n hf c1
    refine lv_aload_n hx hb dX10_argument_11 rfl (lv_at hl 0 rfl) ?_
    refine fg_Md_argument hx hb hts hown hK G (hts _ lk_X10_73) dX10_argument_12 ?_
    refine lv_aload_n hx hb dX10_argument_15 rfl (lv_at hl 0 rfl) ?_
    refine fg_Md_arguments (v := rI st 8) hx hb hts hown hK G (hts _ lk_X10_310) rfl dX10_argument_16 ?_
    refine lv_lload_n hx hb dX10_argument_19 rfl (lv_at hl 1 rfl) ?_
    obtain ⟨h_g2, hf⟩ := gd_some hf
    refine rw_JM hx hb hK G (waM_20 ..) (t0 := 19) rfl (wsM_20 ..) h_g2 dX10_argument_20 (fun H locs G => ?_)
    refine lv_aload_n hx hb dX10_argument_21 rfl (lv_at hl 0 rfl) ?_
    refine lv_dup hx hb dX10_argument_22 rfl ?_
    refine fg_Md_arguments (v := rI st 8) hx hb hts hown hK G (hts _ lk_X10_310) rfl dX10_argument_23 ?_
    refine lv_iconst (v := 1) hx hb dX10_argument_26 (by decide) ?_
    refine lv_iadd hx hb dX10_argument_27 ?_
    refine fp_Md_arguments hx hb hts hown hK G (hts _ lk_X10_310) dX10_argument_28 (fun H locs G => ?_)
    refine lv_aload_n hx hb dX10_argument_31 rfl (lv_at hl 0 rfl) ?_
    refine fg_Md_arguments (v := (rI st 8) + 1) hx hb hts hown hK G (hts _ lk_X10_310) rfl dX10_argument_32 ?_
    exact rt_iM C G hf dX10_argument_35
  · replace hf := if_p hf c1
    refine lv_iconst (v := (-1)) hx hb dX10_argument_9 (by decide) ?_
    exact rt_iM C G hf dX10_argument_10
def rm_Md_namesOf : Room := { frames := 0, cells := 0, slots := 0, locals := 0 }
set_option maxHeartbeats 4000000 in
set_option maxRecDepth 100000 in
theorem kx_Md_namesOf (l : Launch) (D : va_G) (k : Nat → ClassId) (h : Nat → Nat) (p1 : Int32) (st : rs_T) (r : Int32) (s' : rs_T) (hf : fx_Md_namesOf p1 st = some (r, s')) : mIM l D k h yX10_namesOf cX10_namesOf 2 .int rm_Md_namesOf [.ref (h 0), .int p1] st r s' := by
  refine mIM_of (by decide) ⟨rfl, rfl⟩ (Nat.le_of_ble_eq_true rfl) ?_
  intro p e s m below meth c ls C hl G
  obtain ⟨hx, hb, hml, hr, hown, hts, hK, hN, hlk⟩ := id C
  have hown : s.vm.findClass RX10 = some m.cls := hown
  have hl : lv_has ls 2 [(0, .ref (h 0)), (1, .int p1)] := hl
  unfold fx_Md_namesOf at hf
  refine lv_aload_n hx hb dX10_namesOf_0 rfl (lv_at hl 0 rfl) ?_
  refine fg_Md_parameters hx hb hts hown hK G (hts _ lk_X10_16) dX10_namesOf_1 ?_
  refine lv_iload_n hx hb dX10_namesOf_4 rfl (lv_at hl 1 rfl) ?_
  obtain ⟨h_g1, hf⟩ := gd_some hf
  refine ra_IM (v := rA st 2 p1.toNatClampNeg) hx hb hK G (waM_3 ..) (t0 := 2) rfl rfl h_g1 dX10_namesOf_5 ?_
  refine lv_aload_n hx hb dX10_namesOf_6 rfl (lv_at hl 0 rfl) ?_
  refine fg_Md_locals hx hb hts hown hK G (hts _ lk_X10_22) dX10_namesOf_7 ?_
  refine lv_iload_n hx hb dX10_namesOf_10 rfl (lv_at hl 1 rfl) ?_
  obtain ⟨h_g2, hf⟩ := gd_some hf
  refine ra_IM (v := rA st 4 p1.toNatClampNeg) hx hb hK G (waM_5 ..) (t0 := 4) rfl rfl h_g2 dX10_namesOf_11 ?_
  refine lv_iadd hx hb dX10_namesOf_12 ?_
  exact rt_iM C G hf dX10_namesOf_13
def rm_Md_asks : Room := { frames := 1, cells := 0, slots := 0, locals := 21 }
set_option maxHeartbeats 4000000 in
set_option maxRecDepth 100000 in
theorem kx_Md_asks (l : Launch) (D : va_G) (k : Nat → ClassId) (h : Nat → Nat) (p1 : Int32) (st : rs_T) (r : Int32) (s' : rs_T) (hf : fx_Md_asks p1 st = some (r, s')) : mIM l D k h yX10_asks cX10_asks 2 .int rm_Md_asks [.ref (h 0), .int p1] st r s' := by
  refine mIM_of (by decide) ⟨rfl, rfl⟩ (Nat.le_of_ble_eq_true rfl) ?_
  intro p e s m below meth c ls C hl G
  obtain ⟨hx, hb, hml, hr, hown, hts, hK, hN, hlk⟩ := id C
  have hown : s.vm.findClass RX10 = some m.cls := hown
  have hl : lv_has ls 2 [(0, .ref (h 0)), (1, .int p1)] := hl
  unfold fx_Md_asks at hf
  refine lv_aload_n hx hb dX10_asks_0 rfl (lv_at hl 0 rfl) ?_
  refine lv_iload_n hx hb dX10_asks_1 rfl (lv_at hl 1 rfl) ?_
  obtain ⟨r2, st1, hst1, hf⟩ := bn_some hf
  refine cl_viM C hl G (As := [.int p1]) (rest := []) (kx_Md_namesOf l D k h p1 st _ _ hst1) gi_X10_196 (hwM_0 ..) rfl hd_X10_namesOf ⟨Nat.le_of_ble_eq_true rfl, Nat.le_of_ble_eq_true rfl⟩ rfl rfl (Nat.le_of_ble_eq_true rfl) dX10_asks_2 (fun H locs G => ?_)
  refine lv_aload_n hx hb dX10_asks_5 rfl (lv_at hl 0 rfl) ?_
  refine fg_Md_most hx hb hts hown hK G (hts _ lk_X10_25) dX10_asks_6 ?_
  refine lv_iload_n hx hb dX10_asks_9 rfl (lv_at hl 1 rfl) ?_
  obtain ⟨h_g3, hf⟩ := gd_some hf
  refine ra_IM (v := rA st1 5 p1.toNatClampNeg) hx hb hK G (waM_6 ..) (t0 := 5) rfl rfl h_g3 dX10_asks_10 ?_
  refine lv_iadd hx hb dX10_asks_11 ?_
  exact rt_iM C G hf dX10_asks_12
def rm_Md_push : Room := { frames := 0, cells := 0, slots := 0, locals := 0 }
set_option maxHeartbeats 4000000 in
set_option maxRecDepth 100000 in
theorem kx_Md_push (l : Launch) (D : va_G) (k : Nat → ClassId) (h : Nat → Nat) (p1 : Int64) (st : rs_T) (s' : rs_T) (hf : fx_Md_push p1 st = some s') : mVM l D k h yX10_push cX10_push 3 rm_Md_push [.ref (h 0), .long p1] st s' := by
  refine mVM_of (by decide) ⟨rfl, rfl⟩ (Nat.le_of_ble_eq_true rfl) ?_
  intro p e s m below meth c ls C hl G
  obtain ⟨hx, hb, hml, hr, hown, hts, hK, hN, hlk⟩ := id C
  have hown : s.vm.findClass RX10 = some m.cls := hown
  have hl : lv_has ls 3 [(0, .ref (h 0)), (1, .long p1)] := hl
  unfold fx_Md_push at hf
  refine lv_aload_n hx hb dX10_push_0 rfl (lv_at hl 0 rfl) ?_
  refine fg_Md_value hx hb hts hown hK G (hts _ lk_X10_76) dX10_push_1 ?_
  refine lv_aload_n hx hb dX10_push_4 rfl (lv_at hl 0 rfl) ?_
  refine fg_Md_values (v := rI st 13) hx hb hts hown hK G (hts _ lk_X10_199) rfl dX10_push_5 ?_
  refine lv_lload_n hx hb dX10_push_8 rfl (lv_at hl 1 rfl) ?_
  obtain ⟨h_g1, hf⟩ := gd_some hf
  refine rw_JM hx hb hK G (waM_21 ..) (t0 := 20) rfl (wsM_21 ..) h_g1 dX10_push_9 (fun H locs G => ?_)
  refine lv_aload_n hx hb dX10_push_10 rfl (lv_at hl 0 rfl) ?_
  refine lv_dup hx hb dX10_push_11 rfl ?_
  refine fg_Md_values (v := rI st 13) hx hb hts hown hK G (hts _ lk_X10_199) rfl dX10_push_12 ?_
  refine lv_iconst (v := 1) hx hb dX10_push_15 (by decide) ?_
  refine lv_iadd hx hb dX10_push_16 ?_
  refine fp_Md_values hx hb hts hown hK G (hts _ lk_X10_199) dX10_push_17 (fun H locs G => ?_)
  exact rt_vM C G hf dX10_push_20
def rm_Md_enter : Room := { frames := 2, cells := 0, slots := 0, locals := 42 }
set_option maxHeartbeats 4000000 in
set_option maxRecDepth 100000 in
theorem kx_Md_enter_b25 {p : Program} {l : Launch} {e : Env} {s : State} {m : MethodId} {args : Array Value} {below : List Frame} {meth : Method} {c : Code} {D : va_G} {k : Nat → ClassId} {h : Nat → Nat} (C : cxM D k p s m args meth c cX10_enter 3 none RX10) (N : Nat) (st : rs_T) (s' : rs_T) (hf : fx_Md_enter_b25 N st = some s') : ∀ (H : Heap) (locs : List Loc) (ls : Array Slot), lv_has ls 3 [(0, .ref (h 0))] → gdM D k h (arM h s.heap.size) s.heap H locs st → W p l e rm_Md_enter s m args below meth c H locs 0 0 (MQ below (qVM D k h s.heap.size s') args s 0 0 (arM h s.heap.size)) (F0 m 25 ls []) := by
  obtain ⟨hx, hb, hml, hr, hown, hts, hK, hN, hlk⟩ := id C
  intro H locs ls hl G
  unfold fx_Md_enter_b25 at hf
  refine lv_aload_n hx hb dX10_enter_25 rfl (lv_at hl 0 rfl) ?_
  refine lv_iconst (v := 4) hx hb dX10_enter_26 (by decide) ?_
  refine fp_Md_state hx hb hts hown hK G (hts _ lk_X10_215) dX10_enter_27 (fun H locs G => ?_)
  exact rt_vM C G hf dX10_enter_30
set_option maxHeartbeats 4000000 in
set_option maxRecDepth 100000 in
theorem kx_Md_enter_b152 {p : Program} {l : Launch} {e : Env} {s : State} {m : MethodId} {args : Array Value} {below : List Frame} {meth : Method} {c : Code} {D : va_G} {k : Nat → ClassId} {h : Nat → Nat} (C : cxM D k p s m args meth c cX10_enter 3 none RX10) (N : Nat) : ∀ (n : Nat) (x1 : Int32) (x2 : Int32) (st : rs_T) (s' : rs_T), fx_Md_enter_b152 N n x1 x2 st = some s' → ∀ (H : Heap) (locs : List Loc) (ls : Array Slot), lv_has ls 3 [(0, .ref (h 0)), (1, .int x1), (2, .int x2)] → gdM D k h (arM h s.heap.size) s.heap H locs st → W p l e rm_Md_enter s m args below meth c H locs 0 0 (MQ below (qVM D k h s.heap.size s') args s 0 0 (arM h s.heap.size)) (F0 m 152 ls []) := by
  obtain ⟨hx, hb, hml, hr, hown, hts, hK, hN, hlk⟩ := id C
  intro n
  induction n with
  | zero => intro x1 x2 st s' hf; cases hf
  | succ n ih =>
    intro x1 x2 st s' hf H locs ls hl G
    rw [fx_Md_enter_b152] at hf
    refine lv_iload_n hx hb dX10_enter_152 rfl (lv_at hl 2 rfl) ?_
    refine lv_aload_n hx hb dX10_enter_153 rfl (lv_at hl 0 rfl) ?_
    refine fg_Md_locals hx hb hts hown hK G (hts _ lk_X10_22) dX10_enter_154 ?_
    refine lv_iload_n hx hb dX10_enter_157 rfl (lv_at hl 1 rfl) ?_
    obtain ⟨h_g16, hf⟩ := gd_some hf
    refine ra_IM (v := rA st 4 x1.toNatClampNeg) hx hb hK G (waM_5 ..) (t0 := 4) rfl rfl h_g16 dX10_enter_158 ?_
    refine lv_icmp_ge (tgt := 173) hx hb dX10_enter_159 (by decide) (fun c17 => ?_) (fun c17 => ?_)
    · replace hf := if_p hf c17
      refine lv_aload_n hx hb dX10_enter_173 rfl (lv_at hl 0 rfl) ?_
      refine lv_aload_n hx hb dX10_enter_174 rfl (lv_at hl 0 rfl) ?_
      refine fg_Md_start hx hb hts hown hK G (hts _ lk_X10_7) dX10_enter_175 ?_
      refine lv_iload_n hx hb dX10_enter_178 rfl (lv_at hl 1 rfl) ?_
      obtain ⟨h_g18, hf⟩ := gd_some hf
      refine ra_IM (v := rA st 0 x1.toNatClampNeg) hx hb hK G (waM_1 ..) (t0 := 0) rfl rfl h_g18 dX10_enter_179 ?_
      refine fp_Md_at hx hb hts hown hK G (hts _ lk_X10_212) dX10_enter_180 (fun H locs G => ?_)
      exact rt_vM C G hf dX10_enter_183
    · replace hf := if_n hf c17
      refine lv_aload_n hx hb dX10_enter_162 rfl (lv_at hl 0 rfl) ?_
      refine lv_lconst (v := 0) hx hb dX10_enter_163 (by decide) ?_
      obtain ⟨st19, hst19, hf⟩ := bv_some hf
      refine cl_vvM C hl G (As := [.long 0]) (rest := []) (kx_Md_push l D k h 0 st _ hst19) gi_X10_221 (hwM_0 ..) rfl hd_X10_push ⟨Nat.le_of_ble_eq_true rfl, Nat.le_of_ble_eq_true rfl⟩ rfl rfl (Nat.le_of_ble_eq_true rfl) dX10_enter_164 (fun H locs G => ?_)
      obtain ⟨v20, e_v20⟩ : ∃ z : Int32, z = x2 + 1 := ⟨_, rfl⟩
      replace hf := bd_some hf v20 e_v20
      refine lv_iinc (v := v20) (lv' := [(2, .int v20), (0, .ref (h 0)), (1, .int x1)]) hx hb dX10_enter_167 hl (k := 2) rfl (by rw [e_v20]; rfl) (by decide) rfl (fun ls hl => ?_)
      refine lv_goto (tgt := 152) hx hb dX10_enter_170 (by decide) ?_
      exact ih x1 v20 st19 _ hf _ _ _ (lv_sub hl [1, 2, 0] rfl) G
set_option maxHeartbeats 4000000 in
set_option maxRecDepth 100000 in
theorem kx_Md_enter_b149 {p : Program} {l : Launch} {e : Env} {s : State} {m : MethodId} {args : Array Value} {below : List Frame} {meth : Method} {c : Code} {D : va_G} {k : Nat → ClassId} {h : Nat → Nat} (C : cxM D k p s m args meth c cX10_enter 3 none RX10) (N : Nat) (x1 : Int32) (y0 : Int32) (y1 : Int32) (st : rs_T) (s' : rs_T) (hf : fx_Md_enter_b149 N x1 y0 y1 st = some s') : ∀ (H : Heap) (locs : List Loc) (ls : Array Slot), lv_has ls 3 [(0, .ref (h 0)), (1, .int x1)] → gdM D k h (arM h s.heap.size) s.heap H locs st → W p l e rm_Md_enter s m args below meth c H locs 0 0 (MQ below (qVM D k h s.heap.size s') args s 0 0 (arM h s.heap.size)) (F0 m 149 ls [.int y0, .int y1, .ref (h 26)]) := by
  obtain ⟨hx, hb, hml, hr, hown, hts, hK, hN, hlk⟩ := id C
  intro H locs ls hl G
  unfold fx_Md_enter_b149 at hf
  obtain ⟨h_g15, hf⟩ := gd_some hf
  obtain ⟨h_z, hf⟩ := gb_some hf
  refine rw_ZM hx hb hK G (waM_26 ..) (t0 := 25) rfl (wsM_26 ..) (gb_nar2 h_z) h_g15 dX10_enter_149 (fun H locs G => ?_)
  refine lv_iconst (v := 0) hx hb dX10_enter_150 (by decide) ?_
  refine lv_istore_n (lv' := [(2, .int 0), (0, .ref (h 0)), (1, .int x1)]) hx hb dX10_enter_151 rfl hl (by decide) rfl (fun ls hl => ?_)
  exact kx_Md_enter_b152 C N N x1 0 (wA st 22 y1.toNatClampNeg y0) _ hf _ _ _ (lv_sub hl [1, 2, 0] rfl) G
set_option maxHeartbeats 4000000 in
set_option maxRecDepth 100000 in
theorem kx_Md_enter_b144 {p : Program} {l : Launch} {e : Env} {s : State} {m : MethodId} {args : Array Value} {below : List Frame} {meth : Method} {c : Code} {D : va_G} {k : Nat → ClassId} {h : Nat → Nat} (C : cxM D k p s m args meth c cX10_enter 3 none RX10) (N : Nat) (x1 : Int32) (y0 : Int32) (st : rs_T) (s' : rs_T) (hf : fx_Md_enter_b144 N x1 y0 st = some s') : ∀ (H : Heap) (locs : List Loc) (ls : Array Slot), lv_has ls 3 [(0, .ref (h 0)), (1, .int x1)] → gdM D k h (arM h s.heap.size) s.heap H locs st → W p l e rm_Md_enter s m args below meth c H locs 0 0 (MQ below (qVM D k h s.heap.size s') args s 0 0 (arM h s.heap.size)) (F0 m 144 ls [.int y0, .ref (h 26)]) := by
  obtain ⟨hx, hb, hml, hr, hown, hts, hK, hN, hlk⟩ := id C
  intro H locs ls hl G
  unfold fx_Md_enter_b144 at hf
  refine lv_iconst (v := 1) hx hb dX10_enter_144 (by decide) ?_
  refine lv_goto (tgt := 149) hx hb dX10_enter_145 (by decide) ?_
  exact kx_Md_enter_b149 C N x1 1 y0 st _ hf _ _ _ (lv_sub hl [0, 1] rfl) G
set_option maxHeartbeats 4000000 in
set_option maxRecDepth 100000 in
theorem kx_Md_enter_b148 {p : Program} {l : Launch} {e : Env} {s : State} {m : MethodId} {args : Array Value} {below : List Frame} {meth : Method} {c : Code} {D : va_G} {k : Nat → ClassId} {h : Nat → Nat} (C : cxM D k p s m args meth c cX10_enter 3 none RX10) (N : Nat) (x1 : Int32) (y0 : Int32) (st : rs_T) (s' : rs_T) (hf : fx_Md_enter_b148 N x1 y0 st = some s') : ∀ (H : Heap) (locs : List Loc) (ls : Array Slot), lv_has ls 3 [(0, .ref (h 0)), (1, .int x1)] → gdM D k h (arM h s.heap.size) s.heap H locs st → W p l e rm_Md_enter s m args below meth c H locs 0 0 (MQ below (qVM D k h s.heap.size s') args s 0 0 (arM h s.heap.size)) (F0 m 148 ls [.int y0, .ref (h 26)]) := by
  obtain ⟨hx, hb, hml, hr, hown, hts, hK, hN, hlk⟩ := id C
  intro H locs ls hl G
  unfold fx_Md_enter_b148 at hf
  refine lv_iconst (v := 0) hx hb dX10_enter_148 (by decide) ?_
  exact kx_Md_enter_b149 C N x1 0 y0 st _ hf _ _ _ (lv_sub hl [0, 1] rfl) G
set_option maxHeartbeats 4000000 in
set_option maxRecDepth 100000 in
theorem kx_Md_enter (l : Launch) (D : va_G) (k : Nat → ClassId) (h : Nat → Nat) (N : Nat) (p1 : Int32) (st : rs_T) (s' : rs_T) (hf : fx_Md_enter N p1 st = some s') : mVM l D k h yX10_enter cX10_enter 3 rm_Md_enter [.ref (h 0), .int p1] st s' := by
  refine mVM_of (by decide) ⟨rfl, rfl⟩ (Nat.le_of_ble_eq_true rfl) ?_
  intro p e s m below meth c ls C hl G
  obtain ⟨hx, hb, hml, hr, hown, hts, hK, hN, hlk⟩ := id C
  have hown : s.vm.findClass RX10 = some m.cls := hown
  have hl : lv_has ls 3 [(0, .ref (h 0)), (1, .int p1)] := hl
  unfold fx_Md_enter at hf
  refine lv_aload_n hx hb dX10_enter_0 rfl (lv_at hl 0 rfl) ?_
  refine fg_Md_frames (v := rI st 12) hx hb hts hown hK G (hts _ lk_X10_190) rfl dX10_enter_1 ?_
  refine lv_bipush (v := 30) hx hb dX10_enter_4 (by decide) ?_
  refine lv_icmp_eq (tgt := 25) hx hb dX10_enter_6 (by decide) (fun c1 => ?_) (fun c1 => ?_)
  · replace hf := if_p hf c1
    exact kx_Md_enter_b25 C N st _ hf _ _ _ (lv_sub hl [0] rfl) G
  · replace hf := if_n hf c1
    refine lv_aload_n hx hb dX10_enter_9 rfl (lv_at hl 0 rfl) ?_
    refine fg_Md_asked (v := rI st 14) hx hb hts hown hK G (hts _ lk_X10_206) rfl dX10_enter_10 ?_
    refine lv_aload_n hx hb dX10_enter_13 rfl (lv_at hl 0 rfl) ?_
    refine lv_iload_n hx hb dX10_enter_14 rfl (lv_at hl 1 rfl) ?_
    obtain ⟨r3, st2, hst2, hf⟩ := bn_some hf
    refine cl_viM C hl G (As := [.int p1]) (rest := [.int (rI st 14)]) (kx_Md_asks l D k h p1 st _ _ hst2) gi_X10_209 (hwM_0 ..) rfl hd_X10_asks ⟨Nat.le_of_ble_eq_true rfl, Nat.le_of_ble_eq_true rfl⟩ rfl rfl (Nat.le_of_ble_eq_true rfl) dX10_enter_15 (fun H locs G => ?_)
    refine lv_iadd hx hb dX10_enter_18 ?_
    refine lv_sipush (v := 220) hx hb dX10_enter_19 (by decide) ?_
    refine lv_icmp_le (tgt := 31) hx hb dX10_enter_22 (by decide) (fun c4 => ?_) (fun c4 => ?_)
    · replace hf := if_p hf c4
      refine lv_aload_n hx hb dX10_enter_31 rfl (lv_at hl 0 rfl) ?_
      refine lv_dup hx hb dX10_enter_32 rfl ?_
      refine fg_Md_asked (v := rI st2 14) hx hb hts hown hK G (hts _ lk_X10_206) rfl dX10_enter_33 ?_
      refine lv_aload_n hx hb dX10_enter_36 rfl (lv_at hl 0 rfl) ?_
      refine lv_iload_n hx hb dX10_enter_37 rfl (lv_at hl 1 rfl) ?_
      obtain ⟨r6, st5, hst5, hf⟩ := bn_some hf
      refine cl_viM C hl G (As := [.int p1]) (rest := [.int (rI st2 14), .ref (h 0)]) (kx_Md_asks l D k h p1 st2 _ _ hst5) gi_X10_209 (hwM_0 ..) rfl hd_X10_asks ⟨Nat.le_of_ble_eq_true rfl, Nat.le_of_ble_eq_true rfl⟩ rfl rfl (Nat.le_of_ble_eq_true rfl) dX10_enter_38 (fun H locs G => ?_)
      refine lv_iadd hx hb dX10_enter_41 ?_
      refine fp_Md_asked hx hb hts hown hK G (hts _ lk_X10_206) dX10_enter_42 (fun H locs G => ?_)
      refine lv_aload_n hx hb dX10_enter_45 rfl (lv_at hl 0 rfl) ?_
      refine fg_Md_function hx hb hts hown hK G (hts _ lk_X10_79) dX10_enter_46 ?_
      refine lv_aload_n hx hb dX10_enter_49 rfl (lv_at hl 0 rfl) ?_
      refine fg_Md_frames (v := rI st5 12) hx hb hts hown hK G (hts _ lk_X10_190) rfl dX10_enter_50 ?_
      refine lv_iload_n hx hb dX10_enter_53 rfl (lv_at hl 1 rfl) ?_
      obtain ⟨h_g7, hf⟩ := gd_some hf
      refine rw_IM hx hb hK G (waM_22 ..) (t0 := 21) rfl (wsM_22 ..) h_g7 dX10_enter_54 (fun H locs G => ?_)
      refine lv_aload_n hx hb dX10_enter_55 rfl (lv_at hl 0 rfl) ?_
      refine fg_Md_first hx hb hts hown hK G (hts _ lk_X10_82) dX10_enter_56 ?_
      refine lv_aload_n hx hb dX10_enter_59 rfl (lv_at hl 0 rfl) ?_
      refine fg_Md_frames (v := rI st5 12) hx hb hts hown hK G (hts _ lk_X10_190) rfl dX10_enter_60 ?_
      refine lv_aload_n hx hb dX10_enter_63 rfl (lv_at hl 0 rfl) ?_
      refine fg_Md_values (v := rI st5 13) hx hb hts hown hK G (hts _ lk_X10_199) rfl dX10_enter_64 ?_
      refine lv_aload_n hx hb dX10_enter_67 rfl (lv_at hl 0 rfl) ?_
      refine fg_Md_parameters hx hb hts hown hK G (hts _ lk_X10_16) dX10_enter_68 ?_
      refine lv_iload_n hx hb dX10_enter_71 rfl (lv_at hl 1 rfl) ?_
      obtain ⟨h_g8, hf⟩ := gd_some hf
      refine ra_IM (v := rA st5 2 p1.toNatClampNeg) hx hb hK G (waM_3 ..) (t0 := 2) rfl rfl h_g8 dX10_enter_72 ?_
      refine lv_isub hx hb dX10_enter_73 ?_
      obtain ⟨h_g9, hf⟩ := gd_some hf
      refine rw_IM hx hb hK G (waM_23 ..) (t0 := 22) rfl (wsM_23 ..) h_g9 dX10_enter_74 (fun H locs G => ?_)
      refine lv_aload_n hx hb dX10_enter_75 rfl (lv_at hl 0 rfl) ?_
      refine fg_Md_back hx hb hts hown hK G (hts _ lk_X10_85) dX10_enter_76 ?_
      refine lv_aload_n hx hb dX10_enter_79 rfl (lv_at hl 0 rfl) ?_
      refine fg_Md_frames (v := rI st5 12) hx hb hts hown hK G (hts _ lk_X10_190) rfl dX10_enter_80 ?_
      refine lv_aload_n hx hb dX10_enter_83 rfl (lv_at hl 0 rfl) ?_
      refine fg_Md_at (v := rI st5 15) hx hb hts hown hK G (hts _ lk_X10_212) rfl dX10_enter_84 ?_
      refine lv_iconst (v := 1) hx hb dX10_enter_87 (by decide) ?_
      refine lv_iadd hx hb dX10_enter_88 ?_
      obtain ⟨h_g10, hf⟩ := gd_some hf
      refine rw_IM hx hb hK G (waM_24 ..) (t0 := 23) rfl (wsM_24 ..) h_g10 dX10_enter_89 (fun H locs G => ?_)
      refine lv_aload_n hx hb dX10_enter_90 rfl (lv_at hl 0 rfl) ?_
      refine lv_dup hx hb dX10_enter_91 rfl ?_
      refine fg_Md_frames (v := rI st5 12) hx hb hts hown hK G (hts _ lk_X10_190) rfl dX10_enter_92 ?_
      refine lv_iconst (v := 1) hx hb dX10_enter_95 (by decide) ?_
      refine lv_iadd hx hb dX10_enter_96 ?_
      refine fp_Md_frames hx hb hts hown hK G (hts _ lk_X10_190) dX10_enter_97 (fun H locs G => ?_)
      refine lv_aload_n hx hb dX10_enter_100 rfl (lv_at hl 0 rfl) ?_
      refine fg_Md_counted hx hb hts hown hK G (hts _ lk_X10_94) dX10_enter_101 ?_
      refine lv_iload_n hx hb dX10_enter_104 rfl (lv_at hl 1 rfl) ?_
      refine lv_dup2_11 hx hb dX10_enter_105 rfl rfl ?_
      obtain ⟨h_g11, hf⟩ := gd_some hf
      refine ra_IM (v := rA st5 21 p1.toNatClampNeg) hx hb hK G (waM_25 ..) (t0 := 24) rfl rfl h_g11 dX10_enter_106 ?_
      refine lv_iconst (v := 1) hx hb dX10_enter_107 (by decide) ?_
      refine lv_iadd hx hb dX10_enter_108 ?_
      obtain ⟨h_g12, hf⟩ := gd_some hf
      refine rw_IM hx hb hK G (waM_25 ..) (t0 := 24) rfl (wsM_25 ..) h_g12 dX10_enter_109 (fun H locs G => ?_)
      refine lv_aload_n hx hb dX10_enter_110 rfl (lv_at hl 0 rfl) ?_
      refine fg_Md_compiled hx hb hts hown hK G (hts _ lk_X10_97) dX10_enter_111 ?_
      refine lv_iload_n hx hb dX10_enter_114 rfl (lv_at hl 1 rfl) ?_
      refine lv_aload_n hx hb dX10_enter_115 rfl (lv_at hl 0 rfl) ?_
      refine fg_Md_compiled hx hb hts hown hK G (hts _ lk_X10_97) dX10_enter_116 ?_
      refine lv_iload_n hx hb dX10_enter_119 rfl (lv_at hl 1 rfl) ?_
      obtain ⟨h_g13, hf⟩ := gd_some hf
      refine ra_ZM (v := rA st5 22 p1.toNatClampNeg) hx hb hK G (waM_26 ..) (t0 := 25) rfl rfl h_g13 dX10_enter_120 ?_
      refine lv_if_ne (tgt := 144) hx hb dX10_enter_121 (by decide) (fun c14 => ?_) (fun c14 => ?_)
      · replace hf := if_n hf c14
        exact kx_Md_enter_b144 C N p1 p1 (wA (wI (wA (wA (wA (wI st5 14 ((rI st2 14) + r6)) 18 ((rI st5 12).toNatClampNeg) p1) 19 ((rI st5 12).toNatClampNeg) ((rI st5 13) - (rA st5 2 p1.toNatClampNeg))) 20 ((rI st5 12).toNatClampNeg) ((rI st5 15) + 1)) 12 ((rI st5 12) + 1)) 21 p1.toNatClampNeg ((rA st5 21 p1.toNatClampNeg) + 1)) _ hf _ _ _ (lv_sub hl [0, 1] rfl) G
      · replace hf := if_p hf c14
        refine lv_aload_n hx hb dX10_enter_124 rfl (lv_at hl 0 rfl) ?_
        refine fg_Md_often (v := rI st5 17) hx hb hts hown hK G (hts _ lk_X10_88) rfl dX10_enter_125 ?_
        refine lv_if_le (tgt := 148) hx hb dX10_enter_128 (by decide) (fun c21 => ?_) (fun c21 => ?_)
        · replace hf := if_p hf c21
          exact kx_Md_enter_b148 C N p1 p1 (wA (wI (wA (wA (wA (wI st5 14 ((rI st2 14) + r6)) 18 ((rI st5 12).toNatClampNeg) p1) 19 ((rI st5 12).toNatClampNeg) ((rI st5 13) - (rA st5 2 p1.toNatClampNeg))) 20 ((rI st5 12).toNatClampNeg) ((rI st5 15) + 1)) 12 ((rI st5 12) + 1)) 21 p1.toNatClampNeg ((rA st5 21 p1.toNatClampNeg) + 1)) _ hf _ _ _ (lv_sub hl [0, 1] rfl) G
        · replace hf := if_n hf c21
          refine lv_aload_n hx hb dX10_enter_131 rfl (lv_at hl 0 rfl) ?_
          refine fg_Md_counted hx hb hts hown hK G (hts _ lk_X10_94) dX10_enter_132 ?_
          refine lv_iload_n hx hb dX10_enter_135 rfl (lv_at hl 1 rfl) ?_
          obtain ⟨h_g22, hf⟩ := gd_some hf
          refine ra_IM (v := rA (wA (wI (wA (wA (wA (wI st5 14 ((rI st2 14) + r6)) 18 ((rI st5 12).toNatClampNeg) p1) 19 ((rI st5 12).toNatClampNeg) ((rI st5 13) - (rA st5 2 p1.toNatClampNeg))) 20 ((rI st5 12).toNatClampNeg) ((rI st5 15) + 1)) 12 ((rI st5 12) + 1)) 21 p1.toNatClampNeg ((rA st5 21 p1.toNatClampNeg) + 1)) 21 p1.toNatClampNeg) hx hb hK G (waM_25 ..) (t0 := 24) rfl rfl h_g22 dX10_enter_136 ?_
          refine lv_aload_n hx hb dX10_enter_137 rfl (lv_at hl 0 rfl) ?_
          refine fg_Md_often (v := rI st5 17) hx hb hts hown hK G (hts _ lk_X10_88) rfl dX10_enter_138 ?_
          refine lv_icmp_lt (tgt := 148) hx hb dX10_enter_141 (by decide) (fun c23 => ?_) (fun c23 => ?_)
          · replace hf := if_p hf c23
            exact kx_Md_enter_b148 C N p1 p1 (wA (wI (wA (wA (wA (wI st5 14 ((rI st2 14) + r6)) 18 ((rI st5 12).toNatClampNeg) p1) 19 ((rI st5 12).toNatClampNeg) ((rI st5 13) - (rA st5 2 p1.toNatClampNeg))) 20 ((rI st5 12).toNatClampNeg) ((rI st5 15) + 1)) 12 ((rI st5 12) + 1)) 21 p1.toNatClampNeg ((rA st5 21 p1.toNatClampNeg) + 1)) _ hf _ _ _ (lv_sub hl [0, 1] rfl) G
          · replace hf := if_n hf c23
            exact kx_Md_enter_b144 C N p1 p1 (wA (wI (wA (wA (wA (wI st5 14 ((rI st2 14) + r6)) 18 ((rI st5 12).toNatClampNeg) p1) 19 ((rI st5 12).toNatClampNeg) ((rI st5 13) - (rA st5 2 p1.toNatClampNeg))) 20 ((rI st5 12).toNatClampNeg) ((rI st5 15) + 1)) 12 ((rI st5 12) + 1)) 21 p1.toNatClampNeg ((rA st5 21 p1.toNatClampNeg) + 1)) _ hf _ _ _ (lv_sub hl [0, 1] rfl) G
    · replace hf := if_n hf c4
      exact kx_Md_enter_b25 C N st2 _ hf _ _ _ (lv_sub hl [0] rfl) G
def rm_Md_keep : Room := { frames := 0, cells := 0, slots := 0, locals := 0 }
set_option maxHeartbeats 4000000 in
set_option maxRecDepth 100000 in
theorem kx_Md_keep_b2 {p : Program} {l : Launch} {e : Env} {s : State} {m : MethodId} {args : Array Value} {below : List Frame} {meth : Method} {c : Code} {D : va_G} {k : Nat → ClassId} {h : Nat → Nat} (C : cxM D k p s m args meth c cX10_keep 4 none RX10) (N : Nat) : ∀ (n : Nat) (x1 : Int32) (x2 : Int32) (x3 : Int32) (st : rs_T) (s' : rs_T), fx_Md_keep_b2 N n x1 x2 x3 st = some s' → ∀ (H : Heap) (locs : List Loc) (ls : Array Slot), lv_has ls 4 [(0, .ref (h 0)), (1, .int x1), (2, .int x2), (3, .int x3)] → gdM D k h (arM h s.heap.size) s.heap H locs st → W p l e rm_Md_keep s m args below meth c H locs 0 0 (MQ below (qVM D k h s.heap.size s') args s 0 0 (arM h s.heap.size)) (F0 m 2 ls []) := by
  obtain ⟨hx, hb, hml, hr, hown, hts, hK, hN, hlk⟩ := id C
  intro n
  induction n with
  | zero => intro x1 x2 x3 st s' hf; cases hf
  | succ n ih =>
    intro x1 x2 x3 st s' hf H locs ls hl G
    rw [fx_Md_keep_b2] at hf
    refine lv_iload_n hx hb dX10_keep_2 rfl (lv_at hl 3 rfl) ?_
    refine lv_iload_n hx hb dX10_keep_3 rfl (lv_at hl 1 rfl) ?_
    refine lv_icmp_ge (tgt := 34) hx hb dX10_keep_4 (by decide) (fun c1 => ?_) (fun c1 => ?_)
    · replace hf := if_p hf c1
      refine lv_aload_n hx hb dX10_keep_34 rfl (lv_at hl 0 rfl) ?_
      refine lv_iload_n hx hb dX10_keep_35 rfl (lv_at hl 2 rfl) ?_
      refine lv_iload_n hx hb dX10_keep_36 rfl (lv_at hl 1 rfl) ?_
      refine lv_iadd hx hb dX10_keep_37 ?_
      refine fp_Md_values hx hb hts hown hK G (hts _ lk_X10_199) dX10_keep_38 (fun H locs G => ?_)
      exact rt_vM C G hf dX10_keep_41
    · replace hf := if_n hf c1
      refine lv_aload_n hx hb dX10_keep_7 rfl (lv_at hl 0 rfl) ?_
      refine fg_Md_value hx hb hts hown hK G (hts _ lk_X10_76) dX10_keep_8 ?_
      refine lv_iload_n hx hb dX10_keep_11 rfl (lv_at hl 2 rfl) ?_
      refine lv_iload_n hx hb dX10_keep_12 rfl (lv_at hl 3 rfl) ?_
      refine lv_iadd hx hb dX10_keep_13 ?_
      refine lv_aload_n hx hb dX10_keep_14 rfl (lv_at hl 0 rfl) ?_
      refine fg_Md_value hx hb hts hown hK G (hts _ lk_X10_76) dX10_keep_15 ?_
      refine lv_aload_n hx hb dX10_keep_18 rfl (lv_at hl 0 rfl) ?_
      refine fg_Md_values (v := rI st 13) hx hb hts hown hK G (hts _ lk_X10_199) rfl dX10_keep_19 ?_
      refine lv_iload_n hx hb dX10_keep_22 rfl (lv_at hl 1 rfl) ?_
      refine lv_isub hx hb dX10_keep_23 ?_
      refine lv_iload_n hx hb dX10_keep_24 rfl (lv_at hl 3 rfl) ?_
      refine lv_iadd hx hb dX10_keep_25 ?_
      obtain ⟨h_g2, hf⟩ := gd_some hf
      refine ra_JM (v := rL st 2 ((((rI st 13) - x1) + x3).toNatClampNeg)) hx hb hK G (waM_21 ..) (t0 := 20) rfl rfl h_g2 dX10_keep_26 ?_
      obtain ⟨h_g3, hf⟩ := gd_some hf
      refine rw_JM hx hb hK G (waM_21 ..) (t0 := 20) rfl (wsM_21 ..) h_g3 dX10_keep_27 (fun H locs G => ?_)
      obtain ⟨v4, e_v4⟩ : ∃ z : Int32, z = x3 + 1 := ⟨_, rfl⟩
      replace hf := bd_some hf v4 e_v4
      refine lv_iinc (v := v4) (lv' := [(3, .int v4), (0, .ref (h 0)), (1, .int x1), (2, .int x2)]) hx hb dX10_keep_28 hl (k := 3) rfl (by rw [e_v4]; rfl) (by decide) rfl (fun ls hl => ?_)
      refine lv_goto (tgt := 2) hx hb dX10_keep_31 (by decide) ?_
      exact ih x1 x2 v4 (wL st 2 ((x2 + x3).toNatClampNeg) (rL st 2 ((((rI st 13) - x1) + x3).toNatClampNeg))) _ hf _ _ _ (lv_sub hl [1, 2, 3, 0] rfl) G
set_option maxHeartbeats 4000000 in
set_option maxRecDepth 100000 in
theorem kx_Md_keep (l : Launch) (D : va_G) (k : Nat → ClassId) (h : Nat → Nat) (N : Nat) (p1 : Int32) (p2 : Int32) (st : rs_T) (s' : rs_T) (hf : fx_Md_keep N p1 p2 st = some s') : mVM l D k h yX10_keep cX10_keep 4 rm_Md_keep [.ref (h 0), .int p1, .int p2] st s' := by
  refine mVM_of (by decide) ⟨rfl, rfl⟩ (Nat.le_of_ble_eq_true rfl) ?_
  intro p e s m below meth c ls C hl G
  obtain ⟨hx, hb, hml, hr, hown, hts, hK, hN, hlk⟩ := id C
  have hown : s.vm.findClass RX10 = some m.cls := hown
  have hl : lv_has ls 4 [(0, .ref (h 0)), (1, .int p1), (2, .int p2)] := hl
  unfold fx_Md_keep at hf
  refine lv_iconst (v := 0) hx hb dX10_keep_0 (by decide) ?_
  refine lv_istore_n (lv' := [(3, .int 0), (0, .ref (h 0)), (1, .int p1), (2, .int p2)]) hx hb dX10_keep_1 rfl hl (by decide) rfl (fun ls hl => ?_)
  exact kx_Md_keep_b2 C N N p1 p2 0 st _ hf _ _ _ (lv_sub hl [1, 2, 3, 0] rfl) G
def rm_Md_back : Room := { frames := 2, cells := 0, slots := 0, locals := 42 }
set_option maxHeartbeats 4000000 in
set_option maxRecDepth 100000 in
theorem kx_Md_back_b95 {p : Program} {l : Launch} {e : Env} {s : State} {m : MethodId} {args : Array Value} {below : List Frame} {meth : Method} {c : Code} {D : va_G} {k : Nat → ClassId} {h : Nat → Nat} (C : cxM D k p s m args meth c cX10_back 3 none RX10) (N : Nat) : ∀ (n : Nat) (x2 : Int32) (st : rs_T) (s' : rs_T), fx_Md_back_b95 N n x2 st = some s' → ∀ (H : Heap) (locs : List Loc) (ls : Array Slot), lv_has ls 3 [(0, .ref (h 0)), (2, .int x2)] → gdM D k h (arM h s.heap.size) s.heap H locs st → W p l e rm_Md_back s m args below meth c H locs 0 0 (MQ below (qVM D k h s.heap.size s') args s 0 0 (arM h s.heap.size)) (F0 m 95 ls []) := by
  obtain ⟨hx, hb, hml, hr, hown, hts, hK, hN, hlk⟩ := id C
  intro n
  induction n with
  | zero => intro x2 st s' hf; cases hf
  | succ n ih =>
    intro x2 st s' hf H locs ls hl G
    rw [fx_Md_back_b95] at hf
    refine lv_iload_n hx hb dX10_back_95 rfl (lv_at hl 1 rfl) ?_
    refine lv_aload_n hx hb dX10_back_96 rfl (lv_at hl 0 rfl) ?_
    refine fg_Md_outcomes (v := rI st 16) hx hb hts hown hK G (hts _ lk_X10_218) rfl dX10_back_97 ?_
    refine lv_icmp_ge (tgt := 121) hx hb dX10_back_100 (by decide) (fun c11 => ?_) (fun c11 => ?_)
    · replace hf := if_p hf c11
      exact rt_vM C G hf dX10_back_121
    · replace hf := if_n hf c11
      refine lv_aload_n hx hb dX10_back_103 rfl (lv_at hl 0 rfl) ?_
      refine fg_Md_outcome hx hb hts hown hK G (hts _ lk_X10_100) dX10_back_104 ?_
      refine lv_iload_n hx hb dX10_back_107 rfl (lv_at hl 1 rfl) ?_
      refine lv_aload_n hx hb dX10_back_108 rfl (lv_at hl 0 rfl) ?_
      refine fg_Md_value hx hb hts hown hK G (hts _ lk_X10_76) dX10_back_109 ?_
      refine lv_iload_n hx hb dX10_back_112 rfl (lv_at hl 1 rfl) ?_
      obtain ⟨h_g12, hf⟩ := gd_some hf
      refine ra_JM (v := rL st 2 x2.toNatClampNeg) hx hb hK G (waM_21 ..) (t0 := 20) rfl rfl h_g12 dX10_back_113 ?_
      obtain ⟨h_g13, hf⟩ := gd_some hf
      refine rw_JM hx hb hK G (waM_27 ..) (t0 := 26) rfl (wsM_27 ..) h_g13 dX10_back_114 (fun H locs G => ?_)
      obtain ⟨v14, e_v14⟩ : ∃ z : Int32, z = x2 + 1 := ⟨_, rfl⟩
      replace hf := bd_some hf v14 e_v14
      refine lv_iinc (v := v14) (lv' := [(2, .int v14), (0, .ref (h 0))]) hx hb dX10_back_115 hl (k := 1) rfl (by rw [e_v14]; rfl) (by decide) rfl (fun ls hl => ?_)
      refine lv_goto (tgt := 95) hx hb dX10_back_118 (by decide) ?_
      exact ih v14 (wL st 3 x2.toNatClampNeg (rL st 2 x2.toNatClampNeg)) _ hf _ _ _ (lv_sub hl [1, 0] rfl) G
set_option maxHeartbeats 4000000 in
set_option maxRecDepth 100000 in
theorem kx_Md_back (l : Launch) (D : va_G) (k : Nat → ClassId) (h : Nat → Nat) (N : Nat) (st : rs_T) (s' : rs_T) (hf : fx_Md_back N st = some s') : mVM l D k h yX10_back cX10_back 3 rm_Md_back [.ref (h 0)] st s' := by
  refine mVM_of (by decide) ⟨rfl, rfl⟩ (Nat.le_of_ble_eq_true rfl) ?_
  intro p e s m below meth c ls C hl G
  obtain ⟨hx, hb, hml, hr, hown, hts, hK, hN, hlk⟩ := id C
  have hown : s.vm.findClass RX10 = some m.cls := hown
  have hl : lv_has ls 3 [(0, .ref (h 0))] := hl
  unfold fx_Md_back at hf
  refine lv_aload_n hx hb dX10_back_0 rfl (lv_at hl 0 rfl) ?_
  refine fg_Md_function hx hb hts hown hK G (hts _ lk_X10_79) dX10_back_1 ?_
  refine lv_aload_n hx hb dX10_back_4 rfl (lv_at hl 0 rfl) ?_
  refine fg_Md_frames (v := rI st 12) hx hb hts hown hK G (hts _ lk_X10_190) rfl dX10_back_5 ?_
  refine lv_iconst (v := 1) hx hb dX10_back_8 (by decide) ?_
  refine lv_isub hx hb dX10_back_9 ?_
  obtain ⟨h_g1, hf⟩ := gd_some hf
  refine ra_IM (v := rA st 18 (((rI st 12) - 1).toNatClampNeg)) hx hb hK G (waM_22 ..) (t0 := 21) rfl rfl h_g1 dX10_back_10 ?_
  refine lv_topi (fun v2 e_v2 => ?_)
  replace hf := bd_some hf v2 e_v2
  refine lv_istore_n (lv' := [(1, .int v2), (0, .ref (h 0))]) hx hb dX10_back_11 rfl hl (by decide) rfl (fun ls hl => ?_)
  refine lv_aload_n hx hb dX10_back_12 rfl (lv_at hl 1 rfl) ?_
  refine lv_aload_n hx hb dX10_back_13 rfl (lv_at hl 1 rfl) ?_
  refine fg_Md_results hx hb hts hown hK G (hts _ lk_X10_19) dX10_back_14 ?_
  refine lv_iload_n hx hb dX10_back_17 rfl (lv_at hl 0 rfl) ?_
  obtain ⟨h_g3, hf⟩ := gd_some hf
  refine ra_IM (v := rA st 3 v2.toNatClampNeg) hx hb hK G (waM_4 ..) (t0 := 3) rfl rfl h_g3 dX10_back_18 ?_
  refine lv_aload_n hx hb dX10_back_19 rfl (lv_at hl 1 rfl) ?_
  refine fg_Md_first hx hb hts hown hK G (hts _ lk_X10_82) dX10_back_20 ?_
  refine lv_aload_n hx hb dX10_back_23 rfl (lv_at hl 1 rfl) ?_
  refine fg_Md_frames (v := rI st 12) hx hb hts hown hK G (hts _ lk_X10_190) rfl dX10_back_24 ?_
  refine lv_iconst (v := 1) hx hb dX10_back_27 (by decide) ?_
  refine lv_isub hx hb dX10_back_28 ?_
  obtain ⟨h_g4, hf⟩ := gd_some hf
  refine ra_IM (v := rA st 19 (((rI st 12) - 1).toNatClampNeg)) hx hb hK G (waM_23 ..) (t0 := 22) rfl rfl h_g4 dX10_back_29 ?_
  obtain ⟨st5, hst5, hf⟩ := bv_some hf
  refine cl_vvM C hl G (As := [.int (rA st 3 v2.toNatClampNeg), .int (rA st 19 (((rI st 12) - 1).toNatClampNeg))]) (rest := []) (kx_Md_keep l D k h N (rA st 3 v2.toNatClampNeg) (rA st 19 (((rI st 12) - 1).toNatClampNeg)) st _ hst5) gi_X10_202 (hwM_0 ..) rfl hd_X10_keep ⟨Nat.le_of_ble_eq_true rfl, Nat.le_of_ble_eq_true rfl⟩ rfl rfl (Nat.le_of_ble_eq_true rfl) dX10_back_30 (fun H locs G => ?_)
  refine lv_aload_n hx hb dX10_back_33 rfl (lv_at hl 1 rfl) ?_
  refine lv_dup hx hb dX10_back_34 rfl ?_
  refine fg_Md_frames (v := rI st5 12) hx hb hts hown hK G (hts _ lk_X10_190) rfl dX10_back_35 ?_
  refine lv_iconst (v := 1) hx hb dX10_back_38 (by decide) ?_
  refine lv_isub hx hb dX10_back_39 ?_
  refine fp_Md_frames hx hb hts hown hK G (hts _ lk_X10_190) dX10_back_40 (fun H locs G => ?_)
  refine lv_aload_n hx hb dX10_back_43 rfl (lv_at hl 1 rfl) ?_
  refine lv_dup hx hb dX10_back_44 rfl ?_
  refine fg_Md_asked (v := rI st5 14) hx hb hts hown hK G (hts _ lk_X10_206) rfl dX10_back_45 ?_
  refine lv_aload_n hx hb dX10_back_48 rfl (lv_at hl 1 rfl) ?_
  refine lv_iload_n hx hb dX10_back_49 rfl (lv_at hl 0 rfl) ?_
  obtain ⟨r7, st6, hst6, hf⟩ := bn_some hf
  refine cl_viM C hl G (As := [.int v2]) (rest := [.int (rI st5 14), .ref (h 0)]) (kx_Md_asks l D k h v2 (wI st5 12 ((rI st5 12) - 1)) _ _ hst6) gi_X10_209 (hwM_0 ..) rfl hd_X10_asks ⟨Nat.le_of_ble_eq_true rfl, Nat.le_of_ble_eq_true rfl⟩ rfl rfl (Nat.le_of_ble_eq_true rfl) dX10_back_50 (fun H locs G => ?_)
  refine lv_isub hx hb dX10_back_53 ?_
  refine fp_Md_asked hx hb hts hown hK G (hts _ lk_X10_206) dX10_back_54 (fun H locs G => ?_)
  refine lv_aload_n hx hb dX10_back_57 rfl (lv_at hl 1 rfl) ?_
  refine lv_aload_n hx hb dX10_back_58 rfl (lv_at hl 1 rfl) ?_
  refine fg_Md_back hx hb hts hown hK G (hts _ lk_X10_85) dX10_back_59 ?_
  refine lv_aload_n hx hb dX10_back_62 rfl (lv_at hl 1 rfl) ?_
  refine fg_Md_frames (v := rI st6 12) hx hb hts hown hK G (hts _ lk_X10_190) rfl dX10_back_63 ?_
  obtain ⟨h_g8, hf⟩ := gd_some hf
  refine ra_IM (v := rA st6 20 ((rI st6 12).toNatClampNeg)) hx hb hK G (waM_24 ..) (t0 := 23) rfl rfl h_g8 dX10_back_66 ?_
  refine fp_Md_at hx hb hts hown hK G (hts _ lk_X10_212) dX10_back_67 (fun H locs G => ?_)
  refine lv_aload_n hx hb dX10_back_70 rfl (lv_at hl 1 rfl) ?_
  refine fg_Md_frames (v := rI st6 12) hx hb hts hown hK G (hts _ lk_X10_190) rfl dX10_back_71 ?_
  refine lv_if_le (tgt := 78) hx hb dX10_back_74 (by decide) (fun c9 => ?_) (fun c9 => ?_)
  · replace hf := if_p hf c9
    refine lv_aload_n hx hb dX10_back_78 rfl (lv_at hl 1 rfl) ?_
    refine lv_iconst (v := 2) hx hb dX10_back_79 (by decide) ?_
    refine fp_Md_state hx hb hts hown hK G (hts _ lk_X10_215) dX10_back_80 (fun H locs G => ?_)
    refine lv_aload_n hx hb dX10_back_83 rfl (lv_at hl 1 rfl) ?_
    refine lv_aload_n hx hb dX10_back_84 rfl (lv_at hl 1 rfl) ?_
    refine fg_Md_results hx hb hts hown hK G (hts _ lk_X10_19) dX10_back_85 ?_
    refine lv_iload_n hx hb dX10_back_88 rfl (lv_at hl 0 rfl) ?_
    obtain ⟨h_g10, hf⟩ := gd_some hf
    refine ra_IM (v := rA st6 3 v2.toNatClampNeg) hx hb hK G (waM_4 ..) (t0 := 3) rfl rfl h_g10 dX10_back_89 ?_
    refine fp_Md_outcomes hx hb hts hown hK G (hts _ lk_X10_218) dX10_back_90 (fun H locs G => ?_)
    refine lv_iconst (v := 0) hx hb dX10_back_93 (by decide) ?_
    refine lv_istore_n (lv' := [(2, .int 0), (1, .int v2), (0, .ref (h 0))]) hx hb dX10_back_94 rfl hl (by decide) rfl (fun ls hl => ?_)
    exact kx_Md_back_b95 C N N 0 (wI (wI (wI (wI st6 14 ((rI st5 14) - r7)) 15 (rA st6 20 ((rI st6 12).toNatClampNeg))) 9 2) 16 (rA st6 3 v2.toNatClampNeg)) _ hf _ _ _ (lv_sub hl [2, 0] rfl) G
  · replace hf := if_n hf c9
    exact rt_vM C G hf dX10_back_77
def rm_Md_begins : Room := { frames := 0, cells := 0, slots := 0, locals := 0 }
set_option maxHeartbeats 4000000 in
set_option maxRecDepth 100000 in
theorem kx_Md_begins (l : Launch) (D : va_G) (k : Nat → ClassId) (h : Nat → Nat) (p0 : Int32) (st : rs_T) (r : Int32) (s' : rs_T) (hf : fx_Md_begins p0 st = some (r, s')) : mIM l D k h yX10_begins cX10_begins 1 .boolean rm_Md_begins [.int p0] st r s' := by
  refine mIM_of (by decide) ⟨rfl, rfl⟩ (Nat.le_of_ble_eq_true rfl) ?_
  intro p e s m below meth c ls C hl G
  obtain ⟨hx, hb, hml, hr, hown, hts, hK, hN, hlk⟩ := id C
  have hown : s.vm.findClass RX10 = some m.cls := hown
  have hl : lv_has ls 1 [(0, .int p0)] := hl
  unfold fx_Md_begins at hf
  refine lv_iload_n hx hb dX10_begins_0 rfl (lv_at hl 0 rfl) ?_
  refine lv_iconst (v := 1) hx hb dX10_begins_1 (by decide) ?_
  refine lv_icmp_le (tgt := 14) hx hb dX10_begins_2 (by decide) (fun c1 => ?_) (fun c1 => ?_)
  · replace hf := if_p hf c1
    refine lv_iconst (v := 0) hx hb dX10_begins_14 (by decide) ?_
    exact rt_zM C rfl G hf dX10_begins_15
  · replace hf := if_n hf c1
    refine lv_iload_n hx hb dX10_begins_5 rfl (lv_at hl 0 rfl) ?_
    refine lv_iconst (v := 5) hx hb dX10_begins_6 (by decide) ?_
    refine lv_icmp_ge (tgt := 14) hx hb dX10_begins_7 (by decide) (fun c2 => ?_) (fun c2 => ?_)
    · replace hf := if_p hf c2
      refine lv_iconst (v := 0) hx hb dX10_begins_14 (by decide) ?_
      exact rt_zM C rfl G hf dX10_begins_15
    · replace hf := if_n hf c2
      refine lv_iconst (v := 1) hx hb dX10_begins_10 (by decide) ?_
      refine lv_goto (tgt := 15) hx hb dX10_begins_11 (by decide) ?_
      exact rt_zM C rfl G hf dX10_begins_15
def rm_Md_endOf : Room := { frames := 1, cells := 0, slots := 0, locals := 20 }
set_option maxHeartbeats 4000000 in
set_option maxRecDepth 100000 in
theorem kx_Md_endOf_b71 {p : Program} {l : Launch} {e : Env} {s : State} {m : MethodId} {args : Array Value} {below : List Frame} {meth : Method} {c : Code} {D : va_G} {k : Nat → ClassId} {h : Nat → Nat} (C : cxM D k p s m args meth c cX10_endOf 5 (some .int) RX10) (N : Nat) (rec5 : Int32 → Int32 → Int32 → rs_T → Option (Int32 × rs_T)) (ih5 : ∀ (x2 : Int32) (x3 : Int32) (x4 : Int32) (st : rs_T) (r : Int32) (s' : rs_T), rec5 x2 x3 x4 st = some (r, s') → ∀ (H : Heap) (locs : List Loc) (ls : Array Slot), lv_has ls 5 [(0, .ref (h 0)), (2, .int x2), (3, .int x3), (4, .int x4)] → gdM D k h (arM h s.heap.size) s.heap H locs st → W p l e rm_Md_endOf s m args below meth c H locs 0 0 (MQ below (qIM D k h s.heap.size r s') args s 0 0 (arM h s.heap.size)) (F0 m 5 ls [])) (x2 : Int32) (x4 : Int32) (y0 : Int32) (y1 : Int32) (st : rs_T) (r : Int32) (s' : rs_T) (hf : fx_Md_endOf_b71 N rec5 x2 x4 y0 y1 st = some (r, s')) : ∀ (H : Heap) (locs : List Loc) (ls : Array Slot), lv_has ls 5 [(0, .ref (h 0)), (2, .int x2), (4, .int x4)] → gdM D k h (arM h s.heap.size) s.heap H locs st → W p l e rm_Md_endOf s m args below meth c H locs 0 0 (MQ below (qIM D k h s.heap.size r s') args s 0 0 (arM h s.heap.size)) (F0 m 71 ls [.int y0, .int y1]) := by
  obtain ⟨hx, hb, hml, hr, hown, hts, hK, hN, hlk⟩ := id C
  intro H locs ls hl G
  unfold fx_Md_endOf_b71 at hf
  refine lv_iadd hx hb dX10_endOf_71 ?_
  refine lv_topi (fun v8 e_v8 => ?_)
  replace hf := bd_some hf v8 e_v8
  refine lv_istore_n (lv' := [(3, .int v8), (0, .ref (h 0)), (2, .int x2), (4, .int x4)]) hx hb dX10_endOf_72 rfl hl (by decide) rfl (fun ls hl => ?_)
  obtain ⟨v9, e_v9⟩ : ∃ z : Int32, z = x4 + 1 := ⟨_, rfl⟩
  replace hf := bd_some hf v9 e_v9
  refine lv_iinc (v := v9) (lv' := [(4, .int v9), (3, .int v8), (0, .ref (h 0)), (2, .int x2)]) hx hb dX10_endOf_73 hl (k := 3) rfl (by rw [e_v9]; rfl) (by decide) rfl (fun ls hl => ?_)
  refine lv_goto (tgt := 5) hx hb dX10_endOf_76 (by decide) ?_
  exact ih5 x2 v8 v9 st _ _ hf _ _ _ (lv_sub hl [2, 3, 1, 0] rfl) G
set_option maxHeartbeats 4000000 in
set_option maxRecDepth 100000 in
theorem kx_Md_endOf_b36 {p : Program} {l : Launch} {e : Env} {s : State} {m : MethodId} {args : Array Value} {below : List Frame} {meth : Method} {c : Code} {D : va_G} {k : Nat → ClassId} {h : Nat → Nat} (C : cxM D k p s m args meth c cX10_endOf 5 (some .int) RX10) (N : Nat) (rec5 : Int32 → Int32 → Int32 → rs_T → Option (Int32 × rs_T)) (ih5 : ∀ (x2 : Int32) (x3 : Int32) (x4 : Int32) (st : rs_T) (r : Int32) (s' : rs_T), rec5 x2 x3 x4 st = some (r, s') → ∀ (H : Heap) (locs : List Loc) (ls : Array Slot), lv_has ls 5 [(0, .ref (h 0)), (2, .int x2), (3, .int x3), (4, .int x4)] → gdM D k h (arM h s.heap.size) s.heap H locs st → W p l e rm_Md_endOf s m args below meth c H locs 0 0 (MQ below (qIM D k h s.heap.size r s') args s 0 0 (arM h s.heap.size)) (F0 m 5 ls [])) (x2 : Int32) (x3 : Int32) (x4 : Int32) (st : rs_T) (r : Int32) (s' : rs_T) (hf : fx_Md_endOf_b36 N rec5 x2 x3 x4 st = some (r, s')) : ∀ (H : Heap) (locs : List Loc) (ls : Array Slot), lv_has ls 5 [(0, .ref (h 0)), (2, .int x2), (3, .int x3), (4, .int x4)] → gdM D k h (arM h s.heap.size) s.heap H locs st → W p l e rm_Md_endOf s m args below meth c H locs 0 0 (MQ below (qIM D k h s.heap.size r s') args s 0 0 (arM h s.heap.size)) (F0 m 36 ls []) := by
  obtain ⟨hx, hb, hml, hr, hown, hts, hK, hN, hlk⟩ := id C
  intro H locs ls hl G
  unfold fx_Md_endOf_b36 at hf
  refine lv_iload_n hx hb dX10_endOf_36 rfl (lv_at hl 2 rfl) ?_
  refine lv_aload_n hx hb dX10_endOf_37 rfl (lv_at hl 0 rfl) ?_
  refine fg_Md_op hx hb hts hown hK G (hts _ lk_X10_28) dX10_endOf_38 ?_
  refine lv_iload hx hb dX10_endOf_41 (lv_at hl 3 rfl) ?_
  obtain ⟨h_g2, hf⟩ := gd_some hf
  refine ra_IM (v := rA st 6 x4.toNatClampNeg) hx hb hK G (waM_7 ..) (t0 := 6) rfl rfl h_g2 dX10_endOf_43 ?_
  obtain ⟨r4, st3, hst3, hf⟩ := bn_some hf
  refine cl_siM C hl G (As := [.int (rA st 6 x4.toNatClampNeg)]) (rest := [.int x3]) (kx_Md_begins l D k h (rA st 6 x4.toNatClampNeg) st _ _ hst3) gi_X10_193 hd_X10_begins ⟨Nat.le_of_ble_eq_true rfl, Nat.le_of_ble_eq_true rfl⟩ rfl rfl (Nat.le_of_ble_eq_true rfl) dX10_endOf_44 (fun H locs G => ?_)
  refine lv_if_eq (tgt := 54) hx hb dX10_endOf_47 (by decide) (fun c5 => ?_) (fun c5 => ?_)
  · replace hf := if_p hf c5
    refine lv_aload_n hx hb dX10_endOf_54 rfl (lv_at hl 0 rfl) ?_
    refine fg_Md_op hx hb hts hown hK G (hts _ lk_X10_28) dX10_endOf_55 ?_
    refine lv_iload hx hb dX10_endOf_58 (lv_at hl 3 rfl) ?_
    obtain ⟨h_g6, hf⟩ := gd_some hf
    refine ra_IM (v := rA st3 6 x4.toNatClampNeg) hx hb hK G (waM_7 ..) (t0 := 6) rfl rfl h_g6 dX10_endOf_60 ?_
    refine lv_bipush (v := 11) hx hb dX10_endOf_61 (by decide) ?_
    refine lv_icmp_ne (tgt := 70) hx hb dX10_endOf_63 (by decide) (fun c7 => ?_) (fun c7 => ?_)
    · replace hf := if_n hf c7
      refine lv_iconst (v := 0) hx hb dX10_endOf_70 (by decide) ?_
      exact kx_Md_endOf_b71 C N rec5 ih5 x2 x4 0 x3 st3 _ _ hf _ _ _ (lv_sub hl [0, 1, 3] rfl) G
    · replace hf := if_p hf c7
      refine lv_iconst (v := (-1)) hx hb dX10_endOf_66 (by decide) ?_
      refine lv_goto (tgt := 71) hx hb dX10_endOf_67 (by decide) ?_
      exact kx_Md_endOf_b71 C N rec5 ih5 x2 x4 (-1) x3 st3 _ _ hf _ _ _ (lv_sub hl [0, 1, 3] rfl) G
  · replace hf := if_n hf c5
    refine lv_iconst (v := 1) hx hb dX10_endOf_50 (by decide) ?_
    refine lv_goto (tgt := 71) hx hb dX10_endOf_51 (by decide) ?_
    exact kx_Md_endOf_b71 C N rec5 ih5 x2 x4 1 x3 st3 _ _ hf _ _ _ (lv_sub hl [0, 1, 3] rfl) G
set_option maxHeartbeats 4000000 in
set_option maxRecDepth 100000 in
theorem kx_Md_endOf_b5 {p : Program} {l : Launch} {e : Env} {s : State} {m : MethodId} {args : Array Value} {below : List Frame} {meth : Method} {c : Code} {D : va_G} {k : Nat → ClassId} {h : Nat → Nat} (C : cxM D k p s m args meth c cX10_endOf 5 (some .int) RX10) (N : Nat) : ∀ (n : Nat) (x2 : Int32) (x3 : Int32) (x4 : Int32) (st : rs_T) (r : Int32) (s' : rs_T), fx_Md_endOf_b5 N n x2 x3 x4 st = some (r, s') → ∀ (H : Heap) (locs : List Loc) (ls : Array Slot), lv_has ls 5 [(0, .ref (h 0)), (2, .int x2), (3, .int x3), (4, .int x4)] → gdM D k h (arM h s.heap.size) s.heap H locs st → W p l e rm_Md_endOf s m args below meth c H locs 0 0 (MQ below (qIM D k h s.heap.size r s') args s 0 0 (arM h s.heap.size)) (F0 m 5 ls []) := by
  obtain ⟨hx, hb, hml, hr, hown, hts, hK, hN, hlk⟩ := id C
  intro n
  induction n with
  | zero => intro x2 x3 x4 st r s' hf; cases hf
  | succ n ih =>
    intro x2 x3 x4 st r s' hf H locs ls hl G
    rw [fx_Md_endOf_b5] at hf
    refine lv_iload_n hx hb dX10_endOf_5 rfl (lv_at hl 2 rfl) ?_
    refine lv_if_gt (tgt := 36) hx hb dX10_endOf_6 (by decide) (fun c1 => ?_) (fun c1 => ?_)
    · replace hf := if_p hf c1
      exact kx_Md_endOf_b36 C N (fx_Md_endOf_b5 N n) ih x2 x3 x4 st _ _ hf _ _ _ (lv_sub hl [0, 1, 2, 3] rfl) G
    · replace hf := if_n hf c1
      refine lv_aload_n hx hb dX10_endOf_9 rfl (lv_at hl 0 rfl) ?_
      refine fg_Md_op hx hb hts hown hK G (hts _ lk_X10_28) dX10_endOf_10 ?_
      refine lv_iload hx hb dX10_endOf_13 (lv_at hl 3 rfl) ?_
      obtain ⟨h_g10, hf⟩ := gd_some hf
      refine ra_IM (v := rA st 6 x4.toNatClampNeg) hx hb hK G (waM_7 ..) (t0 := 6) rfl rfl h_g10 dX10_endOf_15 ?_
      refine lv_bipush (v := 11) hx hb dX10_endOf_16 (by decide) ?_
      refine lv_icmp_eq (tgt := 79) hx hb dX10_endOf_18 (by decide) (fun c11 => ?_) (fun c11 => ?_)
      · replace hf := if_p hf c11
        refine lv_iload hx hb dX10_endOf_79 (lv_at hl 3 rfl) ?_
        exact rt_iM C G hf dX10_endOf_81
      · replace hf := if_n hf c11
        refine lv_iload_n hx hb dX10_endOf_21 rfl (lv_at hl 1 rfl) ?_
        refine lv_if_eq (tgt := 36) hx hb dX10_endOf_22 (by decide) (fun c12 => ?_) (fun c12 => ?_)
        · replace hf := if_p hf c12
          exact kx_Md_endOf_b36 C N (fx_Md_endOf_b5 N n) ih x2 x3 x4 st _ _ hf _ _ _ (lv_sub hl [0, 1, 2, 3] rfl) G
        · replace hf := if_n hf c12
          refine lv_aload_n hx hb dX10_endOf_25 rfl (lv_at hl 0 rfl) ?_
          refine fg_Md_op hx hb hts hown hK G (hts _ lk_X10_28) dX10_endOf_26 ?_
          refine lv_iload hx hb dX10_endOf_29 (lv_at hl 3 rfl) ?_
          obtain ⟨h_g13, hf⟩ := gd_some hf
          refine ra_IM (v := rA st 6 x4.toNatClampNeg) hx hb hK G (waM_7 ..) (t0 := 6) rfl rfl h_g13 dX10_endOf_31 ?_
          refine lv_iconst (v := 5) hx hb dX10_endOf_32 (by decide) ?_
          refine lv_icmp_eq (tgt := 79) hx hb dX10_endOf_33 (by decide) (fun c14 => ?_) (fun c14 => ?_)
          · replace hf := if_p hf c14
            refine lv_iload hx hb dX10_endOf_79 (lv_at hl 3 rfl) ?_
            exact rt_iM C G hf dX10_endOf_81
          · replace hf := if_n hf c14
            exact kx_Md_endOf_b36 C N (fx_Md_endOf_b5 N n) ih x2 x3 x4 st _ _ hf _ _ _ (lv_sub hl [0, 1, 2, 3] rfl) G
set_option maxHeartbeats 4000000 in
set_option maxRecDepth 100000 in
theorem kx_Md_endOf (l : Launch) (D : va_G) (k : Nat → ClassId) (h : Nat → Nat) (N : Nat) (p1 : Int32) (p2 : Int32) (st : rs_T) (r : Int32) (s' : rs_T) (hf : fx_Md_endOf N p1 p2 st = some (r, s')) : mIM l D k h yX10_endOf cX10_endOf 5 .int rm_Md_endOf [.ref (h 0), .int p1, .int p2] st r s' := by
  refine mIM_of (by decide) ⟨rfl, rfl⟩ (Nat.le_of_ble_eq_true rfl) ?_
  intro p e s m below meth c ls C hl G
  obtain ⟨hx, hb, hml, hr, hown, hts, hK, hN, hlk⟩ := id C
  have hown : s.vm.findClass RX10 = some m.cls := hown
  have hl : lv_has ls 5 [(0, .ref (h 0)), (1, .int p1), (2, .int p2)] := hl
  unfold fx_Md_endOf at hf
  refine lv_iconst (v := 0) hx hb dX10_endOf_0 (by decide) ?_
  refine lv_istore_n (lv' := [(3, .int 0), (0, .ref (h 0)), (1, .int p1), (2, .int p2)]) hx hb dX10_endOf_1 rfl hl (by decide) rfl (fun ls hl => ?_)
  refine lv_iload_n hx hb dX10_endOf_2 rfl (lv_at hl 2 rfl) ?_
  refine lv_istore (lv' := [(4, .int p1), (3, .int 0), (0, .ref (h 0)), (1, .int p1), (2, .int p2)]) hx hb dX10_endOf_3 hl (by decide) rfl (fun ls hl => ?_)
  exact kx_Md_endOf_b5 C N N p2 0 p1 st _ _ hf _ _ _ (lv_sub hl [2, 4, 1, 0] rfl) G
def rm_Md_pass : Room := { frames := 3, cells := 0, slots := 0, locals := 64 }
set_option maxHeartbeats 4000000 in
set_option maxRecDepth 100000 in
theorem kx_Md_pass_b157 {p : Program} {l : Launch} {e : Env} {s : State} {m : MethodId} {args : Array Value} {below : List Frame} {meth : Method} {c : Code} {D : va_G} {k : Nat → ClassId} {h : Nat → Nat} (C : cxM D k p s m args meth c cX10_pass 2 none RX10) (N : Nat) (rec0 : rs_T → Option (rs_T)) (ih0 : ∀ (st : rs_T) (s' : rs_T), rec0 st = some s' → ∀ (H : Heap) (locs : List Loc) (ls : Array Slot), lv_has ls 2 [(0, .ref (h 0))] → gdM D k h (arM h s.heap.size) s.heap H locs st → W p l e rm_Md_pass s m args below meth c H locs 0 0 (MQ below (qVM D k h s.heap.size s') args s 0 0 (arM h s.heap.size)) (F0 m 0 ls [])) (st : rs_T) (s' : rs_T) (hf : fx_Md_pass_b157 N rec0 st = some s') : ∀ (H : Heap) (locs : List Loc) (ls : Array Slot), lv_has ls 2 [(0, .ref (h 0))] → gdM D k h (arM h s.heap.size) s.heap H locs st → W p l e rm_Md_pass s m args below meth c H locs 0 0 (MQ below (qVM D k h s.heap.size s') args s 0 0 (arM h s.heap.size)) (F0 m 157 ls []) := by
  obtain ⟨hx, hb, hml, hr, hown, hts, hK, hN, hlk⟩ := id C
  intro H locs ls hl G
  unfold fx_Md_pass_b157 at hf
  refine lv_goto (tgt := 0) hx hb dX10_pass_157 (by decide) ?_
  exact ih0 st _ hf _ _ _ (lv_sub hl [0] rfl) G
set_option maxHeartbeats 4000000 in
set_option maxRecDepth 100000 in
theorem kx_Md_pass_b147 {p : Program} {l : Launch} {e : Env} {s : State} {m : MethodId} {args : Array Value} {below : List Frame} {meth : Method} {c : Code} {D : va_G} {k : Nat → ClassId} {h : Nat → Nat} (C : cxM D k p s m args meth c cX10_pass 2 none RX10) (N : Nat) (rec0 : rs_T → Option (rs_T)) (ih0 : ∀ (st : rs_T) (s' : rs_T), rec0 st = some s' → ∀ (H : Heap) (locs : List Loc) (ls : Array Slot), lv_has ls 2 [(0, .ref (h 0))] → gdM D k h (arM h s.heap.size) s.heap H locs st → W p l e rm_Md_pass s m args below meth c H locs 0 0 (MQ below (qVM D k h s.heap.size s') args s 0 0 (arM h s.heap.size)) (F0 m 0 ls [])) (st : rs_T) (s' : rs_T) (hf : fx_Md_pass_b147 N rec0 st = some s') : ∀ (H : Heap) (locs : List Loc) (ls : Array Slot), lv_has ls 2 [(0, .ref (h 0))] → gdM D k h (arM h s.heap.size) s.heap H locs st → W p l e rm_Md_pass s m args below meth c H locs 0 0 (MQ below (qVM D k h s.heap.size s') args s 0 0 (arM h s.heap.size)) (F0 m 147 ls []) := by
  obtain ⟨hx, hb, hml, hr, hown, hts, hK, hN, hlk⟩ := id C
  intro H locs ls hl G
  unfold fx_Md_pass_b147 at hf
  refine lv_aload_n hx hb dX10_pass_147 rfl (lv_at hl 0 rfl) ?_
  refine lv_dup hx hb dX10_pass_148 rfl ?_
  refine fg_Md_at (v := rI st 15) hx hb hts hown hK G (hts _ lk_X10_212) rfl dX10_pass_149 ?_
  refine lv_iconst (v := 1) hx hb dX10_pass_152 (by decide) ?_
  refine lv_iadd hx hb dX10_pass_153 ?_
  refine fp_Md_at hx hb hts hown hK G (hts _ lk_X10_212) dX10_pass_154 (fun H locs G => ?_)
  exact kx_Md_pass_b157 C N rec0 ih0 (wI st 15 ((rI st 15) + 1)) _ hf _ _ _ (lv_sub hl [0] rfl) G
set_option maxHeartbeats 4000000 in
set_option maxRecDepth 100000 in
theorem kx_Md_pass_b61 {p : Program} {l : Launch} {e : Env} {s : State} {m : MethodId} {args : Array Value} {below : List Frame} {meth : Method} {c : Code} {D : va_G} {k : Nat → ClassId} {h : Nat → Nat} (C : cxM D k p s m args meth c cX10_pass 2 none RX10) (N : Nat) (rec0 : rs_T → Option (rs_T)) (ih0 : ∀ (st : rs_T) (s' : rs_T), rec0 st = some s' → ∀ (H : Heap) (locs : List Loc) (ls : Array Slot), lv_has ls 2 [(0, .ref (h 0))] → gdM D k h (arM h s.heap.size) s.heap H locs st → W p l e rm_Md_pass s m args below meth c H locs 0 0 (MQ below (qVM D k h s.heap.size s') args s 0 0 (arM h s.heap.size)) (F0 m 0 ls [])) (st : rs_T) (s' : rs_T) (hf : fx_Md_pass_b61 N rec0 st = some s') : ∀ (H : Heap) (locs : List Loc) (ls : Array Slot), lv_has ls 2 [(0, .ref (h 0))] → gdM D k h (arM h s.heap.size) s.heap H locs st → W p l e rm_Md_pass s m args below meth c H locs 0 0 (MQ below (qVM D k h s.heap.size s') args s 0 0 (arM h s.heap.size)) (F0 m 61 ls []) := by
  obtain ⟨hx, hb, hml, hr, hown, hts, hK, hN, hlk⟩ := id C
  intro H locs ls hl G
  unfold fx_Md_pass_b61 at hf
  refine lv_aload_n hx hb dX10_pass_61 rfl (lv_at hl 0 rfl) ?_
  refine fg_Md_function hx hb hts hown hK G (hts _ lk_X10_79) dX10_pass_62 ?_
  refine lv_aload_n hx hb dX10_pass_65 rfl (lv_at hl 0 rfl) ?_
  refine fg_Md_frames (v := rI st 12) hx hb hts hown hK G (hts _ lk_X10_190) rfl dX10_pass_66 ?_
  refine lv_iconst (v := 1) hx hb dX10_pass_69 (by decide) ?_
  refine lv_isub hx hb dX10_pass_70 ?_
  obtain ⟨h_g4, hf⟩ := gd_some hf
  refine ra_IM (v := rA st 18 (((rI st 12) - 1).toNatClampNeg)) hx hb hK G (waM_22 ..) (t0 := 21) rfl rfl h_g4 dX10_pass_71 ?_
  refine lv_topi (fun v5 e_v5 => ?_)
  replace hf := bd_some hf v5 e_v5
  refine lv_istore_n (lv' := [(1, .int v5), (0, .ref (h 0))]) hx hb dX10_pass_72 rfl hl (by decide) rfl (fun ls hl => ?_)
  refine lv_aload_n hx hb dX10_pass_73 rfl (lv_at hl 1 rfl) ?_
  refine fg_Md_op hx hb hts hown hK G (hts _ lk_X10_28) dX10_pass_74 ?_
  refine lv_aload_n hx hb dX10_pass_77 rfl (lv_at hl 1 rfl) ?_
  refine fg_Md_at (v := rI st 15) hx hb hts hown hK G (hts _ lk_X10_212) rfl dX10_pass_78 ?_
  obtain ⟨h_g6, hf⟩ := gd_some hf
  refine ra_IM (v := rA st 6 ((rI st 15).toNatClampNeg)) hx hb hK G (waM_7 ..) (t0 := 6) rfl rfl h_g6 dX10_pass_81 ?_
  refine lv_iconst (v := 5) hx hb dX10_pass_82 (by decide) ?_
  refine lv_icmp_ne (tgt := 104) hx hb dX10_pass_83 (by decide) (fun c7 => ?_) (fun c7 => ?_)
  · replace hf := if_n hf c7
    refine lv_aload_n hx hb dX10_pass_104 rfl (lv_at hl 1 rfl) ?_
    refine fg_Md_op hx hb hts hown hK G (hts _ lk_X10_28) dX10_pass_105 ?_
    refine lv_aload_n hx hb dX10_pass_108 rfl (lv_at hl 1 rfl) ?_
    refine fg_Md_at (v := rI st 15) hx hb hts hown hK G (hts _ lk_X10_212) rfl dX10_pass_109 ?_
    obtain ⟨h_g8, hf⟩ := gd_some hf
    refine ra_IM (v := rA st 6 ((rI st 15).toNatClampNeg)) hx hb hK G (waM_7 ..) (t0 := 6) rfl rfl h_g8 dX10_pass_112 ?_
    refine lv_bipush (v := 11) hx hb dX10_pass_113 (by decide) ?_
    refine lv_icmp_ne (tgt := 147) hx hb dX10_pass_115 (by decide) (fun c9 => ?_) (fun c9 => ?_)
    · replace hf := if_n hf c9
      exact kx_Md_pass_b147 C N rec0 ih0 st _ hf _ _ _ (lv_sub hl [1] rfl) G
    · replace hf := if_p hf c9
      refine lv_aload_n hx hb dX10_pass_118 rfl (lv_at hl 1 rfl) ?_
      refine fg_Md_at (v := rI st 15) hx hb hts hown hK G (hts _ lk_X10_212) rfl dX10_pass_119 ?_
      refine lv_aload_n hx hb dX10_pass_122 rfl (lv_at hl 1 rfl) ?_
      refine fg_Md_start hx hb hts hown hK G (hts _ lk_X10_7) dX10_pass_123 ?_
      refine lv_iload_n hx hb dX10_pass_126 rfl (lv_at hl 0 rfl) ?_
      obtain ⟨h_g10, hf⟩ := gd_some hf
      refine ra_IM (v := rA st 0 v5.toNatClampNeg) hx hb hK G (waM_1 ..) (t0 := 0) rfl rfl h_g10 dX10_pass_127 ?_
      refine lv_aload_n hx hb dX10_pass_128 rfl (lv_at hl 1 rfl) ?_
      refine fg_Md_length hx hb hts hown hK G (hts _ lk_X10_13) dX10_pass_129 ?_
      refine lv_iload_n hx hb dX10_pass_132 rfl (lv_at hl 0 rfl) ?_
      obtain ⟨h_g11, hf⟩ := gd_some hf
      refine ra_IM (v := rA st 1 v5.toNatClampNeg) hx hb hK G (waM_2 ..) (t0 := 1) rfl rfl h_g11 dX10_pass_133 ?_
      refine lv_iadd hx hb dX10_pass_134 ?_
      refine lv_iconst (v := 1) hx hb dX10_pass_135 (by decide) ?_
      refine lv_isub hx hb dX10_pass_136 ?_
      refine lv_icmp_ne (tgt := 147) hx hb dX10_pass_137 (by decide) (fun c12 => ?_) (fun c12 => ?_)
      · replace hf := if_n hf c12
        exact kx_Md_pass_b147 C N rec0 ih0 st _ hf _ _ _ (lv_sub hl [1] rfl) G
      · replace hf := if_p hf c12
        refine lv_aload_n hx hb dX10_pass_140 rfl (lv_at hl 1 rfl) ?_
        obtain ⟨st13, hst13, hf⟩ := bv_some hf
        refine cl_vvM C hl G (As := []) (rest := []) (kx_Md_back l D k h N st _ hst13) gi_X10_229 (hwM_0 ..) rfl hd_X10_back ⟨Nat.le_of_ble_eq_true rfl, Nat.le_of_ble_eq_true rfl⟩ rfl rfl (Nat.le_of_ble_eq_true rfl) dX10_pass_141 (fun H locs G => ?_)
        refine lv_goto (tgt := 157) hx hb dX10_pass_144 (by decide) ?_
        exact kx_Md_pass_b157 C N rec0 ih0 st13 _ hf _ _ _ (lv_sub hl [1] rfl) G
  · replace hf := if_p hf c7
    refine lv_aload_n hx hb dX10_pass_86 rfl (lv_at hl 1 rfl) ?_
    refine lv_aload_n hx hb dX10_pass_87 rfl (lv_at hl 1 rfl) ?_
    refine lv_aload_n hx hb dX10_pass_88 rfl (lv_at hl 1 rfl) ?_
    refine fg_Md_at (v := rI st 15) hx hb hts hown hK G (hts _ lk_X10_212) rfl dX10_pass_89 ?_
    refine lv_iconst (v := 1) hx hb dX10_pass_92 (by decide) ?_
    refine lv_iadd hx hb dX10_pass_93 ?_
    refine lv_iconst (v := 0) hx hb dX10_pass_94 (by decide) ?_
    obtain ⟨r15, st14, hst14, hf⟩ := bn_some hf
    refine cl_viM C hl G (As := [.int ((rI st 15) + 1), .int 0]) (rest := [.ref (h 0)]) (kx_Md_endOf l D k h N ((rI st 15) + 1) 0 st _ _ hst14) gi_X10_225 (hwM_0 ..) rfl hd_X10_endOf ⟨Nat.le_of_ble_eq_true rfl, Nat.le_of_ble_eq_true rfl⟩ rfl rfl (Nat.le_of_ble_eq_true rfl) dX10_pass_95 (fun H locs G => ?_)
    refine fp_Md_at hx hb hts hown hK G (hts _ lk_X10_212) dX10_pass_98 (fun H locs G => ?_)
    refine lv_goto (tgt := 157) hx hb dX10_pass_101 (by decide) ?_
    exact kx_Md_pass_b157 C N rec0 ih0 (wI st14 15 r15) _ hf _ _ _ (lv_sub hl [1] rfl) G
set_option maxHeartbeats 4000000 in
set_option maxRecDepth 100000 in
theorem kx_Md_pass_b0 {p : Program} {l : Launch} {e : Env} {s : State} {m : MethodId} {args : Array Value} {below : List Frame} {meth : Method} {c : Code} {D : va_G} {k : Nat → ClassId} {h : Nat → Nat} (C : cxM D k p s m args meth c cX10_pass 2 none RX10) (N : Nat) : ∀ (n : Nat) (st : rs_T) (s' : rs_T), fx_Md_pass_b0 N n st = some s' → ∀ (H : Heap) (locs : List Loc) (ls : Array Slot), lv_has ls 2 [(0, .ref (h 0))] → gdM D k h (arM h s.heap.size) s.heap H locs st → W p l e rm_Md_pass s m args below meth c H locs 0 0 (MQ below (qVM D k h s.heap.size s') args s 0 0 (arM h s.heap.size)) (F0 m 0 ls []) := by
  obtain ⟨hx, hb, hml, hr, hown, hts, hK, hN, hlk⟩ := id C
  intro n
  induction n with
  | zero => intro st s' hf; cases hf
  | succ n ih =>
    intro st s' hf H locs ls hl G
    rw [fx_Md_pass_b0] at hf
    refine lv_aload_n hx hb dX10_pass_0 rfl (lv_at hl 0 rfl) ?_
    refine fg_Md_state (v := rI st 9) hx hb hts hown hK G (hts _ lk_X10_215) rfl dX10_pass_1 ?_
    refine lv_iconst (v := 1) hx hb dX10_pass_4 (by decide) ?_
    refine lv_icmp_ne (tgt := 160) hx hb dX10_pass_5 (by decide) (fun c1 => ?_) (fun c1 => ?_)
    · replace hf := if_n hf c1
      exact rt_vM C G hf dX10_pass_160
    · replace hf := if_p hf c1
      refine lv_aload_n hx hb dX10_pass_8 rfl (lv_at hl 0 rfl) ?_
      refine fg_Md_op hx hb hts hown hK G (hts _ lk_X10_28) dX10_pass_9 ?_
      refine lv_aload_n hx hb dX10_pass_12 rfl (lv_at hl 0 rfl) ?_
      refine fg_Md_at (v := rI st 15) hx hb hts hown hK G (hts _ lk_X10_212) rfl dX10_pass_13 ?_
      obtain ⟨h_g2, hf⟩ := gd_some hf
      refine ra_IM (v := rA st 6 ((rI st 15).toNatClampNeg)) hx hb hK G (waM_7 ..) (t0 := 6) rfl rfl h_g2 dX10_pass_16 ?_
      refine lv_iconst (v := 2) hx hb dX10_pass_17 (by decide) ?_
      refine lv_icmp_eq (tgt := 61) hx hb dX10_pass_18 (by decide) (fun c3 => ?_) (fun c3 => ?_)
      · replace hf := if_p hf c3
        exact kx_Md_pass_b61 C N (fx_Md_pass_b0 N n) ih st _ hf _ _ _ (lv_sub hl [0] rfl) G
      · replace hf := if_n hf c3
        refine lv_aload_n hx hb dX10_pass_21 rfl (lv_at hl 0 rfl) ?_
        refine fg_Md_op hx hb hts hown hK G (hts _ lk_X10_28) dX10_pass_22 ?_
        refine lv_aload_n hx hb dX10_pass_25 rfl (lv_at hl 0 rfl) ?_
        refine fg_Md_at (v := rI st 15) hx hb hts hown hK G (hts _ lk_X10_212) rfl dX10_pass_26 ?_
        obtain ⟨h_g16, hf⟩ := gd_some hf
        refine ra_IM (v := rA st 6 ((rI st 15).toNatClampNeg)) hx hb hK G (waM_7 ..) (t0 := 6) rfl rfl h_g16 dX10_pass_29 ?_
        refine lv_iconst (v := 3) hx hb dX10_pass_30 (by decide) ?_
        refine lv_icmp_eq (tgt := 61) hx hb dX10_pass_31 (by decide) (fun c17 => ?_) (fun c17 => ?_)
        · replace hf := if_p hf c17
          exact kx_Md_pass_b61 C N (fx_Md_pass_b0 N n) ih st _ hf _ _ _ (lv_sub hl [0] rfl) G
        · replace hf := if_n hf c17
          refine lv_aload_n hx hb dX10_pass_34 rfl (lv_at hl 0 rfl) ?_
          refine fg_Md_op hx hb hts hown hK G (hts _ lk_X10_28) dX10_pass_35 ?_
          refine lv_aload_n hx hb dX10_pass_38 rfl (lv_at hl 0 rfl) ?_
          refine fg_Md_at (v := rI st 15) hx hb hts hown hK G (hts _ lk_X10_212) rfl dX10_pass_39 ?_
          obtain ⟨h_g18, hf⟩ := gd_some hf
          refine ra_IM (v := rA st 6 ((rI st 15).toNatClampNeg)) hx hb hK G (waM_7 ..) (t0 := 6) rfl rfl h_g18 dX10_pass_42 ?_
          refine lv_iconst (v := 5) hx hb dX10_pass_43 (by decide) ?_
          refine lv_icmp_eq (tgt := 61) hx hb dX10_pass_44 (by decide) (fun c19 => ?_) (fun c19 => ?_)
          · replace hf := if_p hf c19
            exact kx_Md_pass_b61 C N (fx_Md_pass_b0 N n) ih st _ hf _ _ _ (lv_sub hl [0] rfl) G
          · replace hf := if_n hf c19
            refine lv_aload_n hx hb dX10_pass_47 rfl (lv_at hl 0 rfl) ?_
            refine fg_Md_op hx hb hts hown hK G (hts _ lk_X10_28) dX10_pass_48 ?_
            refine lv_aload_n hx hb dX10_pass_51 rfl (lv_at hl 0 rfl) ?_
            refine fg_Md_at (v := rI st 15) hx hb hts hown hK G (hts _ lk_X10_212) rfl dX10_pass_52 ?_
            obtain ⟨h_g20, hf⟩ := gd_some hf
            refine ra_IM (v := rA st 6 ((rI st 15).toNatClampNeg)) hx hb hK G (waM_7 ..) (t0 := 6) rfl rfl h_g20 dX10_pass_55 ?_
            refine lv_bipush (v := 11) hx hb dX10_pass_56 (by decide) ?_
            refine lv_icmp_ne (tgt := 160) hx hb dX10_pass_58 (by decide) (fun c21 => ?_) (fun c21 => ?_)
            · replace hf := if_n hf c21
              exact rt_vM C G hf dX10_pass_160
            · replace hf := if_p hf c21
              exact kx_Md_pass_b61 C N (fx_Md_pass_b0 N n) ih st _ hf _ _ _ (lv_sub hl [0] rfl) G
set_option maxHeartbeats 4000000 in
set_option maxRecDepth 100000 in
theorem kx_Md_pass (l : Launch) (D : va_G) (k : Nat → ClassId) (h : Nat → Nat) (N : Nat) (st : rs_T) (s' : rs_T) (hf : fx_Md_pass N st = some s') : mVM l D k h yX10_pass cX10_pass 2 rm_Md_pass [.ref (h 0)] st s' := by
  refine mVM_of (by decide) ⟨rfl, rfl⟩ (Nat.le_of_ble_eq_true rfl) ?_
  intro p e s m below meth c ls C hl G
  obtain ⟨hx, hb, hml, hr, hown, hts, hK, hN, hlk⟩ := id C
  have hown : s.vm.findClass RX10 = some m.cls := hown
  have hl : lv_has ls 2 [(0, .ref (h 0))] := hl
  unfold fx_Md_pass at hf
  exact kx_Md_pass_b0 C N N st _ hf _ _ _ (lv_sub hl [0] rfl) G
