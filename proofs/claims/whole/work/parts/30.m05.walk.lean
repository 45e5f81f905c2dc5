def rm_Md_work : Room := { frames := 1, cells := 0, slots := 0, locals := 22 }
set_option maxHeartbeats 4000000 in
set_option maxRecDepth 100000 in
theorem kx_Md_work_b43 {p : Program} {l : Launch} {e : Env} {s : State} {m : MethodId} {args : Array Value} {below : List Frame} {meth : Method} {c : Code} {D : va_G} {k : Nat → ClassId} {h : Nat → Nat} (C : cxM D k p s m args meth c cX10_work 10 none RX10) (y0 : Int32) (st : rs_T) (s' : rs_T) (hf : fx_Md_work_b43 y0 st = some s') : ∀ (H : Heap) (locs : List Loc) (ls : Array Slot), lv_has ls 10 [] → gdM D k h (arM h s.heap.size) s.heap H locs st → W p l e rm_Md_work s m args below meth c H locs 0 0 (MQ below (qVM D k h s.heap.size s') args s 0 0 (arM h s.heap.size)) (F0 m 43 ls [.int y0, .ref (h 0)]) := by
  obtain ⟨hx, hb, hml, hr, hown, hts, hK, hN, hlk⟩ := id C
  intro H locs ls hl G
  unfold fx_Md_work_b43 at hf
  obtain ⟨r7, st6, hst6, hf⟩ := bn_some hf
  refine cl_slM C hl G (As := [.int y0]) (rest := [.ref (h 0)]) (kx_Md_truth l D k h y0 st _ _ hst6) gi_X10_264 hd_X10_truth ⟨Nat.le_of_ble_eq_true rfl, Nat.le_of_ble_eq_true rfl⟩ rfl rfl (Nat.le_of_ble_eq_true rfl) dX10_work_43 (fun H locs G => ?_)
  obtain ⟨st8, hst8, hf⟩ := bv_some hf
  refine cl_vvM C hl G (As := [.long r7]) (rest := []) (kx_Md_push l D k h r7 st6 _ hst8) gi_X10_221 (hwM_0 ..) rfl hd_X10_push ⟨Nat.le_of_ble_eq_true rfl, Nat.le_of_ble_eq_true rfl⟩ rfl rfl (Nat.le_of_ble_eq_true rfl) dX10_work_46 (fun H locs G => ?_)
  exact rt_vM C G hf dX10_work_49
set_option maxHeartbeats 4000000 in
set_option maxRecDepth 100000 in
theorem kx_Md_work_b33 {p : Program} {l : Launch} {e : Env} {s : State} {m : MethodId} {args : Array Value} {below : List Frame} {meth : Method} {c : Code} {D : va_G} {k : Nat → ClassId} {h : Nat → Nat} (C : cxM D k p s m args meth c cX10_work 10 none RX10) (y0 : Int64) (st : rs_T) (s' : rs_T) (hf : fx_Md_work_b33 y0 st = some s') : ∀ (H : Heap) (locs : List Loc) (ls : Array Slot), lv_has ls 10 [] → gdM D k h (arM h s.heap.size) s.heap H locs st → W p l e rm_Md_work s m args below meth c H locs 0 0 (MQ below (qVM D k h s.heap.size s') args s 0 0 (arM h s.heap.size)) (F0 m 33 ls [.long y0, .ref (h 0)]) := by
  obtain ⟨hx, hb, hml, hr, hown, hts, hK, hN, hlk⟩ := id C
  intro H locs ls hl G
  unfold fx_Md_work_b33 at hf
  refine lv_lconst (v := 0) hx hb dX10_work_33 (by decide) ?_
  refine W.lcmp hx hb dX10_work_34 ?_
  refine lv_if_ne (tgt := 42) hx hb dX10_work_35 (by decide) (fun c5 => ?_) (fun c5 => ?_)
  · replace hf := if_n hf c5
    refine lv_iconst (v := 0) hx hb dX10_work_42 (by decide) ?_
    exact kx_Md_work_b43 C 0 st _ hf _ _ _ (lv_sub hl [] rfl) G
  · replace hf := if_p hf c5
    refine lv_iconst (v := 1) hx hb dX10_work_38 (by decide) ?_
    refine lv_goto (tgt := 43) hx hb dX10_work_39 (by decide) ?_
    exact kx_Md_work_b43 C 1 st _ hf _ _ _ (lv_sub hl [] rfl) G
set_option maxHeartbeats 4000000 in
set_option maxRecDepth 100000 in
theorem kx_Md_work_b12 {p : Program} {l : Launch} {e : Env} {s : State} {m : MethodId} {args : Array Value} {below : List Frame} {meth : Method} {c : Code} {D : va_G} {k : Nat → ClassId} {h : Nat → Nat} (C : cxM D k p s m args meth c cX10_work 10 none RX10) (x1 : Int32) (st : rs_T) (s' : rs_T) (hf : fx_Md_work_b12 x1 st = some s') : ∀ (H : Heap) (locs : List Loc) (ls : Array Slot), lv_has ls 10 [(0, .ref (h 0)), (1, .int x1)] → gdM D k h (arM h s.heap.size) s.heap H locs st → W p l e rm_Md_work s m args below meth c H locs 0 0 (MQ below (qVM D k h s.heap.size s') args s 0 0 (arM h s.heap.size)) (F0 m 12 ls []) := by
  obtain ⟨hx, hb, hml, hr, hown, hts, hK, hN, hlk⟩ := id C
  intro H locs ls hl G
  unfold fx_Md_work_b12 at hf
  refine lv_aload_n hx hb dX10_work_12 rfl (lv_at hl 0 rfl) ?_
  obtain ⟨r3, st2, hst2, hf⟩ := bn_some hf
  refine cl_vlM C hl G (As := []) (rest := []) (kx_Md_pop l D k h st _ _ hst2) gi_X10_243 (hwM_0 ..) rfl hd_X10_pop ⟨Nat.le_of_ble_eq_true rfl, Nat.le_of_ble_eq_true rfl⟩ rfl rfl (Nat.le_of_ble_eq_true rfl) dX10_work_13 (fun H locs G => ?_)
  refine lv_lstore_n (lv' := [(2, .long r3), (0, .ref (h 0)), (1, .int x1)]) hx hb dX10_work_16 rfl hl (by decide) rfl (fun ls hl => ?_)
  refine lv_aload_n hx hb dX10_work_17 rfl (lv_at hl 1 rfl) ?_
  refine lv_iload_n hx hb dX10_work_18 rfl (lv_at hl 2 rfl) ?_
  refine lv_bipush (v := 69) hx hb dX10_work_19 (by decide) ?_
  refine lv_icmp_ne (tgt := 32) hx hb dX10_work_21 (by decide) (fun c4 => ?_) (fun c4 => ?_)
  · replace hf := if_n hf c4
    refine lv_lload_n hx hb dX10_work_32 rfl (lv_at hl 0 rfl) ?_
    exact kx_Md_work_b33 C r3 st2 _ hf _ _ _ (lv_sub hl [] rfl) G
  · replace hf := if_p hf c4
    refine lv_lload_n hx hb dX10_work_24 rfl (lv_at hl 0 rfl) ?_
    refine lv_ldc2 (v := 4294967295) hx hb hown (hts _ lk_X10_241) dX10_work_25 ?_
    refine lv_land hx hb dX10_work_28 ?_
    refine lv_goto (tgt := 33) hx hb dX10_work_29 (by decide) ?_
    exact kx_Md_work_b33 C (r3 &&& 4294967295) st2 _ hf _ _ _ (lv_sub hl [] rfl) G
set_option maxHeartbeats 4000000 in
set_option maxRecDepth 100000 in
theorem kx_Md_work_b64 {p : Program} {l : Launch} {e : Env} {s : State} {m : MethodId} {args : Array Value} {below : List Frame} {meth : Method} {c : Code} {D : va_G} {k : Nat → ClassId} {h : Nat → Nat} (C : cxM D k p s m args meth c cX10_work 10 none RX10) (st : rs_T) (s' : rs_T) (hf : fx_Md_work_b64 st = some s') : ∀ (H : Heap) (locs : List Loc) (ls : Array Slot), lv_has ls 10 [(0, .ref (h 0))] → gdM D k h (arM h s.heap.size) s.heap H locs st → W p l e rm_Md_work s m args below meth c H locs 0 0 (MQ below (qVM D k h s.heap.size s') args s 0 0 (arM h s.heap.size)) (F0 m 64 ls []) := by
  obtain ⟨hx, hb, hml, hr, hown, hts, hK, hN, hlk⟩ := id C
  intro H locs ls hl G
  unfold fx_Md_work_b64 at hf
  refine lv_aload_n hx hb dX10_work_64 rfl (lv_at hl 0 rfl) ?_
  refine lv_aload_n hx hb dX10_work_65 rfl (lv_at hl 0 rfl) ?_
  obtain ⟨r12, st11, hst11, hf⟩ := bn_some hf
  refine cl_vlM C hl G (As := []) (rest := [.ref (h 0)]) (kx_Md_pop l D k h st _ _ hst11) gi_X10_243 (hwM_0 ..) rfl hd_X10_pop ⟨Nat.le_of_ble_eq_true rfl, Nat.le_of_ble_eq_true rfl⟩ rfl rfl (Nat.le_of_ble_eq_true rfl) dX10_work_66 (fun H locs G => ?_)
  refine lv_ldc2 (v := 4294967295) hx hb hown (hts _ lk_X10_241) dX10_work_69 ?_
  refine lv_land hx hb dX10_work_72 ?_
  obtain ⟨st13, hst13, hf⟩ := bv_some hf
  refine cl_vvM C hl G (As := [.long (r12 &&& 4294967295)]) (rest := []) (kx_Md_push l D k h (r12 &&& 4294967295) st11 _ hst13) gi_X10_221 (hwM_0 ..) rfl hd_X10_push ⟨Nat.le_of_ble_eq_true rfl, Nat.le_of_ble_eq_true rfl⟩ rfl rfl (Nat.le_of_ble_eq_true rfl) dX10_work_73 (fun H locs G => ?_)
  exact rt_vM C G hf dX10_work_76
set_option maxHeartbeats 4000000 in
set_option maxRecDepth 100000 in
theorem kx_Md_work_b358 {p : Program} {l : Launch} {e : Env} {s : State} {m : MethodId} {args : Array Value} {below : List Frame} {meth : Method} {c : Code} {D : va_G} {k : Nat → ClassId} {h : Nat → Nat} (C : cxM D k p s m args meth c cX10_work 10 none RX10) (y0 : Int32) (st : rs_T) (s' : rs_T) (hf : fx_Md_work_b358 y0 st = some s') : ∀ (H : Heap) (locs : List Loc) (ls : Array Slot), lv_has ls 10 [] → gdM D k h (arM h s.heap.size) s.heap H locs st → W p l e rm_Md_work s m args below meth c H locs 0 0 (MQ below (qVM D k h s.heap.size s') args s 0 0 (arM h s.heap.size)) (F0 m 358 ls [.int y0, .ref (h 0)]) := by
  obtain ⟨hx, hb, hml, hr, hown, hts, hK, hN, hlk⟩ := id C
  intro H locs ls hl G
  unfold fx_Md_work_b358 at hf
  obtain ⟨r24, st23, hst23, hf⟩ := bn_some hf
  refine cl_slM C hl G (As := [.int y0]) (rest := [.ref (h 0)]) (kx_Md_truth l D k h y0 st _ _ hst23) gi_X10_264 hd_X10_truth ⟨Nat.le_of_ble_eq_true rfl, Nat.le_of_ble_eq_true rfl⟩ rfl rfl (Nat.le_of_ble_eq_true rfl) dX10_work_358 (fun H locs G => ?_)
  obtain ⟨st25, hst25, hf⟩ := bv_some hf
  refine cl_vvM C hl G (As := [.long r24]) (rest := []) (kx_Md_push l D k h r24 st23 _ hst25) gi_X10_221 (hwM_0 ..) rfl hd_X10_push ⟨Nat.le_of_ble_eq_true rfl, Nat.le_of_ble_eq_true rfl⟩ rfl rfl (Nat.le_of_ble_eq_true rfl) dX10_work_361 (fun H locs G => ?_)
  refine lv_goto (tgt := 619) hx hb dX10_work_364 (by decide) ?_
  exact rt_vM C G hf dX10_work_619
set_option maxHeartbeats 4000000 in
set_option maxRecDepth 100000 in
theorem kx_Md_work_b381 {p : Program} {l : Launch} {e : Env} {s : State} {m : MethodId} {args : Array Value} {below : List Frame} {meth : Method} {c : Code} {D : va_G} {k : Nat → ClassId} {h : Nat → Nat} (C : cxM D k p s m args meth c cX10_work 10 none RX10) (y0 : Int32) (st : rs_T) (s' : rs_T) (hf : fx_Md_work_b381 y0 st = some s') : ∀ (H : Heap) (locs : List Loc) (ls : Array Slot), lv_has ls 10 [] → gdM D k h (arM h s.heap.size) s.heap H locs st → W p l e rm_Md_work s m args below meth c H locs 0 0 (MQ below (qVM D k h s.heap.size s') args s 0 0 (arM h s.heap.size)) (F0 m 381 ls [.int y0, .ref (h 0)]) := by
  obtain ⟨hx, hb, hml, hr, hown, hts, hK, hN, hlk⟩ := id C
  intro H locs ls hl G
  unfold fx_Md_work_b381 at hf
  obtain ⟨r28, st27, hst27, hf⟩ := bn_some hf
  refine cl_slM C hl G (As := [.int y0]) (rest := [.ref (h 0)]) (kx_Md_truth l D k h y0 st _ _ hst27) gi_X10_264 hd_X10_truth ⟨Nat.le_of_ble_eq_true rfl, Nat.le_of_ble_eq_true rfl⟩ rfl rfl (Nat.le_of_ble_eq_true rfl) dX10_work_381 (fun H locs G => ?_)
  obtain ⟨st29, hst29, hf⟩ := bv_some hf
  refine cl_vvM C hl G (As := [.long r28]) (rest := []) (kx_Md_push l D k h r28 st27 _ hst29) gi_X10_221 (hwM_0 ..) rfl hd_X10_push ⟨Nat.le_of_ble_eq_true rfl, Nat.le_of_ble_eq_true rfl⟩ rfl rfl (Nat.le_of_ble_eq_true rfl) dX10_work_384 (fun H locs G => ?_)
  refine lv_goto (tgt := 619) hx hb dX10_work_387 (by decide) ?_
  exact rt_vM C G hf dX10_work_619
set_option maxHeartbeats 4000000 in
set_option maxRecDepth 100000 in
theorem kx_Md_work_b404 {p : Program} {l : Launch} {e : Env} {s : State} {m : MethodId} {args : Array Value} {below : List Frame} {meth : Method} {c : Code} {D : va_G} {k : Nat → ClassId} {h : Nat → Nat} (C : cxM D k p s m args meth c cX10_work 10 none RX10) (y0 : Int32) (st : rs_T) (s' : rs_T) (hf : fx_Md_work_b404 y0 st = some s') : ∀ (H : Heap) (locs : List Loc) (ls : Array Slot), lv_has ls 10 [] → gdM D k h (arM h s.heap.size) s.heap H locs st → W p l e rm_Md_work s m args below meth c H locs 0 0 (MQ below (qVM D k h s.heap.size s') args s 0 0 (arM h s.heap.size)) (F0 m 404 ls [.int y0, .ref (h 0)]) := by
  obtain ⟨hx, hb, hml, hr, hown, hts, hK, hN, hlk⟩ := id C
  intro H locs ls hl G
  unfold fx_Md_work_b404 at hf
  obtain ⟨r32, st31, hst31, hf⟩ := bn_some hf
  refine cl_slM C hl G (As := [.int y0]) (rest := [.ref (h 0)]) (kx_Md_truth l D k h y0 st _ _ hst31) gi_X10_264 hd_X10_truth ⟨Nat.le_of_ble_eq_true rfl, Nat.le_of_ble_eq_true rfl⟩ rfl rfl (Nat.le_of_ble_eq_true rfl) dX10_work_404 (fun H locs G => ?_)
  obtain ⟨st33, hst33, hf⟩ := bv_some hf
  refine cl_vvM C hl G (As := [.long r32]) (rest := []) (kx_Md_push l D k h r32 st31 _ hst33) gi_X10_221 (hwM_0 ..) rfl hd_X10_push ⟨Nat.le_of_ble_eq_true rfl, Nat.le_of_ble_eq_true rfl⟩ rfl rfl (Nat.le_of_ble_eq_true rfl) dX10_work_407 (fun H locs G => ?_)
  refine lv_goto (tgt := 619) hx hb dX10_work_410 (by decide) ?_
  exact rt_vM C G hf dX10_work_619
set_option maxHeartbeats 4000000 in
set_option maxRecDepth 100000 in
theorem kx_Md_work_b427 {p : Program} {l : Launch} {e : Env} {s : State} {m : MethodId} {args : Array Value} {below : List Frame} {meth : Method} {c : Code} {D : va_G} {k : Nat → ClassId} {h : Nat → Nat} (C : cxM D k p s m args meth c cX10_work 10 none RX10) (y0 : Int32) (st : rs_T) (s' : rs_T) (hf : fx_Md_work_b427 y0 st = some s') : ∀ (H : Heap) (locs : List Loc) (ls : Array Slot), lv_has ls 10 [] → gdM D k h (arM h s.heap.size) s.heap H locs st → W p l e rm_Md_work s m args below meth c H locs 0 0 (MQ below (qVM D k h s.heap.size s') args s 0 0 (arM h s.heap.size)) (F0 m 427 ls [.int y0, .ref (h 0)]) := by
  obtain ⟨hx, hb, hml, hr, hown, hts, hK, hN, hlk⟩ := id C
  intro H locs ls hl G
  unfold fx_Md_work_b427 at hf
  obtain ⟨r36, st35, hst35, hf⟩ := bn_some hf
  refine cl_slM C hl G (As := [.int y0]) (rest := [.ref (h 0)]) (kx_Md_truth l D k h y0 st _ _ hst35) gi_X10_264 hd_X10_truth ⟨Nat.le_of_ble_eq_true rfl, Nat.le_of_ble_eq_true rfl⟩ rfl rfl (Nat.le_of_ble_eq_true rfl) dX10_work_427 (fun H locs G => ?_)
  obtain ⟨st37, hst37, hf⟩ := bv_some hf
  refine cl_vvM C hl G (As := [.long r36]) (rest := []) (kx_Md_push l D k h r36 st35 _ hst37) gi_X10_221 (hwM_0 ..) rfl hd_X10_push ⟨Nat.le_of_ble_eq_true rfl, Nat.le_of_ble_eq_true rfl⟩ rfl rfl (Nat.le_of_ble_eq_true rfl) dX10_work_430 (fun H locs G => ?_)
  refine lv_goto (tgt := 619) hx hb dX10_work_433 (by decide) ?_
  exact rt_vM C G hf dX10_work_619
set_option maxHeartbeats 4000000 in
set_option maxRecDepth 100000 in
theorem kx_Md_work_b449 {p : Program} {l : Launch} {e : Env} {s : State} {m : MethodId} {args : Array Value} {below : List Frame} {meth : Method} {c : Code} {D : va_G} {k : Nat → ClassId} {h : Nat → Nat} (C : cxM D k p s m args meth c cX10_work 10 none RX10) (y0 : Int32) (st : rs_T) (s' : rs_T) (hf : fx_Md_work_b449 y0 st = some s') : ∀ (H : Heap) (locs : List Loc) (ls : Array Slot), lv_has ls 10 [] → gdM D k h (arM h s.heap.size) s.heap H locs st → W p l e rm_Md_work s m args below meth c H locs 0 0 (MQ below (qVM D k h s.heap.size s') args s 0 0 (arM h s.heap.size)) (F0 m 449 ls [.int y0, .ref (h 0)]) := by
  obtain ⟨hx, hb, hml, hr, hown, hts, hK, hN, hlk⟩ := id C
  intro H locs ls hl G
  unfold fx_Md_work_b449 at hf
  obtain ⟨r40, st39, hst39, hf⟩ := bn_some hf
  refine cl_slM C hl G (As := [.int y0]) (rest := [.ref (h 0)]) (kx_Md_truth l D k h y0 st _ _ hst39) gi_X10_264 hd_X10_truth ⟨Nat.le_of_ble_eq_true rfl, Nat.le_of_ble_eq_true rfl⟩ rfl rfl (Nat.le_of_ble_eq_true rfl) dX10_work_449 (fun H locs G => ?_)
  obtain ⟨st41, hst41, hf⟩ := bv_some hf
  refine cl_vvM C hl G (As := [.long r40]) (rest := []) (kx_Md_push l D k h r40 st39 _ hst41) gi_X10_221 (hwM_0 ..) rfl hd_X10_push ⟨Nat.le_of_ble_eq_true rfl, Nat.le_of_ble_eq_true rfl⟩ rfl rfl (Nat.le_of_ble_eq_true rfl) dX10_work_452 (fun H locs G => ?_)
  refine lv_goto (tgt := 619) hx hb dX10_work_455 (by decide) ?_
  exact rt_vM C G hf dX10_work_619
set_option maxHeartbeats 4000000 in
set_option maxRecDepth 100000 in
theorem kx_Md_work_b471 {p : Program} {l : Launch} {e : Env} {s : State} {m : MethodId} {args : Array Value} {below : List Frame} {meth : Method} {c : Code} {D : va_G} {k : Nat → ClassId} {h : Nat → Nat} (C : cxM D k p s m args meth c cX10_work 10 none RX10) (y0 : Int32) (st : rs_T) (s' : rs_T) (hf : fx_Md_work_b471 y0 st = some s') : ∀ (H : Heap) (locs : List Loc) (ls : Array Slot), lv_has ls 10 [] → gdM D k h (arM h s.heap.size) s.heap H locs st → W p l e rm_Md_work s m args below meth c H locs 0 0 (MQ below (qVM D k h s.heap.size s') args s 0 0 (arM h s.heap.size)) (F0 m 471 ls [.int y0, .ref (h 0)]) := by
  obtain ⟨hx, hb, hml, hr, hown, hts, hK, hN, hlk⟩ := id C
  intro H locs ls hl G
  unfold fx_Md_work_b471 at hf
  obtain ⟨r44, st43, hst43, hf⟩ := bn_some hf
  refine cl_slM C hl G (As := [.int y0]) (rest := [.ref (h 0)]) (kx_Md_truth l D k h y0 st _ _ hst43) gi_X10_264 hd_X10_truth ⟨Nat.le_of_ble_eq_true rfl, Nat.le_of_ble_eq_true rfl⟩ rfl rfl (Nat.le_of_ble_eq_true rfl) dX10_work_471 (fun H locs G => ?_)
  obtain ⟨st45, hst45, hf⟩ := bv_some hf
  refine cl_vvM C hl G (As := [.long r44]) (rest := []) (kx_Md_push l D k h r44 st43 _ hst45) gi_X10_221 (hwM_0 ..) rfl hd_X10_push ⟨Nat.le_of_ble_eq_true rfl, Nat.le_of_ble_eq_true rfl⟩ rfl rfl (Nat.le_of_ble_eq_true rfl) dX10_work_474 (fun H locs G => ?_)
  refine lv_goto (tgt := 619) hx hb dX10_work_477 (by decide) ?_
  exact rt_vM C G hf dX10_work_619
set_option maxHeartbeats 4000000 in
set_option maxRecDepth 100000 in
theorem kx_Md_work (l : Launch) (D : va_G) (k : Nat → ClassId) (h : Nat → Nat) (p1 : Int32) (st : rs_T) (s' : rs_T) (hf : fx_Md_work p1 st = some s') : mVM l D k h yX10_work cX10_work 10 rm_Md_work [.ref (h 0), .int p1] st s' := by
  refine mVM_of (by decide) ⟨rfl, rfl⟩ (Nat.le_of_ble_eq_true rfl) ?_
  intro p e s m below meth c ls C hl G
  obtain ⟨hx, hb, hml, hr, hown, hts, hK, hN, hlk⟩ := id C
  have hown : s.vm.findClass RX10 = some m.cls := hown
  have hl : lv_has ls 10 [(0, .ref (h 0)), (1, .int p1)] := hl
  unfold fx_Md_work at hf
  refine lv_iload_n hx hb dX10_work_0 rfl (lv_at hl 1 rfl) ?_
  refine lv_bipush (v := 69) hx hb dX10_work_1 (by decide) ?_
  refine lv_icmp_eq (tgt := 12) hx hb dX10_work_3 (by decide) (fun c1 => ?_) (fun c1 => ?_)
  · replace hf := if_p hf c1
    exact kx_Md_work_b12 C p1 st _ hf _ _ _ (lv_sub hl [0, 1] rfl) G
  · replace hf := if_n hf c1
    refine lv_iload_n hx hb dX10_work_6 rfl (lv_at hl 1 rfl) ?_
    refine lv_bipush (v := 80) hx hb dX10_work_7 (by decide) ?_
    refine lv_icmp_ne (tgt := 50) hx hb dX10_work_9 (by decide) (fun c9 => ?_) (fun c9 => ?_)
    · replace hf := if_n hf c9
      refine lv_iload_n hx hb dX10_work_50 rfl (lv_at hl 1 rfl) ?_
      refine lv_sipush (v := 167) hx hb dX10_work_51 (by decide) ?_
      refine lv_icmp_eq (tgt := 64) hx hb dX10_work_54 (by decide) (fun c10 => ?_) (fun c10 => ?_)
      · replace hf := if_p hf c10
        exact kx_Md_work_b64 C st _ hf _ _ _ (lv_sub hl [0] rfl) G
      · replace hf := if_n hf c10
        refine lv_iload_n hx hb dX10_work_57 rfl (lv_at hl 1 rfl) ?_
        refine lv_sipush (v := 173) hx hb dX10_work_58 (by decide) ?_
        refine lv_icmp_ne (tgt := 77) hx hb dX10_work_61 (by decide) (fun c14 => ?_) (fun c14 => ?_)
        · replace hf := if_n hf c14
          refine lv_aload_n hx hb dX10_work_77 rfl (lv_at hl 0 rfl) ?_
          obtain ⟨r16, st15, hst15, hf⟩ := bn_some hf
          refine cl_vlM C hl G (As := []) (rest := []) (kx_Md_pop l D k h st _ _ hst15) gi_X10_243 (hwM_0 ..) rfl hd_X10_pop ⟨Nat.le_of_ble_eq_true rfl, Nat.le_of_ble_eq_true rfl⟩ rfl rfl (Nat.le_of_ble_eq_true rfl) dX10_work_78 (fun H locs G => ?_)
          refine lv_lstore_n (lv' := [(2, .long r16), (0, .ref (h 0)), (1, .int p1)]) hx hb dX10_work_81 rfl hl (by decide) rfl (fun ls hl => ?_)
          refine lv_aload_n hx hb dX10_work_82 rfl (lv_at hl 1 rfl) ?_
          obtain ⟨r18, st17, hst17, hf⟩ := bn_some hf
          refine cl_vlM C hl G (As := []) (rest := []) (kx_Md_pop l D k h st15 _ _ hst17) gi_X10_243 (hwM_0 ..) rfl hd_X10_pop ⟨Nat.le_of_ble_eq_true rfl, Nat.le_of_ble_eq_true rfl⟩ rfl rfl (Nat.le_of_ble_eq_true rfl) dX10_work_83 (fun H locs G => ?_)
          refine lv_lstore (lv' := [(4, .long r18), (2, .long r16), (0, .ref (h 0)), (1, .int p1)]) hx hb dX10_work_86 hl (by decide) rfl (fun ls hl => ?_)
          refine lv_lload hx hb dX10_work_88 (lv_at hl 0 rfl) ?_
          refine lv_ldc2 (v := 4294967295) hx hb hown (hts _ lk_X10_241) dX10_work_90 ?_
          refine lv_land hx hb dX10_work_93 ?_
          refine lv_topl (fun v19 e_v19 => ?_)
          replace hf := bd_some hf v19 e_v19
          refine lv_lstore (lv' := [(6, .long v19), (4, .long r18), (2, .long r16), (0, .ref (h 0)), (1, .int p1)]) hx hb dX10_work_94 hl (by decide) rfl (fun ls hl => ?_)
          refine lv_lload_n hx hb dX10_work_96 rfl (lv_at hl 2 rfl) ?_
          refine lv_ldc2 (v := 4294967295) hx hb hown (hts _ lk_X10_241) dX10_work_97 ?_
          refine lv_land hx hb dX10_work_100 ?_
          refine lv_topl (fun v20 e_v20 => ?_)
          replace hf := bd_some hf v20 e_v20
          refine lv_lstore (lv' := [(8, .long v20), (6, .long v19), (4, .long r18), (2, .long r16), (0, .ref (h 0)), (1, .int p1)]) hx hb dX10_work_101 hl (by decide) rfl (fun ls hl => ?_)
          refine lv_iload_n hx hb dX10_work_103 rfl (lv_at hl 5 rfl) ?_
          by_cases s21_0 : p1 ∈ ([70] : List Int32)
          · replace hf := if_p hf s21_0
            refine sw_tb (tgt := 344) (off := 240) hx hb dX10_work_104 (sw_tbt s21_0 (by decide)) (by decide) (by decide) ?_
            refine lv_aload_n hx hb dX10_work_344 rfl (lv_at hl 4 rfl) ?_
            refine lv_lload hx hb dX10_work_345 (lv_at hl 1 rfl) ?_
            refine lv_lload hx hb dX10_work_347 (lv_at hl 0 rfl) ?_
            refine W.lcmp hx hb dX10_work_349 ?_
            refine lv_if_ne (tgt := 357) hx hb dX10_work_350 (by decide) (fun c22 => ?_) (fun c22 => ?_)
            · replace hf := if_n hf c22
              refine lv_iconst (v := 0) hx hb dX10_work_357 (by decide) ?_
              exact kx_Md_work_b358 C 0 st17 _ hf _ _ _ (lv_sub hl [] rfl) G
            · replace hf := if_p hf c22
              refine lv_iconst (v := 1) hx hb dX10_work_353 (by decide) ?_
              refine lv_goto (tgt := 358) hx hb dX10_work_354 (by decide) ?_
              exact kx_Md_work_b358 C 1 st17 _ hf _ _ _ (lv_sub hl [] rfl) G
          replace hf := if_n hf s21_0
          by_cases s21_1 : p1 ∈ ([71] : List Int32)
          · replace hf := if_p hf s21_1
            refine sw_tb (tgt := 367) (off := 263) hx hb dX10_work_104 (sw_tbt s21_1 (by decide)) (by decide) (by decide) ?_
            refine lv_aload_n hx hb dX10_work_367 rfl (lv_at hl 4 rfl) ?_
            refine lv_lload hx hb dX10_work_368 (lv_at hl 1 rfl) ?_
            refine lv_lload hx hb dX10_work_370 (lv_at hl 0 rfl) ?_
            refine W.lcmp hx hb dX10_work_372 ?_
            refine lv_if_eq (tgt := 380) hx hb dX10_work_373 (by decide) (fun c26 => ?_) (fun c26 => ?_)
            · replace hf := if_p hf c26
              refine lv_iconst (v := 0) hx hb dX10_work_380 (by decide) ?_
              exact kx_Md_work_b381 C 0 st17 _ hf _ _ _ (lv_sub hl [] rfl) G
            · replace hf := if_n hf c26
              refine lv_iconst (v := 1) hx hb dX10_work_376 (by decide) ?_
              refine lv_goto (tgt := 381) hx hb dX10_work_377 (by decide) ?_
              exact kx_Md_work_b381 C 1 st17 _ hf _ _ _ (lv_sub hl [] rfl) G
          replace hf := if_n hf s21_1
          by_cases s21_2 : p1 ∈ ([72] : List Int32)
          · replace hf := if_p hf s21_2
            refine sw_tb (tgt := 390) (off := 286) hx hb dX10_work_104 (sw_tbt s21_2 (by decide)) (by decide) (by decide) ?_
            refine lv_aload_n hx hb dX10_work_390 rfl (lv_at hl 4 rfl) ?_
            refine lv_lload hx hb dX10_work_391 (lv_at hl 2 rfl) ?_
            refine lv_l2i (v := r18.toInt32) hx hb dX10_work_393 rfl ?_
            refine lv_lload_n hx hb dX10_work_394 rfl (lv_at hl 3 rfl) ?_
            refine lv_l2i (v := r16.toInt32) hx hb dX10_work_395 rfl ?_
            refine lv_icmp_ge (tgt := 403) hx hb dX10_work_396 (by decide) (fun c30 => ?_) (fun c30 => ?_)
            · replace hf := if_p hf c30
              refine lv_iconst (v := 0) hx hb dX10_work_403 (by decide) ?_
              exact kx_Md_work_b404 C 0 st17 _ hf _ _ _ (lv_sub hl [] rfl) G
            · replace hf := if_n hf c30
              refine lv_iconst (v := 1) hx hb dX10_work_399 (by decide) ?_
              refine lv_goto (tgt := 404) hx hb dX10_work_400 (by decide) ?_
              exact kx_Md_work_b404 C 1 st17 _ hf _ _ _ (lv_sub hl [] rfl) G
          replace hf := if_n hf s21_2
          by_cases s21_3 : p1 ∈ ([73] : List Int32)
          · replace hf := if_p hf s21_3
            refine sw_tb (tgt := 413) (off := 309) hx hb dX10_work_104 (sw_tbt s21_3 (by decide)) (by decide) (by decide) ?_
            refine lv_aload_n hx hb dX10_work_413 rfl (lv_at hl 4 rfl) ?_
            refine lv_lload hx hb dX10_work_414 (lv_at hl 1 rfl) ?_
            refine lv_lload hx hb dX10_work_416 (lv_at hl 0 rfl) ?_
            refine W.lcmp hx hb dX10_work_418 ?_
            refine lv_if_ge (tgt := 426) hx hb dX10_work_419 (by decide) (fun c34 => ?_) (fun c34 => ?_)
            · replace hf := if_p hf c34
              refine lv_iconst (v := 0) hx hb dX10_work_426 (by decide) ?_
              exact kx_Md_work_b427 C 0 st17 _ hf _ _ _ (lv_sub hl [] rfl) G
            · replace hf := if_n hf c34
              refine lv_iconst (v := 1) hx hb dX10_work_422 (by decide) ?_
              refine lv_goto (tgt := 427) hx hb dX10_work_423 (by decide) ?_
              exact kx_Md_work_b427 C 1 st17 _ hf _ _ _ (lv_sub hl [] rfl) G
          replace hf := if_n hf s21_3
          by_cases s21_4 : p1 ∈ ([81] : List Int32)
          · replace hf := if_p hf s21_4
            refine sw_tb (tgt := 436) (off := 332) hx hb dX10_work_104 (sw_tbt s21_4 (by decide)) (by decide) (by decide) ?_
            refine lv_aload_n hx hb dX10_work_436 rfl (lv_at hl 4 rfl) ?_
            refine lv_lload hx hb dX10_work_437 (lv_at hl 2 rfl) ?_
            refine lv_lload_n hx hb dX10_work_439 rfl (lv_at hl 3 rfl) ?_
            refine W.lcmp hx hb dX10_work_440 ?_
            refine lv_if_ne (tgt := 448) hx hb dX10_work_441 (by decide) (fun c38 => ?_) (fun c38 => ?_)
            · replace hf := if_n hf c38
              refine lv_iconst (v := 0) hx hb dX10_work_448 (by decide) ?_
              exact kx_Md_work_b449 C 0 st17 _ hf _ _ _ (lv_sub hl [] rfl) G
            · replace hf := if_p hf c38
              refine lv_iconst (v := 1) hx hb dX10_work_444 (by decide) ?_
              refine lv_goto (tgt := 449) hx hb dX10_work_445 (by decide) ?_
              exact kx_Md_work_b449 C 1 st17 _ hf _ _ _ (lv_sub hl [] rfl) G
          replace hf := if_n hf s21_4
          by_cases s21_5 : p1 ∈ ([83] : List Int32)
          · replace hf := if_p hf s21_5
            refine sw_tb (tgt := 458) (off := 354) hx hb dX10_work_104 (sw_tbt s21_5 (by decide)) (by decide) (by decide) ?_
            refine lv_aload_n hx hb dX10_work_458 rfl (lv_at hl 4 rfl) ?_
            refine lv_lload hx hb dX10_work_459 (lv_at hl 2 rfl) ?_
            refine lv_lload_n hx hb dX10_work_461 rfl (lv_at hl 3 rfl) ?_
            refine W.lcmp hx hb dX10_work_462 ?_
            refine lv_if_ge (tgt := 470) hx hb dX10_work_463 (by decide) (fun c42 => ?_) (fun c42 => ?_)
            · replace hf := if_p hf c42
              refine lv_iconst (v := 0) hx hb dX10_work_470 (by decide) ?_
              exact kx_Md_work_b471 C 0 st17 _ hf _ _ _ (lv_sub hl [] rfl) G
            · replace hf := if_n hf c42
              refine lv_iconst (v := 1) hx hb dX10_work_466 (by decide) ?_
              refine lv_goto (tgt := 471) hx hb dX10_work_467 (by decide) ?_
              exact kx_Md_work_b471 C 1 st17 _ hf _ _ _ (lv_sub hl [] rfl) G
          replace hf := if_n hf s21_5
          by_cases s21_6 : p1 ∈ ([106] : List Int32)
          · replace hf := if_p hf s21_6
            refine sw_tb (tgt := 480) (off := 376) hx hb dX10_work_104 (sw_tbt s21_6 (by decide)) (by decide) (by decide) ?_
            refine lv_aload_n hx hb dX10_work_480 rfl (lv_at hl 4 rfl) ?_
            refine lv_lload hx hb dX10_work_481 (lv_at hl 1 rfl) ?_
            refine lv_lload hx hb dX10_work_483 (lv_at hl 0 rfl) ?_
            refine lv_ladd hx hb dX10_work_485 ?_
            refine lv_ldc2 (v := 4294967295) hx hb hown (hts _ lk_X10_241) dX10_work_486 ?_
            refine lv_land hx hb dX10_work_489 ?_
            obtain ⟨st46, hst46, hf⟩ := bv_some hf
            refine cl_vvM C hl G (As := [.long ((v19 + v20) &&& 4294967295)]) (rest := []) (kx_Md_push l D k h ((v19 + v20) &&& 4294967295) st17 _ hst46) gi_X10_221 (hwM_0 ..) rfl hd_X10_push ⟨Nat.le_of_ble_eq_true rfl, Nat.le_of_ble_eq_true rfl⟩ rfl rfl (Nat.le_of_ble_eq_true rfl) dX10_work_490 (fun H locs G => ?_)
            refine lv_goto (tgt := 619) hx hb dX10_work_493 (by decide) ?_
            exact rt_vM C G hf dX10_work_619
          replace hf := if_n hf s21_6
          by_cases s21_7 : p1 ∈ ([107] : List Int32)
          · replace hf := if_p hf s21_7
            refine sw_tb (tgt := 496) (off := 392) hx hb dX10_work_104 (sw_tbt s21_7 (by decide)) (by decide) (by decide) ?_
            refine lv_aload_n hx hb dX10_work_496 rfl (lv_at hl 4 rfl) ?_
            refine lv_lload hx hb dX10_work_497 (lv_at hl 1 rfl) ?_
            refine lv_lload hx hb dX10_work_499 (lv_at hl 0 rfl) ?_
            refine lv_lsub hx hb dX10_work_501 ?_
            refine lv_ldc2 (v := 4294967295) hx hb hown (hts _ lk_X10_241) dX10_work_502 ?_
            refine lv_land hx hb dX10_work_505 ?_
            obtain ⟨st47, hst47, hf⟩ := bv_some hf
            refine cl_vvM C hl G (As := [.long ((v19 - v20) &&& 4294967295)]) (rest := []) (kx_Md_push l D k h ((v19 - v20) &&& 4294967295) st17 _ hst47) gi_X10_221 (hwM_0 ..) rfl hd_X10_push ⟨Nat.le_of_ble_eq_true rfl, Nat.le_of_ble_eq_true rfl⟩ rfl rfl (Nat.le_of_ble_eq_true rfl) dX10_work_506 (fun H locs G => ?_)
            refine lv_goto (tgt := 619) hx hb dX10_work_509 (by decide) ?_
            exact rt_vM C G hf dX10_work_619
          replace hf := if_n hf s21_7
          by_cases s21_8 : p1 ∈ ([108] : List Int32)
          · replace hf := if_p hf s21_8
            refine sw_tb (tgt := 512) (off := 408) hx hb dX10_work_104 (sw_tbt s21_8 (by decide)) (by decide) (by decide) ?_
            refine lv_aload_n hx hb dX10_work_512 rfl (lv_at hl 4 rfl) ?_
            refine lv_lload hx hb dX10_work_513 (lv_at hl 1 rfl) ?_
            refine lv_lload hx hb dX10_work_515 (lv_at hl 0 rfl) ?_
            refine lv_lmul hx hb dX10_work_517 ?_
            refine lv_ldc2 (v := 4294967295) hx hb hown (hts _ lk_X10_241) dX10_work_518 ?_
            refine lv_land hx hb dX10_work_521 ?_
            obtain ⟨st48, hst48, hf⟩ := bv_some hf
            refine cl_vvM C hl G (As := [.long ((v19 * v20) &&& 4294967295)]) (rest := []) (kx_Md_push l D k h ((v19 * v20) &&& 4294967295) st17 _ hst48) gi_X10_221 (hwM_0 ..) rfl hd_X10_push ⟨Nat.le_of_ble_eq_true rfl, Nat.le_of_ble_eq_true rfl⟩ rfl rfl (Nat.le_of_ble_eq_true rfl) dX10_work_522 (fun H locs G => ?_)
            refine lv_goto (tgt := 619) hx hb dX10_work_525 (by decide) ?_
            exact rt_vM C G hf dX10_work_619
          replace hf := if_n hf s21_8
          by_cases s21_9 : p1 ∈ ([110] : List Int32)
          · replace hf := if_p hf s21_9
            refine sw_tb (tgt := 528) (off := 424) hx hb dX10_work_104 (sw_tbt s21_9 (by decide)) (by decide) (by decide) ?_
            refine lv_lload hx hb dX10_work_528 (lv_at hl 0 rfl) ?_
            refine lv_lconst (v := 0) hx hb dX10_work_530 (by decide) ?_
            refine W.lcmp hx hb dX10_work_531 ?_
            refine lv_if_ne (tgt := 544) hx hb dX10_work_532 (by decide) (fun c49 => ?_) (fun c49 => ?_)
            · replace hf := if_n hf c49
              refine lv_aload_n hx hb dX10_work_544 rfl (lv_at hl 4 rfl) ?_
              refine lv_lload hx hb dX10_work_545 (lv_at hl 1 rfl) ?_
              refine lv_lload hx hb dX10_work_547 (lv_at hl 0 rfl) ?_
              obtain ⟨h_g50, hf⟩ := gzl_some hf
              refine lv_ldiv hx hb dX10_work_549 h_g50 ?_
              obtain ⟨st51, hst51, hf⟩ := bv_some hf
              refine cl_vvM C hl G (As := [.long (v19 / v20)]) (rest := []) (kx_Md_push l D k h (v19 / v20) st17 _ hst51) gi_X10_221 (hwM_0 ..) rfl hd_X10_push ⟨Nat.le_of_ble_eq_true rfl, Nat.le_of_ble_eq_true rfl⟩ rfl rfl (Nat.le_of_ble_eq_true rfl) dX10_work_550 (fun H locs G => ?_)
              refine lv_goto (tgt := 619) hx hb dX10_work_553 (by decide) ?_
              exact rt_vM C G hf dX10_work_619
            · replace hf := if_p hf c49
              refine lv_aload_n hx hb dX10_work_535 rfl (lv_at hl 4 rfl) ?_
              refine lv_bipush (v := 11) hx hb dX10_work_536 (by decide) ?_
              obtain ⟨st52, hst52, hf⟩ := bv_some hf
              refine cl_vvM C hl G (As := [.int 11]) (rest := []) (kx_Md_traps l D k h 11 st17 _ hst52) gi_X10_249 (hwM_0 ..) rfl hd_X10_traps ⟨Nat.le_of_ble_eq_true rfl, Nat.le_of_ble_eq_true rfl⟩ rfl rfl (Nat.le_of_ble_eq_true rfl) dX10_work_538 (fun H locs G => ?_)
              refine lv_goto (tgt := 619) hx hb dX10_work_541 (by decide) ?_
              exact rt_vM C G hf dX10_work_619
          replace hf := if_n hf s21_9
          by_cases s21_10 : p1 ∈ ([113] : List Int32)
          · replace hf := if_p hf s21_10
            refine sw_tb (tgt := 556) (off := 452) hx hb dX10_work_104 (sw_tbt s21_10 (by decide)) (by decide) (by decide) ?_
            refine lv_aload_n hx hb dX10_work_556 rfl (lv_at hl 4 rfl) ?_
            refine lv_lload hx hb dX10_work_557 (lv_at hl 1 rfl) ?_
            refine lv_lload hx hb dX10_work_559 (lv_at hl 0 rfl) ?_
            refine lv_land hx hb dX10_work_561 ?_
            obtain ⟨st53, hst53, hf⟩ := bv_some hf
            refine cl_vvM C hl G (As := [.long (v19 &&& v20)]) (rest := []) (kx_Md_push l D k h (v19 &&& v20) st17 _ hst53) gi_X10_221 (hwM_0 ..) rfl hd_X10_push ⟨Nat.le_of_ble_eq_true rfl, Nat.le_of_ble_eq_true rfl⟩ rfl rfl (Nat.le_of_ble_eq_true rfl) dX10_work_562 (fun H locs G => ?_)
            refine lv_goto (tgt := 619) hx hb dX10_work_565 (by decide) ?_
            exact rt_vM C G hf dX10_work_619
          replace hf := if_n hf s21_10
          by_cases s21_11 : p1 ∈ ([116] : List Int32)
          · replace hf := if_p hf s21_11
            refine sw_tb (tgt := 568) (off := 464) hx hb dX10_work_104 (sw_tbt s21_11 (by decide)) (by decide) (by decide) ?_
            refine lv_aload_n hx hb dX10_work_568 rfl (lv_at hl 4 rfl) ?_
            refine lv_lload hx hb dX10_work_569 (lv_at hl 1 rfl) ?_
            refine lv_lload hx hb dX10_work_571 (lv_at hl 0 rfl) ?_
            refine lv_ldc2 (v := 31) hx hb hown (hts _ lk_X10_268) dX10_work_573 ?_
            refine lv_land hx hb dX10_work_576 ?_
            refine lv_l2i (v := (v20 &&& 31).toInt32) hx hb dX10_work_577 rfl ?_
            refine lv_lshl (v := v19 <<< (((v20 &&& 31).toInt32).toInt64 &&& 63)) hx hb dX10_work_578 rfl ?_
            refine lv_ldc2 (v := 4294967295) hx hb hown (hts _ lk_X10_241) dX10_work_579 ?_
            refine lv_land hx hb dX10_work_582 ?_
            obtain ⟨st54, hst54, hf⟩ := bv_some hf
            refine cl_vvM C hl G (As := [.long ((v19 <<< (((v20 &&& 31).toInt32).toInt64 &&& 63)) &&& 4294967295)]) (rest := []) (kx_Md_push l D k h ((v19 <<< (((v20 &&& 31).toInt32).toInt64 &&& 63)) &&& 4294967295) st17 _ hst54) gi_X10_221 (hwM_0 ..) rfl hd_X10_push ⟨Nat.le_of_ble_eq_true rfl, Nat.le_of_ble_eq_true rfl⟩ rfl rfl (Nat.le_of_ble_eq_true rfl) dX10_work_583 (fun H locs G => ?_)
            refine lv_goto (tgt := 619) hx hb dX10_work_586 (by decide) ?_
            exact rt_vM C G hf dX10_work_619
          replace hf := if_n hf s21_11
          by_cases s21_12 : p1 ∈ ([124] : List Int32)
          · replace hf := if_p hf s21_12
            refine sw_tb (tgt := 589) (off := 485) hx hb dX10_work_104 (sw_tbt s21_12 (by decide)) (by decide) (by decide) ?_
            refine lv_aload_n hx hb dX10_work_589 rfl (lv_at hl 4 rfl) ?_
            refine lv_lload hx hb dX10_work_590 (lv_at hl 2 rfl) ?_
            refine lv_lload_n hx hb dX10_work_592 rfl (lv_at hl 3 rfl) ?_
            refine lv_ladd hx hb dX10_work_593 ?_
            obtain ⟨st55, hst55, hf⟩ := bv_some hf
            refine cl_vvM C hl G (As := [.long (r18 + r16)]) (rest := []) (kx_Md_push l D k h (r18 + r16) st17 _ hst55) gi_X10_221 (hwM_0 ..) rfl hd_X10_push ⟨Nat.le_of_ble_eq_true rfl, Nat.le_of_ble_eq_true rfl⟩ rfl rfl (Nat.le_of_ble_eq_true rfl) dX10_work_594 (fun H locs G => ?_)
            refine lv_goto (tgt := 619) hx hb dX10_work_597 (by decide) ?_
            exact rt_vM C G hf dX10_work_619
          replace hf := if_n hf s21_12
          by_cases s21_13 : p1 ∈ ([125] : List Int32)
          · replace hf := if_p hf s21_13
            refine sw_tb (tgt := 600) (off := 496) hx hb dX10_work_104 (sw_tbt s21_13 (by decide)) (by decide) (by decide) ?_
            refine lv_aload_n hx hb dX10_work_600 rfl (lv_at hl 4 rfl) ?_
            refine lv_lload hx hb dX10_work_601 (lv_at hl 2 rfl) ?_
            refine lv_lload_n hx hb dX10_work_603 rfl (lv_at hl 3 rfl) ?_
            refine lv_lsub hx hb dX10_work_604 ?_
            obtain ⟨st56, hst56, hf⟩ := bv_some hf
            refine cl_vvM C hl G (As := [.long (r18 - r16)]) (rest := []) (kx_Md_push l D k h (r18 - r16) st17 _ hst56) gi_X10_221 (hwM_0 ..) rfl hd_X10_push ⟨Nat.le_of_ble_eq_true rfl, Nat.le_of_ble_eq_true rfl⟩ rfl rfl (Nat.le_of_ble_eq_true rfl) dX10_work_605 (fun H locs G => ?_)
            refine lv_goto (tgt := 619) hx hb dX10_work_608 (by decide) ?_
            exact rt_vM C G hf dX10_work_619
          replace hf := if_n hf s21_13
          refine sw_tb (tgt := 611) (off := 507) hx hb dX10_work_104 (sw_tbd (sw_cons s21_0 (sw_cons s21_1 (sw_cons s21_2 (sw_cons s21_3 (sw_cons s21_4 (sw_cons s21_5 (sw_cons s21_6 (sw_cons s21_7 (sw_cons s21_8 (sw_cons s21_9 (sw_cons s21_10 (sw_cons s21_11 (sw_cons s21_12 (sw_cons s21_13 sw_nil)))))))))))))) (by decide)) (by decide) (by decide) ?_
          refine lv_aload_n hx hb dX10_work_611 rfl (lv_at hl 4 rfl) ?_
          refine lv_lload hx hb dX10_work_612 (lv_at hl 2 rfl) ?_
          refine lv_lload_n hx hb dX10_work_614 rfl (lv_at hl 3 rfl) ?_
          refine lv_lmul hx hb dX10_work_615 ?_
          obtain ⟨st57, hst57, hf⟩ := bv_some hf
          refine cl_vvM C hl G (As := [.long (r18 * r16)]) (rest := []) (kx_Md_push l D k h (r18 * r16) st17 _ hst57) gi_X10_221 (hwM_0 ..) rfl hd_X10_push ⟨Nat.le_of_ble_eq_true rfl, Nat.le_of_ble_eq_true rfl⟩ rfl rfl (Nat.le_of_ble_eq_true rfl) dX10_work_616 (fun H locs G => ?_)
          exact rt_vM C G hf dX10_work_619
        · replace hf := if_p hf c14
          exact kx_Md_work_b64 C st _ hf _ _ _ (lv_sub hl [0] rfl) G
    · replace hf := if_p hf c9
      exact kx_Md_work_b12 C p1 st _ hf _ _ _ (lv_sub hl [0, 1] rfl) G
def rm_Md_grow : Room := { frames := 1, cells := 0, slots := 0, locals := 22 }
set_option maxHeartbeats 4000000 in
set_option maxRecDepth 100000 in
theorem kx_Md_grow_b63 {p : Program} {l : Launch} {e : Env} {s : State} {m : MethodId} {args : Array Value} {below : List Frame} {meth : Method} {c : Code} {D : va_G} {k : Nat → ClassId} {h : Nat → Nat} (C : cxM D k p s m args meth c cX10_grow 4 none RX10) (y0 : Int32) (y1 : Int32) (st : rs_T) (s' : rs_T) (hf : fx_Md_grow_b63 y0 y1 st = some s') : ∀ (H : Heap) (locs : List Loc) (ls : Array Slot), lv_has ls 4 [] → gdM D k h (arM h s.heap.size) s.heap H locs st → W p l e rm_Md_grow s m args below meth c H locs 0 0 (MQ below (qVM D k h s.heap.size s') args s 0 0 (arM h s.heap.size)) (F0 m 63 ls [.int y0, .int y1, .ref (h 0)]) := by
  obtain ⟨hx, hb, hml, hr, hown, hts, hK, hN, hlk⟩ := id C
  intro H locs ls hl G
  unfold fx_Md_grow_b63 at hf
  refine lv_iadd hx hb dX10_grow_63 ?_
  refine fp_Md_pages hx hb hts hown hK G (hts _ lk_X10_69) dX10_grow_64 (fun H locs G => ?_)
  exact rt_vM C G hf dX10_grow_67
set_option maxHeartbeats 4000000 in
set_option maxRecDepth 100000 in
theorem kx_Md_grow_b45 {p : Program} {l : Launch} {e : Env} {s : State} {m : MethodId} {args : Array Value} {below : List Frame} {meth : Method} {c : Code} {D : va_G} {k : Nat → ClassId} {h : Nat → Nat} (C : cxM D k p s m args meth c cX10_grow 4 none RX10) (x1 : Int64) (x3 : Int32) (y0 : Int64) (st : rs_T) (s' : rs_T) (hf : fx_Md_grow_b45 x1 x3 y0 st = some s') : ∀ (H : Heap) (locs : List Loc) (ls : Array Slot), lv_has ls 4 [(0, .ref (h 0)), (1, .long x1), (3, .int x3)] → gdM D k h (arM h s.heap.size) s.heap H locs st → W p l e rm_Md_grow s m args below meth c H locs 0 0 (MQ below (qVM D k h s.heap.size s') args s 0 0 (arM h s.heap.size)) (F0 m 45 ls [.long y0, .ref (h 0)]) := by
  obtain ⟨hx, hb, hml, hr, hown, hts, hK, hN, hlk⟩ := id C
  intro H locs ls hl G
  unfold fx_Md_grow_b45 at hf
  obtain ⟨st6, hst6, hf⟩ := bv_some hf
  refine cl_vvM C hl G (As := [.long y0]) (rest := []) (kx_Md_push l D k h y0 st _ hst6) gi_X10_221 (hwM_0 ..) rfl hd_X10_push ⟨Nat.le_of_ble_eq_true rfl, Nat.le_of_ble_eq_true rfl⟩ rfl rfl (Nat.le_of_ble_eq_true rfl) dX10_grow_45 (fun H locs G => ?_)
  refine lv_aload_n hx hb dX10_grow_48 rfl (lv_at hl 0 rfl) ?_
  refine lv_dup hx hb dX10_grow_49 rfl ?_
  refine fg_Md_pages (v := rI st6 7) hx hb hts hown hK G (hts _ lk_X10_69) rfl dX10_grow_50 ?_
  refine lv_iload_n hx hb dX10_grow_53 rfl (lv_at hl 2 rfl) ?_
  refine lv_if_eq (tgt := 62) hx hb dX10_grow_54 (by decide) (fun c7 => ?_) (fun c7 => ?_)
  · replace hf := if_p hf c7
    refine lv_iconst (v := 0) hx hb dX10_grow_62 (by decide) ?_
    exact kx_Md_grow_b63 C 0 (rI st6 7) st6 _ hf _ _ _ (lv_sub hl [] rfl) G
  · replace hf := if_n hf c7
    refine lv_lload_n hx hb dX10_grow_57 rfl (lv_at hl 1 rfl) ?_
    refine lv_l2i (v := x1.toInt32) hx hb dX10_grow_58 rfl ?_
    refine lv_goto (tgt := 63) hx hb dX10_grow_59 (by decide) ?_
    exact kx_Md_grow_b63 C x1.toInt32 (rI st6 7) st6 _ hf _ _ _ (lv_sub hl [] rfl) G
set_option maxHeartbeats 4000000 in
set_option maxRecDepth 100000 in
theorem kx_Md_grow_b28 {p : Program} {l : Launch} {e : Env} {s : State} {m : MethodId} {args : Array Value} {below : List Frame} {meth : Method} {c : Code} {D : va_G} {k : Nat → ClassId} {h : Nat → Nat} (C : cxM D k p s m args meth c cX10_grow 4 none RX10) (x1 : Int64) (y0 : Int32) (st : rs_T) (s' : rs_T) (hf : fx_Md_grow_b28 x1 y0 st = some s') : ∀ (H : Heap) (locs : List Loc) (ls : Array Slot), lv_has ls 4 [(0, .ref (h 0)), (1, .long x1)] → gdM D k h (arM h s.heap.size) s.heap H locs st → W p l e rm_Md_grow s m args below meth c H locs 0 0 (MQ below (qVM D k h s.heap.size s') args s 0 0 (arM h s.heap.size)) (F0 m 28 ls [.int y0]) := by
  obtain ⟨hx, hb, hml, hr, hown, hts, hK, hN, hlk⟩ := id C
  intro H locs ls hl G
  unfold fx_Md_grow_b28 at hf
  refine lv_istore_n (lv' := [(3, .int y0), (0, .ref (h 0)), (1, .long x1)]) hx hb dX10_grow_28 rfl hl (by decide) rfl (fun ls hl => ?_)
  refine lv_aload_n hx hb dX10_grow_29 rfl (lv_at hl 1 rfl) ?_
  refine lv_iload_n hx hb dX10_grow_30 rfl (lv_at hl 0 rfl) ?_
  refine lv_if_eq (tgt := 42) hx hb dX10_grow_31 (by decide) (fun c5 => ?_) (fun c5 => ?_)
  · replace hf := if_p hf c5
    refine lv_ldc2 (v := 4294967295) hx hb hown (hts _ lk_X10_241) dX10_grow_42 ?_
    exact kx_Md_grow_b45 C x1 y0 4294967295 st _ hf _ _ _ (lv_sub hl [1, 2, 0] rfl) G
  · replace hf := if_n hf c5
    refine lv_aload_n hx hb dX10_grow_34 rfl (lv_at hl 1 rfl) ?_
    refine fg_Md_pages (v := rI st 7) hx hb hts hown hK G (hts _ lk_X10_69) rfl dX10_grow_35 ?_
    refine lv_i2l (v := (rI st 7).toInt64) hx hb dX10_grow_38 rfl ?_
    refine lv_goto (tgt := 45) hx hb dX10_grow_39 (by decide) ?_
    exact kx_Md_grow_b45 C x1 y0 ((rI st 7).toInt64) st _ hf _ _ _ (lv_sub hl [1, 2, 0] rfl) G
set_option maxHeartbeats 4000000 in
set_option maxRecDepth 100000 in
theorem kx_Md_grow (l : Launch) (D : va_G) (k : Nat → ClassId) (h : Nat → Nat) (st : rs_T) (s' : rs_T) (hf : fx_Md_grow st = some s') : mVM l D k h yX10_grow cX10_grow 4 rm_Md_grow [.ref (h 0)] st s' := by
  refine mVM_of (by decide) ⟨rfl, rfl⟩ (Nat.le_of_ble_eq_true rfl) ?_
  intro p e s m below meth c ls C hl G
  obtain ⟨hx, hb, hml, hr, hown, hts, hK, hN, hlk⟩ := id C
  have hown : s.vm.findClass RX10 = some m.cls := hown
  have hl : lv_has ls 4 [(0, .ref (h 0))] := hl
  unfold fx_Md_grow at hf
  refine lv_aload_n hx hb dX10_grow_0 rfl (lv_at hl 0 rfl) ?_
  obtain ⟨r2, st1, hst1, hf⟩ := bn_some hf
  refine cl_vlM C hl G (As := []) (rest := []) (kx_Md_pop l D k h st _ _ hst1) gi_X10_243 (hwM_0 ..) rfl hd_X10_pop ⟨Nat.le_of_ble_eq_true rfl, Nat.le_of_ble_eq_true rfl⟩ rfl rfl (Nat.le_of_ble_eq_true rfl) dX10_grow_1 (fun H locs G => ?_)
  refine lv_ldc2 (v := 4294967295) hx hb hown (hts _ lk_X10_241) dX10_grow_4 ?_
  refine lv_land hx hb dX10_grow_7 ?_
  refine lv_topl (fun v3 e_v3 => ?_)
  replace hf := bd_some hf v3 e_v3
  refine lv_lstore_n (lv' := [(1, .long v3), (0, .ref (h 0))]) hx hb dX10_grow_8 rfl hl (by decide) rfl (fun ls hl => ?_)
  refine lv_aload_n hx hb dX10_grow_9 rfl (lv_at hl 1 rfl) ?_
  refine fg_Md_pages (v := rI st1 7) hx hb hts hown hK G (hts _ lk_X10_69) rfl dX10_grow_10 ?_
  refine lv_i2l (v := (rI st1 7).toInt64) hx hb dX10_grow_13 rfl ?_
  refine lv_lload_n hx hb dX10_grow_14 rfl (lv_at hl 0 rfl) ?_
  refine lv_ladd hx hb dX10_grow_15 ?_
  refine lv_ldc2 (v := 6) hx hb hown (hts _ lk_X10_262) dX10_grow_16 ?_
  refine W.lcmp hx hb dX10_grow_19 ?_
  refine lv_if_gt (tgt := 27) hx hb dX10_grow_20 (by decide) (fun c4 => ?_) (fun c4 => ?_)
  · replace hf := if_p hf c4
    refine lv_iconst (v := 0) hx hb dX10_grow_27 (by decide) ?_
    exact kx_Md_grow_b28 C v3 0 st1 _ hf _ _ _ (lv_sub hl [1, 0] rfl) G
  · replace hf := if_n hf c4
    refine lv_iconst (v := 1) hx hb dX10_grow_23 (by decide) ?_
    refine lv_goto (tgt := 28) hx hb dX10_grow_24 (by decide) ?_
    exact kx_Md_grow_b28 C v3 1 st1 _ hf _ _ _ (lv_sub hl [1, 0] rfl) G
def rm_Md_size : Room := { frames := 0, cells := 0, slots := 0, locals := 0 }
set_option maxHeartbeats 4000000 in
set_option maxRecDepth 100000 in
theorem kx_Md_size_b107 {p : Program} {l : Launch} {e : Env} {s : State} {m : MethodId} {args : Array Value} {below : List Frame} {meth : Method} {c : Code} {D : va_G} {k : Nat → ClassId} {h : Nat → Nat} (C : cxM D k p s m args meth c cX10_size 1 (some .int) RX10) (st : rs_T) (r : Int32) (s' : rs_T) (hf : fx_Md_size_b107 st = some (r, s')) : ∀ (H : Heap) (locs : List Loc) (ls : Array Slot), lv_has ls 1 [] → gdM D k h (arM h s.heap.size) s.heap H locs st → W p l e rm_Md_size s m args below meth c H locs 0 0 (MQ below (qIM D k h s.heap.size r s') args s 0 0 (arM h s.heap.size)) (F0 m 107 ls []) := by
  obtain ⟨hx, hb, hml, hr, hown, hts, hK, hN, hlk⟩ := id C
  intro H locs ls hl G
  unfold fx_Md_size_b107 at hf
  refine lv_iconst (v := 2) hx hb dX10_size_107 (by decide) ?_
  refine lv_goto (tgt := 112) hx hb dX10_size_108 (by decide) ?_
  exact rt_iM C G hf dX10_size_112
set_option maxHeartbeats 4000000 in
set_option maxRecDepth 100000 in
theorem kx_Md_size (l : Launch) (D : va_G) (k : Nat → ClassId) (h : Nat → Nat) (p0 : Int32) (st : rs_T) (r : Int32) (s' : rs_T) (hf : fx_Md_size p0 st = some (r, s')) : mIM l D k h yX10_size cX10_size 1 .int rm_Md_size [.int p0] st r s' := by
  refine mIM_of (by decide) ⟨rfl, rfl⟩ (Nat.le_of_ble_eq_true rfl) ?_
  intro p e s m below meth c ls C hl G
  obtain ⟨hx, hb, hml, hr, hown, hts, hK, hN, hlk⟩ := id C
  have hown : s.vm.findClass RX10 = some m.cls := hown
  have hl : lv_has ls 1 [(0, .int p0)] := hl
  unfold fx_Md_size at hf
  refine lv_iload_n hx hb dX10_size_0 rfl (lv_at hl 0 rfl) ?_
  refine lv_bipush (v := 41) hx hb dX10_size_1 (by decide) ?_
  refine lv_icmp_eq (tgt := 24) hx hb dX10_size_3 (by decide) (fun c1 => ?_) (fun c1 => ?_)
  · replace hf := if_p hf c1
    refine lv_bipush (v := 8) hx hb dX10_size_24 (by decide) ?_
    exact rt_iM C G hf dX10_size_26
  · replace hf := if_n hf c1
    refine lv_iload_n hx hb dX10_size_6 rfl (lv_at hl 0 rfl) ?_
    refine lv_bipush (v := 43) hx hb dX10_size_7 (by decide) ?_
    refine lv_icmp_eq (tgt := 24) hx hb dX10_size_9 (by decide) (fun c2 => ?_) (fun c2 => ?_)
    · replace hf := if_p hf c2
      refine lv_bipush (v := 8) hx hb dX10_size_24 (by decide) ?_
      exact rt_iM C G hf dX10_size_26
    · replace hf := if_n hf c2
      refine lv_iload_n hx hb dX10_size_12 rfl (lv_at hl 0 rfl) ?_
      refine lv_bipush (v := 55) hx hb dX10_size_13 (by decide) ?_
      refine lv_icmp_eq (tgt := 24) hx hb dX10_size_15 (by decide) (fun c3 => ?_) (fun c3 => ?_)
      · replace hf := if_p hf c3
        refine lv_bipush (v := 8) hx hb dX10_size_24 (by decide) ?_
        exact rt_iM C G hf dX10_size_26
      · replace hf := if_n hf c3
        refine lv_iload_n hx hb dX10_size_18 rfl (lv_at hl 0 rfl) ?_
        refine lv_bipush (v := 57) hx hb dX10_size_19 (by decide) ?_
        refine lv_icmp_ne (tgt := 27) hx hb dX10_size_21 (by decide) (fun c4 => ?_) (fun c4 => ?_)
        · replace hf := if_n hf c4
          refine lv_iload_n hx hb dX10_size_27 rfl (lv_at hl 0 rfl) ?_
          refine lv_bipush (v := 40) hx hb dX10_size_28 (by decide) ?_
          refine lv_icmp_eq (tgt := 69) hx hb dX10_size_30 (by decide) (fun c5 => ?_) (fun c5 => ?_)
          · replace hf := if_p hf c5
            refine lv_iconst (v := 4) hx hb dX10_size_69 (by decide) ?_
            exact rt_iM C G hf dX10_size_70
          · replace hf := if_n hf c5
            refine lv_iload_n hx hb dX10_size_33 rfl (lv_at hl 0 rfl) ?_
            refine lv_bipush (v := 42) hx hb dX10_size_34 (by decide) ?_
            refine lv_icmp_eq (tgt := 69) hx hb dX10_size_36 (by decide) (fun c6 => ?_) (fun c6 => ?_)
            · replace hf := if_p hf c6
              refine lv_iconst (v := 4) hx hb dX10_size_69 (by decide) ?_
              exact rt_iM C G hf dX10_size_70
            · replace hf := if_n hf c6
              refine lv_iload_n hx hb dX10_size_39 rfl (lv_at hl 0 rfl) ?_
              refine lv_bipush (v := 52) hx hb dX10_size_40 (by decide) ?_
              refine lv_icmp_eq (tgt := 69) hx hb dX10_size_42 (by decide) (fun c7 => ?_) (fun c7 => ?_)
              · replace hf := if_p hf c7
                refine lv_iconst (v := 4) hx hb dX10_size_69 (by decide) ?_
                exact rt_iM C G hf dX10_size_70
              · replace hf := if_n hf c7
                refine lv_iload_n hx hb dX10_size_45 rfl (lv_at hl 0 rfl) ?_
                refine lv_bipush (v := 53) hx hb dX10_size_46 (by decide) ?_
                refine lv_icmp_eq (tgt := 69) hx hb dX10_size_48 (by decide) (fun c8 => ?_) (fun c8 => ?_)
                · replace hf := if_p hf c8
                  refine lv_iconst (v := 4) hx hb dX10_size_69 (by decide) ?_
                  exact rt_iM C G hf dX10_size_70
                · replace hf := if_n hf c8
                  refine lv_iload_n hx hb dX10_size_51 rfl (lv_at hl 0 rfl) ?_
                  refine lv_bipush (v := 54) hx hb dX10_size_52 (by decide) ?_
                  refine lv_icmp_eq (tgt := 69) hx hb dX10_size_54 (by decide) (fun c9 => ?_) (fun c9 => ?_)
                  · replace hf := if_p hf c9
                    refine lv_iconst (v := 4) hx hb dX10_size_69 (by decide) ?_
                    exact rt_iM C G hf dX10_size_70
                  · replace hf := if_n hf c9
                    refine lv_iload_n hx hb dX10_size_57 rfl (lv_at hl 0 rfl) ?_
                    refine lv_bipush (v := 56) hx hb dX10_size_58 (by decide) ?_
                    refine lv_icmp_eq (tgt := 69) hx hb dX10_size_60 (by decide) (fun c10 => ?_) (fun c10 => ?_)
                    · replace hf := if_p hf c10
                      refine lv_iconst (v := 4) hx hb dX10_size_69 (by decide) ?_
                      exact rt_iM C G hf dX10_size_70
                    · replace hf := if_n hf c10
                      refine lv_iload_n hx hb dX10_size_63 rfl (lv_at hl 0 rfl) ?_
                      refine lv_bipush (v := 62) hx hb dX10_size_64 (by decide) ?_
                      refine lv_icmp_ne (tgt := 71) hx hb dX10_size_66 (by decide) (fun c11 => ?_) (fun c11 => ?_)
                      · replace hf := if_n hf c11
                        refine lv_iload_n hx hb dX10_size_71 rfl (lv_at hl 0 rfl) ?_
                        refine lv_bipush (v := 46) hx hb dX10_size_72 (by decide) ?_
                        refine lv_icmp_eq (tgt := 107) hx hb dX10_size_74 (by decide) (fun c12 => ?_) (fun c12 => ?_)
                        · replace hf := if_p hf c12
                          exact kx_Md_size_b107 C st _ _ hf _ _ _ (lv_sub hl [] rfl) G
                        · replace hf := if_n hf c12
                          refine lv_iload_n hx hb dX10_size_77 rfl (lv_at hl 0 rfl) ?_
                          refine lv_bipush (v := 47) hx hb dX10_size_78 (by decide) ?_
                          refine lv_icmp_eq (tgt := 107) hx hb dX10_size_80 (by decide) (fun c13 => ?_) (fun c13 => ?_)
                          · replace hf := if_p hf c13
                            exact kx_Md_size_b107 C st _ _ hf _ _ _ (lv_sub hl [] rfl) G
                          · replace hf := if_n hf c13
                            refine lv_iload_n hx hb dX10_size_83 rfl (lv_at hl 0 rfl) ?_
                            refine lv_bipush (v := 50) hx hb dX10_size_84 (by decide) ?_
                            refine lv_icmp_eq (tgt := 107) hx hb dX10_size_86 (by decide) (fun c14 => ?_) (fun c14 => ?_)
                            · replace hf := if_p hf c14
                              exact kx_Md_size_b107 C st _ _ hf _ _ _ (lv_sub hl [] rfl) G
                            · replace hf := if_n hf c14
                              refine lv_iload_n hx hb dX10_size_89 rfl (lv_at hl 0 rfl) ?_
                              refine lv_bipush (v := 51) hx hb dX10_size_90 (by decide) ?_
                              refine lv_icmp_eq (tgt := 107) hx hb dX10_size_92 (by decide) (fun c15 => ?_) (fun c15 => ?_)
                              · replace hf := if_p hf c15
                                exact kx_Md_size_b107 C st _ _ hf _ _ _ (lv_sub hl [] rfl) G
                              · replace hf := if_n hf c15
                                refine lv_iload_n hx hb dX10_size_95 rfl (lv_at hl 0 rfl) ?_
                                refine lv_bipush (v := 59) hx hb dX10_size_96 (by decide) ?_
                                refine lv_icmp_eq (tgt := 107) hx hb dX10_size_98 (by decide) (fun c16 => ?_) (fun c16 => ?_)
                                · replace hf := if_p hf c16
                                  exact kx_Md_size_b107 C st _ _ hf _ _ _ (lv_sub hl [] rfl) G
                                · replace hf := if_n hf c16
                                  refine lv_iload_n hx hb dX10_size_101 rfl (lv_at hl 0 rfl) ?_
                                  refine lv_bipush (v := 61) hx hb dX10_size_102 (by decide) ?_
                                  refine lv_icmp_ne (tgt := 111) hx hb dX10_size_104 (by decide) (fun c17 => ?_) (fun c17 => ?_)
                                  · replace hf := if_n hf c17
                                    refine lv_iconst (v := 1) hx hb dX10_size_111 (by decide) ?_
                                    exact rt_iM C G hf dX10_size_112
                                  · replace hf := if_p hf c17
                                    exact kx_Md_size_b107 C st _ _ hf _ _ _ (lv_sub hl [] rfl) G
                      · replace hf := if_p hf c11
                        refine lv_iconst (v := 4) hx hb dX10_size_69 (by decide) ?_
                        exact rt_iM C G hf dX10_size_70
        · replace hf := if_p hf c4
          refine lv_bipush (v := 8) hx hb dX10_size_24 (by decide) ?_
          exact rt_iM C G hf dX10_size_26
def rm_Md_move : Room := { frames := 1, cells := 0, slots := 0, locals := 22 }
set_option maxHeartbeats 4000000 in
set_option maxRecDepth 100000 in
theorem kx_Md_move_b230 {p : Program} {l : Launch} {e : Env} {s : State} {m : MethodId} {args : Array Value} {below : List Frame} {meth : Method} {c : Code} {D : va_G} {k : Nat → ClassId} {h : Nat → Nat} (C : cxM D k p s m args meth c cX10_move 12 none RX10) (N : Nat) (y0 : Int64) (st : rs_T) (s' : rs_T) (hf : fx_Md_move_b230 N y0 st = some s') : ∀ (H : Heap) (locs : List Loc) (ls : Array Slot), lv_has ls 12 [] → gdM D k h (arM h s.heap.size) s.heap H locs st → W p l e rm_Md_move s m args below meth c H locs 0 0 (MQ below (qVM D k h s.heap.size s') args s 0 0 (arM h s.heap.size)) (F0 m 230 ls [.long y0, .ref (h 0)]) := by
  obtain ⟨hx, hb, hml, hr, hown, hts, hK, hN, hlk⟩ := id C
  intro H locs ls hl G
  unfold fx_Md_move_b230 at hf
  obtain ⟨st19, hst19, hf⟩ := bv_some hf
  refine cl_vvM C hl G (As := [.long y0]) (rest := []) (kx_Md_push l D k h y0 st _ hst19) gi_X10_221 (hwM_0 ..) rfl hd_X10_push ⟨Nat.le_of_ble_eq_true rfl, Nat.le_of_ble_eq_true rfl⟩ rfl rfl (Nat.le_of_ble_eq_true rfl) dX10_move_230 (fun H locs G => ?_)
  exact rt_vM C G hf dX10_move_233
set_option maxHeartbeats 4000000 in
set_option maxRecDepth 100000 in
theorem kx_Md_move_b219 {p : Program} {l : Launch} {e : Env} {s : State} {m : MethodId} {args : Array Value} {below : List Frame} {meth : Method} {c : Code} {D : va_G} {k : Nat → ClassId} {h : Nat → Nat} (C : cxM D k p s m args meth c cX10_move 12 none RX10) (N : Nat) (x5 : Int64) (st : rs_T) (s' : rs_T) (hf : fx_Md_move_b219 N x5 st = some s') : ∀ (H : Heap) (locs : List Loc) (ls : Array Slot), lv_has ls 12 [(5, .long x5)] → gdM D k h (arM h s.heap.size) s.heap H locs st → W p l e rm_Md_move s m args below meth c H locs 0 0 (MQ below (qVM D k h s.heap.size s') args s 0 0 (arM h s.heap.size)) (F0 m 219 ls [.ref (h 0)]) := by
  obtain ⟨hx, hb, hml, hr, hown, hts, hK, hN, hlk⟩ := id C
  intro H locs ls hl G
  unfold fx_Md_move_b219 at hf
  refine lv_lload hx hb dX10_move_219 (lv_at hl 0 rfl) ?_
  refine lv_ldc2 (v := 4294967295) hx hb hown (hts _ lk_X10_241) dX10_move_221 ?_
  refine lv_land hx hb dX10_move_224 ?_
  refine lv_goto (tgt := 230) hx hb dX10_move_225 (by decide) ?_
  exact kx_Md_move_b230 C N (x5 &&& 4294967295) st _ hf _ _ _ (lv_sub hl [] rfl) G
set_option maxHeartbeats 4000000 in
set_option maxRecDepth 100000 in
theorem kx_Md_move_b204 {p : Program} {l : Launch} {e : Env} {s : State} {m : MethodId} {args : Array Value} {below : List Frame} {meth : Method} {c : Code} {D : va_G} {k : Nat → ClassId} {h : Nat → Nat} (C : cxM D k p s m args meth c cX10_move 12 none RX10) (N : Nat) (x1 : Int32) (y0 : Int64) (st : rs_T) (s' : rs_T) (hf : fx_Md_move_b204 N x1 y0 st = some s') : ∀ (H : Heap) (locs : List Loc) (ls : Array Slot), lv_has ls 12 [(0, .ref (h 0)), (1, .int x1)] → gdM D k h (arM h s.heap.size) s.heap H locs st → W p l e rm_Md_move s m args below meth c H locs 0 0 (MQ below (qVM D k h s.heap.size s') args s 0 0 (arM h s.heap.size)) (F0 m 204 ls [.long y0]) := by
  obtain ⟨hx, hb, hml, hr, hown, hts, hK, hN, hlk⟩ := id C
  intro H locs ls hl G
  unfold fx_Md_move_b204 at hf
  refine lv_lstore (lv' := [(5, .long y0), (0, .ref (h 0)), (1, .int x1)]) hx hb dX10_move_204 hl (by decide) rfl (fun ls hl => ?_)
  refine lv_aload_n hx hb dX10_move_206 rfl (lv_at hl 1 rfl) ?_
  refine lv_iload_n hx hb dX10_move_207 rfl (lv_at hl 2 rfl) ?_
  refine lv_bipush (v := 44) hx hb dX10_move_208 (by decide) ?_
  refine lv_icmp_eq (tgt := 219) hx hb dX10_move_210 (by decide) (fun c18 => ?_) (fun c18 => ?_)
  · replace hf := if_p hf c18
    exact kx_Md_move_b219 C N y0 st _ hf _ _ _ (lv_sub hl [0] rfl) G
  · replace hf := if_n hf c18
    refine lv_iload_n hx hb dX10_move_213 rfl (lv_at hl 2 rfl) ?_
    refine lv_bipush (v := 46) hx hb dX10_move_214 (by decide) ?_
    refine lv_icmp_ne (tgt := 228) hx hb dX10_move_216 (by decide) (fun c20 => ?_) (fun c20 => ?_)
    · replace hf := if_n hf c20
      refine lv_lload hx hb dX10_move_228 (lv_at hl 0 rfl) ?_
      exact kx_Md_move_b230 C N y0 st _ hf _ _ _ (lv_sub hl [] rfl) G
    · replace hf := if_p hf c20
      exact kx_Md_move_b219 C N y0 st _ hf _ _ _ (lv_sub hl [0] rfl) G
set_option maxHeartbeats 4000000 in
set_option maxRecDepth 100000 in
theorem kx_Md_move_b184 {p : Program} {l : Launch} {e : Env} {s : State} {m : MethodId} {args : Array Value} {below : List Frame} {meth : Method} {c : Code} {D : va_G} {k : Nat → ClassId} {h : Nat → Nat} (C : cxM D k p s m args meth c cX10_move 12 none RX10) (N : Nat) (x1 : Int32) (x5 : Int64) (x10 : Int32) (y0 : Int32) (st : rs_T) (s' : rs_T) (hf : fx_Md_move_b184 N x1 x5 x10 y0 st = some s') : ∀ (H : Heap) (locs : List Loc) (ls : Array Slot), lv_has ls 12 [(0, .ref (h 0)), (1, .int x1), (5, .long x5), (10, .int x10)] → gdM D k h (arM h s.heap.size) s.heap H locs st → W p l e rm_Md_move s m args below meth c H locs 0 0 (MQ below (qVM D k h s.heap.size s') args s 0 0 (arM h s.heap.size)) (F0 m 184 ls [.int y0]) := by
  obtain ⟨hx, hb, hml, hr, hown, hts, hK, hN, hlk⟩ := id C
  intro H locs ls hl G
  unfold fx_Md_move_b184 at hf
  refine lv_istore (lv' := [(11, .int y0), (0, .ref (h 0)), (1, .int x1), (5, .long x5), (10, .int x10)]) hx hb dX10_move_184 hl (by decide) rfl (fun ls hl => ?_)
  refine lv_iload hx hb dX10_move_186 (lv_at hl 0 rfl) ?_
  refine lv_if_eq (tgt := 202) hx hb dX10_move_188 (by decide) (fun c17 => ?_) (fun c17 => ?_)
  · replace hf := if_p hf c17
    refine lv_lload hx hb dX10_move_202 (lv_at hl 3 rfl) ?_
    exact kx_Md_move_b204 C N x1 x5 st _ hf _ _ _ (lv_sub hl [1, 2] rfl) G
  · replace hf := if_n hf c17
    refine lv_lload hx hb dX10_move_191 (lv_at hl 3 rfl) ?_
    refine lv_iload hx hb dX10_move_193 (lv_at hl 4 rfl) ?_
    refine lv_lshl (v := x5 <<< (x10.toInt64 &&& 63)) hx hb dX10_move_195 rfl ?_
    refine lv_iload hx hb dX10_move_196 (lv_at hl 4 rfl) ?_
    refine lv_lshr (v := (x5 <<< (x10.toInt64 &&& 63)) >>> (x10.toInt64 &&& 63)) hx hb dX10_move_198 rfl ?_
    refine lv_goto (tgt := 204) hx hb dX10_move_199 (by decide) ?_
    exact kx_Md_move_b204 C N x1 ((x5 <<< (x10.toInt64 &&& 63)) >>> (x10.toInt64 &&& 63)) st _ hf _ _ _ (lv_sub hl [1, 2] rfl) G
set_option maxHeartbeats 4000000 in
set_option maxRecDepth 100000 in
theorem kx_Md_move_b183 {p : Program} {l : Launch} {e : Env} {s : State} {m : MethodId} {args : Array Value} {below : List Frame} {meth : Method} {c : Code} {D : va_G} {k : Nat → ClassId} {h : Nat → Nat} (C : cxM D k p s m args meth c cX10_move 12 none RX10) (N : Nat) (x1 : Int32) (x5 : Int64) (x10 : Int32) (st : rs_T) (s' : rs_T) (hf : fx_Md_move_b183 N x1 x5 x10 st = some s') : ∀ (H : Heap) (locs : List Loc) (ls : Array Slot), lv_has ls 12 [(0, .ref (h 0)), (1, .int x1), (5, .long x5), (10, .int x10)] → gdM D k h (arM h s.heap.size) s.heap H locs st → W p l e rm_Md_move s m args below meth c H locs 0 0 (MQ below (qVM D k h s.heap.size s') args s 0 0 (arM h s.heap.size)) (F0 m 183 ls []) := by
  obtain ⟨hx, hb, hml, hr, hown, hts, hK, hN, hlk⟩ := id C
  intro H locs ls hl G
  unfold fx_Md_move_b183 at hf
  refine lv_iconst (v := 0) hx hb dX10_move_183 (by decide) ?_
  exact kx_Md_move_b184 C N x1 x5 x10 0 st _ hf _ _ _ (lv_sub hl [0, 1, 2, 3] rfl) G
set_option maxHeartbeats 4000000 in
set_option maxRecDepth 100000 in
theorem kx_Md_move_b128 {p : Program} {l : Launch} {e : Env} {s : State} {m : MethodId} {args : Array Value} {below : List Frame} {meth : Method} {c : Code} {D : va_G} {k : Nat → ClassId} {h : Nat → Nat} (C : cxM D k p s m args meth c cX10_move 12 none RX10) (N : Nat) : ∀ (n : Nat) (x1 : Int32) (x3 : Int32) (x5 : Int64) (x9 : Int32) (x10 : Int32) (st : rs_T) (s' : rs_T), fx_Md_move_b128 N n x1 x3 x5 x9 x10 st = some s' → ∀ (H : Heap) (locs : List Loc) (ls : Array Slot), lv_has ls 12 [(0, .ref (h 0)), (1, .int x1), (3, .int x3), (5, .long x5), (9, .int x9), (10, .int x10)] → gdM D k h (arM h s.heap.size) s.heap H locs st → W p l e rm_Md_move s m args below meth c H locs 0 0 (MQ below (qVM D k h s.heap.size s') args s 0 0 (arM h s.heap.size)) (F0 m 128 ls []) := by
  obtain ⟨hx, hb, hml, hr, hown, hts, hK, hN, hlk⟩ := id C
  intro n
  induction n with
  | zero => intro x1 x3 x5 x9 x10 st s' hf; cases hf
  | succ n ih =>
    intro x1 x3 x5 x9 x10 st s' hf H locs ls hl G
    rw [fx_Md_move_b128] at hf
    refine lv_iload hx hb dX10_move_128 (lv_at hl 5 rfl) ?_
    refine lv_if_lt (tgt := 158) hx hb dX10_move_130 (by decide) (fun c14 => ?_) (fun c14 => ?_)
    · replace hf := if_p hf c14
      refine lv_bipush (v := 64) hx hb dX10_move_158 (by decide) ?_
      refine lv_bipush (v := 8) hx hb dX10_move_160 (by decide) ?_
      refine lv_iload_n hx hb dX10_move_162 rfl (lv_at hl 2 rfl) ?_
      refine lv_imul hx hb dX10_move_163 ?_
      refine lv_isub hx hb dX10_move_164 ?_
      refine lv_topi (fun v15 e_v15 => ?_)
      replace hf := bd_some hf v15 e_v15
      refine lv_istore (lv' := [(10, .int v15), (0, .ref (h 0)), (1, .int x1), (3, .int x3), (5, .long x5), (9, .int x9)]) hx hb dX10_move_165 hl (by decide) rfl (fun ls hl => ?_)
      refine lv_iload_n hx hb dX10_move_167 rfl (lv_at hl 2 rfl) ?_
      refine lv_bipush (v := 43) hx hb dX10_move_168 (by decide) ?_
      refine lv_icmp_le (tgt := 183) hx hb dX10_move_170 (by decide) (fun c16 => ?_) (fun c16 => ?_)
      · replace hf := if_p hf c16
        exact kx_Md_move_b183 C N x1 x5 v15 st _ hf _ _ _ (lv_sub hl [1, 2, 4, 0] rfl) G
      · replace hf := if_n hf c16
        refine lv_iload_n hx hb dX10_move_173 rfl (lv_at hl 2 rfl) ?_
        refine lv_iconst (v := 2) hx hb dX10_move_174 (by decide) ?_
        obtain ⟨h_g21, hf⟩ := gzi_some hf
        refine lv_irem hx hb dX10_move_175 h_g21 ?_
        refine lv_if_ne (tgt := 183) hx hb dX10_move_176 (by decide) (fun c22 => ?_) (fun c22 => ?_)
        · replace hf := if_n hf c22
          exact kx_Md_move_b183 C N x1 x5 v15 st _ hf _ _ _ (lv_sub hl [1, 2, 4, 0] rfl) G
        · replace hf := if_p hf c22
          refine lv_iconst (v := 1) hx hb dX10_move_179 (by decide) ?_
          refine lv_goto (tgt := 184) hx hb dX10_move_180 (by decide) ?_
          exact kx_Md_move_b184 C N x1 x5 v15 1 st _ hf _ _ _ (lv_sub hl [1, 2, 4, 0] rfl) G
    · replace hf := if_n hf c14
      refine lv_lload hx hb dX10_move_133 (lv_at hl 3 rfl) ?_
      refine lv_bipush (v := 8) hx hb dX10_move_135 (by decide) ?_
      refine lv_lshl (v := x5 <<< ((8 : Int32).toInt64 &&& 63)) hx hb dX10_move_137 rfl ?_
      refine lv_aload_n hx hb dX10_move_138 rfl (lv_at hl 0 rfl) ?_
      refine fg_Md_bytes hx hb hts hown hK G (hts _ lk_X10_66) dX10_move_139 ?_
      refine lv_iload hx hb dX10_move_142 (lv_at hl 4 rfl) ?_
      refine lv_iload hx hb dX10_move_144 (lv_at hl 5 rfl) ?_
      refine lv_iadd hx hb dX10_move_146 ?_
      obtain ⟨h_g23, hf⟩ := gd_some hf
      refine ra_IM (v := rA st 17 ((x9 + x10).toNatClampNeg)) hx hb hK G (waM_19 ..) (t0 := 18) rfl rfl h_g23 dX10_move_147 ?_
      refine lv_i2l (v := (rA st 17 ((x9 + x10).toNatClampNeg)).toInt64) hx hb dX10_move_148 rfl ?_
      refine lv_lor hx hb dX10_move_149 ?_
      refine lv_topl (fun v24 e_v24 => ?_)
      replace hf := bd_some hf v24 e_v24
      refine lv_lstore (lv' := [(5, .long v24), (0, .ref (h 0)), (1, .int x1), (3, .int x3), (9, .int x9), (10, .int x10)]) hx hb dX10_move_150 hl (by decide) rfl (fun ls hl => ?_)
      obtain ⟨v25, e_v25⟩ : ∃ z : Int32, z = x10 + (-1) := ⟨_, rfl⟩
      replace hf := bd_some hf v25 e_v25
      refine lv_iinc (v := v25) (lv' := [(10, .int v25), (5, .long v24), (0, .ref (h 0)), (1, .int x1), (3, .int x3), (9, .int x9)]) hx hb dX10_move_152 hl (k := 5) rfl (by rw [e_v25]; rfl) (by decide) rfl (fun ls hl => ?_)
      refine lv_goto (tgt := 128) hx hb dX10_move_155 (by decide) ?_
      exact ih x1 x3 v24 x9 v25 st _ hf _ _ _ (lv_sub hl [2, 3, 4, 1, 5, 0] rfl) G
set_option maxHeartbeats 4000000 in
set_option maxRecDepth 100000 in
theorem kx_Md_move_b87 {p : Program} {l : Launch} {e : Env} {s : State} {m : MethodId} {args : Array Value} {below : List Frame} {meth : Method} {c : Code} {D : va_G} {k : Nat → ClassId} {h : Nat → Nat} (C : cxM D k p s m args meth c cX10_move 12 none RX10) (N : Nat) : ∀ (n : Nat) (x3 : Int32) (x5 : Int64) (x9 : Int32) (x10 : Int32) (st : rs_T) (s' : rs_T), fx_Md_move_b87 N n x3 x5 x9 x10 st = some s' → ∀ (H : Heap) (locs : List Loc) (ls : Array Slot), lv_has ls 12 [(0, .ref (h 0)), (3, .int x3), (5, .long x5), (9, .int x9), (10, .int x10)] → gdM D k h (arM h s.heap.size) s.heap H locs st → W p l e rm_Md_move s m args below meth c H locs 0 0 (MQ below (qVM D k h s.heap.size s') args s 0 0 (arM h s.heap.size)) (F0 m 87 ls []) := by
  obtain ⟨hx, hb, hml, hr, hown, hts, hK, hN, hlk⟩ := id C
  intro n
  induction n with
  | zero => intro x3 x5 x9 x10 st s' hf; cases hf
  | succ n ih =>
    intro x3 x5 x9 x10 st s' hf H locs ls hl G
    rw [fx_Md_move_b87] at hf
    refine lv_iload hx hb dX10_move_87 (lv_at hl 4 rfl) ?_
    refine lv_iload_n hx hb dX10_move_89 rfl (lv_at hl 1 rfl) ?_
    refine lv_icmp_ge (tgt := 122) hx hb dX10_move_90 (by decide) (fun c26 => ?_) (fun c26 => ?_)
    · replace hf := if_p hf c26
      exact rt_vM C G hf dX10_move_122
    · replace hf := if_n hf c26
      refine lv_aload_n hx hb dX10_move_93 rfl (lv_at hl 0 rfl) ?_
      refine fg_Md_bytes hx hb hts hown hK G (hts _ lk_X10_66) dX10_move_94 ?_
      refine lv_iload hx hb dX10_move_97 (lv_at hl 3 rfl) ?_
      refine lv_iload hx hb dX10_move_99 (lv_at hl 4 rfl) ?_
      refine lv_iadd hx hb dX10_move_101 ?_
      refine lv_lload hx hb dX10_move_102 (lv_at hl 2 rfl) ?_
      refine lv_bipush (v := 8) hx hb dX10_move_104 (by decide) ?_
      refine lv_iload hx hb dX10_move_106 (lv_at hl 4 rfl) ?_
      refine lv_imul hx hb dX10_move_108 ?_
      refine lv_lshr (v := x5 >>> (((8 : Int32) * x10).toInt64 &&& 63)) hx hb dX10_move_109 rfl ?_
      refine lv_ldc2 (v := 255) hx hb hown (hts _ lk_X10_260) dX10_move_110 ?_
      refine lv_land hx hb dX10_move_113 ?_
      refine lv_l2i (v := ((x5 >>> (((8 : Int32) * x10).toInt64 &&& 63)) &&& 255).toInt32) hx hb dX10_move_114 rfl ?_
      obtain ⟨h_g27, hf⟩ := gd_some hf
      refine rw_IM hx hb hK G (waM_19 ..) (t0 := 18) rfl (wsM_19 ..) h_g27 dX10_move_115 (fun H locs G => ?_)
      obtain ⟨v28, e_v28⟩ : ∃ z : Int32, z = x10 + 1 := ⟨_, rfl⟩
      replace hf := bd_some hf v28 e_v28
      refine lv_iinc (v := v28) (lv' := [(10, .int v28), (0, .ref (h 0)), (3, .int x3), (5, .long x5), (9, .int x9)]) hx hb dX10_move_116 hl (k := 4) rfl (by rw [e_v28]; rfl) (by decide) rfl (fun ls hl => ?_)
      refine lv_goto (tgt := 87) hx hb dX10_move_119 (by decide) ?_
      exact ih x3 x5 x9 v28 (wA st 17 ((x9 + x10).toNatClampNeg) (((x5 >>> (((8 : Int32) * x10).toInt64 &&& 63)) &&& 255).toInt32)) _ hf _ _ _ (lv_sub hl [1, 2, 3, 4, 0] rfl) G
set_option maxHeartbeats 4000000 in
set_option maxRecDepth 100000 in
theorem kx_Md_move_b31 {p : Program} {l : Launch} {e : Env} {s : State} {m : MethodId} {args : Array Value} {below : List Frame} {meth : Method} {c : Code} {D : va_G} {k : Nat → ClassId} {h : Nat → Nat} (C : cxM D k p s m args meth c cX10_move 12 none RX10) (N : Nat) (x1 : Int32) (x2 : Int32) (x3 : Int32) (x4 : Int32) (y0 : Int64) (st : rs_T) (s' : rs_T) (hf : fx_Md_move_b31 N x1 x2 x3 x4 y0 st = some s') : ∀ (H : Heap) (locs : List Loc) (ls : Array Slot), lv_has ls 12 [(0, .ref (h 0)), (1, .int x1), (2, .int x2), (3, .int x3), (4, .int x4)] → gdM D k h (arM h s.heap.size) s.heap H locs st → W p l e rm_Md_move s m args below meth c H locs 0 0 (MQ below (qVM D k h s.heap.size s') args s 0 0 (arM h s.heap.size)) (F0 m 31 ls [.long y0]) := by
  obtain ⟨hx, hb, hml, hr, hown, hts, hK, hN, hlk⟩ := id C
  intro H locs ls hl G
  unfold fx_Md_move_b31 at hf
  refine lv_lstore (lv' := [(5, .long y0), (0, .ref (h 0)), (1, .int x1), (2, .int x2), (3, .int x3), (4, .int x4)]) hx hb dX10_move_31 hl (by decide) rfl (fun ls hl => ?_)
  refine lv_aload_n hx hb dX10_move_33 rfl (lv_at hl 1 rfl) ?_
  obtain ⟨r8, st7, hst7, hf⟩ := bn_some hf
  refine cl_vlM C hl G (As := []) (rest := []) (kx_Md_pop l D k h st _ _ hst7) gi_X10_243 (hwM_0 ..) rfl hd_X10_pop ⟨Nat.le_of_ble_eq_true rfl, Nat.le_of_ble_eq_true rfl⟩ rfl rfl (Nat.le_of_ble_eq_true rfl) dX10_move_34 (fun H locs G => ?_)
  refine lv_ldc2 (v := 4294967295) hx hb hown (hts _ lk_X10_241) dX10_move_37 ?_
  refine lv_land hx hb dX10_move_40 ?_
  refine lv_iload_n hx hb dX10_move_41 rfl (lv_at hl 3 rfl) ?_
  refine lv_i2l (v := x2.toInt64) hx hb dX10_move_42 rfl ?_
  refine lv_ldc2 (v := 4294967295) hx hb hown (hts _ lk_X10_241) dX10_move_43 ?_
  refine lv_land hx hb dX10_move_46 ?_
  refine lv_ladd hx hb dX10_move_47 ?_
  refine lv_topl (fun v9 e_v9 => ?_)
  replace hf := bd_some hf v9 e_v9
  refine lv_lstore (lv' := [(7, .long v9), (5, .long y0), (0, .ref (h 0)), (1, .int x1), (2, .int x2), (3, .int x3), (4, .int x4)]) hx hb dX10_move_48 hl (by decide) rfl (fun ls hl => ?_)
  refine lv_lload hx hb dX10_move_50 (lv_at hl 0 rfl) ?_
  refine lv_iload_n hx hb dX10_move_52 rfl (lv_at hl 5 rfl) ?_
  refine lv_i2l (v := x3.toInt64) hx hb dX10_move_53 rfl ?_
  refine lv_ladd hx hb dX10_move_54 ?_
  refine lv_ldc2 (v := 64) hx hb hown (hts _ lk_X10_258) dX10_move_55 ?_
  refine lv_aload_n hx hb dX10_move_58 rfl (lv_at hl 2 rfl) ?_
  refine fg_Md_pages (v := rI st7 7) hx hb hts hown hK G (hts _ lk_X10_69) rfl dX10_move_59 ?_
  refine lv_i2l (v := (rI st7 7).toInt64) hx hb dX10_move_62 rfl ?_
  refine lv_lmul hx hb dX10_move_63 ?_
  refine W.lcmp hx hb dX10_move_64 ?_
  refine lv_if_le (tgt := 74) hx hb dX10_move_65 (by decide) (fun c10 => ?_) (fun c10 => ?_)
  · replace hf := if_p hf c10
    refine lv_lload hx hb dX10_move_74 (lv_at hl 0 rfl) ?_
    refine lv_l2i (v := v9.toInt32) hx hb dX10_move_76 rfl ?_
    refine lv_topi (fun v11 e_v11 => ?_)
    replace hf := bd_some hf v11 e_v11
    refine lv_istore (lv' := [(9, .int v11), (7, .long v9), (5, .long y0), (0, .ref (h 0)), (1, .int x1), (2, .int x2), (3, .int x3), (4, .int x4)]) hx hb dX10_move_77 hl (by decide) rfl (fun ls hl => ?_)
    refine lv_iload hx hb dX10_move_79 (lv_at hl 7 rfl) ?_
    refine lv_if_ne (tgt := 123) hx hb dX10_move_81 (by decide) (fun c12 => ?_) (fun c12 => ?_)
    · replace hf := if_n hf c12
      refine lv_iload_n hx hb dX10_move_123 rfl (lv_at hl 6 rfl) ?_
      refine lv_iconst (v := 1) hx hb dX10_move_124 (by decide) ?_
      refine lv_isub hx hb dX10_move_125 ?_
      refine lv_topi (fun v13 e_v13 => ?_)
      replace hf := bd_some hf v13 e_v13
      refine lv_istore (lv' := [(10, .int v13), (9, .int v11), (7, .long v9), (5, .long y0), (0, .ref (h 0)), (1, .int x1), (2, .int x2), (3, .int x3), (4, .int x4)]) hx hb dX10_move_126 hl (by decide) rfl (fun ls hl => ?_)
      exact kx_Md_move_b128 C N N x1 x3 y0 v11 v13 st7 _ hf _ _ _ (lv_sub hl [4, 5, 7, 3, 1, 0] rfl) G
    · replace hf := if_p hf c12
      refine lv_iconst (v := 0) hx hb dX10_move_84 (by decide) ?_
      refine lv_istore (lv' := [(10, .int 0), (9, .int v11), (7, .long v9), (5, .long y0), (0, .ref (h 0)), (1, .int x1), (2, .int x2), (3, .int x3), (4, .int x4)]) hx hb dX10_move_85 hl (by decide) rfl (fun ls hl => ?_)
      exact kx_Md_move_b87 C N N x3 y0 v11 0 st7 _ hf _ _ _ (lv_sub hl [4, 7, 3, 1, 0] rfl) G
  · replace hf := if_n hf c10
    refine lv_aload_n hx hb dX10_move_68 rfl (lv_at hl 2 rfl) ?_
    refine lv_iconst (v := 4) hx hb dX10_move_69 (by decide) ?_
    obtain ⟨st29, hst29, hf⟩ := bv_some hf
    refine cl_vvM C hl G (As := [.int 4]) (rest := []) (kx_Md_traps l D k h 4 st7 _ hst29) gi_X10_249 (hwM_0 ..) rfl hd_X10_traps ⟨Nat.le_of_ble_eq_true rfl, Nat.le_of_ble_eq_true rfl⟩ rfl rfl (Nat.le_of_ble_eq_true rfl) dX10_move_70 (fun H locs G => ?_)
    exact rt_vM C G hf dX10_move_73
set_option maxHeartbeats 4000000 in
set_option maxRecDepth 100000 in
theorem kx_Md_move_b16 {p : Program} {l : Launch} {e : Env} {s : State} {m : MethodId} {args : Array Value} {below : List Frame} {meth : Method} {c : Code} {D : va_G} {k : Nat → ClassId} {h : Nat → Nat} (C : cxM D k p s m args meth c cX10_move 12 none RX10) (N : Nat) (x1 : Int32) (x2 : Int32) (x3 : Int32) (y0 : Int32) (st : rs_T) (s' : rs_T) (hf : fx_Md_move_b16 N x1 x2 x3 y0 st = some s') : ∀ (H : Heap) (locs : List Loc) (ls : Array Slot), lv_has ls 12 [(0, .ref (h 0)), (1, .int x1), (2, .int x2), (3, .int x3)] → gdM D k h (arM h s.heap.size) s.heap H locs st → W p l e rm_Md_move s m args below meth c H locs 0 0 (MQ below (qVM D k h s.heap.size s') args s 0 0 (arM h s.heap.size)) (F0 m 16 ls [.int y0]) := by
  obtain ⟨hx, hb, hml, hr, hown, hts, hK, hN, hlk⟩ := id C
  intro H locs ls hl G
  unfold fx_Md_move_b16 at hf
  refine lv_istore (lv' := [(4, .int y0), (0, .ref (h 0)), (1, .int x1), (2, .int x2), (3, .int x3)]) hx hb dX10_move_16 hl (by decide) rfl (fun ls hl => ?_)
  refine lv_iload hx hb dX10_move_18 (lv_at hl 0 rfl) ?_
  refine lv_if_eq (tgt := 27) hx hb dX10_move_20 (by decide) (fun c4 => ?_) (fun c4 => ?_)
  · replace hf := if_p hf c4
    refine lv_aload_n hx hb dX10_move_27 rfl (lv_at hl 1 rfl) ?_
    obtain ⟨r6, st5, hst5, hf⟩ := bn_some hf
    refine cl_vlM C hl G (As := []) (rest := []) (kx_Md_pop l D k h st _ _ hst5) gi_X10_243 (hwM_0 ..) rfl hd_X10_pop ⟨Nat.le_of_ble_eq_true rfl, Nat.le_of_ble_eq_true rfl⟩ rfl rfl (Nat.le_of_ble_eq_true rfl) dX10_move_28 (fun H locs G => ?_)
    exact kx_Md_move_b31 C N x1 x2 x3 y0 r6 st5 _ hf _ _ _ (lv_sub hl [1, 2, 3, 4, 0] rfl) G
  · replace hf := if_n hf c4
    refine lv_lconst (v := 0) hx hb dX10_move_23 (by decide) ?_
    refine lv_goto (tgt := 31) hx hb dX10_move_24 (by decide) ?_
    exact kx_Md_move_b31 C N x1 x2 x3 y0 0 st _ hf _ _ _ (lv_sub hl [1, 2, 3, 4, 0] rfl) G
set_option maxHeartbeats 4000000 in
set_option maxRecDepth 100000 in
theorem kx_Md_move (l : Launch) (D : va_G) (k : Nat → ClassId) (h : Nat → Nat) (N : Nat) (p1 : Int32) (p2 : Int32) (st : rs_T) (s' : rs_T) (hf : fx_Md_move N p1 p2 st = some s') : mVM l D k h yX10_move cX10_move 12 rm_Md_move [.ref (h 0), .int p1, .int p2] st s' := by
  refine mVM_of (by decide) ⟨rfl, rfl⟩ (Nat.le_of_ble_eq_true rfl) ?_
  intro p e s m below meth c ls C hl G
  obtain ⟨hx, hb, hml, hr, hown, hts, hK, hN, hlk⟩ := id C
  have hown : s.vm.findClass RX10 = some m.cls := hown
  have hl : lv_has ls 12 [(0, .ref (h 0)), (1, .int p1), (2, .int p2)] := hl
  unfold fx_Md_move at hf
  refine lv_iload_n hx hb dX10_move_0 rfl (lv_at hl 1 rfl) ?_
  obtain ⟨r2, st1, hst1, hf⟩ := bn_some hf
  refine cl_siM C hl G (As := [.int p1]) (rest := []) (kx_Md_size l D k h p1 st _ _ hst1) gi_X10_255 hd_X10_size ⟨Nat.le_of_ble_eq_true rfl, Nat.le_of_ble_eq_true rfl⟩ rfl rfl (Nat.le_of_ble_eq_true rfl) dX10_move_1 (fun H locs G => ?_)
  refine lv_istore_n (lv' := [(3, .int r2), (0, .ref (h 0)), (1, .int p1), (2, .int p2)]) hx hb dX10_move_4 rfl hl (by decide) rfl (fun ls hl => ?_)
  refine lv_iload_n hx hb dX10_move_5 rfl (lv_at hl 2 rfl) ?_
  refine lv_bipush (v := 54) hx hb dX10_move_6 (by decide) ?_
  refine lv_icmp_ge (tgt := 15) hx hb dX10_move_8 (by decide) (fun c3 => ?_) (fun c3 => ?_)
  · replace hf := if_p hf c3
    refine lv_iconst (v := 0) hx hb dX10_move_15 (by decide) ?_
    exact kx_Md_move_b16 C N p1 p2 r2 0 st1 _ hf _ _ _ (lv_sub hl [1, 2, 3, 0] rfl) G
  · replace hf := if_n hf c3
    refine lv_iconst (v := 1) hx hb dX10_move_11 (by decide) ?_
    refine lv_goto (tgt := 16) hx hb dX10_move_12 (by decide) ?_
    exact kx_Md_move_b16 C N p1 p2 r2 1 st1 _ hf _ _ _ (lv_sub hl [1, 2, 3, 0] rfl) G
