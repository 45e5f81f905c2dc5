-- ===== drop() in both =====
theorem pb_drop {c m : rs_T} {T : Nat → ts_T} {S E M : Nat → Nat} {F t : Nat} {w : Bool} (h : pb c m T S E M F t w) : (w = false ∧ fx_Ma_drop c = some (0, c) ∧ fx_Md_drop m = some (0, m)) ∨ ∃ (c2 m2 : rs_T) (f : Nat), w = true ∧ F = f + 1 ∧ fx_Ma_drop c = some (1, c2) ∧ fx_Md_drop m = some (1, m2) ∧ pb c2 m2 T S E M f (S f) false ∧ S f ≤ t ∧ fr_C c c2 ∧ fr_M m m2 := by
  have hmono := pb_mono h
  obtain ⟨h1, h2, h3, h4, h5, h6, h7, hA, hF, hP, hE, hW, hU, hN, hLn, hLt, hL7⟩ := id h
  cases w with
  | false =>
    obtain ⟨n3, -⟩ := hN rfl
    refine Or.inl ⟨rfl, ?_, ?_⟩
    · unfold fx_Ma_drop fx_Wr_abandon
      rw [if_pos n3, bn_s, gb_0]
    · unfold fx_Md_drop
      rw [h7, b2_f, if_pos rfl]
  | true =>
    obtain ⟨f, rfl, hEt, hu⟩ := hU rfl
    obtain ⟨p1, p2, p3, p4, p5, p6, p7, p8⟩ := hP f (Nat.lt_succ_self f)
    have c3 : rI c 3 = nI f := hu.2.2.2.2.2.2.1
    have n3 : ¬ rI c 3 = -1 := by rw [c3]; exact fun z => (nI_m1 (by omega)).mp z
    refine Or.inr ⟨wI (wI (wI (wI (wI (wI c 4 (nI (S f))) 2 (nI f)) 3 (-1)) 5 0) 6 0) 7 0, wI (wI (wI (wI m 0 (nI f)) 1 (nI (S f))) 2 0) 3 0, f, rfl, rfl, ?_, ?_, ?_, by omega, ?_, ?_⟩
    · unfold fx_Ma_drop fx_Wr_abandon fx_Wr_stop
      rw [if_neg n3, c3, gd_k (by omega) (by omega), nI_clamp (by omega), p1, bv_s, bn_s, gb_1]
    · have n2 : ¬ rI m 2 = 0 := by rw [h7]; exact i10
      unfold fx_Md_drop
      rw [if_neg n2, h4, nI_pred, gd_k (by omega) (by omega), nI_clamp (by omega), p2]
    · have hvm : vm (wI (wI (wI (wI m 0 (nI f)) 1 (nI (S f))) 2 0) 3 0) = vm m := rfl
      refine ⟨by omega, by omega, ?_, ?_, ?_, ?_, ?_, hA, ?_, fun g hg => ?_, fun g hg => hE g (by omega), fun g hg _ => ?_, fun z => absurd z Bool.false_ne_true, fun _ => ⟨?_, ?_, ?_, ?_⟩, hLn, by show S f ≤ rN c 0; omega, hL7⟩
      · simp (disch := omega) only [bn_s, bv_s, bd_s, gb_0, gb_1, rI_ws, rI_wn, rI_wA, rI_wL, rA_wI, rA_wL, rL_wI, rL_wA, rA_wss, rA_wn, rA_wsn, rL_wss, rL_wn, rL_wsn, rN_wI, rN_wA, rN_wL]
      · simp (disch := omega) only [bn_s, bv_s, bd_s, gb_0, gb_1, rI_ws, rI_wn, rI_wA, rI_wL, rA_wI, rA_wL, rL_wI, rL_wA, rA_wss, rA_wn, rA_wsn, rL_wss, rL_wn, rL_wsn, rN_wI, rN_wA, rN_wL]
      · simp (disch := omega) only [bn_s, bv_s, bd_s, gb_0, gb_1, rI_ws, rI_wn, rI_wA, rI_wL, rA_wI, rA_wL, rL_wI, rL_wA, rA_wss, rA_wn, rA_wsn, rL_wss, rL_wn, rL_wsn, rN_wI, rN_wA, rN_wL]
      · simp (disch := omega) only [bn_s, bv_s, bd_s, gb_0, gb_1, rI_ws, rI_wn, rI_wA, rI_wL, rA_wI, rA_wL, rL_wI, rL_wA, rA_wss, rA_wn, rA_wsn, rL_wss, rL_wn, rL_wsn, rN_wI, rN_wA, rN_wL]
      · simp (disch := omega) only [bn_s, bv_s, bd_s, gb_0, gb_1, rI_ws, rI_wn, rI_wA, rI_wL, rA_wI, rA_wL, rL_wI, rL_wA, rA_wss, rA_wn, rA_wsn, rL_wss, rL_wn, rL_wsn, rN_wI, rN_wA, rN_wL]; rfl
      · exact ⟨by omega, fun g hg => hF.2 g (by omega)⟩
      · obtain ⟨b1, b2, b3, b4, b5, b6, b7, b8⟩ := hP g (by omega)
        have := hmono g f hg (Nat.lt_succ_self f)
        exact ⟨b1, b2, b3, b4, b5, b6, b7, this⟩
      · exact hW g (by omega) (fun _ => by omega)
      · simp (disch := omega) only [bn_s, bv_s, bd_s, gb_0, gb_1, rI_ws, rI_wn, rI_wA, rI_wL, rA_wI, rA_wL, rL_wI, rL_wA, rA_wss, rA_wn, rA_wsn, rL_wss, rL_wn, rL_wsn, rN_wI, rN_wA, rN_wL]
      · simp (disch := omega) only [bn_s, bv_s, bd_s, gb_0, gb_1, rI_ws, rI_wn, rI_wA, rI_wL, rA_wI, rA_wL, rL_wI, rL_wA, rA_wss, rA_wn, rA_wsn, rL_wss, rL_wn, rL_wsn, rN_wI, rN_wA, rN_wL]
      · simp (disch := omega) only [bn_s, bv_s, bd_s, gb_0, gb_1, rI_ws, rI_wn, rI_wA, rI_wL, rA_wI, rA_wL, rL_wI, rL_wA, rA_wss, rA_wn, rA_wsn, rL_wss, rL_wn, rL_wsn, rN_wI, rN_wA, rN_wL]
      · simp (disch := omega) only [bn_s, bv_s, bd_s, gb_0, gb_1, rI_ws, rI_wn, rI_wA, rI_wL, rA_wI, rA_wL, rL_wI, rL_wA, rA_wss, rA_wn, rA_wsn, rL_wss, rL_wn, rL_wsn, rN_wI, rN_wA, rN_wL]
    · refine ⟨fun q hq => ?_, fun j x hj => rfl, fun j x => rfl, rfl⟩
      simp (disch := omega) only [bn_s, bv_s, bd_s, gb_0, gb_1, rI_ws, rI_wn, rI_wA, rI_wL, rA_wI, rA_wL, rL_wI, rL_wA, rA_wss, rA_wn, rA_wsn, rL_wss, rL_wn, rL_wsn, rN_wI, rN_wA, rN_wL]
    · refine ⟨fun q hq => ?_, fun j x hj => rfl, fun j x => rfl⟩
      simp (disch := omega) only [bn_s, bv_s, bd_s, gb_0, gb_1, rI_ws, rI_wn, rI_wA, rI_wL, rA_wI, rA_wL, rL_wI, rL_wA, rA_wss, rA_wn, rA_wsn, rL_wss, rL_wn, rL_wsn, rN_wI, rN_wA, rN_wL]
-- ===== a new object =====
theorem pb_new : pb i0_C i0_M (fun _ => t_0) (fun _ => 0) (fun _ => 0) (fun _ => 0) 0 0 false := by
  refine ⟨by omega, by omega, ?_, ?_, ?_, ?_, ?_, ?_, ?_, fun f hf => by omega, fun f hf => by omega, fun f hf => by omega, fun z => absurd z Bool.false_ne_true, fun _ => ⟨?_, ?_, ?_, ?_⟩, by show 32 ≤ 32 ∧ 32 ≤ 1500 ∧ 32 ≤ 32 ∧ 32 ≤ 1501 ∧ 64 ≤ 64 ∧ 64 ≤ 3000 ∧ 32 ≤ 32 ∧ (32 = 32 ∨ 2 * 32 ≤ 32) ∧ 0 ≤ 0 ∧ 0 ≤ 12 * 32 + 4 * 32 + 12 * 64 + 2 * 32; omega, Nat.zero_le _, fun _ _ => rfl⟩
  · exact nI_0.symm
  · exact nI_0.symm
  · exact nI_0.symm
  · exact nI_0.symm
  · rfl
  · exact ⟨fun i => ⟨rfl, rfl, rfl⟩, fun f => ⟨rfl, rfl, rfl⟩⟩
  · exact ⟨by omega, fun f hf => by omega⟩
  · rfl
  · rfl
  · rfl
  · rfl
