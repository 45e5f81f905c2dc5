-- ===== one step: operators, loads =====
theorem sm_w {N : Nat} {o a b : Int32} {m : rs_T} (h : ¬ o = 26 ∧ ¬ o = 27 ∧ ¬ o ≤ 31 ∧ 37 ≤ o ∧ ¬ o ≤ 39 ∧ 63 ≤ o ∧ ¬ o = 63 ∧ ¬ o = 64 ∧ ¬ o = 65 ∧ ¬ o = 66 ∧ ¬ o ≤ 68) : fx_Md_simple N o a b m = bv (fx_Md_work o m) (fun st => fx_Md_simple_b155 N st) := by
  obtain ⟨h1, h2, h3, h4, h5, h6, h7, h8, h9, h10, h11⟩ := h
  unfold fx_Md_simple fx_Md_simple_b48 fx_Md_simple_b69
  rw [if_neg h1, if_neg h2, if_neg h3, if_pos h4, if_neg h5, if_pos h6, if_neg h7, if_neg h8, if_neg h9, if_neg h10, if_neg h11]
theorem sm_m {N : Nat} {o a b : Int32} {m : rs_T} (h : ¬ o = 26 ∧ ¬ o = 27 ∧ ¬ o ≤ 31 ∧ 37 ≤ o ∧ ¬ o ≤ 39 ∧ ¬ 63 ≤ o) : fx_Md_simple N o a b m = bv (fx_Md_move N o a m) (fun st => fx_Md_simple_b155 N st) := by
  obtain ⟨h1, h2, h3, h4, h5, h6⟩ := h
  unfold fx_Md_simple fx_Md_simple_b48
  rw [if_neg h1, if_neg h2, if_neg h3, if_pos h4, if_neg h5, if_neg h6]
theorem hM_1 {c m : rs_T} {T : Nat → ts_T} {S E M : Nat → Nat} {F t : Nat} {w : Bool} {KK : Nat → Nat → kT} {ZZ : Nat → Nat → Int32} {QS QE : Nat → Nat} {G : List fr_T} {f at_ b s : Nat} {r : Bool} (h : IB c m T S E M F t w KK ZZ QS QE) (hR : R0 c m (vm m) T S E M F w KK G f at_ r b s) (p1 : at_ + 1 < E f) : (T (at_ + 1)).2.2.1 ≤ M f := by
  obtain ⟨-, ⟨⟨-, -, a3, -, -, -, -, -, a9, -⟩, -⟩, -⟩ := id hR
  obtain ⟨hWf, -, hE, -⟩ := pb_Wf h.1 a3
  exact (hWf.2.2.1.2.2 (at_ + 1) (by omega) (by omega)).2.2.2.1
theorem ar_69 {o : Int32} (ho : o ∈ ([69, 80, 167, 173] : List Int32)) : t_ar o = some (1, 1) ∧ ¬ o ∈ ([0, 2, 3, 4, 5, 6, 11, 12, 13, 14, 15, 16, 17] : List Int32) ∧ ¬ o ∈ ([0, 4, 12, 13, 14, 15, 16, 17] : List Int32) ∧ (¬ o = 26 ∧ ¬ o = 27 ∧ ¬ o ≤ 31 ∧ 37 ≤ o ∧ ¬ o ≤ 39 ∧ 63 ≤ o ∧ ¬ o = 63 ∧ ¬ o = 64 ∧ ¬ o = 65 ∧ ¬ o = 66 ∧ ¬ o ≤ 68) ∧ ¬ o < 69 ∧ ¬ o = 200 := by
  simp only [List.mem_cons, List.not_mem_nil, or_false] at ho
  rcases ho with rfl | rfl | rfl | rfl <;> decide
theorem ar_70 {o : Int32} (ho : o ∈ ([70, 71, 72, 73, 81, 83, 106, 107, 108, 110, 113, 116, 124, 125, 126] : List Int32)) : t_ar o = some (2, 1) ∧ ¬ o ∈ ([0, 2, 3, 4, 5, 6, 11, 12, 13, 14, 15, 16, 17] : List Int32) ∧ ¬ o ∈ ([0, 4, 12, 13, 14, 15, 16, 17] : List Int32) ∧ (¬ o = 26 ∧ ¬ o = 27 ∧ ¬ o ≤ 31 ∧ 37 ≤ o ∧ ¬ o ≤ 39 ∧ 63 ≤ o ∧ ¬ o = 63 ∧ ¬ o = 64 ∧ ¬ o = 65 ∧ ¬ o = 66 ∧ ¬ o ≤ 68) ∧ ¬ o < 69 ∧ ¬ o = 200 ∧ ¬ o ∈ ([69, 80, 167, 173] : List Int32) := by
  simp only [List.mem_cons, List.not_mem_nil, or_false] at ho
  rcases ho with rfl | rfl | rfl | rfl | rfl | rfl | rfl | rfl | rfl | rfl | rfl | rfl | rfl | rfl | rfl <;> decide
theorem SR_69 {N : Nat} {c m : rs_T} {T : Nat → ts_T} {S E M : Nat → Nat} {F t : Nat} {w : Bool} {KK : Nat → Nat → kT} {ZZ : Nat → Nat → Int32} {QS QE : Nat → Nat} {G : List fr_T} {f at_ b s : Nat} {r : Bool} {o a b' : Int32} (h : IB c m T S E M F t w KK ZZ QS QE) (hR : R0 c m (vm m) T S E M F w KK G f at_ r b s) (hs1 : rI m 9 = 1) (ho : v_o (vm m) at_ = o) (hoo : o ∈ ([69, 80, 167, 173] : List Int32)) : SR N c m T S E M F t w o a b' r := by
  obtain ⟨k1, k2, k3, k4, k5, k6⟩ := ar_69 hoo
  obtain ⟨p1, p2, p3, p4, -⟩ := pl_ctx h hR ho k2 k1
  obtain ⟨x1, x2, x3, x4, x5, x6, x7, x8, x9, x10, x11, x12, x13, x14, x15, x16, x17, -⟩ := cx h hR
  obtain ⟨h', hh⟩ : ∃ h', (T at_).2.2.1 = h' + 1 := ⟨(T at_).2.2.1 - 1, by omega⟩
  rw [hh] at x13 x15 x11 p3
  have h7 : rA c 7 at_ = o := (x1.1 at_).1.trans ho
  have x13 : rI m 13 = nI (s + nm (vm m) f + h' + 1) := x13
  obtain ⟨v, w1, w2, w3⟩ := wk1_all hoo x13 (by omega)
  refine SR_p2 (h1 := h') (v := v) h hR hs1 p1 p4 (by omega) (by omega) ⟨_, m13_w (nI (s + nm (vm m) f + h')) (m13_0 m), ?_⟩ (fun hr => ?_) (fun hr => ?_)
  · rw [msb_s k3, sm_w k4, w3, bv_s, b155 (by simp (disch := omega) only [bn_s, bv_s, bd_s, gb_0, gb_1, rI_ws, rI_wn, rI_wA, rI_wL, rA_wI, rA_wL, rL_wI, rL_wA, rA_wss, rA_wn, rA_wsn, rL_wss, rL_wn, rL_wsn, rN_wI, rN_wA, rN_wL]; exact x14)]
  · subst hr
    obtain ⟨r1, ⟨-, -, -, -, -, -, -, -, b9, -⟩, -⟩ := hR
    obtain ⟨c18', c20, c17⟩ := b9 rfl
    rw [hh] at c20
    have v0 := sv (x := h') x15 (by omega) (by omega)
    refine ⟨_, c18_w (nI (b + nm (vm m) f + h')) (c18_0 c G.length at_), ?_⟩
    rw [sp_eq x6 x5 x2 c18' x3 x4, h7, if_neg k5]
    unfold fx_Sr_operate fx_Op_operatorTakes fx_Sr_operate_b17
    rw [if_pos hoo, bn_s, if_neg (by decide), s_pop (P := b + nm (vm m) f + h') x5 (by rw [rA_wn (by decide)]; exact c20) (by omega), bn_s, rL_wA, v0, w1, bn_s, if_pos rfl, w2, bn_s, s_push x5 (by rw [rA_wss]) (by omega), bv_s]
  · subst hr
    obtain ⟨r1, ⟨hfC, -⟩, -⟩ := hR
    obtain ⟨sz, z1, z2, z3, z4, z5, z6, z7, z8⟩ := rg_ctx h hfC
    unfold kcV at z5
    rw [ho, hh] at z5
    obtain ⟨y1, y2⟩ := z5.2.2.2.2.2.2.2.2.2.2.2.2.1 hoo
    have y1 : ci c (KK f at_).1 o (nI ((KK f at_).2.1 + 1)) (nI (nm (vm m) f + h')) ((KK f at_).2.2 h') 0 0 := y1
    obtain ⟨v0, w0⟩ := gv (x := h') x15 (by omega)
    refine ⟨?_, y1.2.1, y2⟩
    have hq := z8.1
    obtain ⟨i1, i2, i3, i4, i5, i6⟩ := y1
    rw [rp_eq (j := G.length) (by rw [rI_wn (by decide)]; exact x6) x5 (by first | omega | (simp only [rN_wI, rN_wA, rN_wL]; omega))]
    rw [rA_wI, rA_wI, rA_wI, i1, if_neg k6, if_neg k5]
    have hz : fx_Rr_read (nI G.length) 0 (wA (wI c 17 0) 18 G.length (nI ((KK f at_).1 + 1))) = some (ev c (vm m) b 0, wA (wI c 17 0) 18 G.length (nI ((KK f at_).1 + 1))) := by
      have : wok (vm m) 0 0 (nI 0) := Or.inr (Or.inl rfl)
      exact gr (n := 0) (x := 0) x1 x5 x8 this (by omega)
    unfold fx_Rr_operate
    rw [gd_k (by first | omega | (simp only [rN_wI, rN_wA, rN_wL]; omega)) (by first | omega | (simp only [rN_wI, rN_wA, rN_wL]; omega)), nI_clamp (by omega), ga _ _ _ _ _ (by decide), i4, gr (n := nm (vm m) f) (x := h') x1 x5 x8 w0 (by omega), bn_s, gd_k (by first | omega | (simp only [rN_wI, rN_wA, rN_wL]; omega)) (by first | omega | (simp only [rN_wI, rN_wA, rN_wL]; omega)), ga _ _ _ _ _ (by decide), i5, hz, bn_s]
    rw [w1, bn_s, if_pos rfl, gd_k (by first | omega | (simp only [rN_wI, rN_wA, rN_wL]; omega)) (by first | omega | (simp only [rN_wI, rN_wA, rN_wL]; omega)), v0, w2, bn_s, ga _ _ _ _ _ (by decide), i3, gp (N := N) x6 x5 x8 (by omega) (by omega), bv_s, Nat.add_assoc]
