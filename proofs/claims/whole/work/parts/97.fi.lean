-- ===== one step: memory =====
theorem wb_a {c cc m : rs_T} {F : Nat} {w : Bool} (h : wb c m F w) (h1 : ∀ k, (k < 2 ∨ k = 9) → rI cc k = rI c k) (h2 : ∀ i x, (i = 15 ∨ i = 16) → rA cc i x = rA c i x) (h3 : ∀ i x, rL cc i x = rL c i x) : wb cc m F w := wb_congr h (fun _ z => z) h1 h2 (fun i x _ => h3 i x) (fun _ _ => rfl) (fun _ _ _ => rfl) (fun _ _ _ => rfl)
theorem wb_st {c m c1 m1 : rs_T} {F : Nat} {w : Bool} (h : wb c m F w) (h1 : ∀ k, (k < 2 ∨ k = 9) → rI c1 k = rI c k) (h2 : ∀ x, rA c1 15 x = rA c 15 x) (h3 : ∀ i x, i < 2 → rL c1 i x = rL c i x) (g1 : ∀ k, (k = 7 ∨ k = 8 ∨ k = 17) → rI m1 k = rI m k) (g2 : ∀ x, rA m1 16 x = rA m 16 x) (g3 : ∀ i x, i < 2 → rL m1 i x = rL m i x) (hb : br_ok c1 m1) : wb c1 m1 F w := by
  obtain ⟨b1, b2, b3, b4, b5, b6, b7⟩ := h
  refine ⟨fun k hk => ?_, fun k hk => ?_, hb, ?_, ?_, ?_, ?_⟩
  · rw [h2, g2]; exact b1 k hk
  · rw [h3 1 k (by decide), g3 0 k (by decide)]; exact b2 k hk
  · rw [h1 9 (by omega), g1 7 (by omega)]; exact b4
  · obtain ⟨k, k1, k2, k3, k4⟩ := b5
    exact ⟨k, k1, by rw [h1 0 (by omega)]; exact k2, by rw [g1 8 (by omega)]; exact k3, fun i hi => by rw [h3 0 i (by decide), g3 1 i (by decide)]; exact k4 i hi⟩
  · rw [h1 1 (by omega), g1 17 (by omega)]; exact b6
  · rw [g1 17 (by omega)]; exact b7
theorem aq_40 {o : Int32} (ho : o ∈ ([40, 41, 42, 43, 44, 45, 46, 47, 48, 49, 50, 51, 52, 53] : List Int32)) : t_ar o = some (1, 1) ∧ ¬ o ∈ ([0, 2, 3, 4, 5, 6, 11, 12, 13, 14, 15, 16, 17] : List Int32) ∧ ¬ o ∈ ([0, 4, 12, 13, 14, 15, 16, 17] : List Int32) ∧ (¬ o = 26 ∧ ¬ o = 27 ∧ ¬ o ≤ 31 ∧ 37 ≤ o ∧ ¬ o ≤ 39 ∧ ¬ 63 ≤ o) ∧ o < 69 ∧ o < 65 ∧ ¬ o < 40 ∧ ¬ o = 200 ∧ ¬ o = 63 ∧ ¬ o = 64 ∧ o < 54 := by
  simp only [List.mem_cons, List.not_mem_nil, or_false] at ho
  rcases ho with rfl | rfl | rfl | rfl | rfl | rfl | rfl | rfl | rfl | rfl | rfl | rfl | rfl | rfl <;> decide
theorem aq_54 {o : Int32} (ho : o ∈ ([54, 55, 56, 57, 58, 59, 60, 61, 62] : List Int32)) : t_ar o = some (2, 0) ∧ ¬ o ∈ ([0, 2, 3, 4, 5, 6, 11, 12, 13, 14, 15, 16, 17] : List Int32) ∧ ¬ o ∈ ([0, 4, 12, 13, 14, 15, 16, 17] : List Int32) ∧ (¬ o = 26 ∧ ¬ o = 27 ∧ ¬ o ≤ 31 ∧ 37 ≤ o ∧ ¬ o ≤ 39 ∧ ¬ 63 ≤ o) ∧ o < 69 ∧ o < 65 ∧ ¬ o < 40 ∧ ¬ o = 200 ∧ ¬ o = 63 ∧ ¬ o = 64 ∧ ¬ o < 54 := by
  simp only [List.mem_cons, List.not_mem_nil, or_false] at ho
  rcases ho with rfl | rfl | rfl | rfl | rfl | rfl | rfl | rfl | rfl <;> decide
theorem SR_40 {N : Nat} {c m : rs_T} {T : Nat → ts_T} {S E M : Nat → Nat} {F t : Nat} {w : Bool} {KK : Nat → Nat → kT} {ZZ : Nat → Nat → Int32} {QS QE : Nat → Nat} {G : List fr_T} {f at_ b s : Nat} {r : Bool} {o b' : Int32} (h : IB c m T S E M F t w KK ZZ QS QE) (hR : R0 c m (vm m) T S E M F w KK G f at_ r b s) (hs1 : rI m 9 = 1) (ho : v_o (vm m) at_ = o) (hoo : o ∈ ([40, 41, 42, 43, 44, 45, 46, 47, 48, 49, 50, 51, 52, 53] : List Int32)) (hN : 1000 ≤ N) : SR N c m T S E M F t w o (v_a (vm m) at_) b' r := by
  obtain ⟨k1, k2, k3, k4, k5, k6, k7, k8, k9, k10, k11⟩ := aq_40 hoo
  obtain ⟨p1, p2, p3, p4, -⟩ := pl_ctx h hR ho k2 k1
  obtain ⟨x1, x2, x3, x4, x5, x6, x7, x8, x9, x10, x11, x12, x13, x14, x15, x16, x17, -⟩ := cx h hR
  obtain ⟨h', hh⟩ : ∃ h', (T at_).2.2.1 = h' + 1 := ⟨(T at_).2.2.1 - 1, by omega⟩
  rw [hh] at x13 x15 x11 p3
  have h7 : rA c 7 at_ = o := (x1.1 at_).1.trans ho
  have h8 : rA c 8 at_ = v_a (vm m) at_ := (x1.1 at_).2.1
  have x13 : rI m 13 = nI (s + nm (vm m) f + h' + 1) := x13
  have hmm := m13_w (nI (s + nm (vm m) f + h')) (m13_0 m)
  obtain ⟨e1, e2, e3, e4, e5, e6⟩ := tm_X hmm 4 (nI (at_ + 1)) s
  cases r with
  | false =>
    have hR1 := hR
    obtain ⟨r1, ⟨-, -, -, -, -, -, -, -, b9, -⟩, -⟩ := hR1
    obtain ⟨c18', c20, c17⟩ := b9 rfl
    rw [hh] at c20
    have v0 := sv (x := h') x15 (by omega) (by omega)
    have hcc := c18_w (nI (b + nm (vm m) f + h')) (c18_0 c G.length at_)
    have hperf : fx_Sr_perform N c = fx_Sr_useMemory_b59 N (nI G.length) o (v_a (vm m) at_) 0 (wA c 18 G.length (nI (at_ + 1))) := by
      rw [sp_eq x6 x5 x2 c18' x3 x4, h7, if_pos k5, if_pos k6, if_neg k7, h8]
      unfold fx_Sr_useMemory
      rw [if_neg k9, if_neg k10, if_pos k11]
    have hpop := s_pop (c := wA c 18 G.length (nI (at_ + 1))) (P := b + nm (vm m) f + h') x5 (by rw [rA_wn (by decide)]; exact c20) (by omega)
    rw [rL_wA, v0] at hpop
    obtain ⟨n, a, l1, l2, l3⟩ := ld_both (c := wA (wA c 18 G.length (nI (at_ + 1))) 20 G.length (nI (b + nm (vm m) f + h'))) (N := N) (v_a (vm m) at_) hoo (wb_a h.2.1 (fun k _ => hcc.1 k) (fun i x hi => hcc.2.2.1 i x (by omega) (by omega)) hcc.2.2.2) x13 (by omega) hN
    rcases l3 with ⟨l4, l5⟩ | ⟨v, l4, l5, l6⟩
    · obtain ⟨d1, d2, d3, d4, d5, d6⟩ := tc_X hcc 4 b
      refine SR_trap (j := G.length) (b := b) (s := s) (x := 4) h hs1 (m1 := wI (wI (wI (wI m 13 (nI (s + nm (vm m) f + h'))) 9 3) 10 4) 15 (nI (at_ + 1))) ?_ e1 e2 e3 (fun _ => ⟨_, ?_, d1, wb_X h.2.1 d1 e1 d4 d5 d6 e4 e5 e6, d2, d3⟩) (fun z => (by cases z))
      · rw [msb_s k3, sm_m k4, l5, bv_s, b155 (by simp (disch := omega) only [bn_s, bv_s, bd_s, gb_0, gb_1, rI_ws, rI_wn, rI_wA, rI_wL, rA_wI, rA_wL, rL_wI, rL_wA, rA_wss, rA_wn, rA_wsn, rL_wss, rL_wn, rL_wsn, rN_wI, rN_wA, rN_wL]; exact x14)]
      · rw [hperf]
        unfold fx_Sr_useMemory_b59 fx_Ac_fail
        rw [hpop, bn_s, l2, bn_s, l1, bn_s, l4, bn_s, if_pos rfl, bv_s]
    · refine SR_p2 (h1 := h') (v := v) h hR hs1 p1 p4 (by omega) (by omega) ⟨_, hmm, ?_⟩ (fun _ => ⟨_, hcc, ?_⟩) (fun z => (by cases z))
      · rw [msb_s k3, sm_m k4, l6, bv_s, b155 (by simp (disch := omega) only [bn_s, bv_s, bd_s, gb_0, gb_1, rI_ws, rI_wn, rI_wA, rI_wL, rA_wI, rA_wL, rL_wI, rL_wA, rA_wss, rA_wn, rA_wsn, rL_wss, rL_wn, rL_wsn, rN_wI, rN_wA, rN_wL]; exact x14)]
      · rw [hperf]
        unfold fx_Sr_useMemory_b59
        rw [hpop, bn_s, l2, bn_s, l1, bn_s, l4, bn_s, if_neg (by decide), if_pos k11, l5, bn_s, s_push x5 (by rw [rA_wss]) (by omega), bv_s]
  | true =>
    have hR1 := hR
    obtain ⟨r1, ⟨hfC, -⟩, -⟩ := hR1
    obtain ⟨sz, z1, z2, z3, z4, z5, z6, z7, z8⟩ := rg_ctx h hfC
    unfold kcV at z5
    rw [ho, hh] at z5
    obtain ⟨y1, y2⟩ := z5.2.2.2.2.2.2.2.2.2.1 (List.mem_append_left [64] hoo)
    have y1 : ci c (KK f at_).1 o (nI ((KK f at_).2.1 + 1)) (nI (nm (vm m) f + h')) ((KK f at_).2.2 h') 0 (v_a (vm m) at_) := y1
    obtain ⟨v0, w0⟩ := gv (x := h') x15 (by omega)
    have hq := z8.1
    obtain ⟨i1, i2, i3, i4, i5, i6⟩ := y1
    obtain ⟨n, a, l1, l2, l3⟩ := ld_both (c := wA (wI c 17 0) 18 G.length (nI ((KK f at_).1 + 1))) (N := N) (v_a (vm m) at_) hoo (wb_a h.2.1 (fun k hk => by rw [rI_wA, rI_wn (by omega)]) (fun i x hi => ga _ _ _ _ _ (by omega)) (fun i x => by rw [rL_wA, rL_wI])) x13 (by omega) hN
    have hperf : fx_Rr_perform N (nI (KK f at_).1) (wI c 17 0) = fx_Rr_useMemory N (nI G.length) o (nI (KK f at_).1) (wA (wI c 17 0) 18 G.length (nI ((KK f at_).1 + 1))) := by
      rw [rp_eq (j := G.length) (by rw [rI_wn (by decide)]; exact x6) x5 (by first | omega | (simp only [rN_wI, rN_wA, rN_wL]; omega))]
      rw [rA_wI, rA_wI, rA_wI, i1, if_neg k8, if_pos k5, if_neg k7]
    rcases l3 with ⟨l4, l5⟩ | ⟨v, l4, l5, l6⟩
    · obtain ⟨d1, d2, d3, d4, d5, d6, d7⟩ := tg_X (c := c) (j := G.length) (q := (KK f at_).1) 4 b
      obtain ⟨sz', y1', y2', y3', y4'⟩ := R0_tR h hR hs1
      refine SR_trap (j := G.length) (b := b) (s := s) (x := 4) h hs1 (m1 := wI (wI (wI (wI m 13 (nI (s + nm (vm m) f + h'))) 9 3) 10 4) 15 (nI (at_ + 1))) ?_ e1 e2 e3 (fun z => (by cases z)) (fun _ => ⟨_, 1, by omega, vl_1 (tR_vq (q := (KK f at_).1) y3' (by omega) (by rw [rA_wI]; exact i2) ?_ d7), rfl, d1, wb_X h.2.1 d1 e1 d4 d5 d6 e4 e5 e6, d2, d3⟩)
      · rw [msb_s k3, sm_m k4, l5, bv_s, b155 (by simp (disch := omega) only [bn_s, bv_s, bd_s, gb_0, gb_1, rI_ws, rI_wn, rI_wA, rI_wL, rA_wI, rA_wL, rL_wI, rL_wA, rA_wss, rA_wn, rA_wsn, rL_wss, rL_wn, rL_wsn, rN_wI, rN_wA, rN_wL]; exact x14)]
      · rw [wI_wI, hperf]
        unfold fx_Rr_useMemory fx_Ac_fail
        rw [if_neg k9, gd_k (by first | omega | (simp only [rN_wI, rN_wA, rN_wL]; omega)) (by first | omega | (simp only [rN_wI, rN_wA, rN_wL]; omega)), nI_clamp (by omega), ga _ _ _ _ _ (by decide), i4, gr (n := nm (vm m) f) (x := h') x1 x5 x8 w0 (by omega), bn_s, if_neg k10, gd_k (by first | omega | (simp only [rN_wI, rN_wA, rN_wL]; omega)) (by first | omega | (simp only [rN_wI, rN_wA, rN_wL]; omega)), ga _ _ _ _ _ (by decide), i6, v0, l2, bn_s, l1, bn_s, l4, bn_s, if_pos rfl, bv_s]
    · refine SR_p2 (h1 := h') (v := v) h hR hs1 p1 p4 (by omega) (by omega) ⟨_, hmm, ?_⟩ (fun z => (by cases z)) (fun _ => ⟨?_, i2, y2⟩)
      · rw [msb_s k3, sm_m k4, l6, bv_s, b155 (by simp (disch := omega) only [bn_s, bv_s, bd_s, gb_0, gb_1, rI_ws, rI_wn, rI_wA, rI_wL, rA_wI, rA_wL, rL_wI, rL_wA, rA_wss, rA_wn, rA_wsn, rL_wss, rL_wn, rL_wsn, rN_wI, rN_wA, rN_wL]; exact x14)]
      · rw [hperf]
        unfold fx_Rr_useMemory
        rw [if_neg k9, gd_k (by first | omega | (simp only [rN_wI, rN_wA, rN_wL]; omega)) (by first | omega | (simp only [rN_wI, rN_wA, rN_wL]; omega)), nI_clamp (by omega), ga _ _ _ _ _ (by decide), i4, gr (n := nm (vm m) f) (x := h') x1 x5 x8 w0 (by omega), bn_s, if_neg k10, gd_k (by first | omega | (simp only [rN_wI, rN_wA, rN_wL]; omega)) (by first | omega | (simp only [rN_wI, rN_wA, rN_wL]; omega)), ga _ _ _ _ _ (by decide), i6, v0, l2, bn_s, l1, bn_s, l4, bn_s, if_neg (by decide), if_pos k11, gd_k (by first | omega | (simp only [rN_wI, rN_wA, rN_wL]; omega)) (by first | omega | (simp only [rN_wI, rN_wA, rN_wL]; omega)), l5, bn_s, ga _ _ _ _ _ (by decide), i3, gp (N := N) x6 x5 x8 (by omega) (by omega), bv_s, Nat.add_assoc]
theorem SR_64 {N : Nat} {c m : rs_T} {T : Nat → ts_T} {S E M : Nat → Nat} {F t : Nat} {w : Bool} {KK : Nat → Nat → kT} {ZZ : Nat → Nat → Int32} {QS QE : Nat → Nat} {G : List fr_T} {f at_ b s : Nat} {r : Bool} {a b' : Int32} (h : IB c m T S E M F t w KK ZZ QS QE) (hR : R0 c m (vm m) T S E M F w KK G f at_ r b s) (hs1 : rI m 9 = 1) (ho : v_o (vm m) at_ = 64) : SR N c m T S E M F t w 64 a b' r := by
  obtain ⟨p1, p2, p3, p4, -⟩ := pl_ctx (n0 := 1) (k0 := 1) h hR ho (by decide) (by decide)
  obtain ⟨x1, x2, x3, x4, x5, x6, x7, x8, x9, x10, x11, x12, x13, x14, x15, x16, x17, -⟩ := cx h hR
  obtain ⟨h', hh⟩ : ∃ h', (T at_).2.2.1 = h' + 1 := ⟨(T at_).2.2.1 - 1, by omega⟩
  have x15' := x15
  rw [hh] at x13 x15 x11 p3
  have hT : (T (at_ + 1)).2.2.1 = h' + 1 := by omega
  have h7 : rA c 7 at_ = 64 := (x1.1 at_).1.trans ho
  have x13 : rI m 13 = nI (s + nm (vm m) f + h' + 1) := x13
  have hgr : ∀ cc, (∀ k, (k < 2 ∨ k = 9) → rI cc k = rI c k) → (∀ i x, (i = 15 ∨ i = 16) → rA cc i x = rA c i x) → (∀ i x, rL cc i x = rL c i x) → ∃ (v : Int64) (p : Nat), 1 ≤ p ∧ p ≤ 6 ∧ fx_Wo_grow (rL m 2 (s + nm (vm m) f + h')) cc = some (v, wI cc 9 (nI p)) ∧ fx_Md_grow m = some (wI (wI (wL (wI m 13 (nI (s + nm (vm m) f + h'))) 2 (s + nm (vm m) f + h') v) 13 (nI (s + nm (vm m) f + h' + 1))) 7 (nI p)) := fun cc a1 a2 a3 => gr_both (wb_a h.2.1 a1 a2 a3) x13 (by omega)
  obtain ⟨v, p, hp1, hp6, -, hMg⟩ := hgr c (fun _ _ => rfl) (fun _ _ _ => rfl) (fun _ _ => rfl)
  obtain ⟨m1, em1⟩ : ∃ m1, m1 = wI (wI (wI (wL (wI m 13 (nI (s + nm (vm m) f + h'))) 2 (s + nm (vm m) f + h') v) 13 (nI (s + nm (vm m) f + h' + 1))) 7 (nI p)) 15 (nI (at_ + 1)) := ⟨_, rfl⟩
  have hmsb : msb N 64 a b' m = some m1 := by
    rw [msb_s (by decide)]
    unfold fx_Md_simple fx_Md_simple_b48 fx_Md_simple_b69
    rw [if_neg (by decide), if_neg (by decide), if_neg (by decide), if_pos (by decide), if_neg (by decide), if_pos (by decide), if_neg (by decide), if_pos rfl, hMg, bv_s, b155 (by simp (disch := omega) only [bn_s, bv_s, bd_s, gb_0, gb_1, rI_ws, rI_wn, rI_wA, rI_wL, rA_wI, rA_wL, rL_wI, rL_wA, rA_wss, rA_wn, rA_wsn, rL_wss, rL_wn, rL_wsn, rN_wI, rN_wA, rN_wL]; exact x14), em1]
  have hmX : mX m m1 s := by
    refine ⟨fun k k1 k2 k3 k4 k5 => ?_, fun i x _ => ?_, fun x => ⟨?_, ?_⟩, fun y hy => ?_⟩ <;> (rw [em1]; simp (disch := omega) only [bn_s, bv_s, bd_s, gb_0, gb_1, rI_ws, rI_wn, rI_wA, rI_wL, rA_wI, rA_wL, rL_wI, rL_wA, rA_wss, rA_wn, rA_wsn, rL_wss, rL_wn, rL_wsn, rN_wI, rN_wA, rN_wL])
  have hmI : ∀ k, ¬ k = 7 → ¬ k = 13 → ¬ k = 15 → rI m1 k = rI m k := fun k a1 a2 a3 => by rw [em1]; simp (disch := omega) only [bn_s, bv_s, bd_s, gb_0, gb_1, rI_ws, rI_wn, rI_wA, rI_wL, rA_wI, rA_wL, rL_wI, rL_wA, rA_wss, rA_wn, rA_wsn, rL_wss, rL_wn, rL_wsn, rN_wI, rN_wA, rN_wL]
  have hmA : ∀ i x, rA m1 i x = rA m i x := fun i x => by rw [em1]; simp (disch := omega) only [bn_s, bv_s, bd_s, gb_0, gb_1, rI_ws, rI_wn, rI_wA, rI_wL, rA_wI, rA_wL, rL_wI, rL_wA, rA_wss, rA_wn, rA_wsn, rL_wss, rL_wn, rL_wsn, rN_wI, rN_wA, rN_wL]
  have hmL : ∀ i y, ¬ (i = 2 ∧ y = s + nm (vm m) f + h') → rL m1 i y = rL m i y := fun i y hy => by rw [em1, rL_wI, rL_wI, rL_wI, rL_wL, if_neg hy, rL_wI]
  have hmV : rL m1 2 (s + nm (vm m) f + h') = v := by rw [em1]; simp (disch := omega) only [bn_s, bv_s, bd_s, gb_0, gb_1, rI_ws, rI_wn, rI_wA, rI_wL, rA_wI, rA_wL, rL_wI, rL_wA, rA_wss, rA_wn, rA_wsn, rL_wss, rL_wn, rL_wsn, rN_wI, rN_wA, rN_wL]
  have hm7 : rI m1 7 = nI p := by rw [em1]; simp (disch := omega) only [bn_s, bv_s, bd_s, gb_0, gb_1, rI_ws, rI_wn, rI_wA, rI_wL, rA_wI, rA_wL, rL_wI, rL_wA, rA_wss, rA_wn, rA_wsn, rL_wss, rL_wn, rL_wsn, rN_wI, rN_wA, rN_wL]
  have hwb : ∀ c1, rI c1 9 = nI p → (∀ k, k < 2 → rI c1 k = rI c k) → (∀ i x, (i = 15 ∨ i = 16) → rA c1 i x = rA c i x) → (∀ i y, ¬ i = 2 → rL c1 i y = rL c i y) → wb c1 m1 F w := fun c1 a1 a2 a3 a4 => by
    obtain ⟨b1, b2, b3, b4, b5, b6, b7⟩ := h.2.1
    refine ⟨fun k hk => ?_, fun k hk => ?_, fun i hi => ?_, ⟨p, hp1, hp6, a1, hm7⟩, ?_, ?_, ?_⟩
    · rw [a3 15 k (Or.inl rfl), hmA]; exact b1 k hk
    · rw [a4 1 k (by decide), hmL 0 k (by omega)]; exact b2 k hk
    · rw [a3 16 i (Or.inr rfl), hmA]; exact b3 i hi
    · obtain ⟨k, k1, k2, k3, k4⟩ := b5
      exact ⟨k, k1, by rw [a2 0 (by decide)]; exact k2, by rw [hmI 8 (by decide) (by decide) (by decide)]; exact k3, fun i hi => by rw [a4 0 i (by decide), hmL 1 i (by omega)]; exact k4 i hi⟩
    · rw [a2 1 (by decide), hmI 17 (by decide) (by decide) (by decide)]; exact b6
    · rw [hmI 17 (by decide) (by decide) (by decide)]; exact b7
  have hsame : ∀ {v' p' : _}, some (wI (wI (wL (wI m 13 (nI (s + nm (vm m) f + h'))) 2 (s + nm (vm m) f + h') v') 13 (nI (s + nm (vm m) f + h' + 1))) 7 (nI p')) = some (wI (wI (wL (wI m 13 (nI (s + nm (vm m) f + h'))) 2 (s + nm (vm m) f + h') v) 13 (nI (s + nm (vm m) f + h' + 1))) 7 (nI p)) → v' = v ∧ nI p' = nI p := by
    intro v' p' e
    have e := Option.some.inj e
    have e1 := congrArg (fun z => rL z 2 (s + nm (vm m) f + h')) e
    have e2 := congrArg (fun z => rI z 7) e
    simp (disch := omega) only [bn_s, bv_s, bd_s, gb_0, gb_1, rI_ws, rI_wn, rI_wA, rI_wL, rA_wI, rA_wL, rL_wI, rL_wA, rA_wss, rA_wn, rA_wsn, rL_wss, rL_wn, rL_wsn, rN_wI, rN_wA, rN_wL] at e1 e2
    exact ⟨e1, e2⟩
  refine SR_of (at1 := at_ + 1) h hR hs1 hmsb hmX ?_ p1 p4 ?_ ?_ (hmI 9 (by decide) (by decide) (by decide)) (hmI 10 (by decide) (by decide) (by decide)) (fun hr => ?_) (fun hr => ?_)
  · obtain ⟨-, ⟨⟨-, -, -, -, -, -, -, -, a9, -⟩, -⟩, -⟩ := hR
    omega
  · rw [hT, em1]; simp (disch := omega) only [bn_s, bv_s, bd_s, gb_0, gb_1, rI_ws, rI_wn, rI_wA, rI_wL, rA_wI, rA_wL, rL_wI, rL_wA, rA_wss, rA_wn, rA_wsn, rL_wss, rL_wn, rL_wsn, rN_wI, rN_wA, rN_wL]; rfl
  · rw [em1]; simp (disch := omega) only [bn_s, bv_s, bd_s, gb_0, gb_1, rI_ws, rI_wn, rI_wA, rI_wL, rA_wI, rA_wL, rL_wI, rL_wA, rA_wss, rA_wn, rA_wsn, rL_wss, rL_wn, rL_wsn, rN_wI, rN_wA, rN_wL]
  · subst hr
    obtain ⟨r1, ⟨-, -, -, -, -, -, -, -, b9, -⟩, -⟩ := hR
    obtain ⟨c18', c20, c17⟩ := b9 rfl
    rw [hh] at c20
    have v0 := sv (x := h') x15 (by omega) (by omega)
    have hcc := c18_w (nI (b + nm (vm m) f + h')) (c18_0 c G.length at_)
    obtain ⟨v', p', -, -, g3, g4⟩ := hgr _ (fun k _ => hcc.1 k) (fun i x hi => hcc.2.2.1 i x (by omega) (by omega)) hcc.2.2.2
    obtain ⟨rfl, ep⟩ := hsame (g4.symm.trans hMg)
    rw [ep] at g3
    have hps := PS_of (P := b + nm (vm m) f + h') (v := v') hcc
    obtain ⟨q1, q2, q3, q4, q5, q6⟩ := hps
    obtain ⟨c2, ec2⟩ : ∃ c2, c2 = wA (wL (wI (wA (wA c 18 G.length (nI (at_ + 1))) 20 G.length (nI (b + nm (vm m) f + h'))) 9 (nI p)) 2 (b + nm (vm m) f + h') v') 20 G.length (nI (b + nm (vm m) f + h' + 1)) := ⟨_, rfl⟩
    have d1 : ∀ k, ¬ k = 9 → rI c2 k = rI c k := fun k hk => by rw [ec2]; simp (disch := omega) only [bn_s, bv_s, bd_s, gb_0, gb_1, rI_ws, rI_wn, rI_wA, rI_wL, rA_wI, rA_wL, rL_wI, rL_wA, rA_wss, rA_wn, rA_wsn, rL_wss, rL_wn, rL_wsn, rN_wI, rN_wA, rN_wL]
    have d2 : ∀ i x, ¬ (i = 18 ∧ x = G.length) → ¬ (i = 20 ∧ x = G.length) → rA c2 i x = rA c i x := fun i x k1 k2 => by rw [ec2, rA_wA, if_neg k2, rA_wL, rA_wI, rA_wA, if_neg k2, rA_wA, if_neg k1]
    have d3 : ∀ i y, ¬ (i = 2 ∧ y = b + nm (vm m) f + h') → rL c2 i y = rL c i y := fun i y hy => by rw [ec2, rL_wA, rL_wL, if_neg hy, rL_wI, rL_wA, rL_wA]
    have d4 : rL c2 2 (b + nm (vm m) f + h') = v' := by rw [ec2]; simp (disch := omega) only [bn_s, bv_s, bd_s, gb_0, gb_1, rI_ws, rI_wn, rI_wA, rI_wL, rA_wI, rA_wL, rL_wI, rL_wA, rA_wss, rA_wn, rA_wsn, rL_wss, rL_wn, rL_wsn, rN_wI, rN_wA, rN_wL]
    refine ⟨c2, ?_, ⟨fun k k1 _ _ _ => d1 k k1, fun i x _ k1 k2 => d2 i x k1 k2, fun x => ⟨d3 0 x (by omega), d3 3 x (by omega)⟩, fun y hy => d3 2 y (by omega)⟩, hwb c2 ?_ (fun k hk => d1 k (by omega)) (fun i x hi => d2 i x (by omega) (by omega)) (fun i y hi => d3 i y (by omega)), d1 11 (by decide), d1 12 (by decide), ?_, ?_, ?_, ?_⟩
    · rw [sp_eq x6 x5 x2 c18' x3 x4, h7, if_pos (by decide), if_pos (by decide), if_neg (by decide)]
      unfold fx_Sr_useMemory
      rw [if_neg (by decide), if_pos rfl, s_pop (P := b + nm (vm m) f + h') x5 (by rw [rA_wn (by decide)]; exact c20) (by omega), bn_s, rL_wA, v0, g3, bn_s, s_push (P := b + nm (vm m) f + h') x5 (by rw [rA_wI, rA_wss]) (by omega), bv_s, ec2]
    · rw [ec2]; simp (disch := omega) only [bn_s, bv_s, bd_s, gb_0, gb_1, rI_ws, rI_wn, rI_wA, rI_wL, rA_wI, rA_wL, rL_wI, rL_wA, rA_wss, rA_wn, rA_wsn, rL_wss, rL_wn, rL_wsn, rN_wI, rN_wA, rN_wL]
    · rw [ec2]; simp (disch := omega) only [bn_s, bv_s, bd_s, gb_0, gb_1, rI_ws, rI_wn, rI_wA, rI_wL, rA_wI, rA_wL, rL_wI, rL_wA, rA_wss, rA_wn, rA_wsn, rL_wss, rL_wn, rL_wsn, rN_wI, rN_wA, rN_wL]
    · rw [hT, ec2]; simp (disch := omega) only [bn_s, bv_s, bd_s, gb_0, gb_1, rI_ws, rI_wn, rI_wA, rI_wL, rA_wI, rA_wL, rL_wI, rL_wA, rA_wss, rA_wn, rA_wsn, rL_wss, rL_wn, rL_wsn, rN_wI, rN_wA, rN_wL]; rfl
    · rw [d1 17 (by decide)]; exact c17
    · rw [hT]
      have := fV_push x15 (h1 := h') (by omega) (by omega) (fun y _ hy => d3 2 y (by omega)) (fun y _ hy => hmL 2 y (by omega)) d4 hmV
      have ew : kw (nm (vm m) f) (wf KK (nm (vm m) f) f at_ false) h' = sl (nm (vm m) f) := kw_sl _ _
      rw [ew] at this
      exact this
  · subst hr
    have hR1 := hR
    obtain ⟨r1, ⟨hfC, -⟩, -⟩ := hR1
    obtain ⟨sz, z1, z2, z3, z4, z5, z6, z7, z8⟩ := rg_ctx h hfC
    unfold kcV at z5
    rw [ho, hh] at z5
    obtain ⟨y1, y2⟩ := z5.2.2.2.2.2.2.2.2.2.1 (by decide)
    have y1 : ci c (KK f at_).1 64 (nI ((KK f at_).2.1 + 1)) (nI (nm (vm m) f + h')) ((KK f at_).2.2 h') 0 (v_a (vm m) at_) := y1
    have y2 : KK f (at_ + 1) = ((KK f at_).1 + 1, 0, kw (nm (vm m) f) (KK f at_).2.2 h') := y2
    obtain ⟨v0, w0⟩ := gv (x := h') x15 (by omega)
    have hq := z8.1
    obtain ⟨i1, i2, i3, i4, i5, i6⟩ := y1
    obtain ⟨v', p', -, -, g3, g4⟩ := hgr (wA (wI c 17 0) 18 G.length (nI ((KK f at_).1 + 1))) (fun k hk => by rw [rI_wA, rI_wn (by omega)]) (fun i x hi => ga _ _ _ _ _ (by omega)) (fun i x => by rw [rL_wA, rL_wI])
    obtain ⟨rfl, ep⟩ := hsame (g4.symm.trans hMg)
    rw [ep] at g3
    obtain ⟨sz', y1', y2', y3', y4'⟩ := R0_tR h hR hs1
    obtain ⟨c1, ec1⟩ : ∃ c1, c1 = wL (wI (wA (wI c 17 0) 18 G.length (nI ((KK f at_).1 + 1))) 9 (nI p)) 2 (b + (nm (vm m) f + h')) v' := ⟨_, rfl⟩
    have d1 : ∀ k, ¬ k = 9 → ¬ k = 17 → rI c1 k = rI c k := fun k hk hk2 => by rw [ec1]; simp (disch := omega) only [bn_s, bv_s, bd_s, gb_0, gb_1, rI_ws, rI_wn, rI_wA, rI_wL, rA_wI, rA_wL, rL_wI, rL_wA, rA_wss, rA_wn, rA_wsn, rL_wss, rL_wn, rL_wsn, rN_wI, rN_wA, rN_wL]
    have d2 : ∀ i x, ¬ (i = 18 ∧ x = G.length) → rA c1 i x = rA c i x := fun i x k1 => by rw [ec1, rA_wL, rA_wI, rA_wA, if_neg k1, rA_wI]
    have d3 : ∀ i y, ¬ (i = 2 ∧ y = b + nm (vm m) f + h') → rL c1 i y = rL c i y := fun i y hy => by rw [ec1, rL_wL, if_neg (fun z => hy ⟨z.1, by omega⟩), rL_wI, rL_wA, rL_wI]
    have d4 : rL c1 2 (b + nm (vm m) f + h') = v' := by rw [ec1, Nat.add_assoc, rL_wss]
    have d17 : rI c1 17 = 0 := by rw [ec1]; simp (disch := omega) only [bn_s, bv_s, bd_s, gb_0, gb_1, rI_ws, rI_wn, rI_wA, rI_wL, rA_wI, rA_wL, rL_wI, rL_wA, rA_wss, rA_wn, rA_wsn, rL_wss, rL_wn, rL_wsn, rN_wI, rN_wA, rN_wL]
    refine ⟨c1, 1, by omega, vl_1 (tR_vq (q := (KK f at_).1) y3' (by omega) (by rw [rA_wI]; exact i2) ?_ d17), by rw [ec1]; rfl, ⟨fun k k1 _ _ k2 => d1 k k1 k2, fun i x _ k1 _ => d2 i x k1, fun x => ⟨d3 0 x (by omega), d3 3 x (by omega)⟩, fun y hy => d3 2 y (by omega)⟩, hwb c1 ?_ (fun k hk => d1 k (by omega) (by omega)) (fun i x hi => d2 i x (by omega)) (fun i y hi => d3 i y (by omega)), d1 11 (by decide) (by decide), d1 12 (by decide) (by decide), ?_, ?_, ?_⟩
    · rw [wI_wI, rp_eq (j := G.length) (by rw [rI_wn (by decide)]; exact x6) x5 (by first | omega | (simp only [rN_wI, rN_wA, rN_wL]; omega))]
      rw [rA_wI, rA_wI, rA_wI, i1, if_neg (by decide), if_pos (by decide), if_neg (by decide)]
      unfold fx_Rr_useMemory
      rw [if_neg (by decide), gd_k (by first | omega | (simp only [rN_wI, rN_wA, rN_wL]; omega)) (by first | omega | (simp only [rN_wI, rN_wA, rN_wL]; omega)), nI_clamp (by omega), ga _ _ _ _ _ (by decide), i4, gr (n := nm (vm m) f) (x := h') x1 x5 x8 w0 (by omega), bn_s, if_pos rfl, gd_k (by first | omega | (simp only [rN_wI, rN_wA, rN_wL]; omega)) (by first | omega | (simp only [rN_wI, rN_wA, rN_wL]; omega)), v0, g3, bn_s, ga _ _ _ _ _ (by decide), i3, r_set x5 (by rw [rA_wI, ga _ _ _ _ _ (by decide)]; exact x8) (by omega), bv_s, ec1]
    · rw [ec1]; simp (disch := omega) only [bn_s, bv_s, bd_s, gb_0, gb_1, rI_ws, rI_wn, rI_wA, rI_wL, rA_wI, rA_wL, rL_wI, rL_wA, rA_wss, rA_wn, rA_wsn, rL_wss, rL_wn, rL_wsn, rN_wI, rN_wA, rN_wL]
    · rw [y2, ec1]; simp (disch := omega) only [bn_s, bv_s, bd_s, gb_0, gb_1, rI_ws, rI_wn, rI_wA, rI_wL, rA_wI, rA_wL, rL_wI, rL_wA, rA_wss, rA_wn, rA_wsn, rL_wss, rL_wn, rL_wsn, rN_wI, rN_wA, rN_wL]
    · rw [y2, d17]; rfl
    · rw [hT, y2]
      exact fV_push x15 (h1 := h') (by omega) (by omega) (fun y _ hy => d3 2 y (by omega)) (fun y _ hy => hmL 2 y (by omega)) d4 hmV
