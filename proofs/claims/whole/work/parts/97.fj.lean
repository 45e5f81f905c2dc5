-- ===== one step: stores, set global, nothing, forget =====
theorem SR_54 {N : Nat} {c m : rs_T} {T : Nat → ts_T} {S E M : Nat → Nat} {F t : Nat} {w : Bool} {KK : Nat → Nat → kT} {ZZ : Nat → Nat → Int32} {QS QE : Nat → Nat} {G : List fr_T} {f at_ b s : Nat} {r : Bool} {o b' : Int32} (h : IB c m T S E M F t w KK ZZ QS QE) (hR : R0 c m (vm m) T S E M F w KK G f at_ r b s) (hs1 : rI m 9 = 1) (ho : v_o (vm m) at_ = o) (hoo : o ∈ ([54, 55, 56, 57, 58, 59, 60, 61, 62] : List Int32)) (hN : 1000 ≤ N) : SR N c m T S E M F t w o (v_a (vm m) at_) b' r := by
  obtain ⟨k1, k2, k3, k4, k5, k6, k7, k8, k9, k10, k11⟩ := aq_54 hoo
  obtain ⟨p1, p2, p3, p4, -⟩ := pl_ctx h hR ho k2 k1
  obtain ⟨x1, x2, x3, x4, x5, x6, x7, x8, x9, x10, x11, x12, x13, x14, x15, x16, x17, -⟩ := cx h hR
  obtain ⟨h', hh⟩ : ∃ h', (T at_).2.2.1 = h' + 2 := ⟨(T at_).2.2.1 - 2, by omega⟩
  rw [hh] at x13 x15 x11 p3
  have hT : (T (at_ + 1)).2.2.1 = h' := by omega
  have h7 : rA c 7 at_ = o := (x1.1 at_).1.trans ho
  have h8 : rA c 8 at_ = v_a (vm m) at_ := (x1.1 at_).2.1
  have x13 : rI m 13 = nI (s + nm (vm m) f + h' + 2) := x13
  have hmm := m13_w (nI (s + nm (vm m) f + h')) (m13_w (nI (s + nm (vm m) f + h' + 1)) (m13_0 m))
  obtain ⟨e1, e2, e3, e4, e5, e6⟩ := tm_X hmm 4 (nI (at_ + 1)) s
  have hSf : S f ≤ at_ + 1 := by
    obtain ⟨-, ⟨⟨-, -, -, -, -, -, -, -, a9, -⟩, -⟩, -⟩ := hR
    omega
  -- the reference's state after a store
  have hms : ∀ m1, only (wI (wI m 13 (nI (s + nm (vm m) f + h' + 1))) 13 (nI (s + nm (vm m) f + h'))) m1 17 → mX m (wI m1 15 (nI (at_ + 1))) s ∧ rI (wI m1 15 (nI (at_ + 1))) 13 = nI (s + nm (vm m) f + h') ∧ rI (wI m1 15 (nI (at_ + 1))) 15 = nI (at_ + 1) ∧ (∀ k, ¬ k = 13 → ¬ k = 15 → rI (wI m1 15 (nI (at_ + 1))) k = rI m k) ∧ (∀ i x, ¬ i = 17 → rA (wI m1 15 (nI (at_ + 1))) i x = rA m i x) ∧ ∀ i x, rL (wI m1 15 (nI (at_ + 1))) i x = rL m i x := fun m1 ho1 => by
    have g1 : ∀ k, ¬ k = 13 → ¬ k = 15 → rI (wI m1 15 (nI (at_ + 1))) k = rI m k := fun k a1 a2 => by rw [rI_wn a2, ho1.1]; exact hmm.1 k a1
    have g2 : ∀ i x, ¬ i = 17 → rA (wI m1 15 (nI (at_ + 1))) i x = rA m i x := fun i x a1 => by rw [rA_wI, ho1.2.1 i x a1]; exact hmm.2.1 i x
    have g3 : ∀ i x, rL (wI m1 15 (nI (at_ + 1))) i x = rL m i x := fun i x => by rw [rL_wI, ho1.2.2]; exact hmm.2.2 i x
    exact ⟨⟨fun k _ _ _ a4 a5 => g1 k a4 a5, fun i x a1 => g2 i x a1, fun x => ⟨g3 1 x, g3 3 x⟩, fun y _ => g3 2 y⟩, by rw [rI_wn (by decide), ho1.1, rI_ws], by rw [rI_ws], g1, g2, g3⟩
  have h15 : ∀ m1, only (wI (wI m 13 (nI (s + nm (vm m) f + h' + 1))) 13 (nI (s + nm (vm m) f + h'))) m1 17 → rI m1 15 = nI at_ := fun m1 ho1 => by rw [ho1.1, rI_wn (by decide), rI_wn (by decide)]; exact x14
  cases r with
  | false =>
    have hR1 := hR
    obtain ⟨r1, ⟨-, -, -, -, -, -, -, -, b9, -⟩, -⟩ := hR1
    obtain ⟨c18', c20, c17⟩ := b9 rfl
    rw [hh] at c20
    have v0 := sv (x := h') x15 (by omega) (by omega)
    have v1 : rL c 2 (b + nm (vm m) f + h' + 1) = rL m 2 (s + nm (vm m) f + h' + 1) := sv (x := h' + 1) x15 (by omega) (by omega)
    have hcc := c18_w (nI (b + nm (vm m) f + h')) (c18_w (nI (b + nm (vm m) f + h' + 1)) (c18_0 c G.length at_))
    have hpop1 := s_pop (c := wA c 18 G.length (nI (at_ + 1))) (P := b + nm (vm m) f + h' + 1) x5 (by rw [rA_wn (by decide)]; exact c20) (by omega)
    rw [rL_wA, v1] at hpop1
    have hpop2 := s_pop (c := wA (wA c 18 G.length (nI (at_ + 1))) 20 G.length (nI (b + nm (vm m) f + h' + 1))) (P := b + nm (vm m) f + h') x5 (by rw [rA_wss]) (by omega)
    rw [rL_wA, rL_wA, v0] at hpop2
    have hperf : fx_Sr_perform N c = fx_Sr_useMemory_b59 N (nI G.length) o (v_a (vm m) at_) (rL m 2 (s + nm (vm m) f + h' + 1)) (wA (wA c 18 G.length (nI (at_ + 1))) 20 G.length (nI (b + nm (vm m) f + h' + 1))) := by
      rw [sp_eq x6 x5 x2 c18' x3 x4, h7, if_pos k5, if_pos k6, if_neg k7, h8]
      unfold fx_Sr_useMemory
      rw [if_neg k9, if_neg k10, if_neg k11, hpop1, bn_s]
    obtain ⟨n, a, l1, l2, l3⟩ := st_both (c := wA (wA (wA c 18 G.length (nI (at_ + 1))) 20 G.length (nI (b + nm (vm m) f + h' + 1))) 20 G.length (nI (b + nm (vm m) f + h'))) (N := N) (v_a (vm m) at_) hoo (wb_a h.2.1 (fun k _ => hcc.1 k) (fun i x hi => hcc.2.2.1 i x (by omega) (by omega)) hcc.2.2.2) x13 (by omega) hN
    rcases l3 with ⟨l4, l5⟩ | ⟨cS, mS, l4, l5, l6, l7, l8, l9⟩
    · obtain ⟨d1, d2, d3, d4, d5, d6⟩ := tc_X hcc 4 b
      refine SR_trap (j := G.length) (b := b) (s := s) (x := 4) h hs1 (m1 := wI (wI (wI (wI (wI m 13 (nI (s + nm (vm m) f + h' + 1))) 13 (nI (s + nm (vm m) f + h'))) 9 3) 10 4) 15 (nI (at_ + 1))) ?_ e1 e2 e3 (fun _ => ⟨_, ?_, d1, wb_X h.2.1 d1 e1 d4 d5 d6 e4 e5 e6, d2, d3⟩) (fun z => (by cases z))
      · rw [msb_s k3, sm_m k4, l5, bv_s, b155 (by simp (disch := omega) only [bn_s, bv_s, bd_s, gb_0, gb_1, rI_ws, rI_wn, rI_wA, rI_wL, rA_wI, rA_wL, rL_wI, rL_wA, rA_wss, rA_wn, rA_wsn, rL_wss, rL_wn, rL_wsn, rN_wI, rN_wA, rN_wL]; exact x14)]
      · rw [hperf]
        unfold fx_Sr_useMemory_b59 fx_Ac_fail
        rw [hpop2, bn_s, l2, bn_s, l1, bn_s, l4, bn_s, if_pos rfl, bv_s]
    · obtain ⟨g0, g1, g2, g3, g4, g5⟩ := hms mS l9
      have d1 : ∀ k, rI cS k = rI c k := fun k => (l8.1 k).trans (hcc.1 k)
      have d2 : ∀ i x, ¬ i = 16 → ¬ (i = 18 ∧ x = G.length) → ¬ (i = 20 ∧ x = G.length) → rA cS i x = rA c i x := fun i x a0 a1 a2 => (l8.2.1 i x a0).trans (hcc.2.2.1 i x a1 a2)
      have d3 : ∀ i y, rL cS i y = rL c i y := fun i y => (l8.2.2 i y).trans (hcc.2.2.2 i y)
      refine SR_of (m1 := wI mS 15 (nI (at_ + 1))) (at1 := at_ + 1) h hR hs1 ?_ g0 hSf p1 p4 (by rw [hT]; exact g1) g2 (g3 9 (by decide) (by decide)) (g3 10 (by decide) (by decide)) (fun _ => ⟨cS, ?_, ⟨fun k _ _ _ _ => d1 k, fun i x a0 a1 a2 => d2 i x a0 a1 a2, fun x => ⟨d3 0 x, d3 3 x⟩, fun y _ => d3 2 y⟩, ?_, d1 11, d1 12, ?_, ?_, ?_, ?_⟩) (fun z => (by cases z))
      · rw [msb_s k3, sm_m k4, l6, bv_s, b155 (h15 mS l9)]
      · rw [hperf]
        unfold fx_Sr_useMemory_b59
        rw [hpop2, bn_s, l2, bn_s, l1, bn_s, l4, bn_s, if_neg (by decide), if_neg k11, l5, bv_s]
      · refine wb_st h.2.1 (fun k _ => d1 k) (fun x => d2 15 x (by decide) (by omega) (by omega)) (fun i x _ => d3 i x) (fun k hk => g3 k (by omega) (by omega)) (fun x => g4 16 x (by decide)) (fun i x _ => g5 i x) (fun i hi => ?_)
        rw [rA_wI]; exact l7 i hi
      · rw [l8.2.1 18 _ (by decide)]; exact hcc.2.1
      · rw [hT, l8.2.1 20 _ (by decide), rA_wss]
      · rw [d1]; exact c17
      · rw [hT]
        exact fV_keep (fV_le x15 (by omega)) (by omega) (fun y _ _ => d3 2 y) (fun y _ _ => g5 2 y)
  | true =>
    have hR1 := hR
    obtain ⟨r1, ⟨hfC, -⟩, -⟩ := hR1
    obtain ⟨sz, z1, z2, z3, z4, z5, z6, z7, z8⟩ := rg_ctx h hfC
    unfold kcV at z5
    rw [ho, hh] at z5
    obtain ⟨y1, y2⟩ := z5.2.2.2.2.2.2.2.2.2.2.2.1 hoo
    have y1 : ci c (KK f at_).1 o (nI ((KK f at_).2.1 + 1)) 0 ((KK f at_).2.2 h') ((KK f at_).2.2 (h' + 1)) (v_a (vm m) at_) := y1
    obtain ⟨v0, w0⟩ := gv (x := h') x15 (by omega)
    obtain ⟨v1, w1⟩ := gv (x := h' + 1) x15 (by omega)
    have v1 : ev c (vm m) b ((KK f at_).2.2 (h' + 1)) = rL m 2 (s + nm (vm m) f + h' + 1) := v1
    have hq := z8.1
    obtain ⟨i1, i2, i3, i4, i5, i6⟩ := y1
    obtain ⟨n, a, l1, l2, l3⟩ := st_both (c := wA (wI c 17 0) 18 G.length (nI ((KK f at_).1 + 1))) (N := N) (v_a (vm m) at_) hoo (wb_a h.2.1 (fun k hk => by rw [rI_wA, rI_wn (by omega)]) (fun i x hi => ga _ _ _ _ _ (by omega)) (fun i x => by rw [rL_wA, rL_wI])) x13 (by omega) hN
    have hperf : fx_Rr_perform N (nI (KK f at_).1) (wI c 17 0) = fx_Rr_useMemory N (nI G.length) o (nI (KK f at_).1) (wA (wI c 17 0) 18 G.length (nI ((KK f at_).1 + 1))) := by
      rw [rp_eq (j := G.length) (by rw [rI_wn (by decide)]; exact x6) x5 (by first | omega | (simp only [rN_wI, rN_wA, rN_wL]; omega))]
      rw [rA_wI, rA_wI, rA_wI, i1, if_neg k8, if_pos k5, if_neg k7]
    obtain ⟨sz', y1', y2', y3', y4'⟩ := R0_tR h hR hs1
    rcases l3 with ⟨l4, l5⟩ | ⟨cS, mS, l4, l5, l6, l7, l8, l9⟩
    · obtain ⟨d1, d2, d3, d4, d5, d6, d7⟩ := tg_X (c := c) (j := G.length) (q := (KK f at_).1) 4 b
      refine SR_trap (j := G.length) (b := b) (s := s) (x := 4) h hs1 (m1 := wI (wI (wI (wI (wI m 13 (nI (s + nm (vm m) f + h' + 1))) 13 (nI (s + nm (vm m) f + h'))) 9 3) 10 4) 15 (nI (at_ + 1))) ?_ e1 e2 e3 (fun z => (by cases z)) (fun _ => ⟨_, 1, by omega, vl_1 (tR_vq (q := (KK f at_).1) y3' (by omega) (by rw [rA_wI]; exact i2) ?_ d7), rfl, d1, wb_X h.2.1 d1 e1 d4 d5 d6 e4 e5 e6, d2, d3⟩)
      · rw [msb_s k3, sm_m k4, l5, bv_s, b155 (by simp (disch := omega) only [bn_s, bv_s, bd_s, gb_0, gb_1, rI_ws, rI_wn, rI_wA, rI_wL, rA_wI, rA_wL, rL_wI, rL_wA, rA_wss, rA_wn, rA_wsn, rL_wss, rL_wn, rL_wsn, rN_wI, rN_wA, rN_wL]; exact x14)]
      · rw [wI_wI, hperf]
        unfold fx_Rr_useMemory fx_Ac_fail
        rw [if_neg k9, gd_k (by first | omega | (simp only [rN_wI, rN_wA, rN_wL]; omega)) (by first | omega | (simp only [rN_wI, rN_wA, rN_wL]; omega)), nI_clamp (by omega), ga _ _ _ _ _ (by decide), i4, gr (n := nm (vm m) f) (x := h') x1 x5 x8 w0 (by omega), bn_s, if_neg k10, gd_k (by first | omega | (simp only [rN_wI, rN_wA, rN_wL]; omega)) (by first | omega | (simp only [rN_wI, rN_wA, rN_wL]; omega)), ga _ _ _ _ _ (by decide), i6, v0, l2, bn_s, l1, bn_s, l4, bn_s, if_pos rfl, bv_s]
    · obtain ⟨g0, g1, g2, g3, g4, g5⟩ := hms mS l9
      have d1 : ∀ k, ¬ k = 17 → rI cS k = rI c k := fun k hk => by rw [l8.1, rI_wA, rI_wn hk]
      have d17 : rI cS 17 = 0 := by rw [l8.1, rI_wA, rI_ws]
      have d2 : ∀ i x, ¬ i = 16 → ¬ (i = 18 ∧ x = G.length) → rA cS i x = rA c i x := fun i x a0 a1 => by rw [l8.2.1 i x a0, rA_wA, if_neg a1, rA_wI]
      have d3 : ∀ i y, rL cS i y = rL c i y := fun i y => by rw [l8.2.2, rL_wA, rL_wI]
      refine SR_of (m1 := wI mS 15 (nI (at_ + 1))) (at1 := at_ + 1) h hR hs1 ?_ g0 hSf p1 p4 (by rw [hT]; exact g1) g2 (g3 9 (by decide) (by decide)) (g3 10 (by decide) (by decide)) (fun z => (by cases z)) (fun _ => ⟨cS, 1, by omega, vl_1 (tR_vq (q := (KK f at_).1) y3' (by omega) (by rw [rA_wI]; exact i2) ?_ d17), (nf_Wo_store l5).trans rfl, ⟨fun k _ _ _ a => d1 k a, fun i x a0 a1 _ => d2 i x a0 a1, fun x => ⟨d3 0 x, d3 3 x⟩, fun y _ => d3 2 y⟩, ?_, d1 11 (by decide), d1 12 (by decide), ?_, ?_, ?_⟩)
      · rw [msb_s k3, sm_m k4, l6, bv_s, b155 (h15 mS l9)]
      · rw [wI_wI, hperf]
        unfold fx_Rr_useMemory
        rw [if_neg k9, gd_k (by first | omega | (simp only [rN_wI, rN_wA, rN_wL]; omega)) (by first | omega | (simp only [rN_wI, rN_wA, rN_wL]; omega)), nI_clamp (by omega), ga _ _ _ _ _ (by decide), i4, gr (n := nm (vm m) f) (x := h') x1 x5 x8 w0 (by omega), bn_s, if_neg k10, gd_k (by first | omega | (simp only [rN_wI, rN_wA, rN_wL]; omega)) (by first | omega | (simp only [rN_wI, rN_wA, rN_wL]; omega)), ga _ _ _ _ _ (by decide), i6, v0, l2, bn_s, l1, bn_s, l4, bn_s, if_neg (by decide), if_neg k11, gd_k (by first | omega | (simp only [rN_wI, rN_wA, rN_wL]; omega)) (by first | omega | (simp only [rN_wI, rN_wA, rN_wL]; omega)), ga _ _ _ _ _ (by decide), i5, gr (n := nm (vm m) f) (x := h' + 1) x1 x5 x8 w1 (by omega), bn_s, v1, l5, bv_s]
      · refine wb_st h.2.1 (fun k hk => d1 k (by omega)) (fun x => d2 15 x (by decide) (by omega)) (fun i x _ => d3 i x) (fun k hk => g3 k (by omega) (by omega)) (fun x => g4 16 x (by decide)) (fun i x _ => g5 i x) (fun i hi => ?_)
        rw [rA_wI]; exact l7 i hi
      · rw [y2, l8.2.1 18 _ (by decide), rA_wss]
      · rw [y2, d17]; rfl
      · rw [hT, y2]
        exact fV_keep (fV_le x15 (by omega)) (by omega) (fun y _ _ => d3 2 y) (fun y _ _ => g5 2 y)
theorem SR_36 {N : Nat} {c m : rs_T} {T : Nat → ts_T} {S E M : Nat → Nat} {F t : Nat} {w : Bool} {KK : Nat → Nat → kT} {ZZ : Nat → Nat → Int32} {QS QE : Nat → Nat} {G : List fr_T} {f at_ b s : Nat} {r : Bool} {b' : Int32} (h : IB c m T S E M F t w KK ZZ QS QE) (hR : R0 c m (vm m) T S E M F w KK G f at_ r b s) (hs1 : rI m 9 = 1) (ho : v_o (vm m) at_ = 36) : SR N c m T S E M F t w 36 (v_a (vm m) at_) b' r := by
  obtain ⟨p1, p2, p3, p4, p5⟩ := pl_ctx (n0 := 1) (k0 := 0) h hR ho (by decide) (by decide)
  obtain ⟨x1, x2, x3, x4, x5, x6, x7, x8, x9, x10, x11, x12, x13, x14, x15, x16, x17, -⟩ := cx h hR
  obtain ⟨h', hh⟩ : ∃ h', (T at_).2.2.1 = h' + 1 := ⟨(T at_).2.2.1 - 1, by omega⟩
  rw [hh] at x13 x15 x11 p3
  have hT : (T (at_ + 1)).2.2.1 = h' := by omega
  have h7 : rA c 7 at_ = 36 := (x1.1 at_).1.trans ho
  have h8 : rA c 8 at_ = v_a (vm m) at_ := (x1.1 at_).2.1
  have x13 : rI m 13 = nI (s + nm (vm m) f + h' + 1) := x13
  obtain ⟨g, hg, eg⟩ : ∃ g : Nat, g < 8 ∧ v_a (vm m) at_ = nI g := by
    unfold t_lim at p5
    rw [if_neg (by decide), if_pos (by decide)] at p5
    cases ht : t_n (v_a (vm m) at_) 7 with
    | none => rw [ht] at p5; cases p5
    | some g =>
      obtain ⟨a1, a2⟩ := t_n_some (by omega) ht
      exact ⟨g, by omega, a2⟩
  rw [eg] at h8 ⊢
  have hSf : S f ≤ at_ + 1 := by
    obtain ⟨-, ⟨⟨-, -, -, -, -, -, -, -, a9, -⟩, -⟩, -⟩ := hR
    omega
  obtain ⟨m1, em1⟩ : ∃ m1, m1 = wI (wL (wI m 13 (nI (s + nm (vm m) f + h'))) 0 g (rL m 2 (s + nm (vm m) f + h'))) 15 (nI (at_ + 1)) := ⟨_, rfl⟩
  have g1 : ∀ k, ¬ k = 13 → ¬ k = 15 → rI m1 k = rI m k := fun k a1 a2 => by rw [em1]; simp (disch := omega) only [bn_s, bv_s, bd_s, gb_0, gb_1, rI_ws, rI_wn, rI_wA, rI_wL, rA_wI, rA_wL, rL_wI, rL_wA, rA_wss, rA_wn, rA_wsn, rL_wss, rL_wn, rL_wsn, rN_wI, rN_wA, rN_wL]
  have g2 : ∀ i x, rA m1 i x = rA m i x := fun i x => by rw [em1]; simp (disch := omega) only [bn_s, bv_s, bd_s, gb_0, gb_1, rI_ws, rI_wn, rI_wA, rI_wL, rA_wI, rA_wL, rL_wI, rL_wA, rA_wss, rA_wn, rA_wsn, rL_wss, rL_wn, rL_wsn, rN_wI, rN_wA, rN_wL]
  have g3 : ∀ i x, ¬ (i = 0 ∧ x = g) → rL m1 i x = rL m i x := fun i x hx => by rw [em1, rL_wI, rL_wL, if_neg hx, rL_wI]
  have g4 : rL m1 0 g = rL m 2 (s + nm (vm m) f + h') := by rw [em1]; simp (disch := omega) only [bn_s, bv_s, bd_s, gb_0, gb_1, rI_ws, rI_wn, rI_wA, rI_wL, rA_wI, rA_wL, rL_wI, rL_wA, rA_wss, rA_wn, rA_wsn, rL_wss, rL_wn, rL_wsn, rN_wI, rN_wA, rN_wL]
  have hwb : ∀ c1, (∀ k, (k < 2 ∨ k = 9) → rI c1 k = rI c k) → (∀ i x, (i = 15 ∨ i = 16) → rA c1 i x = rA c i x) → (∀ i x, ¬ (i = 1 ∧ x = g) → rL c1 i x = rL c i x) → rL c1 1 g = rL m 2 (s + nm (vm m) f + h') → wb c1 m1 F w := fun c1 a1 a2 a3 a4 => by
    obtain ⟨b1, b2, b3, b4, b5, b6, b7⟩ := h.2.1
    refine ⟨fun k hk => ?_, fun k hk => ?_, fun i hi => ?_, ?_, ?_, ?_, ?_⟩
    · rw [a2 15 k (Or.inl rfl), g2]; exact b1 k hk
    · by_cases z : k = g
      · subst z; rw [a4, g4]
      · rw [a3 1 k (by omega), g3 0 k (by omega)]; exact b2 k hk
    · rw [a2 16 i (Or.inr rfl), g2]; exact b3 i hi
    · rw [a1 9 (by omega), g1 7 (by decide) (by decide)]; exact b4
    · obtain ⟨k, k1, k2, k3, k4⟩ := b5
      exact ⟨k, k1, by rw [a1 0 (by omega)]; exact k2, by rw [g1 8 (by decide) (by decide)]; exact k3, fun i hi => by rw [a3 0 i (by omega), g3 1 i (by omega)]; exact k4 i hi⟩
    · rw [a1 1 (by omega), g1 17 (by decide) (by decide)]; exact b6
    · rw [g1 17 (by decide) (by decide)]; exact b7
  refine SR_of (m1 := m1) (at1 := at_ + 1) h hR hs1 ?_ ⟨fun k _ _ _ a4 a5 => g1 k a4 a5, fun i x _ => g2 i x, fun x => ⟨g3 1 x (by omega), g3 3 x (by omega)⟩, fun y _ => g3 2 y (by omega)⟩ hSf p1 p4 ?_ ?_ (g1 9 (by decide) (by decide)) (g1 10 (by decide) (by decide)) (fun hr => ?_) (fun hr => ?_)
  · rw [msb_s (by decide)]
    unfold fx_Md_simple fx_Md_variable
    rw [if_neg (by decide), if_neg (by decide), if_neg (by decide), if_neg (by decide), x7, nI_pred, gd_k (by first | omega | (simp only [rN_wI, rN_wA, rN_wL]; omega)) (by first | omega | (simp only [rN_wI, rN_wA, rN_wL]; omega)), bd_s, if_neg (by decide), if_neg (by decide), if_neg (by decide), if_neg (by decide), m_pop x13 (by omega), bn_s, gd_k hg (by omega), nI_clamp (by omega), bv_s, b155 (by simp (disch := omega) only [bn_s, bv_s, bd_s, gb_0, gb_1, rI_ws, rI_wn, rI_wA, rI_wL, rA_wI, rA_wL, rL_wI, rL_wA, rA_wss, rA_wn, rA_wsn, rL_wss, rL_wn, rL_wsn, rN_wI, rN_wA, rN_wL]; exact x14), em1]
  · rw [hT, em1]; simp (disch := omega) only [bn_s, bv_s, bd_s, gb_0, gb_1, rI_ws, rI_wn, rI_wA, rI_wL, rA_wI, rA_wL, rL_wI, rL_wA, rA_wss, rA_wn, rA_wsn, rL_wss, rL_wn, rL_wsn, rN_wI, rN_wA, rN_wL]
  · rw [em1]; simp (disch := omega) only [bn_s, bv_s, bd_s, gb_0, gb_1, rI_ws, rI_wn, rI_wA, rI_wL, rA_wI, rA_wL, rL_wI, rL_wA, rA_wss, rA_wn, rA_wsn, rL_wss, rL_wn, rL_wsn, rN_wI, rN_wA, rN_wL]
  · subst hr
    obtain ⟨r1, ⟨-, -, -, -, -, -, -, -, b9, -⟩, -⟩ := hR
    obtain ⟨c18', c20, c17⟩ := b9 rfl
    rw [hh] at c20
    have v0 := sv (x := h') x15 (by omega) (by omega)
    have hcc := c18_w (nI (b + nm (vm m) f + h')) (c18_0 c G.length at_)
    obtain ⟨cc, ecc⟩ : ∃ cc, cc = wA (wA c 18 G.length (nI (at_ + 1))) 20 G.length (nI (b + nm (vm m) f + h')) := ⟨_, rfl⟩
    rw [← ecc] at hcc
    have d3 : ∀ i y, ¬ (i = 1 ∧ y = g) → rL (wL cc 1 g (rL m 2 (s + nm (vm m) f + h'))) i y = rL c i y := fun i y hy => by rw [rL_wL, if_neg hy]; exact hcc.2.2.2 i y
    refine ⟨wL cc 1 g (rL m 2 (s + nm (vm m) f + h')), ?_, ⟨fun k _ _ _ _ => hcc.1 k, fun i x _ a1 a2 => hcc.2.2.1 i x a1 a2, fun x => ⟨d3 0 x (by omega), d3 3 x (by omega)⟩, fun y _ => d3 2 y (by omega)⟩, hwb _ (fun k _ => hcc.1 k) (fun i x hi => hcc.2.2.1 i x (by omega) (by omega)) d3 (by rw [rL_wss]), hcc.1 11, hcc.1 12, hcc.2.1, ?_, (hcc.1 17).trans c17, ?_⟩
    · rw [sp_eq x6 x5 x2 c18' x3 x4, h7, if_pos (by decide), if_pos (by decide), if_pos (by decide), if_neg (by decide), h8]
      unfold fx_Sr_useVariable
      rw [gd_k x5 (by omega), bd_s, if_neg (by decide), if_neg (by decide), if_neg (by decide), if_neg (by decide), if_neg (by decide), if_neg (by decide), if_pos (by decide), s_pop (P := b + nm (vm m) f + h') x5 (by rw [rA_wn (by decide)]; exact c20) (by omega), bn_s, gd_k hg (by omega), nI_clamp (by omega), rL_wA, v0, ecc]
    · rw [hT, rA_wL, ecc, rA_wss]
    · rw [hT]
      exact fV_keep (fV_le x15 (by omega)) (by omega) (fun y _ _ => d3 2 y (by omega)) (fun y _ _ => g3 2 y (by omega))
  · subst hr
    have hR1 := hR
    obtain ⟨r1, ⟨hfC, -⟩, -⟩ := hR1
    obtain ⟨sz, z1, z2, z3, z4, z5, z6, z7, z8⟩ := rg_ctx h hfC
    unfold kcV at z5
    rw [ho, hh, eg] at z5
    obtain ⟨y1, y2⟩ := z5.2.2.2.2.2.2.2.2.1 rfl
    have y1 : ci c (KK f at_).1 36 (nI ((KK f at_).2.1 + 1)) 0 ((KK f at_).2.2 h') 0 (nI g) := y1
    obtain ⟨v0, w0⟩ := gv (x := h') x15 (by omega)
    have hq := z8.1
    obtain ⟨i1, i2, i3, i4, i5, i6⟩ := y1
    obtain ⟨sz', y1', y2', y3', y4'⟩ := R0_tR h hR hs1
    obtain ⟨c1, ec1⟩ : ∃ c1, c1 = wL (wA (wI c 17 0) 18 G.length (nI ((KK f at_).1 + 1))) 1 g (rL m 2 (s + nm (vm m) f + h')) := ⟨_, rfl⟩
    have d1 : ∀ k, ¬ k = 17 → rI c1 k = rI c k := fun k hk => by rw [ec1]; simp (disch := omega) only [bn_s, bv_s, bd_s, gb_0, gb_1, rI_ws, rI_wn, rI_wA, rI_wL, rA_wI, rA_wL, rL_wI, rL_wA, rA_wss, rA_wn, rA_wsn, rL_wss, rL_wn, rL_wsn, rN_wI, rN_wA, rN_wL]
    have d2 : ∀ i x, ¬ (i = 18 ∧ x = G.length) → rA c1 i x = rA c i x := fun i x a1 => by rw [ec1, rA_wL, rA_wA, if_neg a1, rA_wI]
    have d3 : ∀ i y, ¬ (i = 1 ∧ y = g) → rL c1 i y = rL c i y := fun i y hy => by rw [ec1, rL_wL, if_neg hy, rL_wA, rL_wI]
    have d4 : rL c1 1 g = rL m 2 (s + nm (vm m) f + h') := by rw [ec1, rL_wss]
    have d17 : rI c1 17 = 0 := by rw [ec1]; simp (disch := omega) only [bn_s, bv_s, bd_s, gb_0, gb_1, rI_ws, rI_wn, rI_wA, rI_wL, rA_wI, rA_wL, rL_wI, rL_wA, rA_wss, rA_wn, rA_wsn, rL_wss, rL_wn, rL_wsn, rN_wI, rN_wA, rN_wL]
    refine ⟨c1, 1, by omega, vl_1 (tR_vq (q := (KK f at_).1) y3' (by omega) (by rw [rA_wI]; exact i2) ?_ d17), by rw [ec1]; rfl, ⟨fun k _ _ _ a => d1 k a, fun i x _ a1 _ => d2 i x a1, fun x => ⟨d3 0 x (by omega), d3 3 x (by omega)⟩, fun y _ => d3 2 y (by omega)⟩, hwb _ (fun k hk => d1 k (by omega)) (fun i x hi => d2 i x (by omega)) d3 d4, d1 11 (by decide), d1 12 (by decide), ?_, ?_, ?_⟩
    · rw [wI_wI, rp_eq (j := G.length) (by rw [rI_wn (by decide)]; exact x6) x5 (by first | omega | (simp only [rN_wI, rN_wA, rN_wL]; omega))]
      rw [rA_wI, rA_wI, rA_wI, i1, if_neg (by decide), if_pos (by decide), if_pos (by decide), if_neg (by decide)]
      unfold fx_Rr_useVariable
      rw [if_neg (by decide), if_neg (by decide), if_pos (by decide), gd_k (by first | omega | (simp only [rN_wI, rN_wA, rN_wL]; omega)) (by first | omega | (simp only [rN_wI, rN_wA, rN_wL]; omega)), gd_k (by first | omega | (simp only [rN_wI, rN_wA, rN_wL]; omega)) (by first | omega | (simp only [rN_wI, rN_wA, rN_wL]; omega)), nI_clamp (by omega), ga _ _ _ _ _ (by decide), i4, gr (n := nm (vm m) f) (x := h') x1 x5 x8 w0 (by omega), bn_s, ga _ _ _ _ _ (by decide), i6, gd_k hg (by omega), nI_clamp (by omega), v0, ec1]
    · rw [y2, ec1]; simp (disch := omega) only [bn_s, bv_s, bd_s, gb_0, gb_1, rI_ws, rI_wn, rI_wA, rI_wL, rA_wI, rA_wL, rL_wI, rL_wA, rA_wss, rA_wn, rA_wsn, rL_wss, rL_wn, rL_wsn, rN_wI, rN_wA, rN_wL]
    · rw [y2, d17]; rfl
    · rw [hT, y2]
      exact fV_keep (fV_le x15 (by omega)) (by omega) (fun y _ _ => d3 2 y (by omega)) (fun y _ _ => g3 2 y (by omega))
