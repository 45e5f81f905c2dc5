-- ===== the compiler at one place: BLOCK, LOOP, IF, ELSE, END; dead code =====
theorem pt_sl (n h : Nat) : pt n (sl n) h = 0 := cn_zero h 0 (fun j _ _ => by unfold ns sl; simp)
theorem tr_s {c : rs_T} {N i : Nat} {o : Int32} (hi : i < rN c 0 ∧ rN c 0 ≤ 1500) (h7 : rA c 7 i = o) (h2 : ¬ o < 2) (h11 : ¬ 11 < o) : fx_Co_translate N (nI i) c = fx_Co_structure N o (nI i) c := by
  unfold fx_Co_translate
  rw [gd_k (by omega) (by omega), bd_s, nI_clamp (by omega), h7, if_neg h2, if_neg h11, bv_id]
theorem k_pe {c : rs_T} {n f q p h s : Nat} {W : Nat → Int32} (hk : kst c n f q p h W) (hp : p ≤ 1000) (hq : q < rN c 2 ∧ rN c 2 ≤ 3000) (hz : zk c s q) : ∃ c1 q1, fx_Co_emitPending c = some c1 ∧ kst c1 n f q1 0 h W ∧ ke c c1 q ∧ zk c1 s q1 ∧ q ≤ q1 ∧ q1 ≤ q + 1 ∧ ((p = 0 ∧ q1 = q) ∨ (0 < p ∧ q1 = q + 1 ∧ ci c1 q 1 (nI p) 0 0 0 0)) := by
  unfold fx_Co_emitPending
  rw [hk.2.2.2.2.1]
  by_cases e : p = 0
  · subst e
    rw [if_pos (by decide)]
    exact ⟨c, q, rfl, hk, ke_rfl _ _, hz, Nat.le_refl _, Nat.le_succ _, Or.inl ⟨rfl, rfl⟩⟩
  · have hn : ¬ nI p ≤ (0 : Int32) := fun z => by
      have : p ≤ 0 := (le_lit (k := 0) (show p < 2 ^ 31 by omega) (by omega)).mp z
      omega
    rw [if_neg hn]
    obtain ⟨c1, e1, e2, e3, e4, e5⟩ := k_emit hk hq hz 1 0 0 0 0 (fun z => absurd z (by decide))
    have n_e3 := ke_n3 e3
    exact ⟨c1, q + 1, by rw [e1, bv_s], e2, e3, e4, Nat.le_succ _, Nat.le_refl _, Or.inr ⟨by omega, rfl, e5⟩⟩
theorem k_pl {c : rs_T} {n f q p h s : Nat} {W : Nat → Int32} (i : Nat) (v : Int32) (hk : kst c n f q p h W) (hz : zk c s q) : kst (wA c 30 i v) n f q p h W ∧ zk (wA c 30 i v) s q ∧ kf c (wA c 30 i v) q i ∧ rI (wA c 30 i v) 25 = rI c 25 ∧ rI (wA c 30 i v) 26 = rI c 26 ∧ rA (wA c 30 i v) 30 i = v := by
  obtain ⟨k1, k2, k3, k4, k5, k6⟩ := hk
  refine ⟨⟨?_, ?_, ?_, ?_, ?_, fun j hj => ?_⟩, fun x h1 h2 => ?_, ⟨fun k hk => ?_, fun j x' hj => ?_, fun j x' h1 h2 h3 => ?_, fun x' hx => ?_, fun j x' => ?_, rfl⟩, ?_, ?_, ?_⟩
  · simp (disch := omega) only [bn_s, bv_s, bd_s, gb_0, gb_1, rI_ws, rI_wn, rI_wA, rI_wL, rA_wI, rA_wL, rL_wI, rL_wA, rA_wss, rA_wn, rA_wsn, rL_wss, rL_wn, rL_wsn, rN_wI, rN_wA, rN_wL]; exact k1
  · simp (disch := omega) only [bn_s, bv_s, bd_s, gb_0, gb_1, rI_ws, rI_wn, rI_wA, rI_wL, rA_wI, rA_wL, rL_wI, rL_wA, rA_wss, rA_wn, rA_wsn, rL_wss, rL_wn, rL_wsn, rN_wI, rN_wA, rN_wL]; exact k2
  · simp (disch := omega) only [bn_s, bv_s, bd_s, gb_0, gb_1, rI_ws, rI_wn, rI_wA, rI_wL, rA_wI, rA_wL, rL_wI, rL_wA, rA_wss, rA_wn, rA_wsn, rL_wss, rL_wn, rL_wsn, rN_wI, rN_wA, rN_wL]; exact k3
  · simp (disch := omega) only [bn_s, bv_s, bd_s, gb_0, gb_1, rI_ws, rI_wn, rI_wA, rI_wL, rA_wI, rA_wL, rL_wI, rL_wA, rA_wss, rA_wn, rA_wsn, rL_wss, rL_wn, rL_wsn, rN_wI, rN_wA, rN_wL]; exact k4
  · simp (disch := omega) only [bn_s, bv_s, bd_s, gb_0, gb_1, rI_ws, rI_wn, rI_wA, rI_wL, rA_wI, rA_wL, rL_wI, rL_wA, rA_wss, rA_wn, rA_wsn, rL_wss, rL_wn, rL_wsn, rN_wI, rN_wA, rN_wL]; exact k5
  · simp (disch := omega) only [bn_s, bv_s, bd_s, gb_0, gb_1, rI_ws, rI_wn, rI_wA, rI_wL, rA_wI, rA_wL, rL_wI, rL_wA, rA_wss, rA_wn, rA_wsn, rL_wss, rL_wn, rL_wsn, rN_wI, rN_wA, rN_wL]; exact k6 j hj
  · simp (disch := omega) only [bn_s, bv_s, bd_s, gb_0, gb_1, rI_ws, rI_wn, rI_wA, rI_wL, rA_wI, rA_wL, rL_wI, rL_wA, rA_wss, rA_wn, rA_wsn, rL_wss, rL_wn, rL_wsn, rN_wI, rN_wA, rN_wL]; exact hz x h1 h2
  all_goals simp (disch := omega) only [bn_s, bv_s, bd_s, gb_0, gb_1, rI_ws, rI_wn, rI_wA, rI_wL, rA_wI, rA_wL, rL_wI, rL_wA, rA_wss, rA_wn, rA_wsn, rL_wss, rL_wn, rL_wsn, rN_wI, rN_wA, rN_wL]
theorem k_life {c : rs_T} {N n f q p h s k i : Nat} {W : Nat → Int32} (hk : kst c n f q p h W) (hz : zk c s q) (hi : i < rN c 3 ∧ rN c 3 ≤ 1500) (hk2 : k ≤ 220) (hn : n ≤ 16) (hN : 1000 ≤ N) : ∃ c1, fx_Co_comeToLife N (nI i) (nI k) c = some c1 ∧ kst c1 n f q p k (sl n) ∧ zk c1 s q ∧ kf c c1 q i ∧ rI c1 25 = 1 ∧ rI c1 26 = rI c 26 ∧ rA c1 30 i = nI q := by
  obtain ⟨p1, p2, p3, p4, p5, p6⟩ := k_pl i (nI q) hk hz
  obtain ⟨l1, l2, l3, l4, l5⟩ := k_lv 1 i p1 p2
  obtain ⟨s1, s2, s3⟩ := k_seth (k := 0) (Nat.zero_le _) l1 l2
  have n_s2 := ke_n3 s2
  obtain ⟨c1, e1, e2, e3, e4⟩ := k_putk (N := N) (k := k) s1 (by omega) hn hN s3
  have n_e3 := ke_n3 e3
  rw [kw_0, Nat.zero_add] at e2
  have hke := ke_tr s2 e3 (Nat.le_refl _)
  refine ⟨c1, ?_, e2, e4, kf_tr (kf_tr p3 l3 (Nat.le_refl _)) (ke_kf i hke) (Nat.le_refl _), ?_, ?_, ?_⟩
  · unfold fx_Co_comeToLife
    rw [gd_k (by omega) (by omega), nI_clamp (by omega), hk.1, ← nI_0, e1, bv_s]
  · rw [hke.1 25 (by omega)]; exact l4
  · rw [hke.1 26 (by omega), l5, p5]
  · rw [hke.2.2.2.1 i]
    simp (disch := omega) only [bn_s, bv_s, bd_s, gb_0, gb_1, rI_ws, rI_wn, rI_wA, rI_wL, rA_wI, rA_wL, rL_wI, rL_wA, rA_wss, rA_wn, rA_wsn, rL_wss, rL_wn, rL_wsn, rN_wI, rN_wA, rN_wL]
theorem kt_2 {c : rs_T} {N n f s q p h i : Nat} {W : Nat → Int32} (hi : kin c N n f s q p h W i 2) : ∃ c1 q1 p1, fx_Co_translate N (nI i) c = some c1 ∧ kout c c1 n f s q i h (q1, p1, sl n) (q + pt n W h + 2) 1 ∧ mvf c1 n W 0 h q p q1 p1 := by
  obtain ⟨hk, hz, h25, h7, hi, hh, hn, hq, hN⟩ := hi
  have hp := pt_h n W h
  rw [tr_s (by omega) h7 (by decide) (by decide)]
  obtain ⟨c1, q1, p1, e1, e2, e3, e4, e5, e6, e7⟩ := k_fillS (N := N) (lo := 0) hh hn hN (by omega) (by omega) hk hz
  have n_e3 := ke_n3 e3
  rw [kw_0] at e2 e6
  have e1 : fx_Co_fillSlots N 0 c = some c1 := e1
  refine ⟨c1, q1, p1, ?_, ⟨e2, e4, ke_kf i e3, e7, ?_, ?_, ?_⟩, e5⟩
  · unfold fx_Co_structure fx_Co_begin
    rw [if_pos (by decide), h25, if_neg (by decide), if_neg (by decide), e1, bv_s, if_neg (by decide), bv_s]
  · show q1 + pt n (sl n) h ≤ _
    omega
  · rw [e3.1 25 (by omega)]; exact h25
  · exact e3.1 26 (by omega)
theorem kt_3 {c : rs_T} {N n f s q p h i : Nat} {W : Nat → Int32} (hi : kin c N n f s q p h W i 3) (hpp : p ≤ 1000) : ∃ c1 q1 p1 q2, fx_Co_translate N (nI i) c = some c1 ∧ kout c c1 n f s q i h (q2, 0, sl n) (q + pt n W h + 2) 1 ∧ mvf c1 n W 0 h q p q1 p1 ∧ ((p1 = 0 ∧ q2 = q1) ∨ (0 < p1 ∧ ci c1 q1 1 (nI p1) 0 0 0 0 ∧ q2 = q1 + 1)) ∧ rA c1 30 i = nI q2 := by
  obtain ⟨hk, hz, h25, h7, hi, hh, hn, hq, hN⟩ := hi
  have hp := pt_h n W h
  rw [tr_s (by omega) h7 (by decide) (by decide)]
  obtain ⟨c1, q1, p1, e1, e2, e3, e4, e5, e6, e7⟩ := k_fillS (N := N) (lo := 0) hh hn hN (by omega) (by omega) hk hz
  have n_e3 := ke_n3 e3
  rw [kw_0] at e2 e6
  have e1 : fx_Co_fillSlots N 0 c = some c1 := e1
  have hp1 := (mv_q e5).2.1
  rw [pt_sl] at e6
  obtain ⟨c2, q2, f1, f2, f3, f4, f5, f6, f7⟩ := k_pe e2 (by omega) (by omega) e4
  have n_f3 := ke_n3 f3
  obtain ⟨g1, g2, g3, g4, g5, g6⟩ := k_pl i (nI q2) f2 f4
  have hk2 := ke_tr e3 f3 e7
  have hk3 : ke c2 (wA c2 30 i (nI q2)) q2 ∨ True := Or.inr trivial
  refine ⟨wA c2 30 i (nI q2), q1, p1, q2, ?_, ⟨g1, g2, kf_tr (ke_kf i hk2) g3 (by omega), ?_, ?_, ?_, ?_⟩, ?_, ?_, g6⟩
  · unfold fx_Co_structure fx_Co_begin
    rw [if_pos (by decide), h25, if_neg (by decide), if_neg (by decide), e1, bv_s, if_pos (by decide), f1, bv_s, gd_k (by omega) (by omega), nI_clamp (by omega), f2.1, bv_s]
  · show q ≤ q2
    omega
  · show q2 + pt n (sl n) h ≤ _
    rw [pt_sl]
    omega
  · rw [g4, hk2.1 25 (by omega)]; exact h25
  · rw [g5]; exact hk2.1 26 (by omega)
  · have m2 := mv_ke f3 (Nat.le_refl _) e5
    exact mv_inc (Z := nI) (Z1 := nI) (P := 0) (X := 0) ⟨fun j x a1 a2 _ a3 => g3.2.2.1 j x a1 (by omega) a3, fun x _ a1 _ _ => g3.2.2.1 28 x (by decide) (by decide) a1, fun x e _ a1 _ _ a4 => (g3.2.2.1 28 x (by decide) (by decide) a1).trans a4, fun x hx => by omega⟩ (Nat.zero_le _) f5 m2
  · rcases f7 with ⟨a1, a2⟩ | ⟨a1, a2, a3⟩
    · exact Or.inl ⟨a1, a2⟩
    · exact Or.inr ⟨a1, a3, a2⟩
theorem kt_4 {c : rs_T} {N n f s q p h i e : Nat} {W : Nat → Int32} (hi : kin c N n f s q p (h + 1) W i 4) (he : e < 512 ∧ e < rN c 0) (hl : (rA c 11 i = -1 ∧ rA c 10 i = nI e) ∨ rA c 11 i = nI e) : ∃ c1 q1 p1, fx_Co_translate N (nI i) c = some c1 ∧ kout c c1 n f s q i h (q1 + 1, 0, sl n) (q + pt n W (h + 1) + 2) 1 ∧ mvf c1 n W 0 h q (p + 1) q1 p1 ∧ ci c1 q1 4 (nI p1) 0 (W h) 0 (nI e) := by
  obtain ⟨hk, hz, h25, h7, hi, hh, hn, hq, hN⟩ := hi
  have hp := pt_h n W h
  rw [tr_s (by omega) h7 (by decide) (by decide)]
  obtain ⟨k1, k2, k3⟩ := k_pend hk hz
  have n_k2 := ke_n3 k2
  obtain ⟨c0, d1, d2, d3, d4⟩ := k_pop k1 (by omega) k3
  have n_d3 := ke_n3 d3
  have hps := (pt_s1 n W h).1
  obtain ⟨c1, q1, p1, e1, e2, e3, e4, e5, e6, e7⟩ := k_fillS (N := N) (lo := 0) (by omega) hn hN (by omega) (by omega) d2 d4
  have n_e3 := ke_n3 e3
  rw [kw_0] at e2 e6
  have e1 : fx_Co_fillSlots N 0 c0 = some c1 := e1
  rw [pt_sl] at e6
  have hk1 := ke_tr (ke_tr k2 d3 (Nat.le_refl _)) e3 (Nat.le_refl _)
  obtain ⟨c2, f1, f2, f3, f4, f5⟩ := k_emit e2 (by omega) e4 4 0 (W h) 0 (nI e) (fun _ => ⟨e, by omega, rfl⟩)
  have n_f3 := ke_n3 f3
  have hk2 := ke_tr hk1 f3 e7
  have h1 := (pt_s1 n W h).1
  refine ⟨c2, q1, p1, ?_, ⟨f2, f4, ke_kf i hk2, ?_, ?_, ?_, ?_⟩, mv_ke f3 (Nat.le_refl _) e5, f5⟩
  · unfold fx_Co_structure fx_Co_begin fx_Co_begin_b82
    rw [if_pos (by decide), h25, if_neg (by decide), if_pos (by decide), d1, bn_s, e1, bv_s, gd_k (by omega) (by omega), gd_k (by omega) (by omega), nI_clamp (by omega), hk1.2.1 11 i (by decide), hk1.2.1 10 i (by decide)]
    rcases hl with ⟨a1, a2⟩ | a1
    · rw [a1, a2, if_pos rfl, f1, bv_s, bv_s]
    · rw [a1, if_neg (fun z => (nI_m1 (by omega)).mp z), gd_k (by omega) (by omega), f1, bv_s, bv_s]
  · show q ≤ q1 + 1
    omega
  · show q1 + 1 + pt n (sl n) h ≤ _
    rw [pt_sl]
    omega
  · rw [hk2.1 25 (by omega)]; exact h25
  · exact hk2.1 26 (by omega)
theorem kt_5 {c : rs_T} {N n f s q p h i e b w a : Nat} {W : Nat → Int32} (hi : kin c N n f s q p h W i 5) (h26 : rI c 26 = 0) (he : e < 512 ∧ e < rN c 0) (hb : b < 512 ∧ b < rN c 0) (h10 : rA c 10 i = nI e) (h11 : rA c 11 i = nI b) (h12 : rA c 12 b = nI w) (h8 : rA c 8 b = nI a) (hw : w + a ≤ 220) : ∃ c1 q1 p1, fx_Co_translate N (nI i) c = some c1 ∧ kout c c1 n f s q i (w + a) (q1 + 1, 0, sl n) (q + pt n W h + 2) 1 ∧ mvf c1 n W 0 h q p q1 p1 ∧ ci c1 q1 12 (nI p1) 0 0 0 (nI e) ∧ rA c1 30 i = nI (q1 + 1) := by
  obtain ⟨hk, hz, h25, h7, hi, hh, hn, hq, hN⟩ := hi
  have hp := pt_h n W h
  rw [tr_s (by omega) h7 (by decide) (by decide)]
  obtain ⟨c1, q1, p1, e1, e2, e3, e4, e5, e6, e7⟩ := k_fillS (N := N) (lo := 0) (by omega) hn hN (by omega) (by omega) hk hz
  have n_e3 := ke_n3 e3
  rw [kw_0] at e2 e6
  have e1 : fx_Co_fillSlots N 0 c = some c1 := e1
  rw [pt_sl] at e6
  obtain ⟨c2, f1, f2, f3, f4, f5⟩ := k_emit e2 (by omega) e4 12 0 0 0 (nI e) (fun _ => ⟨e, by omega, rfl⟩)
  have n_f3 := ke_n3 f3
  have hk2 := ke_tr e3 f3 e7
  obtain ⟨c3, g1, g2, g3, g4, g5, g6, g7⟩ := k_life (N := N) (i := i) (k := w + a) f2 f4 (by omega) hw hn hN
  have hinc : inc c2 c3 nI nI 0 (q1 + 1) 0 := ⟨fun j x a1 a2 _ a3 => g4.2.2.1 j x a1 (by omega) a3, fun x _ a1 _ _ => g4.2.2.1 28 x (by decide) (by decide) a1, fun x e _ a1 _ _ a4 => (g4.2.2.1 28 x (by decide) (by decide) a1).trans a4, fun x hx => by omega⟩
  refine ⟨c3, q1, p1, ?_, ⟨g2, g3, kf_tr (ke_kf i hk2) g4 (by omega), ?_, ?_, g5, g6.trans (hk2.1 26 (by omega))⟩, mv_inc hinc (Nat.zero_le _) (by omega) (mv_ke f3 (Nat.le_refl _) e5), cj_inc hinc f5 (Nat.zero_le _) (by omega) (Or.inl rfl) he.1, g7⟩
  · unfold fx_Co_structure fx_Co_turn fx_Co_turn_b48
    rw [if_neg (by decide), if_pos (by decide), h26, if_pos (by decide), gd_k (by omega) (by omega), bd_s, nI_clamp (by omega), h11, h25, if_neg (by decide), e1, bv_s, gd_k (by omega) (by omega), e3.2.1 10 i (by decide), h10, f1, bv_s, gd_k (by omega) (by omega), gd_k (by omega) (by omega), nI_clamp (by omega), hk2.2.1 12 b (by decide), h12, hk2.2.1 8 b (by decide), h8, nI_add, g1, bv_s, bv_s]
  · show q ≤ q1 + 1
    omega
  · show q1 + 1 + pt n (sl n) (w + a) ≤ _
    rw [pt_sl]
    omega
theorem kt_11 {c : rs_T} {N n f s q p h i b w a : Nat} {W : Nat → Int32} (hi : kin c N n f s q p h W i 11) (hpp : p ≤ 1000) (h26 : rI c 26 = 0) (hb : b < 512 ∧ b < rN c 0) (h10 : rA c 10 i = nI b) (h12 : rA c 12 b = nI w) (h9 : rA c 9 b = nI a) (hw : w + a ≤ 220) : ∃ c1 q1 p1 q2, fx_Co_translate N (nI i) c = some c1 ∧ kout c c1 n f s q i (w + a) (q2, 0, sl n) (q + pt n W h + 2) 1 ∧ mvf c1 n W 0 h q p q1 p1 ∧ ((p1 = 0 ∧ q2 = q1) ∨ (0 < p1 ∧ ci c1 q1 1 (nI p1) 0 0 0 0 ∧ q2 = q1 + 1)) ∧ rA c1 30 i = nI q2 := by
  obtain ⟨hk, hz, h25, h7, hi, hh, hn, hq, hN⟩ := hi
  have hp := pt_h n W h
  rw [tr_s (by omega) h7 (by decide) (by decide)]
  obtain ⟨c1, q1, p1, e1, e2, e3, e4, e5, e6, e7⟩ := k_fillS (N := N) (lo := 0) (by omega) hn hN (by omega) (by omega) hk hz
  have n_e3 := ke_n3 e3
  rw [kw_0] at e2 e6
  have e1 : fx_Co_fillSlots N 0 c = some c1 := e1
  have hp1 := (mv_q e5).2.1
  rw [pt_sl] at e6
  obtain ⟨c2, q2, f1, f2, f3, f4, f5, f6, f7⟩ := k_pe e2 (by omega) (by omega) e4
  have n_f3 := ke_n3 f3
  have hk2 := ke_tr e3 f3 e7
  obtain ⟨c3, g1, g2, g3, g4, g5, g6, g7⟩ := k_life (N := N) (i := i) (k := w + a) f2 f4 (by omega) hw hn hN
  have hinc : inc c2 c3 nI nI 0 q2 0 := ⟨fun j x a1 a2 _ a3 => g4.2.2.1 j x a1 (by omega) a3, fun x _ a1 _ _ => g4.2.2.1 28 x (by decide) (by decide) a1, fun x e _ a1 _ _ a4 => (g4.2.2.1 28 x (by decide) (by decide) a1).trans a4, fun x hx => by omega⟩
  refine ⟨c3, q1, p1, q2, ?_, ⟨g2, g3, kf_tr (ke_kf i hk2) g4 (by omega), ?_, ?_, g5, g6.trans (hk2.1 26 (by omega))⟩, mv_inc hinc (Nat.zero_le _) f5 (mv_ke f3 (Nat.le_refl _) e5), ?_, g7⟩
  · unfold fx_Co_structure fx_Co_end fx_Co_end_b63
    rw [if_neg (by decide), if_neg (by decide), if_pos (by decide), h26, if_pos (by decide), gd_k (by omega) (by omega), bd_s, nI_clamp (by omega), h10, h25, if_neg (by decide), e1, bv_s, if_neg (fun z => (nI_m1 (by omega)).mp z), f1, bv_s, if_neg (fun z => (nI_m1 (by omega)).mp z), gd_k (by omega) (by omega), gd_k (by omega) (by omega), nI_clamp (by omega), hk2.2.1 12 b (by decide), h12, hk2.2.1 9 b (by decide), h9, nI_add, g1, bv_s, bv_s]
  · show q ≤ q2
    omega
  · show q2 + pt n (sl n) (w + a) ≤ _
    rw [pt_sl]
    omega
  · rcases f7 with ⟨a1, a2⟩ | ⟨a1, a2, a3⟩
    · exact Or.inl ⟨a1, a2⟩
    · exact Or.inr ⟨a1, ci_inc hinc a3 (Nat.zero_le _) (by omega) (by decide) (by decide), a2⟩
theorem kt_f {c : rs_T} {N n f s q p h i : Nat} {W : Nat → Int32} (hi : kin c N n f s q p h W i 11) (h26 : rI c 26 = 0) (h10 : rA c 10 i = -1) : ∃ c1 q1 p1, fx_Co_translate N (nI i) c = some c1 ∧ kout c c1 n f s q i h (q1 + 1, 0, sl n) (q + pt n W h + 2) 1 ∧ mvf c1 n W 0 h q p q1 p1 ∧ ci c1 q1 15 (nI p1) 0 (nI n) 0 0 := by
  obtain ⟨hk, hz, h25, h7, hi, hh, hn, hq, hN⟩ := hi
  have hp := pt_h n W h
  rw [tr_s (by omega) h7 (by decide) (by decide)]
  obtain ⟨c1, q1, p1, e1, e2, e3, e4, e5, e6, e7⟩ := k_fillS (N := N) (lo := 0) (by omega) hn hN (by omega) (by omega) hk hz
  have n_e3 := ke_n3 e3
  rw [kw_0] at e2 e6
  have e1 : fx_Co_fillSlots N 0 c = some c1 := e1
  rw [pt_sl] at e6
  obtain ⟨c2, f1, f2, f3, f4, f5⟩ := k_emit e2 (by omega) e4 15 0 (nI n) 0 0 (fun z => absurd z (by decide))
  have n_f3 := ke_n3 f3
  have hk2 := ke_tr e3 f3 e7
  refine ⟨c2, q1, p1, ?_, ⟨f2, f4, ke_kf i hk2, ?_, ?_, ?_, ?_⟩, mv_ke f3 (Nat.le_refl _) e5, f5⟩
  · unfold fx_Co_structure fx_Co_end
    rw [if_neg (by decide), if_neg (by decide), if_pos (by decide), h26, if_pos (by decide), gd_k (by omega) (by omega), bd_s, nI_clamp (by omega), h10, h25, if_neg (by decide), e1, bv_s, if_pos rfl, e2.2.2.1, f1, bv_s, bv_s]
  · show q ≤ q1 + 1
    omega
  · show q1 + 1 + pt n (sl n) h ≤ _
    rw [pt_sl]
    omega
  · rw [hk2.1 25 (by omega)]; exact h25
  · exact hk2.1 26 (by omega)
-- dead code
theorem kd_1 {c : rs_T} {N i : Nat} {o : Int32} (hi : i < rN c 0 ∧ rN c 0 ≤ 1500) (h7 : rA c 7 i = o) (h25 : rI c 25 = 0) (ho : o < 2 ∨ 11 < o) (h : ¬ (o < 2 ∧ 11 < o)) : fx_Co_translate N (nI i) c = some c := by
  have e : fx_Co_translate_b28 N (nI i) o c = some c := by
    unfold fx_Co_translate_b28
    rw [h25, if_pos rfl]
  unfold fx_Co_translate
  rw [gd_k (by omega) (by omega), bd_s, nI_clamp (by omega), h7]
  rcases ho with ho | ho
  · rw [if_pos ho]; exact e
  · rw [if_neg (fun z => h ⟨z, ho⟩), if_pos ho]; exact e
theorem kd_6 {c : rs_T} {N i : Nat} (hi : i < rN c 0 ∧ rN c 0 ≤ 1500) (h7 : rA c 7 i = 6) : fx_Co_translate N (nI i) c = some c := by
  rw [tr_s (by omega) h7 (by decide) (by decide)]
  unfold fx_Co_structure
  rw [if_neg (by decide), if_neg (by decide), if_neg (by decide)]
theorem kd_2 {c : rs_T} {N i d : Nat} {o : Int32} (hi : i < rN c 0 ∧ rN c 0 ≤ 1500) (h7 : rA c 7 i = o) (h25 : rI c 25 = 0) (h26 : rI c 26 = nI d) (ho : o ∈ ([2, 3, 4] : List Int32)) : fx_Co_translate N (nI i) c = some (wI c 26 (nI (d + 1))) := by
  have hb : ¬ o < 2 ∧ ¬ 11 < o := by
    simp only [List.mem_cons, List.not_mem_nil, or_false] at ho
    rcases ho with rfl | rfl | rfl <;> decide
  rw [tr_s (by omega) h7 hb.1 hb.2]
  unfold fx_Co_structure fx_Co_begin
  rw [if_pos ho, h25, if_pos rfl, h26, nI_1, bv_s]
theorem kd_5 {c : rs_T} {N i d : Nat} (hi : i < rN c 0 ∧ rN c 0 ≤ 1500) (h7 : rA c 7 i = 5) (h26 : rI c 26 = nI (d + 1)) (hd : d < 1000) : fx_Co_translate N (nI i) c = some c := by
  rw [tr_s (by omega) h7 (by decide) (by decide)]
  have hn : ¬ nI (d + 1) ≤ (0 : Int32) := fun z => by
    have : d + 1 ≤ 0 := (le_lit (k := 0) (show d + 1 < 2 ^ 31 by omega) (by omega)).mp z
    omega
  unfold fx_Co_structure fx_Co_turn
  rw [if_neg (by decide), if_pos (by decide), h26, if_neg hn, bv_s]
theorem kd_11 {c : rs_T} {N i d : Nat} (hi : i < rN c 0 ∧ rN c 0 ≤ 1500) (h7 : rA c 7 i = 11) (h26 : rI c 26 = nI (d + 1)) (hd : d < 1000) : fx_Co_translate N (nI i) c = some (wI c 26 (nI d)) := by
  rw [tr_s (by omega) h7 (by decide) (by decide)]
  have hn : ¬ nI (d + 1) ≤ (0 : Int32) := fun z => by
    have : d + 1 ≤ 0 := (le_lit (k := 0) (show d + 1 < 2 ^ 31 by omega) (by omega)).mp z
    omega
  unfold fx_Co_structure fx_Co_end
  rw [if_neg (by decide), if_neg (by decide), if_pos (by decide), h26, if_neg hn, nI_pred, bv_s]
theorem kd_5l {c : rs_T} {N n f s q p h i b w a : Nat} {W : Nat → Int32} (hk : kst c n f q p h W) (hz : zk c s q) (hn : n ≤ 16) (hN : 1000 ≤ N) (hi : i < rN c 0 ∧ rN c 0 ≤ 1500 ∧ rN c 0 ≤ rN c 3 ∧ rN c 3 ≤ 1500) (h7 : rA c 7 i = 5) (h25 : rI c 25 = 0) (h26 : rI c 26 = 0) (hb : b < 512 ∧ b < rN c 0) (h11 : rA c 11 i = nI b) (h12 : rA c 12 b = nI w) (h8 : rA c 8 b = nI a) (hw : w + a ≤ 220) : ∃ c1, fx_Co_translate N (nI i) c = some c1 ∧ kout c c1 n f s q i (w + a) (q, p, sl n) q 1 ∧ rA c1 30 i = nI q := by
  rw [tr_s (by omega) h7 (by decide) (by decide)]
  obtain ⟨c3, g1, g2, g3, g4, g5, g6, g7⟩ := k_life (N := N) (i := i) (k := w + a) hk hz (by omega) hw hn hN
  refine ⟨c3, ?_, ⟨g2, g3, g4, Nat.le_refl _, ?_, g5, g6⟩, g7⟩
  · unfold fx_Co_structure fx_Co_turn fx_Co_turn_b48
    rw [if_neg (by decide), if_pos (by decide), h26, if_pos (by decide), gd_k (by omega) (by omega), bd_s, nI_clamp (by omega), h11, h25, if_pos rfl, gd_k (by omega) (by omega), gd_k (by omega) (by omega), nI_clamp (by omega), h12, h8, nI_add, g1, bv_s, bv_s]
  · show q + pt n (sl n) (w + a) ≤ _
    rw [pt_sl]
    omega
theorem kd_11l {c : rs_T} {N n f s q p h i b w a : Nat} {W : Nat → Int32} (hk : kst c n f q p h W) (hz : zk c s q) (hn : n ≤ 16) (hN : 1000 ≤ N) (hi : i < rN c 0 ∧ rN c 0 ≤ 1500 ∧ rN c 0 ≤ rN c 3 ∧ rN c 3 ≤ 1500) (h7 : rA c 7 i = 11) (h25 : rI c 25 = 0) (h26 : rI c 26 = 0) (hb : b < 512 ∧ b < rN c 0) (h10 : rA c 10 i = nI b) (h12 : rA c 12 b = nI w) (h9 : rA c 9 b = nI a) (hw : w + a ≤ 220) : ∃ c1, fx_Co_translate N (nI i) c = some c1 ∧ kout c c1 n f s q i (w + a) (q, p, sl n) q 1 ∧ rA c1 30 i = nI q := by
  rw [tr_s (by omega) h7 (by decide) (by decide)]
  obtain ⟨c3, g1, g2, g3, g4, g5, g6, g7⟩ := k_life (N := N) (i := i) (k := w + a) hk hz (by omega) hw hn hN
  refine ⟨c3, ?_, ⟨g2, g3, g4, Nat.le_refl _, ?_, g5, g6⟩, g7⟩
  · unfold fx_Co_structure fx_Co_end fx_Co_end_b63
    rw [if_neg (by decide), if_neg (by decide), if_pos (by decide), h26, if_pos (by decide), gd_k (by omega) (by omega), bd_s, nI_clamp (by omega), h10, h25, if_pos rfl, if_neg (fun z => (nI_m1 (by omega)).mp z), gd_k (by omega) (by omega), gd_k (by omega) (by omega), nI_clamp (by omega), h12, h9, nI_add, g1, bv_s, bv_s]
  · show q + pt n (sl n) (w + a) ≤ _
    rw [pt_sl]
    omega
theorem kd_f {c : rs_T} {N i : Nat} (hi : i < rN c 0 ∧ rN c 0 ≤ 1500) (h7 : rA c 7 i = 11) (h25 : rI c 25 = 0) (h26 : rI c 26 = 0) (h10 : rA c 10 i = -1) : fx_Co_translate N (nI i) c = some c := by
  rw [tr_s (by omega) h7 (by decide) (by decide)]
  unfold fx_Co_structure fx_Co_end fx_Co_end_b63
  rw [if_neg (by decide), if_neg (by decide), if_pos (by decide), h26, if_pos (by decide), gd_k (by omega) (by omega), bd_s, nI_clamp (by omega), h10, h25, if_pos rfl, if_pos rfl, bv_s]
