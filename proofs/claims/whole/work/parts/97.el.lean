-- ===== the compiler at one place: what ends the life of a label, branches, calls =====
theorem kf_inc {c c1 : rs_T} {q i : Nat} (h : kf c c1 q i) : inc c c1 nI nI 0 q 512 := ⟨fun j x a1 a2 _ a3 => h.2.2.1 j x a1 (by omega) a3, fun x _ a1 _ _ => h.2.2.1 28 x (by decide) (by decide) a1, fun x e _ a1 _ _ a4 => (h.2.2.1 28 x (by decide) (by decide) a1).trans a4, fun x _ => ⟨h.2.1 10 x (by decide), h.2.1 11 x (by decide)⟩⟩
theorem pt_h (n : Nat) (W : Nat → Int32) (h : Nat) : pt n W h ≤ h := cn_le _ _ _
theorem kt_0 {c : rs_T} {N n f s q p h i : Nat} {W : Nat → Int32} (hi : kin c N n f s q p h W i 0) : ∃ c1, fx_Co_translate N (nI i) c = some c1 ∧ kout c c1 n f s q i h (q + 1, 0, W) (q + pt n W h + 2) 0 ∧ ci c1 q 0 (nI (p + 1)) 0 0 0 0 := by
  obtain ⟨hk, hz, h25, h7, hi, hh, hn, hq, hN⟩ := hi
  obtain ⟨k1, k2, k3⟩ := k_pend hk hz
  have n_k2 := ke_n3 k2
  rw [tr_p ⟨hq.2.2.1, hq.2.2.2.1⟩ h7 h25 (by decide) (by decide), if_pos (by decide), if_pos (by decide), if_pos (by decide), if_pos (by decide)]
  obtain ⟨c1, e1, e2, e3, e4, e5⟩ := k_emit k1 (by omega) k3 0 0 0 0 0 (fun z => absurd z (by decide))
  have n_e3 := ke_n3 e3
  obtain ⟨l1, l2, l3, l4, l5⟩ := k_lv 0 i e2 e4
  have hk2 := ke_tr k2 e3 (Nat.le_refl _)
  refine ⟨wI c1 25 0, ?_, ⟨l1, l2, kf_tr (ke_kf i hk2) l3 (by omega), Nat.le_succ _, ?_, l4, l5.trans (hk2.1 26 (by omega))⟩, ?_⟩
  · unfold fx_Co_control
    rw [if_pos (by decide), e1, bv_s]
  · show q + 1 + pt n W h ≤ _
    omega
  · exact e5
theorem kt_12 {c : rs_T} {N n f s q p h i r : Nat} {W : Nat → Int32} {lb : Option kl_T} (hi : kin c N n f s q p h W i 12) (hl : lkb c f r lb i) (hw : lw r lb ≤ h) : ∃ c1 q1 p1, fx_Co_translate N (nI i) c = some c1 ∧ kout c c1 n f s q i h (q1 + 1, 0, kw n W (h - lw r lb)) (q + pt n W h + 2) 0 ∧ mvf c1 n W (h - lw r lb) h q (p + 1) q1 p1 ∧ brc c1 n r h nI lb q1 p1 := by
  obtain ⟨hk, hz, h25, h7, hi, hh, hn, hq, hN⟩ := hi
  obtain ⟨k1, k2, k3⟩ := k_pend hk hz
  have n_k2 := ke_n3 k2
  have hp := pt_h n W h
  rw [tr_p ⟨hq.2.2.1, hq.2.2.2.1⟩ h7 h25 (by decide) (by decide), if_pos (by decide), if_pos (by decide), if_pos (by decide), if_pos (by decide)]
  have hl1 := lkb_ke (q := 0) hl k2.2.1 (ke_n k2 0)
  have hb := wb_by hl1
  obtain ⟨c1, q1, p1, e1, e2, e3, e4, e5, e6, e7⟩ := k_fillS (N := N) (lo := h - lw r lb) hh hn hN (by omega) (by omega) k1 k3
  have n_e3 := ke_n3 e3
  obtain ⟨c2, f1, f2, f3, f4, f5⟩ := k_br e2 (by omega) e4 (lkb_ke (q := 0) hl1 e3.2.1 (ke_n e3 0)) (by omega) hw (by omega)
  have n_f3 := ke_n3 f3
  obtain ⟨l1, l2, l3, l4, l5⟩ := k_lv 0 i f2 f4
  have hk2 := ke_tr (ke_tr k2 e3 (Nat.le_refl _)) f3 e7
  refine ⟨wI c2 25 0, q1, p1, ?_, ⟨l1, l2, kf_tr (ke_kf i hk2) l3 (by omega), ?_, ?_, l4, l5.trans (hk2.1 26 (by omega))⟩, ?_, ?_⟩
  · unfold fx_Co_control
    rw [if_neg (by decide), if_pos (by decide), gd_k (by omega) (by omega), nI_clamp (by omega), k1.2.1, hb, bn_s, k1.2.2.2.1, nI_sub hw, e1, bv_s, f1, bv_s]
  · show q ≤ q1 + 1
    omega
  · show q1 + 1 + pt n (kw n W (h - lw r lb)) h ≤ _
    omega
  · exact mv_inc (kf_inc l3) (Nat.zero_le _) (by omega) (mv_ke f3 (Nat.le_refl _) e5)
  · exact f5
theorem kt_13 {c : rs_T} {N n f s q p h i r : Nat} {W : Nat → Int32} {lb : Option kl_T} (hi : kin c N n f s q p (h + 1) W i 13) (hl : lkb c f r lb i) (hw : lw r lb ≤ h) : ∃ c1 q1 p1, fx_Co_translate N (nI i) c = some c1 ∧ kout c c1 n f s q i h (q1 + 2, 0, kw n W (h - lw r lb)) (q + pt n W (h + 1) + 2) 1 ∧ mvf c1 n W (h - lw r lb) h q (p + 1) q1 p1 ∧ ci c1 q1 13 (nI p1) 0 (W h) 0 0 ∧ brc c1 n r h nI lb (q1 + 1) 0 := by
  obtain ⟨hk, hz, h25, h7, hi, hh, hn, hq, hN⟩ := hi
  obtain ⟨k1, k2, k3⟩ := k_pend hk hz
  have n_k2 := ke_n3 k2
  have hp := pt_h n W h
  rw [tr_p ⟨hq.2.2.1, hq.2.2.2.1⟩ h7 h25 (by decide) (by decide), if_pos (by decide), if_pos (by decide), if_pos (by decide), if_pos (by decide)]
  obtain ⟨c0, d1, d2, d3, d4⟩ := k_pop k1 (by omega) k3
  have n_d3 := ke_n3 d3
  have hps := (pt_s1 n W h).1
  have hl1 := lkb_ke (q := 0) (lkb_ke (q := 0) hl k2.2.1 (ke_n k2 0)) d3.2.1 (ke_n d3 0)
  have hb := wb_by hl1
  obtain ⟨c1, q1, p1, e1, e2, e3, e4, e5, e6, e7⟩ := k_fillS (N := N) (lo := h - lw r lb) (by omega) hn hN (by omega) (by omega) d2 d4
  have n_e3 := ke_n3 e3
  obtain ⟨c3, j1, j2, j3, j4, j5⟩ := k_emit e2 (by omega) e4 13 0 (W h) 0 0 (fun z => absurd z (by decide))
  have n_j3 := ke_n3 j3
  obtain ⟨c2, f1, f2, f3, f4, f5⟩ := k_br j2 (by omega) j4 (lkb_ke (q := 0) (lkb_ke (q := 0) hl1 e3.2.1 (ke_n e3 0)) j3.2.1 (ke_n j3 0)) (by omega) hw (by omega)
  have n_f3 := ke_n3 f3
  have hk1 := ke_tr (ke_tr k2 d3 (Nat.le_refl _)) e3 (Nat.le_refl _)
  have hk2 := ke_tr (ke_tr hk1 j3 e7) f3 (by omega)
  have h1 := (pt_s1 n W h).1
  refine ⟨c2, q1, p1, ?_, ⟨f2, f4, ke_kf i hk2, ?_, ?_, ?_, ?_⟩, mv_ke (ke_tr j3 f3 (by omega)) (Nat.le_refl _) e5, ci_ke j5 f3 (by omega), f5⟩
  · unfold fx_Co_control fx_Co_branchIf
    rw [if_neg (by decide), if_neg (by decide), if_pos (by decide), bv_id, d1, bn_s, gd_k (by omega) (by omega), nI_clamp (by omega), d2.2.1, hb, bn_s, d2.2.2.2.1, nI_sub hw, e1, bv_s, j1, bv_s, f1, bv_s]
  · show q ≤ q1 + 2
    omega
  · show q1 + 2 + pt n (kw n W (h - lw r lb)) h ≤ _
    omega
  · rw [hk2.1 25 (by omega)]; exact h25
  · exact hk2.1 26 (by omega)
theorem k_tab {n f s r at_ a h : Nat} {tb : Nat → Option kl_T} {W : Nat → Int32} (N : Nat) (hw : ∀ j, j ≤ a → lw r (tb j) ≤ h) (hn : n + h < 1000) (ha2 : a ≤ 20) : ∀ (k fu : Nat) (c : rs_T) (q j : Nat), k < fu → j + k = a + 1 → (q + k ≤ rN c 2 ∧ rN c 2 ≤ 3000 ∧ at_ + a + 1 < rN c 0 ∧ rN c 0 ≤ 1500) → kst c n f q 0 h W → zk c s q → rA c 8 at_ = nI a → (∀ j, j ≤ a → lkb c f r (tb j) (at_ + 1 + j)) → ∃ c1, fx_Co_table_b56 N fu (nI at_) (nI j) c = some (wI c1 25 0) ∧ kst c1 n f (q + k) 0 h W ∧ ke c c1 q ∧ zk c1 s (q + k) ∧ ∀ x, j ≤ x → x ≤ a → brc c1 n r h nI (tb x) (q + (x - j)) 0 := by
  intro k
  induction k with
  | zero =>
    intro fu c q j hfu hj hq hk hz h8 hl
    obtain ⟨fu, rfl⟩ : ∃ g, fu = g + 1 := ⟨fu - 1, by omega⟩
    unfold fx_Co_table_b56
    rw [gd_k (by omega) (by omega), nI_clamp (by omega), h8, if_pos (nI_lt (by omega) (by omega))]
    exact ⟨c, rfl, hk, ke_rfl _ _, hz, fun x h1 h2 => by omega⟩
  | succ k ih =>
    intro fu c q j hfu hj hq hk hz h8 hl
    obtain ⟨fu, rfl⟩ : ∃ g, fu = g + 1 := ⟨fu - 1, by omega⟩
    unfold fx_Co_table_b56
    rw [gd_k (by omega) (by omega), nI_clamp (by omega), h8, if_neg (nI_nlt (by omega) (by omega)), nI_1, nI_add]
    obtain ⟨c1, e1, e2, e3, e4, e5⟩ := k_br hk (by omega) hz (hl j (by omega)) (by omega) (hw j (by omega)) hn
    have n_e3 := ke_n3 e3
    rw [e1, bv_s, bd_s, nI_1]
    obtain ⟨c2, f1, f2, f3, f4, f5⟩ := ih fu c1 (q + 1) (j + 1) (by omega) (by omega) (by omega) e2 e4 ((e3.2.1 8 at_ (by decide)).trans h8) (fun j hj => lkb_ke (q := 0) (hl j hj) e3.2.1 (ke_n e3 0))
    refine ⟨c2, f1, by rw [show q + (k + 1) = q + 1 + k by omega]; exact f2, ke_tr e3 f3 (by omega), by rw [show q + (k + 1) = q + 1 + k by omega]; exact f4, fun x h1 h2 => ?_⟩
    by_cases e : x = j
    · subst e
      rw [Nat.sub_self]
      exact br_ke f3 (by omega) e5
    · have := f5 x (by omega) h2
      rw [show q + (x - j) = q + 1 + (x - (j + 1)) by omega]
      exact this
theorem kt_14 {c : rs_T} {N n f s q p h i r a : Nat} {W : Nat → Int32} {tb : Nat → Option kl_T} (hi : kin c N n f s q p (h + 1) W i 14) (h8 : rA c 8 i = nI a) (ha : a ≤ 20) (hcap : q + pt n W (h + 1) + 2 + a ≤ rN c 2 ∧ i + a + 1 < rN c 0) (hl : ∀ j, j ≤ a → lkb c f r (tb j) (i + 1 + j)) (hw : ∀ j, j ≤ a → lw r (tb j) ≤ h) : ∃ c1 q1 p1, fx_Co_translate N (nI i) c = some c1 ∧ kout c c1 n f s q i h (q1 + 2 + a, 0, kw n W (h - lw r (tb 0))) (q + pt n W (h + 1) + 2 + a) 0 ∧ mvf c1 n W (h - lw r (tb 0)) h q (p + 1) q1 p1 ∧ ci c1 q1 14 (nI p1) 0 (W h) (nI a) 0 ∧ ∀ j, j ≤ a → brc c1 n r h nI (tb j) (q1 + 1 + j) 0 := by
  obtain ⟨hk, hz, h25, h7, hi, hh, hn, hq, hN⟩ := hi
  obtain ⟨k1, k2, k3⟩ := k_pend hk hz
  have n_k2 := ke_n3 k2
  have hp := pt_h n W h
  have hw0 := hw 0 (Nat.zero_le _)
  rw [tr_p ⟨hq.2.2.1, hq.2.2.2.1⟩ h7 h25 (by decide) (by decide), if_pos (by decide), if_pos (by decide), if_pos (by decide), if_pos (by decide)]
  obtain ⟨c0, d1, d2, d3, d4⟩ := k_pop k1 (by omega) k3
  have n_d3 := ke_n3 d3
  have hps := (pt_s1 n W h).1
  have hk0 := ke_tr k2 d3 (Nat.le_refl _)
  have hb := wb_by (lkb_ke (q := 0) (hl 0 (Nat.zero_le _)) hk0.2.1 (ke_n hk0 0))
  obtain ⟨c1, q1, p1, e1, e2, e3, e4, e5, e6, e7⟩ := k_fillS (N := N) (lo := h - lw r (tb 0)) (by omega) hn hN (by omega) (by omega) d2 d4
  have n_e3 := ke_n3 e3
  have hk1 := ke_tr hk0 e3 (Nat.le_refl _)
  have h8' : rA c1 8 i = nI a := (hk1.2.1 8 i (by decide)).trans h8
  obtain ⟨c3, j1, j2, j3, j4, j5⟩ := k_emit e2 (by omega) e4 14 0 (W h) (nI a) 0 (fun z => absurd z (by decide))
  have n_j3 := ke_n3 j3
  have hk2 := ke_tr hk1 j3 e7
  obtain ⟨c2, f1, f2, f3, f4, f5⟩ := k_tab (at_ := i) (tb := tb) (r := r) N hw (by omega) ha (a + 1) N c3 (q1 + 1) 0 (by omega) (by omega) (by omega) j2 j4 ((hk2.2.1 8 i (by decide)).trans h8) (fun j hj => lkb_ke (q := 0) (hl j hj) hk2.2.1 (ke_n hk2 0))
  have n_f3 := ke_n3 f3
  obtain ⟨l1, l2, l3, l4, l5⟩ := k_lv 0 i f2 f4
  have hk3 := ke_tr hk2 f3 (by omega)
  have h1 := (pt_s1 n W h).1
  have eq1 : q1 + 1 + (a + 1) = q1 + 2 + a := by omega
  rw [eq1] at l1 l2 l3
  refine ⟨wI c2 25 0, q1, p1, ?_, ⟨l1, l2, kf_tr (ke_kf i hk3) l3 (by omega), ?_, ?_, l4, l5.trans (hk3.1 26 (by omega))⟩, ?_, ?_, fun j hj => ?_⟩
  · unfold fx_Co_control fx_Co_table
    rw [if_neg (by decide), if_neg (by decide), if_neg (by decide), if_pos (by decide), bv_id, d1, bn_s, nI_1, gd_k (by omega) (by omega), nI_clamp (by omega), d2.2.1, show i + 1 = i + 1 + 0 by omega, hb, bn_s, d2.2.2.2.1, nI_sub hw0, e1, bv_s, gd_k (by omega) (by omega), nI_clamp (by omega), h8', j1, bv_s]
    exact f1
  · show q ≤ q1 + 2 + a
    omega
  · show q1 + 2 + a + pt n (kw n W (h - lw r (tb 0))) h ≤ _
    omega
  · exact mv_inc (kf_inc l3) (Nat.zero_le _) (by omega) (mv_ke (ke_tr j3 f3 (by omega)) (Nat.le_refl _) e5)
  · have := ci_ke j5 f3 (Nat.lt_succ_self q1)
    exact this
  · have := f5 j (Nat.zero_le _) hj
    exact this
theorem kt_15 {c : rs_T} {N n f s q p h i r : Nat} {W : Nat → Int32} (hi : kin c N n f s q p h W i 15) (hf : f < 40) (h1r : rA c 1 f = nI r) (hw : r ≤ h) : ∃ c1 q1 p1, fx_Co_translate N (nI i) c = some c1 ∧ kout c c1 n f s q i h (q1 + 1, 0, kw n W (h - r)) (q + pt n W h + 2) 0 ∧ mvf c1 n W (h - r) h q (p + 1) q1 p1 ∧ ci c1 q1 15 (nI p1) 0 (nI (n + h - r)) 0 0 := by
  obtain ⟨hk, hz, h25, h7, hi, hh, hn, hq, hN⟩ := hi
  obtain ⟨k1, k2, k3⟩ := k_pend hk hz
  have n_k2 := ke_n3 k2
  have hp := pt_h n W h
  rw [tr_p ⟨hq.2.2.1, hq.2.2.2.1⟩ h7 h25 (by decide) (by decide), if_pos (by decide), if_pos (by decide), if_pos (by decide), if_pos (by decide)]
  obtain ⟨c1, q1, p1, e1, e2, e3, e4, e5, e6, e7⟩ := k_fillS (N := N) (lo := h - r) hh hn hN (by omega) (by omega) k1 k3
  have n_e3 := ke_n3 e3
  have hr1 : rA (wI c 24 (rI c 24 + 1)) 1 f = nI r := (k2.2.1 1 f (by decide)).trans h1r
  have hr2 : rA c1 1 f = nI r := (e3.2.1 1 f (by decide)).trans hr1
  obtain ⟨c2, f1, f2, f3, f4, f5⟩ := k_emit e2 (by omega) e4 15 0 (nI (n + h - r)) 0 0 (fun z => absurd z (by decide))
  have n_f3 := ke_n3 f3
  obtain ⟨l1, l2, l3, l4, l5⟩ := k_lv 0 i f2 f4
  have hk2 := ke_tr (ke_tr k2 e3 (Nat.le_refl _)) f3 e7
  refine ⟨wI c2 25 0, q1, p1, ?_, ⟨l1, l2, kf_tr (ke_kf i hk2) l3 (by omega), ?_, ?_, l4, l5.trans (hk2.1 26 (by omega))⟩, ?_, ?_⟩
  · unfold fx_Co_control
    rw [if_neg (by decide), if_neg (by decide), if_neg (by decide), if_neg (by decide), if_pos (by decide), k1.2.1, gd_k (by omega) (by omega), nI_clamp (by omega), hr1, k1.2.2.2.1, nI_sub hw, e1, bv_s, e2.2.1, gd_k (by omega) (by omega), nI_clamp (by omega), hr2, e2.2.2.1, e2.2.2.2.1, nI_add, nI_sub (by omega), f1, bv_s]
  · show q ≤ q1 + 1
    omega
  · show q1 + 1 + pt n (kw n W (h - r)) h ≤ _
    omega
  · exact mv_inc (kf_inc l3) (Nat.zero_le _) (by omega) (mv_ke f3 (Nat.le_refl _) e5)
  · exact f5
theorem kt_16 {c : rs_T} {N n f s q p h i g pa ra : Nat} {W : Nat → Int32} (hi : kin c N n f s q p h W i 16) (hg : g < 40) (h8 : rA c 8 i = nI g) (hpa : rA c 0 g = nI pa) (hra : rA c 1 g = nI ra) (hw : pa ≤ h) (hh2 : h - pa + ra ≤ 220) : ∃ c1 q1 p1, fx_Co_translate N (nI i) c = some c1 ∧ kout c c1 n f s q i (h - pa + ra) (q1 + 1, 0, kw n W (h - pa)) (q + pt n W h + 2) 1 ∧ mvf c1 n W (h - pa) h q (p + 1) q1 p1 ∧ ci c1 q1 16 (nI p1) 0 (nI (n + (h - pa))) (nI g) 0 := by
  obtain ⟨hk, hz, h25, h7, hi, hh, hn, hq, hN⟩ := hi
  obtain ⟨k1, k2, k3⟩ := k_pend hk hz
  have n_k2 := ke_n3 k2
  have hp := pt_h n W h
  rw [tr_p ⟨hq.2.2.1, hq.2.2.2.1⟩ h7 h25 (by decide) (by decide), if_pos (by decide), if_pos (by decide), if_pos (by decide), if_pos (by decide)]
  obtain ⟨c1, q1, p1, e1, e2, e3, e4, e5, e6, e7⟩ := k_fillS (N := N) (lo := h - pa) hh hn hN (by omega) (by omega) k1 k3
  have n_e3 := ke_n3 e3
  have hk1 := ke_tr k2 e3 (Nat.le_refl _)
  obtain ⟨s1, s2, s3⟩ := k_seth (k := h - pa) (by omega) e2 e4
  have n_s2 := ke_n3 s2
  obtain ⟨c2, f1, f2, f3, f4, f5⟩ := k_emit s1 (by omega) s3 16 0 (nI (n + (h - pa))) (nI g) 0 (fun z => absurd z (by decide))
  have n_f3 := ke_n3 f3
  have hk2 := ke_tr (ke_tr hk1 s2 e7) f3 e7
  obtain ⟨c3, j1, j2, j3, j4⟩ := k_putk (N := N) (k := ra) f2 (by omega) hn hN f4
  have n_j3 := ke_n3 j3
  have hk3 := ke_tr hk2 j3 (by omega)
  have hkw : kw n (kw n W (h - pa)) (h - pa) = kw n W (h - pa) := by
    funext j
    unfold kw
    by_cases e : j < h - pa
    · rw [if_pos e, if_pos e]
    · rw [if_neg e, if_neg e]
  rw [hkw] at j2
  have hx : ∀ x : Int32, x ∈ ([16] : List Int32) → x = 16 := fun x hx => by simpa using hx
  refine ⟨c3, q1, p1, ?_, ⟨j2, j4, ke_kf i hk3, ?_, ?_, ?_, ?_⟩, ?_, ?_⟩
  · unfold fx_Co_control
    rw [if_neg (by decide), if_neg (by decide), if_neg (by decide), if_neg (by decide), if_neg (by decide), if_pos (by decide), gd_k (by omega) (by omega), nI_clamp (by omega), k2.2.1 8 i (by decide), h8, gd_k (by omega) (by omega), nI_clamp (by omega), k2.2.1 0 g (by decide), hpa, k1.2.2.2.1, nI_sub hw, e1, bv_s, gd_k (by omega) (by omega), hk1.2.1 8 i (by decide), h8, gd_k (by omega) (by omega), gd_k (by omega) (by omega), nI_clamp (by omega), hk1.2.1 0 g (by decide), hpa, e2.2.2.1, e2.2.2.2.1, nI_sub hw, nI_add, f1, bv_s, gd_k (by omega) (by omega), hk2.2.1 8 i (by decide), h8, gd_k (by omega) (by omega), nI_clamp (by omega), hk2.2.1 1 g (by decide), hra, j1, bv_s]
  · show q ≤ q1 + 1
    omega
  · show q1 + 1 + pt n (kw n W (h - pa)) (h - pa + ra) ≤ _
    rw [pt_put]
    have e9 := pt_kw0 n W (a := h - pa) (h := h - pa) (Nat.le_refl _)
    have e10 := pt_kw n W (a := h - pa) (h := h) (by omega)
    have e11 := pt_put n W (h - pa) (h - (h - pa))
    rw [show h - pa + (h - (h - pa)) = h by omega] at e11
    omega
  · rw [hk3.1 25 (by omega)]; exact h25
  · exact hk3.1 26 (by omega)
  · exact mv_ke (ke_tr (ke_tr s2 f3 (Nat.le_refl _)) j3 (by omega)) (Nat.le_refl _) e5
  · exact ci_ke f5 j3 (by omega)
theorem kt_17 {c : rs_T} {N n f s q p h i a b : Nat} {W : Nat → Int32} (hi : kin c N n f s q p (h + 1) W i 17) (h8 : rA c 8 i = nI a) (h9 : rA c 9 i = nI b) (hw : a ≤ h) (hh2 : h - a + b ≤ 220) : ∃ c1 q1 p1, fx_Co_translate N (nI i) c = some c1 ∧ kout c c1 n f s q i (h - a + b) (q1 + 1, 0, kw n W (h - a)) (q + pt n W (h + 1) + 2) 1 ∧ mvf c1 n W (h - a) h q (p + 1) q1 p1 ∧ ci c1 q1 17 (nI p1) (nI a) (nI (n + (h - a))) (W h) (nI b) := by
  obtain ⟨hk, hz, h25, h7, hi, hh, hn, hq, hN⟩ := hi
  obtain ⟨k1, k2, k3⟩ := k_pend hk hz
  have n_k2 := ke_n3 k2
  have hp := pt_h n W h
  rw [tr_p ⟨hq.2.2.1, hq.2.2.2.1⟩ h7 h25 (by decide) (by decide), if_pos (by decide), if_pos (by decide), if_pos (by decide), if_pos (by decide)]
  obtain ⟨c0, d1, d2, d3, d4⟩ := k_pop k1 (by omega) k3
  have n_d3 := ke_n3 d3
  have hps := (pt_s1 n W h).1
  have hk0 := ke_tr k2 d3 (Nat.le_refl _)
  obtain ⟨c1, q1, p1, e1, e2, e3, e4, e5, e6, e7⟩ := k_fillS (N := N) (lo := h - a) (by omega) hn hN (by omega) (by omega) d2 d4
  have n_e3 := ke_n3 e3
  have hk1 := ke_tr hk0 e3 (Nat.le_refl _)
  obtain ⟨s1, s2, s3⟩ := k_seth (k := h - a) (by omega) e2 e4
  have n_s2 := ke_n3 s2
  obtain ⟨c2, f1, f2, f3, f4, f5⟩ := k_emit s1 (by omega) s3 17 (nI a) (nI (n + (h - a))) (W h) (nI b) (fun z => absurd z (by decide))
  have n_f3 := ke_n3 f3
  have hk2 := ke_tr (ke_tr hk1 s2 e7) f3 e7
  obtain ⟨c3, j1, j2, j3, j4⟩ := k_putk (N := N) (k := b) f2 (by omega) hn hN f4
  have n_j3 := ke_n3 j3
  have hk3 := ke_tr hk2 j3 (by omega)
  have hkw : kw n (kw n W (h - a)) (h - a) = kw n W (h - a) := by
    funext j
    unfold kw
    by_cases e : j < h - a
    · rw [if_pos e, if_pos e]
    · rw [if_neg e, if_neg e]
  rw [hkw] at j2
  have h1 := (pt_s1 n W h).1
  refine ⟨c3, q1, p1, ?_, ⟨j2, j4, ke_kf i hk3, ?_, ?_, ?_, ?_⟩, ?_, ?_⟩
  · unfold fx_Co_control fx_Co_callEntry
    rw [if_neg (by decide), if_neg (by decide), if_neg (by decide), if_neg (by decide), if_neg (by decide), if_neg (by decide), if_pos (by decide), gd_k (by omega) (by omega), gd_k (by omega) (by omega), nI_clamp (by omega), k2.2.1 8 i (by decide), h8, k2.2.1 9 i (by decide), h9, bv_id, d1, bn_s, d2.2.2.2.1, nI_sub hw, e1, bv_s, e2.2.2.1, e2.2.2.2.1, nI_sub hw, nI_add, f1, bv_s, j1, bv_s]
  · show q ≤ q1 + 1
    omega
  · show q1 + 1 + pt n (kw n W (h - a)) (h - a + b) ≤ _
    rw [pt_put]
    have e10 := pt_kw n W (a := h - a) (h := h) (by omega)
    have e11 := pt_put n W (h - a) (h - (h - a))
    rw [show h - a + (h - (h - a)) = h by omega] at e11
    omega
  · rw [hk3.1 25 (by omega)]; exact h25
  · exact hk3.1 26 (by omega)
  · exact mv_ke (ke_tr (ke_tr s2 f3 (Nat.le_refl _)) j3 (by omega)) (Nat.le_refl _) e5
  · exact ci_ke f5 j3 (by omega)
