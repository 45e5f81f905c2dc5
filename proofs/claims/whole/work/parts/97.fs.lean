-- ===== one step: table =====
theorem lc_lt (x y : Int64) : (lg_cmp x y < (0 : Int32)) ↔ x < y := by
  have h1 := lc_gt y x
  unfold lg_cmp at *
  by_cases a : y < x
  · rw [if_pos a]
    exact ⟨fun z => absurd z (by decide), fun z => absurd z (Int64.not_lt.mpr (Int64.le_of_lt a))⟩
  · rw [if_neg a]
    by_cases b : x = y
    · rw [if_pos b]
      exact ⟨fun z => absurd z (by decide), fun z => by subst b; exact absurd z Int64.lt_irrefl⟩
    · rw [if_neg b]
      refine ⟨fun _ => ?_, fun _ => by decide⟩
      exact Int64.lt_of_le_of_ne (Int64.not_lt.mp a) b
theorem nx_14 {V : vw_T} {f i : Nat} {T T2 : ts_T} (h : t_nx V f i T = some T2) (ho : v_o V i = 14) : ∃ k, t_n (v_a V i) 20 = some k := by
  rcases nx_cases h with ⟨o, -, -⟩ | ⟨-, hc⟩
  · rw [ho] at o; exact absurd o (by decide)
  rcases hc with ⟨o, -⟩ | ⟨o, -⟩ | ⟨o, -⟩ | ⟨o, -⟩ | ⟨o, -⟩ | ⟨o, -⟩ | ⟨o, -⟩ | ⟨o, k, h1, -⟩ | ⟨o, -⟩ | ⟨o, -⟩ | ⟨o, -⟩ | ⟨o, -⟩
  · rw [ho] at o; exact absurd o (by decide)
  · rw [ho] at o; exact absurd o (by decide)
  · rw [ho] at o; exact absurd o (by decide)
  · rw [ho] at o; exact absurd o (by decide)
  · rw [ho] at o; exact absurd o (by decide)
  · rw [ho] at o; exact absurd o (by decide)
  · rw [ho] at o; exact absurd o (by decide)
  · exact ⟨k, h1⟩
  · rw [ho] at o; exact absurd o (by decide)
  · rw [ho] at o; exact absurd o (by decide)
  · rw [ho] at o; exact absurd o (by decide)
  · rw [ho] at o; exact absurd o (by decide)
theorem g_14 {N : Nat} {c : rs_T} {V : vw_T} {j b sz q p n x a g : Nat} {u : Int32} (ht : tR c j b sz q p) (hp : pv c V) (hq : q < sz) (hu : wok V n x u) (hx : b + n + x < 220) (ha : a ≤ 20) (hg : g < 4294967296) (hev : (ev c V b u) &&& 4294967295 = lN g) (hc : ci c q 14 (nI p) 0 u (nI a) 0) : ∃ c2, vq N c c2 ∧ tR c2 j b sz (q + 1 + min a g) 0 ∧ cY c c2 j b ∧ ∀ y, rL c2 2 y = rL c 2 y := by
  obtain ⟨t1, t2, t3, t4, t5, t6, t7, t8, t9, t10⟩ := id ht
  obtain ⟨i1, i2, i3, i4, i5, i6⟩ := hc
  have hmin : ((if (nI a).toInt64 < lN g then (nI a).toInt64 else lN g) : Int64).toInt32 = nI (min a g) := by
    rw [nI_l (by omega)]
    by_cases z : a < g
    · rw [if_pos ((pk_lLT (by omega) (by omega)).mpr z), lN_i]
      congr 1
      omega
    · rw [if_neg (fun y => z ((pk_lLT (by omega) (by omega)).mp y)), lN_i]
      congr 1
      omega
  refine ⟨wA (wA (wI c 17 0) 18 j (nI (q + 1))) 18 j (nI (q + 1 + min a g)), tR_vq ht hq i2 ?_ ?_, ⟨?_, ?_, ?_, t4, ?_, ?_, ?_, t8, ?_, ?_⟩, ⟨fun k hk => ?_, fun i x hx => ?_, fun i y hy => rfl, rfl⟩, fun y => rfl⟩
  · rw [rp_eq (j := j) (by rw [rI_wn (by decide)]; exact t3) t4 (by first | omega | (simp only [rN_wI, rN_wA, rN_wL]; omega))]
    rw [rA_wI, rA_wI, rA_wI, i1, if_neg (by decide), if_pos (by decide), if_pos (by decide), if_pos (by decide)]
    unfold fx_Rr_control fx_Rr_tableEntry
    rw [if_neg (by decide), if_neg (by decide), if_neg (by decide), if_neg (by decide), if_pos (by decide), gd_k (by first | omega | (simp only [rN_wI, rN_wA, rN_wL]; omega)) (by first | omega | (simp only [rN_wI, rN_wA, rN_wL]; omega)), nI_clamp (by omega), ga _ _ _ _ _ (by decide), i4, gr (n := n) (x := x) hp t4 t9 hu hx, bn_s, gd_k (by first | omega | (simp only [rN_wI, rN_wA, rN_wL]; omega)) (by first | omega | (simp only [rN_wI, rN_wA, rN_wL]; omega)), ga _ _ _ _ _ (by decide), i5, hev, hmin, nI_1, nI_add, bn_s, gd_k (by first | omega | (simp only [rN_wI, rN_wA, rN_wL]; omega)) (by first | omega | (simp only [rN_wI, rN_wA, rN_wL]; omega)), nI_clamp (by omega)]
  · rw [rI_wA, rI_wA, rI_ws]
  · rw [rI_wA, rI_wA, rI_wn (by decide)]; exact t1
  · rw [rI_wA, rI_wA, rI_wn (by decide)]; exact t2
  · rw [rI_wA, rI_wA, rI_wn (by decide)]; exact t3
  · rw [rA_wn (by decide), rA_wn (by decide), rA_wI]; exact t5
  · rw [rA_wss]
  · rw [rI_wA, rI_wA, rI_wn (by decide)]; exact t7
  · rw [rA_wn (by decide), rA_wn (by decide), rA_wI]; exact t9
  · rw [rI_wA, rI_wA, rI_ws, nI_0]
  · rw [rI_wA, rI_wA, rI_wn hk]
  · rw [rA_wA, if_neg hx, rA_wA, if_neg hx, rA_wI]
theorem SR_14 {N : Nat} {c m : rs_T} {T : Nat → ts_T} {S E M : Nat → Nat} {F t : Nat} {w : Bool} {KK : Nat → Nat → kT} {ZZ : Nat → Nat → Int32} {QS QE : Nat → Nat} {G : List fr_T} {f at_ b s : Nat} {r : Bool} {b' : Int32} (h : IB c m T S E M F t w KK ZZ QS QE) (hR : R0 c m (vm m) T S E M F w KK G f at_ r b s) (hs1 : rI m 9 = 1) (hN : 1000 ≤ N) (ho : v_o (vm m) at_ = 14) : SR N c m T S E M F t w 14 (v_a (vm m) at_) b' r := by
  obtain ⟨x1, x2, x3, x4, x5, x6, x7, x8, x9, x10, x11, x12, x13, x14, x15, x16, x17, -⟩ := cx h hR
  obtain ⟨p1, p2, p3, p4, p5, p6, p7, p8, p9, p10, p11, p12, p13⟩ := pctx h hR (by rw [ho]; decide)
  obtain ⟨a, ha1⟩ := nx_14 p5 ho
  obtain ⟨ha2, ha3⟩ := t_n_some (by omega) ha1
  obtain ⟨g1, g2⟩ := tab_ty p1.2.2.1 p3 ha1 ho p6 (by omega) p1.2.2.2.1.2.1
  have h7 : rA c 7 at_ = 14 := (x1.1 at_).1.trans ho
  have h8 : rA c 8 at_ = nI a := (x1.1 at_).2.1.trans ha3
  obtain ⟨h', hh⟩ : ∃ h', (T at_).2.2.1 = h' + 1 := ⟨(T at_).2.2.1 - 1, by omega⟩
  rw [hh] at x13 x15 x11
  have x13 : rI m 13 = nI (s + nm (vm m) f + h' + 1) := x13
  have hmm := m13_w (nI (s + nm (vm m) f + h')) (m13_0 m)
  obtain ⟨g, eg⟩ : ∃ g, g = (rL m 2 (s + nm (vm m) f + h')).toBitVec.toNat % 4294967296 := ⟨_, rfl⟩
  have hlow := low_lN (rL m 2 (s + nm (vm m) f + h'))
  rw [← eg] at hlow
  have hg : g < 4294967296 := by omega
  obtain ⟨jj, ejj⟩ : ∃ jj, jj = min a g := ⟨_, rfl⟩
  have hjj : jj ≤ a := by rw [ejj]; exact Nat.min_le_left _ _
  obtain ⟨u1, u2, u3, u4, u5, u6, k, u7, u8, -, u10⟩ := g2 jj hjj
  obtain ⟨hk3, hk4⟩ := t_n_some (by omega) u7
  have hEL := pb_EL h.1 p12
  have hlb := lkb_of p1 p13 p11 p12 ⟨p2, hEL, x4.2.2.1⟩ (show S f ≤ at_ + 1 + jj by omega) (show at_ + 1 + jj < E f by omega) (Or.inr (Or.inr u2)) (by rw [u3]; exact u7)
  rw [u3] at hlb
  -- heights: what the first entry had
  have hht : t_ht (vm m) (T at_).1 + t_want (vm m) f (T at_).1 k ≤ h' := by
    obtain ⟨v1, v2, v3, v4, v5, v6, k0, v7, v8, v9, -⟩ := g2 0 (Nat.zero_le _)
    have hx1 := p1.2.2.1.2.1 (at_ + 1 + 0) (by omega) (by omega)
    have hw0 : t_ht (vm m) (T at_).1 + t_want (vm m) f (T at_).1 k0 ≤ h' := by
      rcases nx_cases hx1 with ⟨o, -, hc⟩ | ⟨hel, -⟩
      · obtain ⟨k9, y1, y2, y3, -⟩ := entry_some hc
        rw [v3] at y1 y2
        have : k9 = k0 := by rw [v7] at y1; exact (Option.some.inj y1).symm
        subst this
        have hnone : (T (at_ + 1 + 0)).2.2.2.2 = none := by
          rcases nx_cases p5 with ⟨o2, -, -⟩ | ⟨-, hc2⟩
          · rw [ho] at o2; exact absurd o2 (by decide)
          rcases hc2 with ⟨o2, -⟩ | ⟨o2, -⟩ | ⟨o2, -⟩ | ⟨o2, -⟩ | ⟨o2, -⟩ | ⟨o2, -⟩ | ⟨o2, -⟩ | ⟨o2, k8, -, -, e8⟩ | ⟨o2, -⟩ | ⟨o2, -⟩ | ⟨o2, -⟩ | ⟨o2, -⟩
          · rw [ho] at o2; exact absurd o2 (by decide)
          · rw [ho] at o2; exact absurd o2 (by decide)
          · rw [ho] at o2; exact absurd o2 (by decide)
          · rw [ho] at o2; exact absurd o2 (by decide)
          · rw [ho] at o2; exact absurd o2 (by decide)
          · rw [ho] at o2; exact absurd o2 (by decide)
          · rw [ho] at o2; exact absurd o2 (by decide)
          · have : T (at_ + 1 + 0) = T (at_ + 1) := rfl
            rw [this, e8]
          · rw [ho] at o2; exact absurd o2 (by decide)
          · rw [ho] at o2; exact absurd o2 (by decide)
          · rw [ho] at o2; exact absurd o2 (by decide)
          · rw [ho] at o2; exact absurd o2 (by decide)
        have y2 := y2 hnone
        have hd : t_dd (T (at_ + 1 + 0)) = false := by
          have hd0 := tl_dd p6
          unfold t_dd at hd0 ⊢
          rw [v3, v4]; exact hd0
        unfold t_has at y2
        rw [hd, v3, v5] at y2
        have : t_ht (vm m) (T at_).1 + t_want (vm m) f (T at_).1 k9 ≤ (T at_).2.2.1 - 1 := by simpa using y2
        omega
      · rw [v6] at hel; omega
    by_cases z : jj = 0
    · rw [z] at u7
      have : k = k0 := by rw [v7] at u7; exact (Option.some.inj u7).symm
      subst this
      exact hw0
    · obtain ⟨k0', t1, t2, -⟩ := u10 (by omega)
      have : k0' = k0 := by
        have v7' : t_n (v_a (vm m) (at_ + 1)) (T at_).1.length = some k0 := v7
        rw [v7'] at t1; exact (Option.some.inj t1).symm
      subst this
      rw [t2]; exact hw0
  have hmsb : msb N 14 (v_a (vm m) at_) b' m = fx_Md_branch N (nI k) (wI m 13 (nI (s + nm (vm m) f + h'))) := by
    unfold msb ms_14
    rw [if_neg (by decide), if_neg (by decide), if_neg (by decide), if_neg (by decide), if_pos (by decide), m_pop x13 (by omega), bn_s, hlow, bd_s, ha3, nI_l (by omega), rI_wn (by decide), x14, nI_1]
    have h7k : rA m 7 (at_ + 1 + jj) = nI k := hk4
    unfold ms_14x
    by_cases z : g < a
    · have e : jj = g := by rw [ejj]; exact Nat.min_eq_right (Nat.le_of_lt z)
      have hc : lg_cmp (lN g) (lN a) < 0 := (lc_lt _ _).mpr ((pk_lLT (by omega) (by omega)).mpr z)
      rw [if_neg (Int32.not_le.mpr hc), lN_i, nI_add, gd_k (by first | omega | (simp only [rN_wI, rN_wA, rN_wL]; omega)) (by first | omega | (simp only [rN_wI, rN_wA, rN_wL]; omega)), nI_clamp (by omega), rA_wI, ← e, h7k]
    · have e : jj = a := by rw [ejj]; exact Nat.min_eq_left (Nat.le_of_not_lt z)
      have hc : ¬ lg_cmp (lN g) (lN a) < 0 := fun y => z ((pk_lLT (by omega) (by omega)).mp ((lc_lt _ _).mp y))
      rw [if_pos (Int32.not_lt.mp hc), nI_add, gd_k (by first | omega | (simp only [rN_wI, rN_wA, rN_wL]; omega)) (by first | omega | (simp only [rN_wI, rN_wA, rN_wL]; omega)), nI_clamp (by omega), rA_wI, ← e, h7k]
  have hst : r = false → (c18 c (wA (wA c 18 G.length (nI (at_ + 1))) 20 G.length (nI (b + nm (vm m) f + h'))) G.length at_ ∧ rA (wA (wA c 18 G.length (nI (at_ + 1))) 20 G.length (nI (b + nm (vm m) f + h'))) 20 G.length = nI (b + nm (vm m) f + h') ∧ fx_Sr_perform N c = fx_Sr_branch N (nI G.length) (nI (at_ + 1 + jj)) (wA (wA c 18 G.length (nI (at_ + 1))) 20 G.length (nI (b + nm (vm m) f + h')))) := by
    intro hr
    subst hr
    obtain ⟨r1, ⟨-, -, -, -, -, -, -, -, b9, -⟩, -⟩ := hR
    obtain ⟨c18', c20, c17⟩ := b9 rfl
    rw [hh] at c20
    have v0 := sv (x := h') x15 (by omega) (by omega)
    have hmin : ((if (nI a).toInt64 < lN g then (nI a).toInt64 else lN g) : Int64).toInt32 = nI jj := by
      rw [nI_l (by omega)]
      by_cases z : a < g
      · rw [if_pos ((pk_lLT (by omega) (by omega)).mpr z), lN_i, ejj, Nat.min_eq_left (Nat.le_of_lt z)]
      · rw [if_neg (fun y => z ((pk_lLT (by omega) (by omega)).mp y)), lN_i, ejj, Nat.min_eq_right (Nat.le_of_not_lt z)]
    refine ⟨c18_w _ (c18_0 c G.length at_), by rw [rA_wss], ?_⟩
    rw [sp_eq x6 x5 x2 c18' x3 x4, h7, if_pos (by decide), if_pos (by decide), if_pos (by decide), if_pos (by decide)]
    unfold fx_Sr_control
    rw [if_neg (by decide), if_neg (by decide), if_neg (by decide), if_neg (by decide), if_pos (by decide), s_pop (P := b + nm (vm m) f + h') x5 (by rw [rA_wn (by decide)]; exact c20) (by omega), bn_s, rL_wA, v0, gd_k (by first | omega | (simp only [rN_wI, rN_wA, rN_wL]; omega)) (by first | omega | (simp only [rN_wI, rN_wA, rN_wL]; omega)), nI_clamp (by omega), rA_wn (by decide), rA_wn (by decide), h8, hlow, hmin, nI_1, nI_add, bv_id]
  have hGrun : r = true → ∃ sz c2 k2 q1 p1 W2, k2 ≤ 900 ∧ vl N k2 (wI c 17 (rI c 17 + 1)) c2 ∧ tR c2 G.length b sz q1 p1 ∧ cY c c2 G.length b ∧ fV c2 m (vm m) (nm (vm m) f) W2 b s h' ∧ (∀ x, x < t_ht (vm m) (T at_).1 → W2 x = nI (nm (vm m) f + x)) ∧ (∀ x, h' - t_want (vm m) f (T at_).1 k ≤ x → x < h' → W2 x = nI (nm (vm m) f + x)) ∧ q1 < sz ∧ brc c (nm (vm m) f) (v_r (vm m) f) h' (ZZ f) (lr (vm m) f (T at_).1 k) q1 p1 := by
    intro hr
    subst hr
    have hR1 := hR
    obtain ⟨r1, ⟨hfC, -⟩, -⟩ := hR1
    obtain ⟨sz0, z1, z2, z3, z4, z5, z6, z7, z8⟩ := rg_ctx h hfC
    obtain ⟨sz, y1', y2', y3', y4'⟩ := R0_tR h hR hs1
    have hks := kok_s z4 p1.2.2.1 x16 rfl (by omega) at_ p3 (by omega) p6
    unfold kcV at z5
    rw [ho, ha3, hh] at z5
    obtain ⟨q1, p1', m1, m2, m3, m4⟩ := z5.2.2.2.2.2.2.2.2.2.2.2.2.2.2.2.2.2.1 rfl
    rw [nI_clamp (by omega)] at m3 m4
    obtain ⟨-, -, -, -, -, -, k0, v7, -, -, -⟩ := g2 0 (Nat.zero_le _)
    have v7' : t_n (v_a (vm m) (at_ + 1)) (T at_).1.length = some k0 := v7
    obtain ⟨hk03, hk04⟩ := t_n_some (by omega) v7'
    have hlw : lw (v_r (vm m) f) (lr (vm m) f (T at_).1 (v_a (vm m) (at_ + 1 + 0)).toNatClampNeg) = t_want (vm m) f (T at_).1 k := by
      rw [lw_lr]
      have : (v_a (vm m) (at_ + 1 + 0)).toNatClampNeg = k0 := by
        show (v_a (vm m) (at_ + 1)).toNatClampNeg = k0
        rw [hk04, nI_clamp (by omega)]
      rw [this]
      by_cases z : jj = 0
      · rw [z] at u7
        have : k = k0 := by rw [v7] at u7; exact (Option.some.inj u7).symm
        rw [this]
      · obtain ⟨k0', t1, t2, -⟩ := u10 (by omega)
        have : k0' = k0 := by rw [v7'] at t1; exact (Option.some.inj t1).symm
        subst this
        exact t2.symm
    have m1 : mvf c (nm (vm m) f) (KK f at_).2.2 (h' - lw (v_r (vm m) f) (lr (vm m) f (T at_).1 (v_a (vm m) (at_ + 1 + 0)).toNatClampNeg)) h' (KK f at_).1 ((KK f at_).2.1 + 1) q1 p1' := m1
    rw [hlw] at m1
    have m2 : ci c q1 14 (nI p1') 0 ((KK f at_).2.2 h') (nI a) 0 := m2
    have m3 : brc c (nm (vm m) f) (v_r (vm m) f) h' (ZZ f) (lr (vm m) f (T at_).1 (v_a (vm m) (at_ + 1 + jj)).toNatClampNeg) (q1 + 1 + jj) 0 := m3 jj hjj
    rw [hk4, nI_clamp (by omega)] at m3
    obtain ⟨c2, W2, e1, e2, e3, e4, e5, e6, e7⟩ := fill_run (N := N) (c := wI c 17 (rI c 17 + 1)) (V := vm m) (m := m) (s := s) (h := h' + 1) (by omega) x1 y3' (Nat.le_succ _) (by omega) (mv_17 _ m1) (fV_keep x15 (by omega) (fun _ _ _ => rfl) (fun _ _ _ => rfl))
    have e4' : cY c c2 G.length b := ⟨fun k hk => (e4.1 k hk).trans (rI_wn hk), fun i x hx => e4.2.1 i x hx, fun i y hy => e4.2.2.1 i y hy, e4.2.2.2⟩
    have hv := e5.2.1 h' (Nat.lt_succ_self _)
    have hW2 : W2 h' = (KK f at_).2.2 h' := e7 h' (fun z => by omega)
    obtain ⟨c3, v1, v2, v3, v4⟩ := g_14 (N := N) (V := vm m) (g := g) e3 (cY_pv e4' x1) (by omega) (e5.2.2 h' (Nat.lt_succ_self _)) (by omega) ha2 hg (by rw [hv]; exact hlow) (by rw [hW2]; exact cY_ci e4' m2)
    rw [← ejj] at v2
    refine ⟨sz, c3, _, q1 + 1 + jj, 0, W2, ?_, vl_tr e1 (vl_1 v1), v2, cY_tr e4' v3, fV_keep (fV_le e5 (Nat.le_succ _)) (by omega) (fun y _ _ => v4 y) (fun _ _ _ => rfl), fun x hx => ?_, fun x y1 y2 => e6 x y1 y2, by omega, m3⟩
    · omega
    · rw [e7 x (fun z => by omega)]
      exact hks x hx
  cases hq : (T at_).1[k]? with
  | some q =>
    exact SR_br (pl := at_ + 1 + jj) (h0 := h') h hR hs1 hN hq (by omega) (by omega) hht hmm (by rw [rI_ws]) hmsb hlb (by omega) (fun hr => ⟨_, (hst hr).1, rfl, (hst hr).2.1, (hst hr).2.2⟩) hGrun
  | none =>
    have hw : t_want (vm m) f (T at_).1 k = v_r (vm m) f := by unfold t_want; rw [hq]
    have hlr : lr (vm m) f (T at_).1 k = none := by unfold lr; rw [hq]
    rw [hlr] at hlb
    have hW2 : pb_W c (wI m 13 (nI (s + nm (vm m) f + h'))) T f (S f) (E f) (M f) := p1
    have hbf := m_brf (N := N) hW2 p2 hN p3 (by omega) hq (show k ≤ 1000 by omega) (by rw [rI_wn (by decide)]; exact x7) x5 p7 p8 p9 (by rw [rI_wn (by decide)]; exact x14)
    refine SR_ret (h0 := h') h hR hs1 hN (by omega) (by omega) hmm (by rw [rI_ws]) (by rw [hmsb, hbf]) (fun hr => ⟨_, (hst hr).1, rfl, (hst hr).2.1, ?_⟩) (fun hr => ?_)
    · rw [(hst hr).2.2]
      have h10 : rA c 10 (at_ + 1 + jj) = -1 := hlb.2.2
      unfold fx_Sr_branch
      rw [gd_k (by first | omega | (simp only [rN_wI, rN_wA, rN_wL]; omega)) (by first | omega | (simp only [rN_wI, rN_wA, rN_wL]; omega)), bd_s, nI_clamp (by omega), (hst hr).1.2.2.1 10 _ (by omega) (by omega), h10, if_pos rfl, bv_id]
    · obtain ⟨sz, c2, k2, q1, p1', W2, w1, w2, w3, w4, w5, w6, w7, w8, w9⟩ := hGrun hr
      rw [hlr] at w9
      exact ⟨sz, c2, k2, q1, p1', W2, w1, w2, w3, w4, w5, fun x y1 y2 => w7 x (by omega) y2, w8, w9⟩
