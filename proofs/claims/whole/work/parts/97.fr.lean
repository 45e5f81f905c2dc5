-- ===== one step: branch if, table =====
theorem g_13 {N : Nat} {c m : rs_T} {V : vw_T} {j b sz q p n x : Nat} {u : Int32} (ht : tR c j b sz q p) (hp : pv c V) (hq : q < sz) (hu : wok V n x u) (hx : b + n + x < 220) (hc : ci c q 13 (nI p) 0 u 0 0) : ((ev c V b u).toInt32 = 0 → ∃ c2, vq N c c2 ∧ tR c2 j b sz (q + 2) 0 ∧ cY c c2 j b ∧ ∀ y, rL c2 2 y = rL c 2 y) ∧ (¬ (ev c V b u).toInt32 = 0 → ∃ c2, vq N c c2 ∧ tR c2 j b sz (q + 1) 0 ∧ cY c c2 j b ∧ ∀ y, rL c2 2 y = rL c 2 y) := by
  obtain ⟨t1, t2, t3, t4, t5, t6, t7, t8, t9, t10⟩ := id ht
  obtain ⟨i1, i2, i3, i4, i5, i6⟩ := hc
  have hperf : fx_Rr_perform N (nI q) (wI c 17 0) = bn (fx_Rr_isZero (nI j) (nI q) (wA (wI c 17 0) 18 j (nI (q + 1)))) (fun r10 st9 => if r10 = (0 : Int32) then (some st9) else (gd (nI j) 30 (some (wA st9 18 (nI j).toNatClampNeg (nI q + 2))))) := by
    rw [rp_eq (j := j) (by rw [rI_wn (by decide)]; exact t3) t4 (by first | omega | (simp only [rN_wI, rN_wA, rN_wL]; omega))]
    rw [rA_wI, rA_wI, rA_wI, i1, if_neg (by decide), if_pos (by decide), if_pos (by decide), if_pos (by decide)]
    unfold fx_Rr_control
    rw [if_neg (by decide), if_neg (by decide), if_neg (by decide), if_pos (by decide)]
  have hz : fx_Rr_isZero (nI j) (nI q) (wA (wI c 17 0) 18 j (nI (q + 1))) = some (if (ev c V b u).toInt32 = 0 then 1 else 0, wA (wI c 17 0) 18 j (nI (q + 1))) := by
    unfold fx_Rr_isZero
    rw [gd_k (by first | omega | (simp only [rN_wI, rN_wA, rN_wL]; omega)) (by first | omega | (simp only [rN_wI, rN_wA, rN_wL]; omega)), nI_clamp (by omega), ga _ _ _ _ _ (by decide), i4, gr (n := n) (x := x) hp t4 t9 hu hx, bn_s]
    by_cases e : (ev c V b u).toInt32 = 0
    · rw [if_pos e, if_pos e]
    · rw [if_neg e, if_neg e]
  have mk : ∀ z : Nat, tR (wA (wI c 17 0) 18 j (nI z)) j b sz z 0 ∧ cY c (wA (wI c 17 0) 18 j (nI z)) j b := fun z => by
    refine ⟨⟨?_, ?_, ?_, t4, ?_, ?_, ?_, t8, ?_, ?_⟩, fun k hk => ?_, fun i x hx => ?_, fun i y hy => rfl, rfl⟩
    · rw [rI_wA, rI_wn (by decide)]; exact t1
    · rw [rI_wA, rI_wn (by decide)]; exact t2
    · rw [rI_wA, rI_wn (by decide)]; exact t3
    · rw [rA_wn (by decide), rA_wI]; exact t5
    · rw [rA_wss]
    · rw [rI_wA, rI_wn (by decide)]; exact t7
    · rw [rA_wn (by decide), rA_wI]; exact t9
    · rw [rI_wA, rI_ws, nI_0]
    · rw [rI_wA, rI_wn hk]
    · rw [rA_wA, if_neg hx, rA_wI]
  refine ⟨fun e => ?_, fun e => ?_⟩
  · obtain ⟨w1, w2⟩ := mk (q + 2)
    refine ⟨_, tR_vq ht hq i2 ?_ ?_, w1, w2, fun y => rfl⟩
    · rw [hperf, hz, bn_s, if_pos e, if_neg (by decide), gd_k (by first | omega | (simp only [rN_wI, rN_wA, rN_wL]; omega)) (by first | omega | (simp only [rN_wI, rN_wA, rN_wL]; omega)), nI_clamp (by omega)]
      have : wA (wA (wI c 17 0) 18 j (nI (q + 1))) 18 j (nI q + 2) = wA (wI c 17 0) 18 j (nI (q + 2)) := by
        rw [show nI q + 2 = nI (q + 2) from nI_add q 2]
        unfold wA
        have hx : (fun y => bif Nat.beq y 18 then upd ((fun y => bif Nat.beq y 18 then upd ((wI c 17 0).2.1 18) j (nI (q + 1)) else (wI c 17 0).2.1 y) 18) j (nI (q + 2)) else (fun y => bif Nat.beq y 18 then upd ((wI c 17 0).2.1 18) j (nI (q + 1)) else (wI c 17 0).2.1 y) y) = (fun y => bif Nat.beq y 18 then upd ((wI c 17 0).2.1 18) j (nI (q + 2)) else (wI c 17 0).2.1 y) := by
          funext y
          by_cases z : y = 18
          · subst z
            show upd (upd ((wI c 17 0).2.1 18) j (nI (q + 1))) j (nI (q + 2)) = upd ((wI c 17 0).2.1 18) j (nI (q + 2))
            funext k
            by_cases z2 : k = j
            · subst z2; rw [pk_us, pk_us]
            · rw [pk_un z2, pk_un z2, pk_un z2]
          · simp only [nb_f z, cond_false]
        exact congrArg (fun z => ((wI c 17 0).1, z, (wI c 17 0).2.2)) hx
      rw [this]
    · rw [rI_wA, rI_ws]
  · obtain ⟨w1, w2⟩ := mk (q + 1)
    refine ⟨_, tR_vq ht hq i2 ?_ ?_, w1, w2, fun y => rfl⟩
    · rw [hperf, hz, bn_s, if_neg e, if_pos rfl]
    · rw [rI_wA, rI_ws]
theorem SR_13 {N : Nat} {c m : rs_T} {T : Nat → ts_T} {S E M : Nat → Nat} {F t : Nat} {w : Bool} {KK : Nat → Nat → kT} {ZZ : Nat → Nat → Int32} {QS QE : Nat → Nat} {G : List fr_T} {f at_ b s : Nat} {r : Bool} {b' : Int32} (h : IB c m T S E M F t w KK ZZ QS QE) (hR : R0 c m (vm m) T S E M F w KK G f at_ r b s) (hs1 : rI m 9 = 1) (hN : 1000 ≤ N) (ho : v_o (vm m) at_ = 13) : SR N c m T S E M F t w 13 (v_a (vm m) at_) b' r := by
  obtain ⟨x1, x2, x3, x4, x5, x6, x7, x8, x9, x10, x11, x12, x13, x14, x15, x16, x17, -⟩ := cx h hR
  obtain ⟨p1, p2, p3, p4, p5, p6, p7, p8, p9, p10, p11, p12, p13⟩ := pctx h hR (by rw [ho]; decide)
  obtain ⟨k, hk1, hk2⟩ := nx_13 p5 ho
  obtain ⟨hn0, hT1, hl1⟩ := tl_tu p6 hk2
  have hhas : t_ht (vm m) (T at_).1 + (t_want (vm m) f (T at_).1 k + 1) ≤ (T at_).2.2.1 := by
    unfold t_tu at hk2
    cases hh : t_has (vm m) (T at_) (t_want (vm m) f (T at_).1 k + 1)
    · rw [hh] at hk2; cases hk2
    · exact tl_has p6 hh
  obtain ⟨hk3, hk4⟩ := t_n_some (by omega) hk1
  have h7 : rA c 7 at_ = 13 := (x1.1 at_).1.trans ho
  have hlb := lkb_of p1 p13 p11 p12 ⟨p2, pb_EL h.1 p12, x4.2.2.1⟩ p3 (by omega) (Or.inr (Or.inl ho)) hk1
  obtain ⟨h', hh⟩ : ∃ h', (T at_).2.2.1 = h' + 1 := ⟨(T at_).2.2.1 - 1, by omega⟩
  have hT : (T (at_ + 1)).2.2.1 = h' := by rw [hT1]; show (T at_).2.2.1 - (t_want (vm m) f (T at_).1 k + 1) + t_want (vm m) f (T at_).1 k = h'; omega
  rw [hh] at x13 x15 x11 hhas
  have x13 : rI m 13 = nI (s + nm (vm m) f + h' + 1) := x13
  have hmm := m13_w (nI (s + nm (vm m) f + h')) (m13_0 m)
  have hms : msb N 13 (v_a (vm m) at_) b' m = if (rL m 2 (s + nm (vm m) f + h')).toInt32 = 0 then some (wI (wI m 13 (nI (s + nm (vm m) f + h'))) 15 (nI (at_ + 1))) else fx_Md_branch N (nI k) (wI m 13 (nI (s + nm (vm m) f + h'))) := by
    unfold msb ms_13
    rw [if_neg (by decide), if_neg (by decide), if_neg (by decide), if_pos (by decide), m_pop x13 (by omega), bn_s, m_true, bn_s, hk4]
    by_cases e : (rL m 2 (s + nm (vm m) f + h')).toInt32 = 0
    · rw [if_pos e, if_pos rfl, if_pos e, rI_wn (by decide), x14, nI_1]
    · rw [if_neg e, if_neg (by decide), if_neg e]
  have hst : r = false → (c18 c (wA (wA c 18 G.length (nI (at_ + 1))) 20 G.length (nI (b + nm (vm m) f + h'))) G.length at_ ∧ rA (wA (wA c 18 G.length (nI (at_ + 1))) 20 G.length (nI (b + nm (vm m) f + h'))) 20 G.length = nI (b + nm (vm m) f + h') ∧ rI c 17 = 0 ∧ fx_Sr_perform N c = if (rL m 2 (s + nm (vm m) f + h')).toInt32 = 0 then some (wA (wA c 18 G.length (nI (at_ + 1))) 20 G.length (nI (b + nm (vm m) f + h'))) else fx_Sr_branch N (nI G.length) (nI at_) (wA (wA c 18 G.length (nI (at_ + 1))) 20 G.length (nI (b + nm (vm m) f + h')))) := by
    intro hr
    subst hr
    obtain ⟨r1, ⟨-, -, -, -, -, -, -, -, b9, -⟩, -⟩ := hR
    obtain ⟨c18', c20, c17⟩ := b9 rfl
    rw [hh] at c20
    have v0 := sv (x := h') x15 (by omega) (by omega)
    refine ⟨c18_w _ (c18_0 c G.length at_), by rw [rA_wss], c17, ?_⟩
    rw [sp_eq x6 x5 x2 c18' x3 x4, h7, if_pos (by decide), if_pos (by decide), if_pos (by decide), if_pos (by decide)]
    unfold fx_Sr_control
    rw [if_neg (by decide), if_neg (by decide), if_neg (by decide), if_pos (by decide), s_pop (P := b + nm (vm m) f + h') x5 (by rw [rA_wn (by decide)]; exact c20) (by omega), bn_s, rL_wA, v0, bv_id]
  have hgt : r = true → ∃ sz c2 k2 q1 p1' W2, k2 ≤ 800 ∧ vl N k2 (wI c 17 (rI c 17 + 1)) c2 ∧ tR c2 G.length b sz q1 p1' ∧ cY c c2 G.length b ∧ fV c2 m (vm m) (nm (vm m) f) W2 b s (h' + 1) ∧ (∀ x, x < t_ht (vm m) (T at_).1 → W2 x = nI (nm (vm m) f + x)) ∧ (∀ x, h' - t_want (vm m) f (T at_).1 k ≤ x → x < h' → W2 x = nI (nm (vm m) f + x)) ∧ (∀ x, x < h' → W2 x = kw (nm (vm m) f) (KK f at_).2.2 (h' - t_want (vm m) f (T at_).1 k) x) ∧ q1 + 1 < sz ∧ ci c q1 13 (nI p1') 0 (W2 h') 0 0 ∧ brc c (nm (vm m) f) (v_r (vm m) f) h' (ZZ f) (lr (vm m) f (T at_).1 k) (q1 + 1) 0 ∧ KK f (at_ + 1) = (q1 + 2, 0, kw (nm (vm m) f) (KK f at_).2.2 (h' - t_want (vm m) f (T at_).1 k)) := by
    intro hr
    subst hr
    have hR1 := hR
    obtain ⟨r1, ⟨hfC, -⟩, -⟩ := hR1
    obtain ⟨sz0, z1, z2, z3, z4, z5, z6, z7, z8⟩ := rg_ctx h hfC
    obtain ⟨sz, y1', y2', y3', y4'⟩ := R0_tR h hR hs1
    have hks := kok_s z4 p1.2.2.1 x16 rfl (by omega) at_ p3 (by omega) p6
    unfold kcV at z5
    rw [ho, hk4, nI_clamp (by omega), hh] at z5
    obtain ⟨q1, p1', m1, m2, m3, m4⟩ := z5.2.2.2.2.2.2.2.2.2.2.2.2.2.2.2.2.1 rfl
    rw [lw_lr] at m1 m4
    have m1 : mvf c (nm (vm m) f) (KK f at_).2.2 (h' - t_want (vm m) f (T at_).1 k) h' (KK f at_).1 ((KK f at_).2.1 + 1) q1 p1' := m1
    have m2 : ci c q1 13 (nI p1') 0 ((KK f at_).2.2 h') 0 0 := m2
    have m3 : brc c (nm (vm m) f) (v_r (vm m) f) h' (ZZ f) (lr (vm m) f (T at_).1 k) (q1 + 1) 0 := m3
    have m4 : KK f (at_ + 1) = (q1 + 2, 0, kw (nm (vm m) f) (KK f at_).2.2 (h' - t_want (vm m) f (T at_).1 k)) := m4
    have hqe : q1 + 2 ≤ QE f := by
      rw [m4] at z6
      exact z6
    obtain ⟨c2, W2, e1, e2, e3, e4, e5, e6, e7⟩ := fill_run (N := N) (c := wI c 17 (rI c 17 + 1)) (V := vm m) (m := m) (s := s) (h := h' + 1) (by omega) x1 y3' (Nat.le_succ _) (by omega) (mv_17 _ m1) (fV_keep x15 (by omega) (fun _ _ _ => rfl) (fun _ _ _ => rfl))
    have e4' : cY c c2 G.length b := ⟨fun k hk => (e4.1 k hk).trans (rI_wn hk), fun i x hx => e4.2.1 i x hx, fun i y hy => e4.2.2.1 i y hy, e4.2.2.2⟩
    refine ⟨sz, c2, _, q1, p1', W2, by omega, e1, e3, e4', e5, fun x hx => ?_, e6, fun x hx => ?_, by omega, by rw [e7 h' (fun z => by omega)]; exact m2, m3, m4⟩
    · rw [e7 x (fun z => by omega)]
      exact hks x hx
    · unfold kw
      by_cases z : x < h' - t_want (vm m) f (T at_).1 k
      · rw [if_pos z, e7 x (fun y => by omega)]
      · rw [if_neg z, e6 x (by omega) hx]
  by_cases e : (rL m 2 (s + nm (vm m) f + h')).toInt32 = 0
  · rw [if_pos e] at hms
    have e9 : ∀ k, ¬ k = 13 → ¬ k = 15 → rI (wI (wI m 13 (nI (s + nm (vm m) f + h'))) 15 (nI (at_ + 1))) k = rI m k := fun k hk hk2 => by rw [rI_wn hk2, rI_wn hk]
    have hmX : mX m (wI (wI m 13 (nI (s + nm (vm m) f + h'))) 15 (nI (at_ + 1))) s := ⟨fun k _ _ _ a a2 => e9 k a a2, fun _ _ _ => rfl, fun _ => ⟨rfl, rfl⟩, fun _ _ => rfl⟩
    refine SR_of (at1 := at_ + 1) h hR hs1 hms hmX (by omega) p4 hl1 (by rw [hT, rI_wn (by decide), rI_ws]) (by rw [rI_ws]) (e9 9 (by decide) (by decide)) (e9 10 (by decide) (by decide)) (fun hr => ?_) (fun hr => ?_)
    · obtain ⟨s1, s2, s3, s4⟩ := hst hr
      rw [if_pos e] at s4
      subst hr
      refine ⟨_, s4, c18_X s1, wb_X (s := s) h.2.1 (c18_X (b := b) s1) hmX (s1.1 9) (fun x => s1.2.2.1 16 x (by omega) (by omega)) (fun _ => rfl) (e9 7 (by decide) (by decide)) (fun _ => rfl) (fun _ => rfl), rfl, rfl, s1.2.1, by rw [hT]; exact s2, s3, ?_⟩
      rw [hT]
      exact fV_keep (fV_le x15 (by omega)) (by omega) (fun _ _ _ => rfl) (fun _ _ _ => rfl)
    · obtain ⟨sz, c2, k2, q1, p1', W2, w1, w2, w3, w4, w5, w6, w7, w8, w9, w10, w11, w12⟩ := hgt hr
      subst hr
      have hv := w5.2.1 h' (Nat.lt_succ_self _)
      obtain ⟨c3, v1, v2, v3, v4⟩ := (g_13 (N := N) (m := m) (V := vm m) w3 (cY_pv w4 x1) (by omega) (w5.2.2 h' (Nat.lt_succ_self _)) (by omega) (cY_ci w4 w10)).1 (by rw [hv]; exact e)
      have hcY := cY_tr w4 v3
      refine ⟨c3, k2 + 1, by omega, vl_tr w2 (vl_1 v1), hcY.2.2.2, cY_X hcY, cY_wb h.2.1 hcY hmX (e9 7 (by decide) (by decide)) (fun _ => rfl) (fun _ => rfl), hcY.1 11 (by decide), hcY.1 12 (by decide), by rw [w12]; exact v2.2.2.2.2.2.1, by rw [w12]; exact v2.2.2.2.2.2.2.2.2.2, ?_⟩
      rw [hT, w12]
      exact fV_congr (fV_keep (fV_le w5 (Nat.le_succ _)) (by omega) (fun y _ _ => v4 y) (fun _ _ _ => rfl)) (fun x hx => (w8 x hx).symm)
  · rw [if_neg e] at hms
    have hGrun : r = true → ∃ sz c2 k2 q1 p1 W2, k2 ≤ 900 ∧ vl N k2 (wI c 17 (rI c 17 + 1)) c2 ∧ tR c2 G.length b sz q1 p1 ∧ cY c c2 G.length b ∧ fV c2 m (vm m) (nm (vm m) f) W2 b s h' ∧ (∀ x, x < t_ht (vm m) (T at_).1 → W2 x = nI (nm (vm m) f + x)) ∧ (∀ x, h' - t_want (vm m) f (T at_).1 k ≤ x → x < h' → W2 x = nI (nm (vm m) f + x)) ∧ q1 < sz ∧ brc c (nm (vm m) f) (v_r (vm m) f) h' (ZZ f) (lr (vm m) f (T at_).1 k) q1 p1 := by
      intro hr
      obtain ⟨sz, c2, k2, q1, p1', W2, w1, w2, w3, w4, w5, w6, w7, w8, w9, w10, w11, w12⟩ := hgt hr
      have hv := w5.2.1 h' (Nat.lt_succ_self _)
      obtain ⟨c3, v1, v2, v3, v4⟩ := (g_13 (N := N) (m := m) (V := vm m) w3 (cY_pv w4 x1) (by omega) (w5.2.2 h' (Nat.lt_succ_self _)) (by omega) (cY_ci w4 w10)).2 (by rw [hv]; exact e)
      exact ⟨sz, c3, k2 + 1, q1 + 1, 0, W2, by omega, vl_tr w2 (vl_1 v1), v2, cY_tr w4 v3, fV_keep (fV_le w5 (Nat.le_succ _)) (by omega) (fun y _ _ => v4 y) (fun _ _ _ => rfl), w6, w7, w9, w11⟩
    cases hq : (T at_).1[k]? with
    | some q =>
      exact SR_br (pl := at_) (h0 := h') h hR hs1 hN hq (by omega) (by omega) (by omega) hmm (by rw [rI_ws]) hms hlb (by omega) (fun hr => by
        obtain ⟨s1, s2, s3, s4⟩ := hst hr
        rw [if_neg e] at s4
        exact ⟨_, s1, rfl, s2, s4⟩) hGrun
    | none =>
      have hw : t_want (vm m) f (T at_).1 k = v_r (vm m) f := by unfold t_want; rw [hq]
      have hlr : lr (vm m) f (T at_).1 k = none := by unfold lr; rw [hq]
      rw [hlr] at hlb
      have hbf : fx_Md_branch N (nI k) (wI m 13 (nI (s + nm (vm m) f + h'))) = fx_Md_back N (wI m 13 (nI (s + nm (vm m) f + h'))) := by
        have hv2 : vm (wI m 13 (nI (s + nm (vm m) f + h'))) = vm m := rfl
        have hW2 : pb_W c (wI m 13 (nI (s + nm (vm m) f + h'))) T f (S f) (E f) (M f) := p1
        exact m_brf hW2 p2 hN p3 (by omega) hq (by omega) (by rw [rI_wn (by decide)]; exact x7) x5 p7 p8 p9 (by rw [rI_wn (by decide)]; exact x14)
      refine SR_ret (h0 := h') h hR hs1 hN (by omega) (by omega) hmm (by rw [rI_ws]) (by rw [hms, hbf]) (fun hr => ?_) (fun hr => ?_)
      · obtain ⟨s1, s2, s3, s4⟩ := hst hr
        rw [if_neg e] at s4
        refine ⟨_, s1, rfl, s2, ?_⟩
        rw [s4]
        have h10 : rA c 10 at_ = -1 := hlb.2.2
        unfold fx_Sr_branch
        rw [gd_k (by first | omega | (simp only [rN_wI, rN_wA, rN_wL]; omega)) (by first | omega | (simp only [rN_wI, rN_wA, rN_wL]; omega)), bd_s, nI_clamp (by omega), s1.2.2.1 10 _ (by omega) (by omega), h10, if_pos rfl, bv_id]
      · obtain ⟨sz, c2, k2, q1, p1', W2, w1, w2, w3, w4, w5, w6, w7, w8, w9⟩ := hGrun hr
        rw [hlr] at w9
        exact ⟨sz, c2, k2, q1, p1', W2, w1, w2, w3, w4, w5, fun x y1 y2 => w7 x (by omega) y2, w8, w9⟩
