-- END
theorem c_b146 {c : rs_T} {V : vw_T} {f t b k hh y ms : Nat} (hht : fx_Wr_height c = some (nI hh, c)) (hb : b < rN c 0 ∧ rN c 0 ≤ 1500) (h9 : rA c 9 b = nI y) (h5 : rI c 5 = nI (k + 1)) (h3 : rI c 3 = nI f) (hf : f < 40) (hm : rA c 3 f = nI ms) (hms : ms < 100000) (hhb : hh < 100000) (hy : y ≤ 8) : fx_Wr_admitsEnd_b146 (nI b) c = some (1, wA (wI (wI (wI c 6 (nI hh)) 5 (nI k)) 6 (nI (hh + y))) 3 f (nI (max ms (hh + y)))) := by
  unfold fx_Wr_admitsEnd_b146
  rw [hht, bn_s, gd_k (by omega) (by omega), nI_clamp (by omega), h9, h5, nI_pred]
  rw [c_put (c := wI (wI c 6 (nI hh)) 5 (nI k)) (h := hh) (f := f) (ms := ms) (by simp (disch := omega) only [bn_s, bv_s, bd_s, gb_0, gb_1, rI_ws, rI_wn, rI_wA, rI_wL, rA_wI, rA_wL, rL_wI, rL_wA, rA_wss, rA_wn, rA_wsn, rL_wss, rL_wn, rL_wsn, rN_wI, rN_wA, rN_wL]; exact h3) hf (by simp (disch := omega) only [bn_s, bv_s, bd_s, gb_0, gb_1, rI_ws, rI_wn, rI_wA, rI_wL, rA_wI, rA_wL, rL_wI, rL_wA, rA_wss, rA_wn, rA_wsn, rL_wss, rL_wn, rL_wsn, rN_wI, rN_wA, rN_wL]) (by simp (disch := omega) only [bn_s, bv_s, bd_s, gb_0, gb_1, rI_ws, rI_wn, rI_wA, rI_wL, rA_wI, rA_wL, rL_wI, rL_wA, rA_wss, rA_wn, rA_wsn, rL_wss, rL_wn, rL_wsn, rN_wI, rN_wA, rN_wL]; exact hm) (by omega) (by omega), bv_s]
theorem c_p_end {c : rs_T} {V : vw_T} {f t ms : Nat} {a b : Int32} {T : ts_T} (h : cw_T c V f t T) (hb : tb_ok t T) (hlt : t < rN c 0) (ht : t < 512) (hel : T.2.2.2.1 = 0) (hm : rA c 3 f = nI ms) (hms : ms < 100000) (hr8 : v_r V f ≤ 8) (hoth : ∀ (q : lb_T) (L : List lb_T) (x : Nat), T.1 = q :: L → q.2.1 = true → x < 1500 → rA c 11 q.1 = nI x → x < t ∧ ¬ x = q.1) : c_ph c V f t 11 a b T ms (fx_Wr_admitsEnd c) := by
  have hrd := c_ready h hb hr8
  have hht := c_ht h hb
  obtain ⟨h2, h3, h4, h5, h6, h7, h8, hl, hw, hf, hr, hN⟩ := id h
  obtain ⟨c1, c2, c3, c4⟩ := id hb
  have hth := lw_ht hw
  have hnx : ∀ w, t_nx (v_set V t 11 a b w) f t T = t_end (v_set V t 11 a b w) f T := fun w => by
    unfold t_nx
    rw [vs_o, hel]
    simp (decide := true) only [if_false, if_true]
  have hdv : ∀ w, t_done (v_set V t 11 a b w) f T = t_done V f T := fun w => done_view (v_set_eq ..) hw
  -- not done: both refuse
  have hnd : t_done V f T = false → ∀ w, t_nx (v_set V t 11 a b w) f t T = none ∧ ¬ t_fin (v_set V t 11 a b w) f t T := fun hd w => by
    refine ⟨?_, fun hq => ?_⟩
    · rw [hnx w]; unfold t_end
      cases hL : T.1 with
      | nil => rfl
      | cons q L => simp only []; rw [hdv w, hd]; rfl
    · have := hq.2.2.2
      rw [hdv w, hd] at this
      exact Bool.false_ne_true this
  unfold fx_Wr_admitsEnd fx_Wr_admitsEnd_b45
  rw [h5, nI_pred, gd_k (by omega) (by omega), bd_s, nI_clamp (by omega)]
  cases hL : T.1 with
  | nil =>
    rw [hL] at hl
    have e : rA c 13 ([] : List lb_T).length = -1 := hl.1
    have e2 : fx_Wr_isIfWithoutElse (-1) c = some (0, c) := by unfold fx_Wr_isIfWithoutElse; rw [if_pos rfl]
    rw [e, e2, bn_s, if_pos rfl]
    unfold fx_Wr_admitsEnd_b46
    rw [if_pos rfl, hrd, bn_s]
    cases hd : t_done V f T
    · exact Or.inl ⟨by rw [b2_f, if_pos rfl], hnd hd⟩
    · rw [b2_t, if_neg i10, bd_s, h4, gd_k (by omega) (by omega), if_pos rfl, h3, gd_k (by omega) (by omega), nI_clamp (by omega), nI_clamp (by omega)]
      unfold fx_Wr_stop
      rw [bv_s]
      refine Or.inr (Or.inr ⟨_, (rA c 12 t).toNatClampNeg, rfl, ⟨by rw [vs_o], hel, hL, by rw [hdv, hd]⟩, ?_, ?_, ?_, ?_, ?_, ?_, fun x hx => ?_, ?_⟩)
      · refine ⟨fun q _ _ _ _ _ => ?_, fun j x hj => ?_, fun x hx => ?_, ?_, fun x hx => ?_, ?_, fun j x => ?_⟩
        · simp (disch := omega) only [bn_s, bv_s, bd_s, gb_0, gb_1, rI_ws, rI_wn, rI_wA, rI_wL, rA_wI, rA_wL, rL_wI, rL_wA, rA_wss, rA_wn, rA_wsn, rL_wss, rL_wn, rL_wsn, rN_wI, rN_wA, rN_wL]
        · simp (disch := omega) only [bn_s, bv_s, bd_s, gb_0, gb_1, rI_ws, rI_wn, rI_wA, rI_wL, rA_wI, rA_wL, rL_wI, rL_wA, rA_wss, rA_wn, rA_wsn, rL_wss, rL_wn, rL_wsn, rN_wI, rN_wA, rN_wL]
        · simp (disch := omega) only [bn_s, bv_s, bd_s, gb_0, gb_1, rI_ws, rI_wn, rI_wA, rI_wL, rA_wI, rA_wL, rL_wI, rL_wA, rA_wss, rA_wn, rA_wsn, rL_wss, rL_wn, rL_wsn, rN_wI, rN_wA, rN_wL]
        · simp (disch := omega) only [bn_s, bv_s, bd_s, gb_0, gb_1, rI_ws, rI_wn, rI_wA, rI_wL, rA_wI, rA_wL, rL_wI, rL_wA, rA_wss, rA_wn, rA_wsn, rL_wss, rL_wn, rL_wsn, rN_wI, rN_wA, rN_wL]; exact hm
        · simp (disch := omega) only [bn_s, bv_s, bd_s, gb_0, gb_1, rI_ws, rI_wn, rI_wA, rI_wL, rA_wI, rA_wL, rL_wI, rL_wA, rA_wss, rA_wn, rA_wsn, rL_wss, rL_wn, rL_wsn, rN_wI, rN_wA, rN_wL]
        · simp (disch := omega) only [bn_s, bv_s, bd_s, gb_0, gb_1, rI_ws, rI_wn, rI_wA, rI_wL, rA_wI, rA_wL, rL_wI, rL_wA, rA_wss, rA_wn, rA_wsn, rL_wss, rL_wn, rL_wsn, rN_wI, rN_wA, rN_wL]
        · simp (disch := omega) only [bn_s, bv_s, bd_s, gb_0, gb_1, rI_ws, rI_wn, rI_wA, rI_wL, rA_wI, rA_wL, rL_wI, rL_wA, rA_wss, rA_wn, rA_wsn, rL_wss, rL_wn, rL_wsn, rN_wI, rN_wA, rN_wL]
      · simp (disch := omega) only [bn_s, bv_s, bd_s, gb_0, gb_1, rI_ws, rI_wn, rI_wA, rI_wL, rA_wI, rA_wL, rL_wI, rL_wA, rA_wss, rA_wn, rA_wsn, rL_wss, rL_wn, rL_wsn, rN_wI, rN_wA, rN_wL]
      · simp (disch := omega) only [bn_s, bv_s, bd_s, gb_0, gb_1, rI_ws, rI_wn, rI_wA, rI_wL, rA_wI, rA_wL, rL_wI, rL_wA, rA_wss, rA_wn, rA_wsn, rL_wss, rL_wn, rL_wsn, rN_wI, rN_wA, rN_wL]
      · simp (disch := omega) only [bn_s, bv_s, bd_s, gb_0, gb_1, rI_ws, rI_wn, rI_wA, rI_wL, rA_wI, rA_wL, rL_wI, rL_wA, rA_wss, rA_wn, rA_wsn, rL_wss, rL_wn, rL_wsn, rN_wI, rN_wA, rN_wL]
      · simp (disch := omega) only [bn_s, bv_s, bd_s, gb_0, gb_1, rI_ws, rI_wn, rI_wA, rI_wL, rA_wI, rA_wL, rL_wI, rL_wA, rA_wss, rA_wn, rA_wsn, rL_wss, rL_wn, rL_wsn, rN_wI, rN_wA, rN_wL]
      · simp (disch := omega) only [bn_s, bv_s, bd_s, gb_0, gb_1, rI_ws, rI_wn, rI_wA, rI_wL, rA_wI, rA_wL, rL_wI, rL_wA, rA_wss, rA_wn, rA_wsn, rL_wss, rL_wn, rL_wsn, rN_wI, rN_wA, rN_wL]
      · simp (disch := omega) only [bn_s, bv_s, bd_s, gb_0, gb_1, rI_ws, rI_wn, rI_wA, rI_wL, rA_wI, rA_wL, rL_wI, rL_wA, rA_wss, rA_wn, rA_wsn, rL_wss, rL_wn, rL_wsn, rN_wI, rN_wA, rN_wL]
      · refine ⟨fun z hz _ => ?_, fun z hz hz2 => ?_, fun z => ?_, fun z => ?_, fun z => ?_⟩
        · simp (disch := omega) only [bn_s, bv_s, bd_s, gb_0, gb_1, rI_ws, rI_wn, rI_wA, rI_wL, rA_wI, rA_wL, rL_wI, rL_wA, rA_wss, rA_wn, rA_wsn, rL_wss, rL_wn, rL_wsn, rN_wI, rN_wA, rN_wL]
        · simp (disch := omega) only [bn_s, bv_s, bd_s, gb_0, gb_1, rI_ws, rI_wn, rI_wA, rI_wL, rA_wI, rA_wL, rL_wI, rL_wA, rA_wss, rA_wn, rA_wsn, rL_wss, rL_wn, rL_wsn, rN_wI, rN_wA, rN_wL]
        · rw [vs_o] at z; exact absurd z (by decide)
        · rw [hL]
          show rA _ 10 t = -1
          simp (disch := omega) only [bn_s, bv_s, bd_s, gb_0, gb_1, rI_ws, rI_wn, rI_wA, rI_wL, rA_wI, rA_wL, rL_wI, rL_wA, rA_wss, rA_wn, rA_wsn, rL_wss, rL_wn, rL_wsn, rN_wI, rN_wA, rN_wL]
        · rw [vs_o] at z; exact absurd z (by decide)
  | cons q L =>
    have hw0 := hw
    have hl0 := hl
    have hNL := hN
    rw [hL] at hNL
    rw [hL] at hl hw c2 h5
    have hlen : (q :: L).length = L.length + 1 := rfl
    rw [hlen] at c2 h5 ⊢
    obtain ⟨m1, m2, m3, m4, m5, m6, m7, m8, m9⟩ := id hl
    obtain ⟨l1, ⟨x, y, hx, hy, e1, e2⟩, l3, l4, l5, l6⟩ := id hw
    have hq : q.1 < 512 := by omega
    have hqt : ¬ q.1 = t := by omega
    have hht2 : t_ht V T.1 = v_w V q.1 := by rw [hL]; rfl
    -- what comes behind the checks
    have hacc : t_done V f T = true → (v_o V q.1 = 4 → q.2.1 = false → v_a V q.1 = v_b V q.1) → c_ph c V f t 11 a b T ms (fx_Wr_admitsEnd_b46 (nI q.1) 0 c) := fun hd hab => by
      have ne : ¬ nI q.1 = -1 := fun z => (nI_m1 (by omega)).mp z
      unfold fx_Wr_admitsEnd_b46
      rw [if_pos rfl, hrd, bn_s, hd, b2_t, if_neg i10, bd_s, h4, gd_k (by omega) (by omega), if_neg ne, gd_k (by omega) (by omega), gd_k (by omega) (by omega), nI_clamp (by omega), nI_clamp (by omega)]
      have hv := v_set_eq V t 11 a b (rA c 12 t).toNatClampNeg
      obtain ⟨w1, w2, w3, w4⟩ := hv.1 q.1 l1
      have hnxa : t_nx (v_set V t 11 a b (rA c 12 t).toNatClampNeg) f t T = some (L, T.2.1, v_w V q.1 + y, 0, none) := by
        rw [hnx _]; unfold t_end; rw [hL]; simp only []
        rw [hdv, hd, w1, w2, w3, w4, e2, nI_clamp (by omega)]
        have : (!((decide (v_o V q.1 = 4) && !q.2.1) && !decide (v_a V q.1 = nI y))) = true := by
          rw [← e2]
          cases hz : (decide (v_o V q.1 = 4) && !q.2.1)
          · rfl
          · rw [Bool.and_eq_true] at hz
            have := hab (of_decide_eq_true hz.1) (by simpa using hz.2)
            simp [this]
        rw [this]; rfl
      -- any state that differs from c in links alone
      have fin : ∀ c0 : rs_T, (∀ q, rI c0 q = rI c q) → (∀ j z, ¬ j = 10 → rA c0 j z = rA c j z) → (∀ j z, rL c0 j z = rL c j z) → c0.2.2.2 = c.2.2.2 → rA c0 10 t = nI q.1 → rA c0 10 q.1 = nI t → (∀ z, ¬ z = t → ¬ z = q.1 → ¬ rA c 11 q.1 = nI z → rA c0 10 z = rA c 10 z) → (∀ z : Nat, q.2.1 = true → rA c 11 q.1 = nI z → z < 1500 → rA c0 10 z = nI t) → c_ph c V f t 11 a b T ms (fx_Wr_admitsEnd_b146 (nI q.1) c0) := fun c0 gI gA gL gN0 g1 g2 g3 g4 => by
        have hcw : cw_T c0 V f t T := by
          refine ⟨(gI 2).trans h2, (gI 3).trans h3, (gI 4).trans h4, (gI 5).trans (by rw [hL]; exact h5), (gI 6).trans h6, (gI 7).trans h7, ?_, ?_, hw0, hf, (gA 1 f (by decide)).trans hr, by have e0 : rN c0 0 = rN c 0 := congrFun gN0 0; have e1 : rN c0 1 = rN c 1 := congrFun gN0 1; rw [e0, e1]; exact hN⟩
          · intro z; exact absurd hel z
          · exact wc_keep hw0 (fun j i z1 z2 _ => gA j i (by omega)) (fun j z _ _ hj _ => gA j z hj) hl0
        have hht0 := c_ht hcw hb
        rw [hht2] at hht0
        rw [c_b146 (V := V) (t := t) (k := L.length + 1 - 1 + 1) (y := y) (ms := ms) (f := f) hht0 (by have e0 : rN c0 0 = rN c 0 := congrFun gN0 0; omega) ((gA 9 q.1 (by decide)).trans (m6.trans e2)) ((gI 5).trans (by rw [h5]; rfl)) ((gI 3).trans h3) hf ((gA 3 f (by decide)).trans hm) hms (by omega) (by omega)]
        refine Or.inr (Or.inl ⟨_, (L, T.2.1, v_w V q.1 + y, 0, none), (rA c 12 t).toNatClampNeg, rfl, hnxa, ?_, ?_, ?_, fun z => ?_⟩)
        · refine ⟨fun q _ _ _ _ _ => ?_, fun j z hj => ?_, fun z hz => ?_, ?_, fun z hz => ?_, ?_, fun j z => ?_⟩
          · simp (disch := omega) only [bn_s, bv_s, bd_s, gb_0, gb_1, rI_ws, rI_wn, rI_wA, rI_wL, rA_wI, rA_wL, rL_wI, rL_wA, rA_wss, rA_wn, rA_wsn, rL_wss, rL_wn, rL_wsn, rN_wI, rN_wA, rN_wL]; exact gI q
          · simp (disch := omega) only [bn_s, bv_s, bd_s, gb_0, gb_1, rI_ws, rI_wn, rI_wA, rI_wL, rA_wI, rA_wL, rL_wI, rL_wA, rA_wss, rA_wn, rA_wsn, rL_wss, rL_wn, rL_wsn, rN_wI, rN_wA, rN_wL]; exact gA j z (by omega)
          · simp (disch := omega) only [bn_s, bv_s, bd_s, gb_0, gb_1, rI_ws, rI_wn, rI_wA, rI_wL, rA_wI, rA_wL, rL_wI, rL_wA, rA_wss, rA_wn, rA_wsn, rL_wss, rL_wn, rL_wsn, rN_wI, rN_wA, rN_wL]; exact gA 3 z (by decide)
          · simp (disch := omega) only [bn_s, bv_s, bd_s, gb_0, gb_1, rI_ws, rI_wn, rI_wA, rI_wL, rA_wI, rA_wL, rL_wI, rL_wA, rA_wss, rA_wn, rA_wsn, rL_wss, rL_wn, rL_wsn, rN_wI, rN_wA, rN_wL]
          · simp (disch := omega) only [bn_s, bv_s, bd_s, gb_0, gb_1, rI_ws, rI_wn, rI_wA, rI_wL, rA_wI, rA_wL, rL_wI, rL_wA, rA_wss, rA_wn, rA_wsn, rL_wss, rL_wn, rL_wsn, rN_wI, rN_wA, rN_wL]; exact gA 12 z (by decide)
          · simp (disch := omega) only [bn_s, bv_s, bd_s, gb_0, gb_1, rI_ws, rI_wn, rI_wA, rI_wL, rA_wI, rA_wL, rL_wI, rL_wA, rA_wss, rA_wn, rA_wsn, rL_wss, rL_wn, rL_wsn, rN_wI, rN_wA, rN_wL]; rw [gA 12 t (by decide)]
          · simp (disch := omega) only [bn_s, bv_s, bd_s, gb_0, gb_1, rI_ws, rI_wn, rI_wA, rI_wL, rA_wI, rA_wL, rL_wI, rL_wA, rA_wss, rA_wn, rA_wsn, rL_wss, rL_wn, rL_wsn, rN_wI, rN_wA, rN_wL]; exact gL j z
        · refine ⟨?_, ?_, ?_, ?_, fun z => absurd rfl z, ?_, ?_⟩
          · simp (disch := omega) only [bn_s, bv_s, bd_s, gb_0, gb_1, rI_ws, rI_wn, rI_wA, rI_wL, rA_wI, rA_wL, rL_wI, rL_wA, rA_wss, rA_wn, rA_wsn, rL_wss, rL_wn, rL_wsn, rN_wI, rN_wA, rN_wL]; exact (gI 3).trans h3
          · simp (disch := omega) only [bn_s, bv_s, bd_s, gb_0, gb_1, rI_ws, rI_wn, rI_wA, rI_wL, rA_wI, rA_wL, rL_wI, rL_wA, rA_wss, rA_wn, rA_wsn, rL_wss, rL_wn, rL_wsn, rN_wI, rN_wA, rN_wL]; rfl
          · simp (disch := omega) only [bn_s, bv_s, bd_s, gb_0, gb_1, rI_ws, rI_wn, rI_wA, rI_wL, rA_wI, rA_wL, rL_wI, rL_wA, rA_wss, rA_wn, rA_wsn, rL_wss, rL_wn, rL_wsn, rN_wI, rN_wA, rN_wL]
          · simp (disch := omega) only [bn_s, bv_s, bd_s, gb_0, gb_1, rI_ws, rI_wn, rI_wA, rI_wL, rA_wI, rA_wL, rL_wI, rL_wA, rA_wss, rA_wn, rA_wsn, rL_wss, rL_wn, rL_wsn, rN_wI, rN_wA, rN_wL]; rw [gI 7, h7, hel]
          · refine wc_keep (lw_view hv l6) (fun j i z1 z2 _ => ?_) (fun j z _ _ hj _ => ?_) (wc_view hv l6 m9)
            · simp (disch := omega) only [bn_s, bv_s, bd_s, gb_0, gb_1, rI_ws, rI_wn, rI_wA, rI_wL, rA_wI, rA_wL, rL_wI, rL_wA, rA_wss, rA_wn, rA_wsn, rL_wss, rL_wn, rL_wsn, rN_wI, rN_wA, rN_wL]; exact gA j i (by omega)
            · simp (disch := omega) only [bn_s, bv_s, bd_s, gb_0, gb_1, rI_ws, rI_wn, rI_wA, rI_wL, rA_wI, rA_wL, rL_wI, rL_wA, rA_wss, rA_wn, rA_wsn, rL_wss, rL_wn, rL_wsn, rN_wI, rN_wA, rN_wL]; exact gA j z hj
          · refine lw_h (lw_mono (Nat.le_succ t) (Nat.le_refl _) (lw_view hv l6)) ?_
            rw [ht_view hv l6]
            have := lw_ht l6
            show _ ≤ _ + _
            omega
        · refine ⟨fun z hz hz2 => ?_, fun z hz hz2 => ?_, fun z => ?_, fun _ => ?_, fun z => ?_⟩
          · obtain ⟨z1, z2⟩ := hz2 q L hL (by rw [vs_o])
            simp (disch := omega) only [bn_s, bv_s, bd_s, gb_0, gb_1, rI_ws, rI_wn, rI_wA, rI_wL, rA_wI, rA_wL, rL_wI, rL_wA, rA_wss, rA_wn, rA_wsn, rL_wss, rL_wn, rL_wsn, rN_wI, rN_wA, rN_wL]; exact g3 z hz z1 z2
          · simp (disch := omega) only [bn_s, bv_s, bd_s, gb_0, gb_1, rI_ws, rI_wn, rI_wA, rI_wL, rA_wI, rA_wL, rL_wI, rL_wA, rA_wss, rA_wn, rA_wsn, rL_wss, rL_wn, rL_wsn, rN_wI, rN_wA, rN_wL]; exact gA 11 z (by decide)
          · rw [vs_o] at z; exact absurd z (by decide)
          · rw [hL]
            refine ⟨?_, ?_, fun he => ?_, fun he => ?_⟩
            · simp (disch := omega) only [bn_s, bv_s, bd_s, gb_0, gb_1, rI_ws, rI_wn, rI_wA, rI_wL, rA_wI, rA_wL, rL_wI, rL_wA, rA_wss, rA_wn, rA_wsn, rL_wss, rL_wn, rL_wsn, rN_wI, rN_wA, rN_wL]; exact g1
            · simp (disch := omega) only [bn_s, bv_s, bd_s, gb_0, gb_1, rI_ws, rI_wn, rI_wA, rI_wL, rA_wI, rA_wL, rL_wI, rL_wA, rA_wss, rA_wn, rA_wsn, rL_wss, rL_wn, rL_wsn, rN_wI, rN_wA, rN_wL]; exact g2
            · simp (disch := omega) only [bn_s, bv_s, bd_s, gb_0, gb_1, rI_ws, rI_wn, rI_wA, rI_wL, rA_wI, rA_wL, rL_wI, rL_wA, rA_wss, rA_wn, rA_wsn, rL_wss, rL_wn, rL_wsn, rN_wI, rN_wA, rN_wL]; rw [gA 11 q.1 (by decide)]; exact m7 he
            · obtain ⟨z, hz, ez⟩ := m8 he
              refine ⟨z, hz, ?_, ?_⟩
              · simp (disch := omega) only [bn_s, bv_s, bd_s, gb_0, gb_1, rI_ws, rI_wn, rI_wA, rI_wL, rA_wI, rA_wL, rL_wI, rL_wA, rA_wss, rA_wn, rA_wsn, rL_wss, rL_wn, rL_wsn, rN_wI, rN_wA, rN_wL]; rw [gA 11 q.1 (by decide)]; exact ez
              · simp (disch := omega) only [bn_s, bv_s, bd_s, gb_0, gb_1, rI_ws, rI_wn, rI_wA, rI_wL, rA_wI, rA_wL, rL_wI, rL_wA, rA_wss, rA_wn, rA_wsn, rL_wss, rL_wn, rL_wsn, rN_wI, rN_wA, rN_wL]; exact g4 z he ez hz
          · rw [vs_o] at z; exact absurd z (by decide)
        · simp (disch := omega) only [bn_s, bv_s, bd_s, gb_0, gb_1, rI_ws, rI_wn, rI_wA, rI_wL, rA_wI, rA_wL, rL_wI, rL_wA, rA_wss, rA_wn, rA_wsn, rL_wss, rL_wn, rL_wsn, rN_wI, rN_wA, rN_wL]; exact gA 5 z (by decide)
      cases he : q.2.1
      · rw [m7 he, if_pos rfl]
        refine fin _ (fun z => ?_) (fun j z hj => ?_) (fun j z => ?_) rfl ?_ ?_ (fun z z1 z2 _ => ?_) (fun z hz => ?_)
        · simp (disch := omega) only [bn_s, bv_s, bd_s, gb_0, gb_1, rI_ws, rI_wn, rI_wA, rI_wL, rA_wI, rA_wL, rL_wI, rL_wA, rA_wss, rA_wn, rA_wsn, rL_wss, rL_wn, rL_wsn, rN_wI, rN_wA, rN_wL]
        · simp (disch := omega) only [bn_s, bv_s, bd_s, gb_0, gb_1, rI_ws, rI_wn, rI_wA, rI_wL, rA_wI, rA_wL, rL_wI, rL_wA, rA_wss, rA_wn, rA_wsn, rL_wss, rL_wn, rL_wsn, rN_wI, rN_wA, rN_wL]
        · simp (disch := omega) only [bn_s, bv_s, bd_s, gb_0, gb_1, rI_ws, rI_wn, rI_wA, rI_wL, rA_wI, rA_wL, rL_wI, rL_wA, rA_wss, rA_wn, rA_wsn, rL_wss, rL_wn, rL_wsn, rN_wI, rN_wA, rN_wL]
        · simp (disch := omega) only [bn_s, bv_s, bd_s, gb_0, gb_1, rI_ws, rI_wn, rI_wA, rI_wL, rA_wI, rA_wL, rL_wI, rL_wA, rA_wss, rA_wn, rA_wsn, rL_wss, rL_wn, rL_wsn, rN_wI, rN_wA, rN_wL]
        · simp (disch := omega) only [bn_s, bv_s, bd_s, gb_0, gb_1, rI_ws, rI_wn, rI_wA, rI_wL, rA_wI, rA_wL, rL_wI, rL_wA, rA_wss, rA_wn, rA_wsn, rL_wss, rL_wn, rL_wsn, rN_wI, rN_wA, rN_wL]
        · simp (disch := omega) only [bn_s, bv_s, bd_s, gb_0, gb_1, rI_ws, rI_wn, rI_wA, rI_wL, rA_wI, rA_wL, rL_wI, rL_wA, rA_wss, rA_wn, rA_wsn, rL_wss, rL_wn, rL_wsn, rN_wI, rN_wA, rN_wL]
        · rw [he] at hz; exact absurd hz Bool.false_ne_true
      · obtain ⟨z0, hz0, ez0⟩ := m8 he
        obtain ⟨y1, y2⟩ := hoth q L z0 hL he hz0 ez0
        rw [ez0, if_neg (fun z => (nI_m1 (by omega)).mp z), gd_k (by omega) (by omega), gd_k (by omega) (by omega), nI_clamp (by omega)]
        refine fin _ (fun z => ?_) (fun j z hj => ?_) (fun j z => ?_) rfl ?_ ?_ (fun z z1 z2 z3 => ?_) (fun z _ hz hz2 => ?_)
        · simp (disch := omega) only [bn_s, bv_s, bd_s, gb_0, gb_1, rI_ws, rI_wn, rI_wA, rI_wL, rA_wI, rA_wL, rL_wI, rL_wA, rA_wss, rA_wn, rA_wsn, rL_wss, rL_wn, rL_wsn, rN_wI, rN_wA, rN_wL]
        · simp (disch := omega) only [bn_s, bv_s, bd_s, gb_0, gb_1, rI_ws, rI_wn, rI_wA, rI_wL, rA_wI, rA_wL, rL_wI, rL_wA, rA_wss, rA_wn, rA_wsn, rL_wss, rL_wn, rL_wsn, rN_wI, rN_wA, rN_wL]
        · simp (disch := omega) only [bn_s, bv_s, bd_s, gb_0, gb_1, rI_ws, rI_wn, rI_wA, rI_wL, rA_wI, rA_wL, rL_wI, rL_wA, rA_wss, rA_wn, rA_wsn, rL_wss, rL_wn, rL_wsn, rN_wI, rN_wA, rN_wL]
        · simp (disch := omega) only [bn_s, bv_s, bd_s, gb_0, gb_1, rI_ws, rI_wn, rI_wA, rI_wL, rA_wI, rA_wL, rL_wI, rL_wA, rA_wss, rA_wn, rA_wsn, rL_wss, rL_wn, rL_wsn, rN_wI, rN_wA, rN_wL]
        · simp (disch := omega) only [bn_s, bv_s, bd_s, gb_0, gb_1, rI_ws, rI_wn, rI_wA, rI_wL, rA_wI, rA_wL, rL_wI, rL_wA, rA_wss, rA_wn, rA_wsn, rL_wss, rL_wn, rL_wsn, rN_wI, rN_wA, rN_wL]
        · have : ¬ z = z0 := fun q => z3 (by rw [ez0, q])
          simp (disch := omega) only [bn_s, bv_s, bd_s, gb_0, gb_1, rI_ws, rI_wn, rI_wA, rI_wL, rA_wI, rA_wL, rL_wI, rL_wA, rA_wss, rA_wn, rA_wsn, rL_wss, rL_wn, rL_wsn, rN_wI, rN_wA, rN_wL]
        · have : z0 = z := (nI_eq (by omega) (by omega)).mp (ez0.symm.trans hz)
          subst this
          simp (disch := omega) only [bn_s, bv_s, bd_s, gb_0, gb_1, rI_ws, rI_wn, rI_wA, rI_wL, rA_wI, rA_wL, rL_wI, rL_wA, rA_wss, rA_wn, rA_wsn, rL_wss, rL_wn, rL_wsn, rN_wI, rN_wA, rN_wL]
    have hnd2 : t_done V f T = false → fx_Wr_admitsEnd_b46 (nI q.1) 0 c = some (0, c) := fun hd => by
      unfold fx_Wr_admitsEnd_b46
      rw [if_pos rfl, hrd, bn_s, hd, b2_f, if_pos rfl]
    rw [m1, c_if hl hw (by omega), bn_s]
    cases hc : (decide (v_o V q.1 = 4) && !q.2.1)
    · rw [b2_f, if_pos rfl]
      cases hd : t_done V f T
      · rw [hnd2 hd]; exact Or.inl ⟨rfl, hnd hd⟩
      · refine hacc hd (fun z1 z2 => ?_)
        rw [z1, z2] at hc
        exact absurd hc (by decide)
    · rw [b2_t, if_neg i10, gd_k (by omega) (by omega), gd_k (by omega) (by omega), nI_clamp (by omega), m5, m6]
      rw [Bool.and_eq_true] at hc
      have hc1 : v_o V q.1 = 4 := of_decide_eq_true hc.1
      have hc2 : q.2.1 = false := by simpa using hc.2
      by_cases hz : v_a V q.1 = v_b V q.1
      · rw [if_pos hz]
        cases hd : t_done V f T
        · rw [hnd2 hd]; exact Or.inl ⟨rfl, hnd hd⟩
        · exact hacc hd (fun _ _ => hz)
      · rw [if_neg hz]
        unfold fx_Wr_admitsEnd_b46
        rw [if_neg i10]
        refine Or.inl ⟨rfl, fun w => ⟨?_, fun hq => ?_⟩⟩
        · obtain ⟨w1, w2, w3, w4⟩ := (v_set_eq V t 11 a b w).1 q.1 l1
          rw [hnx w]; unfold t_end; rw [hL]; simp only []
          rw [hdv, w1, w2, w3, hc1, hc2]
          cases t_done V f T <;> simp [hz]
        · have := hq.2.2.1
          rw [hL] at this
          cases this
