theorem i54 : ¬ (5 : Int32) = 4 := by decide
theorem i04 : ¬ (0 : Int32) = 4 := by decide
theorem t_done_eq {V : vw_T} {T : ts_T} {f : Nat} : t_done V f T = (bif t_dd T then decide (T.2.2.1 - t_ht V T.1 ≤ t_gives V f T.1) else decide (T.2.2.1 - t_ht V T.1 = t_gives V f T.1)) := Eq.trans rfl rfl
theorem m_gives {m : rs_T} {f t : Nat} {T : ts_T} (hw : mw_T m f t T) : rA m 12 T.1.length = nI (t_gives (vm m) f T.1) ∧ (v_r (vm m) f ≤ 8 → t_gives (vm m) f T.1 ≤ 8) := by
  obtain ⟨h0, h1, h2, h3, h4, h5, h6, h7⟩ := hw
  unfold t_gives
  cases hL : T.1 with
  | nil => rw [hL] at h6; exact ⟨h6.2.1, fun h => h⟩
  | cons q L =>
    rw [hL] at h6 h7
    obtain ⟨x, y, hx, hy, e1, e2⟩ := h7.2.1
    refine ⟨?_, fun _ => ?_⟩
    · have := h6.2.2.1
      rw [e2] at this
      simp only []
      rw [e2, nI_clamp (by omega)]
      exact this
    · simp only []
      rw [e2, nI_clamp (by omega)]; omega
theorem m_isdone {m : rs_T} {f t : Nat} {T : ts_T} (hw : mw_T m f t T) (hb : tb_ok t T) (hr : v_r (vm m) f ≤ 8) : fx_Md_isDone m = some (b2 (t_done (vm m) f T), m) := by
  obtain ⟨g1, g2⟩ := m_gives hw
  have := g2 hr
  exact m_done (mw_top hw hb) g1 (by omega)
-- ELSE
theorem m_p_else {m : rs_T} {f t : Nat} {a b : Int32} {T : ts_T} (hw : mw_T m f t T) (hb : tb_ok t T) (hel : T.2.2.2.1 = 0) (hr : v_r (vm m) f ≤ 8) : m_ph m f t 5 a b T (fx_Md_otherwise m) := by
  obtain ⟨h0, h1, h2, h3, h4, h5, h6, h7⟩ := id hw
  obtain ⟨c1, c2, c3, c4⟩ := id hb
  have hnx : ∀ w, t_nx (v_set (vm m) t 5 a b w) f t T = t_else (v_set (vm m) t 5 a b w) f T := fun w => by
    unfold t_nx
    rw [vs_o, hel]
    simp (decide := true) only [if_false, if_true]
  have hfin : ∀ w, ¬ t_fin (v_set (vm m) t 5 a b w) f t T := fun w hq => by
    have := hq.1
    rw [vs_o] at this
    exact absurd this (by decide)
  unfold fx_Md_otherwise
  rw [mi_s h3, bn_s, gd_k (by omega) (by omega), nI_clamp (by omega)]
  cases hL : T.1 with
  | nil =>
    rw [hL] at h6
    have e : rA m 10 ([] : List lb_T).length = 0 := h6.1
    rw [e, if_neg i04]
    refine Or.inl ⟨rfl, fun w => ⟨?_, hfin w⟩⟩
    rw [hnx w]; unfold t_else; rw [hL]
  | cons q L =>
    rw [hL] at h6 h7 h3 c2
    have hlen : (q :: L).length = L.length + 1 := rfl
    rw [hlen] at h3 c2 ⊢
    obtain ⟨m1, m2, m3, m4, m5, m6, m7⟩ := id h6
    obtain ⟨l1, ⟨x, y, hx, hy, e1, e2⟩, l3, l4, l5, l6⟩ := id h7
    rw [m1]
    by_cases hc : v_o (vm m) q.1 = 4 ∧ q.2.1 = false
    · rw [hc.2, cond_false, hc.1, if_pos rfl, m_isdone hw hb hr, bn_s]
      cases hd : t_done (vm m) f T
      · refine Or.inl ⟨rfl, fun w => ⟨?_, hfin w⟩⟩
        have hv := v_set_eq (vm m) t 5 a b w
        rw [hnx w]; unfold t_else; rw [hL]
        simp only []
        rw [done_view hv (by rw [hL]; exact h7), hd, Bool.and_false]; rfl
      · rw [b2_t, if_neg i10, mi_s h3, bn_s, gd_k (by omega) (by omega), nI_clamp (by omega)]
        have k3 : rI (wA m 10 (L.length + 1) 5) 3 = nI (L.length + 1 + 1) := by simp (disch := omega) only [bn_s, bv_s, bd_s, gb_0, gb_1, rI_ws, rI_wn, rI_wA, rI_wL, rA_wI, rA_wL, rL_wI, rL_wA, rA_wss, rA_wn, rA_wsn, rL_wss, rL_wn, rL_wsn, rN_wI, rN_wA, rN_wL]; exact h3
        rw [mi_s k3, bn_s, mi_s k3, bn_s, gd_k (by omega) (by omega), gd_k (by omega) (by omega), nI_clamp (by omega)]
        have e11 : rA (wA m 10 (L.length + 1) 5) 11 (L.length + 1) = nI x := by simp (disch := omega) only [bn_s, bv_s, bd_s, gb_0, gb_1, rI_ws, rI_wn, rI_wA, rI_wL, rA_wI, rA_wL, rL_wI, rL_wA, rA_wss, rA_wn, rA_wsn, rL_wss, rL_wn, rL_wsn, rN_wI, rN_wA, rN_wL]; rw [m2]; exact e1
        rw [e11]
        have k4 : rI (wA (wA m 10 (L.length + 1) 5) 14 (L.length + 1) (nI x)) 3 = nI (L.length + 1 + 1) := by simp (disch := omega) only [bn_s, bv_s, bd_s, gb_0, gb_1, rI_ws, rI_wn, rI_wA, rI_wL, rA_wI, rA_wL, rL_wI, rL_wA, rA_wss, rA_wn, rA_wsn, rL_wss, rL_wn, rL_wsn, rN_wI, rN_wA, rN_wL]; exact h3
        rw [mi_s k4, bn_s, gd_k (by omega) (by omega), nI_clamp (by omega)]
        have hv := v_set_eq (vm m) t 5 a b (rA m 9 t).toNatClampNeg
        obtain ⟨w1, w2, w3, w4⟩ := hv.1 q.1 l1
        refine Or.inr (Or.inl ⟨_, ((q.1, true, false) :: L, T.2.1, v_w (vm m) q.1 + x, 0, none), (rA m 9 t).toNatClampNeg, rfl, ?_, ?_, ?_⟩)
        · rw [hnx _]; unfold t_else; rw [hL]
          simp only []
          rw [done_view hv (by rw [hL]; exact h7), hd, w1, w2, w4, hc.1, hc.2, e1, nI_clamp (by omega)]
          rfl
        · refine m1_frame (fun z _ _ _ _ => ?_) (fun j z hj => ?_) (fun j z => ?_)
          · simp (disch := omega) only [bn_s, bv_s, bd_s, gb_0, gb_1, rI_ws, rI_wn, rI_wA, rI_wL, rA_wI, rA_wL, rL_wI, rL_wA, rA_wss, rA_wn, rA_wsn, rL_wss, rL_wn, rL_wsn, rN_wI, rN_wA, rN_wL]
          · simp (disch := omega) only [bn_s, bv_s, bd_s, gb_0, gb_1, rI_ws, rI_wn, rI_wA, rI_wL, rA_wI, rA_wL, rL_wI, rL_wA, rA_wss, rA_wn, rA_wsn, rL_wss, rL_wn, rL_wsn, rN_wI, rN_wA, rN_wL]
          · simp (disch := omega) only [bn_s, bv_s, bd_s, gb_0, gb_1, rI_ws, rI_wn, rI_wA, rI_wL, rA_wI, rA_wL, rL_wI, rL_wA, rA_wss, rA_wn, rA_wsn, rL_wss, rL_wn, rL_wsn, rN_wI, rN_wA, rN_wL]
        · refine ⟨?_, ?_, fun z => absurd rfl z, ?_, ?_⟩
          · simp (disch := omega) only [bn_s, bv_s, bd_s, gb_0, gb_1, rI_ws, rI_wn, rI_wA, rI_wL, rA_wI, rA_wL, rL_wI, rL_wA, rA_wss, rA_wn, rA_wsn, rL_wss, rL_wn, rL_wsn, rN_wI, rN_wA, rN_wL]; exact h3
          · simp (disch := omega) only [bn_s, bv_s, bd_s, gb_0, gb_1, rI_ws, rI_wn, rI_wA, rI_wL, rA_wI, rA_wL, rL_wI, rL_wA, rA_wss, rA_wn, rA_wsn, rL_wss, rL_wn, rL_wsn, rN_wI, rN_wA, rN_wL]; rw [h4, hel]
          · refine ⟨?_, ?_, ?_, ?_, ?_, ?_, ?_⟩
            · simp (disch := omega) only [bn_s, bv_s, bd_s, gb_0, gb_1, rI_ws, rI_wn, rI_wA, rI_wL, rA_wI, rA_wL, rL_wI, rL_wA, rA_wss, rA_wn, rA_wsn, rL_wss, rL_wn, rL_wsn, rN_wI, rN_wA, rN_wL]; rfl
            · simp (disch := omega) only [bn_s, bv_s, bd_s, gb_0, gb_1, rI_ws, rI_wn, rI_wA, rI_wL, rA_wI, rA_wL, rL_wI, rL_wA, rA_wss, rA_wn, rA_wsn, rL_wss, rL_wn, rL_wsn, rN_wI, rN_wA, rN_wL]; rw [w2]; exact m2
            · simp (disch := omega) only [bn_s, bv_s, bd_s, gb_0, gb_1, rI_ws, rI_wn, rI_wA, rI_wL, rA_wI, rA_wL, rL_wI, rL_wA, rA_wss, rA_wn, rA_wsn, rL_wss, rL_wn, rL_wsn, rN_wI, rN_wA, rN_wL]; rw [w3]; exact m3
            · simp (disch := omega) only [bn_s, bv_s, bd_s, gb_0, gb_1, rI_ws, rI_wn, rI_wA, rI_wL, rA_wI, rA_wL, rL_wI, rL_wA, rA_wss, rA_wn, rA_wsn, rL_wss, rL_wn, rL_wsn, rN_wI, rN_wA, rN_wL]; rw [w4]; exact m4
            · simp (disch := omega) only [bn_s, bv_s, bd_s, gb_0, gb_1, rI_ws, rI_wn, rI_wA, rI_wL, rA_wI, rA_wL, rL_wI, rL_wA, rA_wss, rA_wn, rA_wsn, rL_wss, rL_wn, rL_wsn, rN_wI, rN_wA, rN_wL]; rw [w4, Nat.add_sub_cancel_left]
            · simp (disch := omega) only [bn_s, bv_s, bd_s, gb_0, gb_1, rI_ws, rI_wn, rI_wA, rI_wL, rA_wI, rA_wL, rL_wI, rL_wA, rA_wss, rA_wn, rA_wsn, rL_wss, rL_wn, rL_wsn, rN_wI, rN_wA, rN_wL]; rfl
            · rw [w4]
              refine wm_keep (fun j i g1 g2 g3 => ?_) (wm_view hv l6 m7)
              rcases (show j = 10 ∨ j = 11 ∨ j = 12 ∨ j = 13 ∨ j = 14 ∨ j = 15 by omega) with rfl | rfl | rfl | rfl | rfl | rfl <;> simp (disch := omega) only [bn_s, bv_s, bd_s, gb_0, gb_1, rI_ws, rI_wn, rI_wA, rI_wL, rA_wI, rA_wL, rL_wI, rL_wA, rA_wss, rA_wn, rA_wsn, rL_wss, rL_wn, rL_wsn, rN_wI, rN_wA, rN_wL]
          · have l7 := lw_mono (Nat.le_succ t) (Nat.le_refl _) (lw_view hv h7)
            exact ⟨l7.1, l7.2.1, l7.2.2.1, by rw [w4]; exact Nat.le_add_right _ _, fun _ => by rw [w1]; exact hc.1, l7.2.2.2.2.2⟩
    · have hne : ¬ (bif q.2.1 then (5 : Int32) else v_o (vm m) q.1) = 4 := fun hz => by
        cases he : q.2.1
        · rw [he, cond_false] at hz; exact hc ⟨hz, he⟩
        · rw [he, cond_true] at hz; exact i54 hz
      rw [if_neg hne]
      refine Or.inl ⟨rfl, fun w => ⟨?_, hfin w⟩⟩
      have hv := v_set_eq (vm m) t 5 a b w
      obtain ⟨w1, w2, w3, w4⟩ := hv.1 q.1 l1
      rw [hnx w]; unfold t_else; rw [hL]
      simp only []
      rw [w1]
      have : (decide (v_o (vm m) q.1 = 4) && !q.2.1) = false := by
        cases he : q.2.1
        · have : ¬ v_o (vm m) q.1 = 4 := fun hz => hc ⟨hz, he⟩
          simp [this]
        · simp
      rw [this]; rfl
