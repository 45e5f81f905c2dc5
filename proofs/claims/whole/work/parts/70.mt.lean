-- END
theorem m_b43 {m : rs_T} {k g : Nat} (h3 : rI m 3 = nI (k + 1)) (hk : k < 1500) (hg : rA m 12 k = nI g) (hg2 : g ≤ 8) : fx_Md_end_b43 m = (if k = 0 then some (1, wI m 3 (nI k)) else some (1, wA (wI m 3 (nI k)) 14 (k - 1) (rA m 14 (k - 1) + nI g))) := by
  unfold fx_Md_end_b43
  rw [mi_s h3, bn_s, gd_k (by omega) (by omega), nI_clamp (by omega), hg, bd_s, h3, nI_pred]
  by_cases e : k = 0
  · rw [if_pos e, if_pos (by rw [e]; exact Int32.le_refl _)]
  · have e2 : ¬ nI k ≤ 0 := nI_nle (by omega) (by omega)
    rw [if_neg e2, if_neg e]
    have k3 : rI (wI m 3 (nI k)) 3 = nI (k - 1 + 1) := by rw [rI_ws, show k - 1 + 1 = k by omega]
    rw [mi_s k3, bn_s, gd_k (by omega) (by omega), gd_k (by omega) (by omega), nI_clamp (by omega)]
    simp (disch := omega) only [bn_s, bv_s, bd_s, gb_0, gb_1, rI_ws, rI_wn, rI_wA, rI_wL, rA_wI, rA_wL, rL_wI, rL_wA, rA_wss, rA_wn, rA_wsn, rL_wss, rL_wn, rL_wsn, rN_wI, rN_wA, rN_wL]
theorem m_p_end {m : rs_T} {f t : Nat} {a b : Int32} {T : ts_T} (hw : mw_T m f t T) (hb : tb_ok t T) (hel : T.2.2.2.1 = 0) (hr : v_r (vm m) f ≤ 8) : m_ph m f t 11 a b T (fx_Md_end m) := by
  obtain ⟨h0, h1, h2, h3, h4, h5, h6, h7⟩ := id hw
  obtain ⟨c1, c2, c3, c4⟩ := id hb
  obtain ⟨g1, g2⟩ := m_gives hw
  have g3 := g2 hr
  have hnx : ∀ w, t_nx (v_set (vm m) t 11 a b w) f t T = t_end (v_set (vm m) t 11 a b w) f T := fun w => by
    unfold t_nx
    rw [vs_o, hel]
    simp (decide := true) only [if_false, if_true]
  have hdv : ∀ w, t_done (v_set (vm m) t 11 a b w) f T = t_done (vm m) f T := fun w => done_view (v_set_eq ..) h7
  unfold fx_Md_end
  rw [m_isdone hw hb hr, bn_s]
  cases hd : t_done (vm m) f T
  · refine Or.inl ⟨rfl, fun w => ⟨?_, fun hq => ?_⟩⟩
    · rw [hnx w]; unfold t_end
      cases hL : T.1 with
      | nil => rfl
      | cons q L => simp only []; rw [hdv w, hd]; rfl
    · have := hq.2.2.2
      rw [hdv w, hd] at this
      exact Bool.false_ne_true this
  · rw [b2_t, if_neg i10, mi_s h3, bn_s, gd_k (by omega) (by omega), nI_clamp (by omega)]
    cases hL : T.1 with
    | nil =>
      have h6' := h6
      have h3' := h3
      have g1' := g1
      rw [hL] at h6' h3' g1'
      have e : rA m 10 ([] : List lb_T).length = 0 := h6'.1
      rw [e, if_neg i04, m_b43 (k := 0) h3' (by omega) g1' (by rw [← hL]; exact g3), if_pos rfl]
      refine Or.inr (Or.inr ⟨_, (rA m 9 t).toNatClampNeg, rfl, ⟨by rw [vs_o], hel, hL, by rw [hdv, hd]⟩, ?_, ?_⟩)
      · refine m1_frame (fun z _ _ _ _ => ?_) (fun j z hj => ?_) (fun j z => ?_)
        · simp (disch := omega) only [bn_s, bv_s, bd_s, gb_0, gb_1, rI_ws, rI_wn, rI_wA, rI_wL, rA_wI, rA_wL, rL_wI, rL_wA, rA_wss, rA_wn, rA_wsn, rL_wss, rL_wn, rL_wsn, rN_wI, rN_wA, rN_wL]
        · simp (disch := omega) only [bn_s, bv_s, bd_s, gb_0, gb_1, rI_ws, rI_wn, rI_wA, rI_wL, rA_wI, rA_wL, rL_wI, rL_wA, rA_wss, rA_wn, rA_wsn, rL_wss, rL_wn, rL_wsn, rN_wI, rN_wA, rN_wL]
        · simp (disch := omega) only [bn_s, bv_s, bd_s, gb_0, gb_1, rI_ws, rI_wn, rI_wA, rI_wL, rA_wI, rA_wL, rL_wI, rL_wA, rA_wss, rA_wn, rA_wsn, rL_wss, rL_wn, rL_wsn, rN_wI, rN_wA, rN_wL]
      · rw [rI_ws]; exact nI_0
    | cons q L =>
      rw [hL] at h6 h7 h3 c2 g1 g3
      have hlen : (q :: L).length = L.length + 1 := rfl
      rw [hlen] at h3 c2 g1 ⊢
      obtain ⟨m1, m2, m3, m4, m5, m6, m7⟩ := id h6
      obtain ⟨l1, ⟨x, y, hx, hy, e1, e2⟩, l3, l4, l5, l6⟩ := id h7
      have egv : t_gives (vm m) f (q :: L) = y := by
        show (v_b (vm m) q.1).toNatClampNeg = y
        rw [e2, nI_clamp (by omega)]
      rw [egv] at g1 g3
      have hb43 := m_b43 h3 (by omega) g1 g3
      rw [if_neg (by omega), Nat.add_sub_cancel] at hb43
      have hown := (wm_top m7 l6).2.1
      have hthl := lw_ht l6
      rw [hown, nI_add] at hb43
      have hacc : m_ph m f t 11 a b T (some (1, wA (wI m 3 (nI (L.length + 1))) 14 L.length (nI (v_w (vm m) q.1 - t_ht (vm m) L + y)))) ∨ (decide (v_o (vm m) q.1 = 4) && !q.2.1) = true ∧ ¬ v_a (vm m) q.1 = v_b (vm m) q.1 := by
        by_cases hc : (decide (v_o (vm m) q.1 = 4) && !q.2.1) = true ∧ ¬ v_a (vm m) q.1 = v_b (vm m) q.1
        · exact Or.inr hc
        · refine Or.inl (Or.inr (Or.inl ⟨_, (L, T.2.1, v_w (vm m) q.1 + y, 0, none), (rA m 9 t).toNatClampNeg, rfl, ?_, ?_, ?_⟩))
          · have hv := v_set_eq (vm m) t 11 a b (rA m 9 t).toNatClampNeg
            obtain ⟨w1, w2, w3, w4⟩ := hv.1 q.1 l1
            rw [hnx _]; unfold t_end; rw [hL]
            simp only []
            rw [hdv, hd, w1, w2, w3, w4, e2, nI_clamp (by omega)]
            have : (!((decide (v_o (vm m) q.1 = 4) && !q.2.1) && !decide (v_a (vm m) q.1 = nI y))) = true := by
              rw [← e2]
              cases hz : (decide (v_o (vm m) q.1 = 4) && !q.2.1)
              · rfl
              · have : v_a (vm m) q.1 = v_b (vm m) q.1 := Classical.byContradiction fun z => hc ⟨hz, z⟩
                simp [this]
            rw [this]; rfl
          · refine m1_frame (fun z _ _ _ _ => ?_) (fun j z hj => ?_) (fun j z => ?_)
            · simp (disch := omega) only [bn_s, bv_s, bd_s, gb_0, gb_1, rI_ws, rI_wn, rI_wA, rI_wL, rA_wI, rA_wL, rL_wI, rL_wA, rA_wss, rA_wn, rA_wsn, rL_wss, rL_wn, rL_wsn, rN_wI, rN_wA, rN_wL]
            · simp (disch := omega) only [bn_s, bv_s, bd_s, gb_0, gb_1, rI_ws, rI_wn, rI_wA, rI_wL, rA_wI, rA_wL, rL_wI, rL_wA, rA_wss, rA_wn, rA_wsn, rL_wss, rL_wn, rL_wsn, rN_wI, rN_wA, rN_wL]
            · simp (disch := omega) only [bn_s, bv_s, bd_s, gb_0, gb_1, rI_ws, rI_wn, rI_wA, rI_wL, rA_wI, rA_wL, rL_wI, rL_wA, rA_wss, rA_wn, rA_wsn, rL_wss, rL_wn, rL_wsn, rN_wI, rN_wA, rN_wL]
          · have hv := v_set_eq (vm m) t 11 a b (rA m 9 t).toNatClampNeg
            refine ⟨?_, ?_, fun z => absurd rfl z, ?_, ?_⟩
            · simp (disch := omega) only [bn_s, bv_s, bd_s, gb_0, gb_1, rI_ws, rI_wn, rI_wA, rI_wL, rA_wI, rA_wL, rL_wI, rL_wA, rA_wss, rA_wn, rA_wsn, rL_wss, rL_wn, rL_wsn, rN_wI, rN_wA, rN_wL]
            · simp (disch := omega) only [bn_s, bv_s, bd_s, gb_0, gb_1, rI_ws, rI_wn, rI_wA, rI_wL, rA_wI, rA_wL, rL_wI, rL_wA, rA_wss, rA_wn, rA_wsn, rL_wss, rL_wn, rL_wsn, rN_wI, rN_wA, rN_wL]; rw [h4, hel]
            · have := wm_set (m2 := wA (wI m 3 (nI (L.length + 1))) 14 L.length (nI (v_w (vm m) q.1 - t_ht (vm m) L + y))) (d := l_dd L T.2.1) (h2 := v_w (vm m) q.1 + y) (wm_view hv l6 m7) (fun j i _ _ hi => by
                by_cases e : j = 14
                · subst e; simp (disch := omega) only [bn_s, bv_s, bd_s, gb_0, gb_1, rI_ws, rI_wn, rI_wA, rI_wL, rA_wI, rA_wL, rL_wI, rL_wA, rA_wss, rA_wn, rA_wsn, rL_wss, rL_wn, rL_wsn, rN_wI, rN_wA, rN_wL]
                · simp (disch := omega) only [bn_s, bv_s, bd_s, gb_0, gb_1, rI_ws, rI_wn, rI_wA, rI_wL, rA_wI, rA_wL, rL_wI, rL_wA, rA_wss, rA_wn, rA_wsn, rL_wss, rL_wn, rL_wsn, rN_wI, rN_wA, rN_wL]) (fun j _ hj => by simp (disch := omega) only [bn_s, bv_s, bd_s, gb_0, gb_1, rI_ws, rI_wn, rI_wA, rI_wL, rA_wI, rA_wL, rL_wI, rL_wA, rA_wss, rA_wn, rA_wsn, rL_wss, rL_wn, rL_wsn, rN_wI, rN_wA, rN_wL]) (by
                simp (disch := omega) only [bn_s, bv_s, bd_s, gb_0, gb_1, rI_ws, rI_wn, rI_wA, rI_wL, rA_wI, rA_wL, rL_wI, rL_wA, rA_wss, rA_wn, rA_wsn, rL_wss, rL_wn, rL_wsn, rN_wI, rN_wA, rN_wL]
                rw [ht_view hv l6]
                congr 1; omega) (by simp (disch := omega) only [bn_s, bv_s, bd_s, gb_0, gb_1, rI_ws, rI_wn, rI_wA, rI_wL, rA_wI, rA_wL, rL_wI, rL_wA, rA_wss, rA_wn, rA_wsn, rL_wss, rL_wn, rL_wsn, rN_wI, rN_wA, rN_wL]; exact (wm_top m7 l6).2.2)
              rw [(l_in_dd _ _).1, (l_in_dd _ _).2] at this
              exact this
            · refine lw_h (lw_mono (Nat.le_succ t) (Nat.le_refl _) (lw_view hv l6)) ?_
              rw [ht_view hv l6]
              show _ ≤ _ + _
              omega
      rw [m1]
      by_cases hc : v_o (vm m) q.1 = 4 ∧ q.2.1 = false
      · rw [hc.2, cond_false, hc.1, if_pos rfl, mi_s h3, bn_s, gd_k (by omega) (by omega), nI_clamp (by omega), mi_s h3, bn_s, gd_k (by omega) (by omega), nI_clamp (by omega), m2, m3]
        by_cases hz : v_a (vm m) q.1 = v_b (vm m) q.1
        · rw [if_pos hz, hb43]
          rcases hacc with hq | hq
          · exact hq
          · exact absurd hz hq.2
        · rw [if_neg hz]
          refine Or.inl ⟨rfl, fun w => ⟨?_, fun hq => ?_⟩⟩
          · have hv := v_set_eq (vm m) t 11 a b w
            obtain ⟨w1, w2, w3, w4⟩ := hv.1 q.1 l1
            rw [hnx w]; unfold t_end; rw [hL]
            simp only []
            rw [hdv, hd, w1, w2, w3, hc.1, hc.2]
            simp [hz]
          · have := hq.2.2.1
            rw [hL] at this
            cases this
      · have hne : ¬ (bif q.2.1 then (5 : Int32) else v_o (vm m) q.1) = 4 := fun hz => by
          cases he : q.2.1
          · rw [he, cond_false] at hz; exact hc ⟨hz, he⟩
          · rw [he, cond_true] at hz; exact i54 hz
        rw [if_neg hne, hb43]
        rcases hacc with hq | hq
        · exact hq
        · refine absurd ?_ hc
          have := hq.1
          rw [Bool.and_eq_true] at this
          exact ⟨of_decide_eq_true this.1, by simpa using this.2⟩
