theorem m_b34 {m : rs_T} {k : Nat} (o a b v : Int32) (h3 : rI m 3 = nI k) (hk : k < 1501) : fx_Md_begin_b34 o a b v m = some (wI (wA (wA (wA (wA (wA (wA m 10 k o) 11 k a) 12 k b) 13 k v) 14 k a) 15 k 0) 3 (nI (k + 1))) := by
  unfold fx_Md_begin_b34
  rw [h3, gd_k (by omega) (by omega), gd_k (by omega) (by omega), gd_k (by omega) (by omega), gd_k (by omega) (by omega), gd_k (by omega) (by omega), gd_k (by omega) (by omega), nI_clamp (by omega), nI_1]
theorem m_begin {m : rs_T} {k hh ow : Nat} {d : Bool} (o a b : Int32) (h : mt_T m k hh ow d) : fx_Md_begin o a b m = some (wI (wA (wA (wA (wA (wA (wA m 10 (k + 1) o) 11 (k + 1) a) 12 (k + 1) b) 13 (k + 1) (nI (hh + ow))) 14 (k + 1) a) 15 (k + 1) 0) 3 (nI (k + 2))) := by
  obtain ⟨h1, h2, h3, h4, h5, h6⟩ := h
  have e4 : ¬ nI (k + 1) = 0 := nI_ne0 (by omega) (by omega)
  unfold fx_Md_begin
  rw [h1, if_neg e4, nI_pred, gd_k (by omega) (by omega), gd_k (by omega) (by omega), nI_clamp (by omega), h2, h3, nI_add]
  exact m_b34 o a b _ h1 (by omega)
-- BLOCK, LOOP, IF
theorem m_p_begin {m : rs_T} {f t more : Nat} {o a b : Int32} {T : ts_T} (hw : mw_T m f t T) (hb : tb_ok t T) (ht : t < 512) (hel : T.2.2.2.1 = 0) (ho : v_o (v_set (vm m) t o a b 0) t = o) (hop : o = 2 ∨ o = 3 ∨ o = 4) (hmore : more = if o = 4 then 1 else 0) (hnx : ∀ w, t_nx (v_set (vm m) t o a b w) f t T = t_begin (v_set (vm m) t o a b w) t T more) (hfin : ∀ w, ¬ t_fin (v_set (vm m) t o a b w) f t T) : m_ph m f t o a b T (fx_Md_block o a b m) := by
  have htop := mw_top hw hb
  obtain ⟨h0, h1, h2, h3, h4, h5, h6, h7⟩ := id hw
  obtain ⟨c1, c2, c3, c4⟩ := id hb
  have hth := lw_ht h7
  have hblk : ∀ x : Nat, a = nI x → x ≤ 4 → fx_Md_block o a b m = fx_Md_block_b12 o a b (nI (x + more)) m := fun x hx hx4 => by
    unfold fx_Md_block
    by_cases e : o = 4
    · rw [if_pos e, hx, hmore, if_pos e, lit_add, Nat.add_comm]
    · rw [if_neg e, hmore, if_neg e, hx]; rfl
  rcases wi_M a 4 (by omega) m with ⟨x, hx, ex, e2⟩ | ⟨ea, e2⟩
  · rw [hblk x ex hx]
    have hm1 : more ≤ 1 := by rw [hmore]; split <;> omega
    have e4 : fx_Md_within a 4 m = some (1, m) := e2
    unfold fx_Md_block_b12
    rw [e4, bn_s, if_neg i10]
    rcases wi_M b 4 (by omega) m with ⟨y, hy, ey, f2⟩ | ⟨eb, f2⟩
    · have f4 : fx_Md_within b 4 m = some (1, m) := f2
      rw [f4, bn_s, if_neg i10, m_has htop (by omega), ← t_has_eq h7, bn_s]
      cases hh : t_has (vm m) T (x + more)
      · refine Or.inl ⟨rfl, fun w => ⟨?_, hfin w⟩⟩
        rw [hnx w]
        unfold t_begin
        rw [vs_a, vs_b, ex, ey, t_n_nI (by omega) hx, t_n_nI (by omega) hy]
        simp only []
        rw [has_view (v_set_eq ..) h7, hh]; rfl
      · rw [b2_t, if_neg i10, m_take htop (by omega), bv_s]
        have etk : t_tk (vm m) T (x + more) = t_ht (vm m) T.1 + (T.2.2.1 - t_ht (vm m) T.1 - (x + more)) := t_tk_eq h7
        have htop2 : mt_T (wA m 14 T.1.length (nI (T.2.2.1 - t_ht (vm m) T.1 - (x + more)))) T.1.length (t_ht (vm m) T.1) (T.2.2.1 - t_ht (vm m) T.1 - (x + more)) (t_dd T) := by
          obtain ⟨g1, g2, g3, g4, g5, g6⟩ := htop
          refine ⟨?_, ?_, ?_, ?_, g5, by omega⟩
          · simp (disch := omega) only [bn_s, bv_s, bd_s, gb_0, gb_1, rI_ws, rI_wn, rI_wA, rI_wL, rA_wI, rA_wL, rL_wI, rL_wA, rA_wss, rA_wn, rA_wsn, rL_wss, rL_wn, rL_wsn, rN_wI, rN_wA, rN_wL]; exact g1
          · simp (disch := omega) only [bn_s, bv_s, bd_s, gb_0, gb_1, rI_ws, rI_wn, rI_wA, rI_wL, rA_wI, rA_wL, rL_wI, rL_wA, rA_wss, rA_wn, rA_wsn, rL_wss, rL_wn, rL_wsn, rN_wI, rN_wA, rN_wL]; exact g2
          · simp (disch := omega) only [bn_s, bv_s, bd_s, gb_0, gb_1, rI_ws, rI_wn, rI_wA, rI_wL, rA_wI, rA_wL, rL_wI, rL_wA, rA_wss, rA_wn, rA_wsn, rL_wss, rL_wn, rL_wsn, rN_wI, rN_wA, rN_wL]
          · simp (disch := omega) only [bn_s, bv_s, bd_s, gb_0, gb_1, rI_ws, rI_wn, rI_wA, rI_wL, rA_wI, rA_wL, rL_wI, rL_wA, rA_wss, rA_wn, rA_wsn, rL_wss, rL_wn, rL_wsn, rN_wI, rN_wA, rN_wL]; exact g4
        rw [m_begin o a b htop2, bv_s, ← etk]
        generalize hm2 : wI (wA (wA (wA (wA (wA (wA (wA m 14 T.1.length (nI (T.2.2.1 - t_ht (vm m) T.1 - (x + more)))) 10 (T.1.length + 1) o) 11 (T.1.length + 1) a) 12 (T.1.length + 1) b) 13 (T.1.length + 1) (nI (t_tk (vm m) T (x + more)))) 14 (T.1.length + 1) a) 15 (T.1.length + 1) 0) 3 (nI (T.1.length + 2)) = m2
        have g3 : rI m2 3 = nI (T.1.length + 1 + 1) := by rw [← hm2]; simp (disch := omega) only [bn_s, bv_s, bd_s, gb_0, gb_1, rI_ws, rI_wn, rI_wA, rI_wL, rA_wI, rA_wL, rL_wI, rL_wA, rA_wss, rA_wn, rA_wsn, rL_wss, rL_wn, rL_wsn, rN_wI, rN_wA, rN_wL]
        have g1 : rI m2 1 = nI t := by rw [← hm2]; simp (disch := omega) only [bn_s, bv_s, bd_s, gb_0, gb_1, rI_ws, rI_wn, rI_wA, rI_wL, rA_wI, rA_wL, rL_wI, rL_wA, rA_wss, rA_wn, rA_wsn, rL_wss, rL_wn, rL_wsn, rN_wI, rN_wA, rN_wL]; exact h1
        have g13 : rA m2 13 (T.1.length + 1) = nI (t_tk (vm m) T (x + more)) := by rw [← hm2]; simp (disch := omega) only [bn_s, bv_s, bd_s, gb_0, gb_1, rI_ws, rI_wn, rI_wA, rI_wL, rA_wI, rA_wL, rL_wI, rL_wA, rA_wss, rA_wn, rA_wsn, rL_wss, rL_wn, rL_wsn, rN_wI, rN_wA, rN_wL]
        rw [mi_s g3, bn_s, gd_k (by omega) (by omega), g1, gd_k (by omega) (by omega), nI_clamp (by omega), nI_clamp (by omega), g13]
        have hv := v_set_eq (vm m) t o a b (t_tk (vm m) T (x + more))
        refine Or.inr (Or.inl ⟨_, ((t, false, false) :: T.1, T.2.1, t_tk (vm m) T (x + more) + x, 0, none), t_tk (vm m) T (x + more), rfl, ?_, ?_, ?_⟩)
        · rw [hnx _]
          unfold t_begin
          rw [vs_a, vs_b, vs_w, ex, ey, t_n_nI (by omega) hx, t_n_nI (by omega) hy]
          simp only []
          rw [← ex, ← ey, has_view hv h7, hh, tk_view hv h7, if_pos rfl]; rfl
        · refine ⟨fun z _ _ _ _ => ?_, fun j z hj => ?_, fun z hz => ?_, ?_, fun j z => ?_⟩
          · rw [← hm2]; simp (disch := omega) only [bn_s, bv_s, bd_s, gb_0, gb_1, rI_ws, rI_wn, rI_wA, rI_wL, rA_wI, rA_wL, rL_wI, rL_wA, rA_wss, rA_wn, rA_wsn, rL_wss, rL_wn, rL_wsn, rN_wI, rN_wA, rN_wL]
          · rw [← hm2]; simp (disch := omega) only [bn_s, bv_s, bd_s, gb_0, gb_1, rI_ws, rI_wn, rI_wA, rI_wL, rA_wI, rA_wL, rL_wI, rL_wA, rA_wss, rA_wn, rA_wsn, rL_wss, rL_wn, rL_wsn, rN_wI, rN_wA, rN_wL]
          · rw [← hm2]; simp (disch := omega) only [bn_s, bv_s, bd_s, gb_0, gb_1, rI_ws, rI_wn, rI_wA, rI_wL, rA_wI, rA_wL, rL_wI, rL_wA, rA_wss, rA_wn, rA_wsn, rL_wss, rL_wn, rL_wsn, rN_wI, rN_wA, rN_wL]
          · refine ⟨?_, Or.inr ?_⟩
            · simp (disch := omega) only [bn_s, bv_s, bd_s, gb_0, gb_1, rI_ws, rI_wn, rI_wA, rI_wL, rA_wI, rA_wL, rL_wI, rL_wA, rA_wss, rA_wn, rA_wsn, rL_wss, rL_wn, rL_wsn, rN_wI, rN_wA, rN_wL]; exact nI_clamp (by omega)
            · simp (disch := omega) only [bn_s, bv_s, bd_s, gb_0, gb_1, rI_ws, rI_wn, rI_wA, rI_wL, rA_wI, rA_wL, rL_wI, rL_wA, rA_wss, rA_wn, rA_wsn, rL_wss, rL_wn, rL_wsn, rN_wI, rN_wA, rN_wL]; rw [nI_toInt (by omega)]; omega
          · rw [← hm2]; simp (disch := omega) only [bn_s, bv_s, bd_s, gb_0, gb_1, rI_ws, rI_wn, rI_wA, rI_wL, rA_wI, rA_wL, rL_wI, rL_wA, rA_wss, rA_wn, rA_wsn, rL_wss, rL_wn, rL_wsn, rN_wI, rN_wA, rN_wL]
        · refine ⟨?_, ?_, fun z => absurd rfl z, ?_, ?_⟩
          · rw [← hm2]; simp (disch := omega) only [bn_s, bv_s, bd_s, gb_0, gb_1, rI_ws, rI_wn, rI_wA, rI_wL, rA_wI, rA_wL, rL_wI, rL_wA, rA_wss, rA_wn, rA_wsn, rL_wss, rL_wn, rL_wsn, rN_wI, rN_wA, rN_wL]; rfl
          · rw [← hm2]; simp (disch := omega) only [bn_s, bv_s, bd_s, gb_0, gb_1, rI_ws, rI_wn, rI_wA, rI_wL, rA_wI, rA_wL, rL_wI, rL_wA, rA_wss, rA_wn, rA_wsn, rL_wss, rL_wn, rL_wsn, rN_wI, rN_wA, rN_wL]; rw [h4, hel]
          · refine ⟨?_, ?_, ?_, ?_, ?_, ?_, ?_⟩
            · rw [← hm2]; simp (disch := omega) only [bn_s, bv_s, bd_s, gb_0, gb_1, rI_ws, rI_wn, rI_wA, rI_wL, rA_wI, rA_wL, rL_wI, rL_wA, rA_wss, rA_wn, rA_wsn, rL_wss, rL_wn, rL_wsn, rN_wI, rN_wA, rN_wL]; rw [vs_o]; rfl
            · rw [← hm2]; simp (disch := omega) only [bn_s, bv_s, bd_s, gb_0, gb_1, rI_ws, rI_wn, rI_wA, rI_wL, rA_wI, rA_wL, rL_wI, rL_wA, rA_wss, rA_wn, rA_wsn, rL_wss, rL_wn, rL_wsn, rN_wI, rN_wA, rN_wL]; rw [vs_a]
            · rw [← hm2]; simp (disch := omega) only [bn_s, bv_s, bd_s, gb_0, gb_1, rI_ws, rI_wn, rI_wA, rI_wL, rA_wI, rA_wL, rL_wI, rL_wA, rA_wss, rA_wn, rA_wsn, rL_wss, rL_wn, rL_wsn, rN_wI, rN_wA, rN_wL]; rw [vs_b]
            · rw [← hm2]; simp (disch := omega) only [bn_s, bv_s, bd_s, gb_0, gb_1, rI_ws, rI_wn, rI_wA, rI_wL, rA_wI, rA_wL, rL_wI, rL_wA, rA_wss, rA_wn, rA_wsn, rL_wss, rL_wn, rL_wsn, rN_wI, rN_wA, rN_wL]; rw [vs_w]
            · rw [← hm2]; simp (disch := omega) only [bn_s, bv_s, bd_s, gb_0, gb_1, rI_ws, rI_wn, rI_wA, rI_wL, rA_wI, rA_wL, rL_wI, rL_wA, rA_wss, rA_wn, rA_wsn, rL_wss, rL_wn, rL_wsn, rN_wI, rN_wA, rN_wL]; rw [vs_w, ex, Nat.add_sub_cancel_left]
            · rw [← hm2]; simp (disch := omega) only [bn_s, bv_s, bd_s, gb_0, gb_1, rI_ws, rI_wn, rI_wA, rI_wL, rA_wI, rA_wL, rL_wI, rL_wA, rA_wss, rA_wn, rA_wsn, rL_wss, rL_wn, rL_wsn, rN_wI, rN_wA, rN_wL]; rfl
            · rw [vs_w]
              have := wm_set (m2 := wA m2 9 t (nI (t_tk (vm m) T (x + more)))) (d := l_dd T.1 T.2.1) (h2 := t_tk (vm m) T (x + more)) (wm_view hv h7 h6) (fun j i _ _ hi => by
                rw [← hm2]
                rcases (show j = 10 ∨ j = 11 ∨ j = 12 ∨ j = 13 ∨ j = 14 ∨ j = 15 by omega) with rfl | rfl | rfl | rfl | rfl | rfl <;> simp (disch := omega) only [bn_s, bv_s, bd_s, gb_0, gb_1, rI_ws, rI_wn, rI_wA, rI_wL, rA_wI, rA_wL, rL_wI, rL_wA, rA_wss, rA_wn, rA_wsn, rL_wss, rL_wn, rL_wsn, rN_wI, rN_wA, rN_wL]) (fun j _ hj => by
                rw [← hm2]
                rcases (show j = 10 ∨ j = 11 ∨ j = 12 ∨ j = 13 by omega) with rfl | rfl | rfl | rfl <;> simp (disch := omega) only [bn_s, bv_s, bd_s, gb_0, gb_1, rI_ws, rI_wn, rI_wA, rI_wL, rA_wI, rA_wL, rL_wI, rL_wA, rA_wss, rA_wn, rA_wsn, rL_wss, rL_wn, rL_wsn, rN_wI, rN_wA, rN_wL]) (by
                rw [← hm2]
                simp (disch := omega) only [bn_s, bv_s, bd_s, gb_0, gb_1, rI_ws, rI_wn, rI_wA, rI_wL, rA_wI, rA_wL, rL_wI, rL_wA, rA_wss, rA_wn, rA_wsn, rL_wss, rL_wn, rL_wsn, rN_wI, rN_wA, rN_wL]
                rw [ht_view hv h7, etk, Nat.add_sub_cancel_left]) (by rw [← hm2]; simp (disch := omega) only [bn_s, bv_s, bd_s, gb_0, gb_1, rI_ws, rI_wn, rI_wA, rI_wL, rA_wI, rA_wL, rL_wI, rL_wA, rA_wss, rA_wn, rA_wsn, rL_wss, rL_wn, rL_wsn, rN_wI, rN_wA, rN_wL]; exact (wm_top h6 h7).2.2)
              rw [(l_in_dd _ _).1, (l_in_dd _ _).2] at this
              exact this
          · refine ⟨Nat.lt_succ_self t, ⟨x, y, hx, hy, ?_, ?_⟩, ?_, ?_, fun z => absurd z Bool.false_ne_true, ?_⟩
            · rw [vs_a]; exact ex
            · rw [vs_b]; exact ey
            · rw [vs_o]; exact hop
            · rw [vs_w]; exact Nat.le_add_right _ _
            · rw [vs_w]
              refine lw_h (lw_mono (Nat.le_succ t) (Nat.le_refl _) (lw_view hv h7)) ?_
              rw [ht_view hv h7, etk]
              exact Nat.le_add_right _ _
    · have f4 : fx_Md_within b 4 m = some (0, m) := f2
      rw [f4, bn_s, if_pos rfl]
      refine Or.inl ⟨rfl, fun w => ⟨?_, hfin w⟩⟩
      rw [hnx w]
      unfold t_begin
      rw [vs_a, vs_b, ex, t_n_nI (by omega) hx, t_n_none eb (by omega)]
  · have hr : fx_Md_block o a b m = some (0, m) := by
      have e4 : fx_Md_within a 4 m = some (0, m) := e2
      unfold fx_Md_block fx_Md_block_b12
      split
      · rw [e4, bn_s, if_pos rfl]
      · rw [e4, bn_s, if_pos rfl]
    rw [hr]
    refine Or.inl ⟨rfl, fun w => ⟨?_, hfin w⟩⟩
    rw [hnx w]
    unfold t_begin
    rw [vs_a, vs_b, t_n_none ea (by omega)]
