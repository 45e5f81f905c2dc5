theorem m1_frame {m : rs_T} {t : Nat} {m1 : rs_T} (hI : ∀ q, ¬ q = 3 → ¬ q = 4 → ¬ q = 5 → ¬ q = 6 → rI m1 q = rI m q) (hA : ∀ j x, (j < 10 ∨ 15 < j) → rA m1 j x = rA m j x) (hL : ∀ j x, rL m1 j x = rL m j x) : m1_ok m m1 t (rA m 9 t).toNatClampNeg :=
  ⟨hI, fun j x h => hA j x (h.elim (fun q => Or.inl (by omega)) Or.inr), fun x _ => hA 9 x (Or.inl (by decide)), ⟨by rw [hA 9 t (Or.inl (by decide))], Or.inl (hA 9 t (Or.inl (by decide)))⟩, hL⟩
-- turn: n taken, q put
theorem m_p_turn {m : rs_T} {f t n q : Nat} {o a b : Int32} {T : ts_T} (hw : mw_T m f t T) (hb : tb_ok t T) (hel : T.2.2.2.1 = 0) (hn : n ≤ 20) (hq : q ≤ 8) (hnx : ∀ w, t_nx (v_set (vm m) t o a b w) f t T = t_tu (v_set (vm m) t o a b w) T n q) (hfin : ∀ w, ¬ t_fin (v_set (vm m) t o a b w) f t T) : m_ph m f t o a b T (fx_Md_turn (nI n) (nI q) m) := by
  have htop := mw_top hw hb
  obtain ⟨h0, h1, h2, h3, h4, h5, h6, h7⟩ := id hw
  have hth := lw_ht h7
  rw [m_turn htop (by omega), ← t_has_eq h7]
  cases hh : t_has (vm m) T n
  · refine Or.inl ⟨rfl, fun w => ⟨?_, hfin w⟩⟩
    rw [hnx w, t_tu, has_view (v_set_eq ..) h7, hh]; rfl
  · refine Or.inr (Or.inl ⟨_, (T.1, T.2.1, t_tk (vm m) T n + q, 0, none), (rA m 9 t).toNatClampNeg, rfl, ?_, ?_, ?_⟩)
    · rw [hnx _, t_tu, has_view (v_set_eq ..) h7, hh, tk_view (v_set_eq ..) h7]; rfl
    · refine m1_frame (fun z _ _ _ _ => ?_) (fun j x hj => ?_) (fun j x => ?_)
      · simp (disch := omega) only [bn_s, bv_s, bd_s, gb_0, gb_1, rI_ws, rI_wn, rI_wA, rI_wL, rA_wI, rA_wL, rL_wI, rL_wA, rA_wss, rA_wn, rA_wsn, rL_wss, rL_wn, rL_wsn, rN_wI, rN_wA, rN_wL]
      · simp (disch := omega) only [bn_s, bv_s, bd_s, gb_0, gb_1, rI_ws, rI_wn, rI_wA, rI_wL, rA_wI, rA_wL, rL_wI, rL_wA, rA_wss, rA_wn, rA_wsn, rL_wss, rL_wn, rL_wsn, rN_wI, rN_wA, rN_wL]
      · simp (disch := omega) only [bn_s, bv_s, bd_s, gb_0, gb_1, rI_ws, rI_wn, rI_wA, rI_wL, rA_wI, rA_wL, rL_wI, rL_wA, rA_wss, rA_wn, rA_wsn, rL_wss, rL_wn, rL_wsn, rN_wI, rN_wA, rN_wL]
    · have hv := v_set_eq (vm m) t o a b (rA m 9 t).toNatClampNeg
      have e2 := tk_view (n := n) hv h7
      refine ⟨?_, ?_, fun z => absurd rfl z, ?_, ?_⟩
      · simp (disch := omega) only [bn_s, bv_s, bd_s, gb_0, gb_1, rI_ws, rI_wn, rI_wA, rI_wL, rA_wI, rA_wL, rL_wI, rL_wA, rA_wss, rA_wn, rA_wsn, rL_wss, rL_wn, rL_wsn, rN_wI, rN_wA, rN_wL]; exact h3
      · simp (disch := omega) only [bn_s, bv_s, bd_s, gb_0, gb_1, rI_ws, rI_wn, rI_wA, rI_wL, rA_wI, rA_wL, rL_wI, rL_wA, rA_wss, rA_wn, rA_wsn, rL_wss, rL_wn, rL_wsn, rN_wI, rN_wA, rN_wL]; rw [h4, hel]
      · have := wm_set (m2 := wA (wA m 14 T.1.length (nI (T.2.2.1 - t_ht (vm m) T.1 - n))) 14 T.1.length (nI (T.2.2.1 - t_ht (vm m) T.1 - n + q))) (d := l_dd T.1 T.2.1) (h2 := t_tk (vm m) T n + q) (wm_view hv h7 h6) (fun j i _ _ hi => by
          by_cases e : j = 14
          · subst e; simp (disch := omega) only [bn_s, bv_s, bd_s, gb_0, gb_1, rI_ws, rI_wn, rI_wA, rI_wL, rA_wI, rA_wL, rL_wI, rL_wA, rA_wss, rA_wn, rA_wsn, rL_wss, rL_wn, rL_wsn, rN_wI, rN_wA, rN_wL]
          · simp (disch := omega) only [bn_s, bv_s, bd_s, gb_0, gb_1, rI_ws, rI_wn, rI_wA, rI_wL, rA_wI, rA_wL, rL_wI, rL_wA, rA_wss, rA_wn, rA_wsn, rL_wss, rL_wn, rL_wsn, rN_wI, rN_wA, rN_wL]) (fun j _ hj => by simp (disch := omega) only [bn_s, bv_s, bd_s, gb_0, gb_1, rI_ws, rI_wn, rI_wA, rI_wL, rA_wI, rA_wL, rL_wI, rL_wA, rA_wss, rA_wn, rA_wsn, rL_wss, rL_wn, rL_wsn, rN_wI, rN_wA, rN_wL]) (by
          simp (disch := omega) only [bn_s, bv_s, bd_s, gb_0, gb_1, rI_ws, rI_wn, rI_wA, rI_wL, rA_wI, rA_wL, rL_wI, rL_wA, rA_wss, rA_wn, rA_wsn, rL_wss, rL_wn, rL_wsn, rN_wI, rN_wA, rN_wL]
          rw [ht_view hv h7, t_tk_eq h7]
          congr 1; omega) (by simp (disch := omega) only [bn_s, bv_s, bd_s, gb_0, gb_1, rI_ws, rI_wn, rI_wA, rI_wL, rA_wI, rA_wL, rL_wI, rL_wA, rA_wss, rA_wn, rA_wsn, rL_wss, rL_wn, rL_wsn, rN_wI, rN_wA, rN_wL]; exact (wm_top h6 h7).2.2)
        rw [(l_in_dd _ _).1, (l_in_dd _ _).2] at this
        exact this
      · refine lw_h (lw_mono (Nat.le_succ t) (Nat.le_refl _) (lw_view hv h7)) ?_
        rw [ht_view hv h7, t_tk_eq h7]
        show _ ≤ _ + _
        omega
-- ends: the label dies
theorem m_p_ends {m : rs_T} {f t n : Nat} {o a b : Int32} {T : ts_T} (hw : mw_T m f t T) (hb : tb_ok t T) (hel : T.2.2.2.1 = 0) (hn : n ≤ 20) (hnx : ∀ w, t_nx (v_set (vm m) t o a b w) f t T = bif t_has (v_set (vm m) t o a b w) T n then some (t_die (v_set (vm m) t o a b w) T) else none) (hfin : ∀ w, ¬ t_fin (v_set (vm m) t o a b w) f t T) : m_ph m f t o a b T (fx_Md_ends (nI n) m) := by
  have htop := mw_top hw hb
  obtain ⟨h0, h1, h2, h3, h4, h5, h6, h7⟩ := id hw
  have hth := lw_ht h7
  rw [m_ends htop (by omega), ← t_has_eq h7]
  cases hh : t_has (vm m) T n
  · refine Or.inl ⟨rfl, fun w => ⟨?_, hfin w⟩⟩
    rw [hnx w, has_view (v_set_eq ..) h7, hh]; rfl
  · have hv := v_set_eq (vm m) t o a b (rA m 9 t).toNatClampNeg
    refine Or.inr (Or.inl ⟨_, t_die (v_set (vm m) t o a b (rA m 9 t).toNatClampNeg) T, (rA m 9 t).toNatClampNeg, rfl, ?_, ?_, ?_⟩)
    · rw [hnx _, has_view (v_set_eq ..) h7, hh]; rfl
    · refine m1_frame (fun z _ _ _ _ => ?_) (fun j x hj => ?_) (fun j x => ?_)
      · simp (disch := omega) only [bn_s, bv_s, bd_s, gb_0, gb_1, rI_ws, rI_wn, rI_wA, rI_wL, rA_wI, rA_wL, rL_wI, rL_wA, rA_wss, rA_wn, rA_wsn, rL_wss, rL_wn, rL_wsn, rN_wI, rN_wA, rN_wL]
      · simp (disch := omega) only [bn_s, bv_s, bd_s, gb_0, gb_1, rI_ws, rI_wn, rI_wA, rI_wL, rA_wI, rA_wL, rL_wI, rL_wA, rA_wss, rA_wn, rA_wsn, rL_wss, rL_wn, rL_wsn, rN_wI, rN_wA, rN_wL]
      · simp (disch := omega) only [bn_s, bv_s, bd_s, gb_0, gb_1, rI_ws, rI_wn, rI_wA, rI_wL, rA_wI, rA_wL, rL_wI, rL_wA, rA_wss, rA_wn, rA_wsn, rL_wss, rL_wn, rL_wsn, rN_wI, rN_wA, rN_wL]
    · unfold t_die
      rw [t_in_eq]
      refine ⟨?_, ?_, fun z => absurd rfl z, ?_, ?_⟩
      · simp (disch := omega) only [bn_s, bv_s, bd_s, gb_0, gb_1, rI_ws, rI_wn, rI_wA, rI_wL, rA_wI, rA_wL, rL_wI, rL_wA, rA_wss, rA_wn, rA_wsn, rL_wss, rL_wn, rL_wsn, rN_wI, rN_wA, rN_wL, l_in_len]; exact h3
      · simp (disch := omega) only [bn_s, bv_s, bd_s, gb_0, gb_1, rI_ws, rI_wn, rI_wA, rI_wL, rA_wI, rA_wL, rL_wI, rL_wA, rA_wss, rA_wn, rA_wsn, rL_wss, rL_wn, rL_wsn, rN_wI, rN_wA, rN_wL]; rw [h4, hel]
      · refine wm_set (wm_view hv h7 h6) (fun j i _ _ hi => ?_) (fun j _ hj => ?_) ?_ ?_
        · by_cases e : j = 14
          · subst e; simp (disch := omega) only [bn_s, bv_s, bd_s, gb_0, gb_1, rI_ws, rI_wn, rI_wA, rI_wL, rA_wI, rA_wL, rL_wI, rL_wA, rA_wss, rA_wn, rA_wsn, rL_wss, rL_wn, rL_wsn, rN_wI, rN_wA, rN_wL]
          · by_cases e : j = 15
            · subst e; simp (disch := omega) only [bn_s, bv_s, bd_s, gb_0, gb_1, rI_ws, rI_wn, rI_wA, rI_wL, rA_wI, rA_wL, rL_wI, rL_wA, rA_wss, rA_wn, rA_wsn, rL_wss, rL_wn, rL_wsn, rN_wI, rN_wA, rN_wL]
            · simp (disch := omega) only [bn_s, bv_s, bd_s, gb_0, gb_1, rI_ws, rI_wn, rI_wA, rI_wL, rA_wI, rA_wL, rL_wI, rL_wA, rA_wss, rA_wn, rA_wsn, rL_wss, rL_wn, rL_wsn, rN_wI, rN_wA, rN_wL]
        · simp (disch := omega) only [bn_s, bv_s, bd_s, gb_0, gb_1, rI_ws, rI_wn, rI_wA, rI_wL, rA_wI, rA_wL, rL_wI, rL_wA, rA_wss, rA_wn, rA_wsn, rL_wss, rL_wn, rL_wsn, rN_wI, rN_wA, rN_wL]
        · simp (disch := omega) only [bn_s, bv_s, bd_s, gb_0, gb_1, rI_ws, rI_wn, rI_wA, rI_wL, rA_wI, rA_wL, rL_wI, rL_wA, rA_wss, rA_wn, rA_wsn, rL_wss, rL_wn, rL_wsn, rN_wI, rN_wA, rN_wL, Nat.sub_self, nI_0]
        · simp (disch := omega) only [bn_s, bv_s, bd_s, gb_0, gb_1, rI_ws, rI_wn, rI_wA, rI_wL, rA_wI, rA_wL, rL_wI, rL_wA, rA_wss, rA_wn, rA_wsn, rL_wss, rL_wn, rL_wsn, rN_wI, rN_wA, rN_wL]; rfl
      · exact lw_in (lw_h (lw_mono (Nat.le_succ t) (Nat.le_refl _) (lw_view hv h7)) (Nat.le_refl _))
