-- labels by number
theorem wm_bot {V : vw_T} {f : Nat} {m : rs_T} : ∀ {L : List lb_T} {d0 : Bool} {h : Nat}, wm_L V f m L d0 h → rA m 10 0 = 0 ∧ rA m 12 0 = nI (v_r V f) := by
  intro L
  induction L with
  | nil => intro d0 h hm; exact ⟨hm.1, hm.2.1⟩
  | cons q L ih => intro d0 h hm; exact ih hm.2.2.2.2.2.2
theorem wm_get {V : vw_T} {f : Nat} {m : rs_T} : ∀ {L : List lb_T} {d0 : Bool} {h : Nat}, wm_L V f m L d0 h → ∀ (k : Nat) (q : lb_T), L[k]? = some q → rA m 10 (L.length - k) = (bif q.2.1 then 5 else v_o V q.1) ∧ rA m 11 (L.length - k) = v_a V q.1 ∧ rA m 12 (L.length - k) = v_b V q.1 := by
  intro L
  induction L with
  | nil => intro d0 h _ k q hq; simp at hq
  | cons r L ih =>
    intro d0 h hm k q hq
    cases k with
    | zero =>
      simp only [List.getElem?_cons_zero, Option.some.injEq] at hq
      subst hq
      exact ⟨hm.1, hm.2.1, hm.2.2.1⟩
    | succ k =>
      simp only [List.getElem?_cons_succ] at hq
      have := ih hm.2.2.2.2.2.2 k q hq
      have e : (r :: L).length - (k + 1) = L.length - k := by simp
      rw [e]
      exact this
theorem i53 : ¬ (5 : Int32) = 3 := by decide
theorem i43 : ¬ (4 : Int32) = 3 := by decide
theorem i03 : ¬ (0 : Int32) = 3 := by decide
theorem m_wants {m : rs_T} {f t k : Nat} {T : ts_T} (hw : mw_T m f t T) (hb : tb_ok t T) (hr : rA m 3 f = nI (v_r (vm m) f)) (hk : k ≤ T.1.length) : fx_Md_wants (nI k) m = some (nI (t_want (vm m) f T.1 k), m) := by
  obtain ⟨h0, h1, h2, h3, h4, h5, h6, h7⟩ := hw
  obtain ⟨c1, c2, c3, c4⟩ := hb
  unfold fx_Md_wants
  rw [mi_s h3, bn_s, nI_sub hk, gd_k (by omega) (by omega), nI_clamp (by omega), mi_s h3, bn_s, bn_s, nI_sub hk, gd_k (by omega) (by omega), gd_k (by omega) (by omega), nI_clamp (by omega)]
  unfold t_want
  cases hq : T.1[k]? with
  | none =>
    have e : T.1.length - k = 0 := by
      have := List.getElem?_eq_none_iff.mp hq
      omega
    obtain ⟨e1, e2⟩ := wm_bot h6
    rw [e, e1, if_neg i03, e2]
  | some q =>
    obtain ⟨e1, e2, e3⟩ := wm_get h6 k q hq
    obtain ⟨g1, ⟨x, y, hx, hy, g2, g3⟩, g4, g5, g6⟩ := lw_get h7 q (List.mem_of_getElem? hq)
    rw [e1, e2, e3, g2, g3]
    simp only []
    cases he : q.2.1
    · simp only [cond_false]
      by_cases hz : v_o (vm m) q.1 = 3
      · rw [if_pos hz, if_pos hz, g2, nI_clamp (by omega)]
      · rw [if_neg hz, if_neg hz, g3, nI_clamp (by omega)]
    · have := g6 he
      rw [this, if_neg i43, cond_true, if_neg i53, g3, nI_clamp (by omega)]
-- a label's number
theorem m_label {m : rs_T} {f t : Nat} {T : ts_T} (hw : mw_T m f t T) (hb : tb_ok t T) (x : Int32) : (∃ k : Nat, k ≤ T.1.length ∧ x = nI k ∧ t_n x T.1.length = some k ∧ fx_Md_isLabel x m = some (1, m)) ∨ (t_n x T.1.length = none ∧ fx_Md_isLabel x m = some (0, m)) := by
  obtain ⟨h0, h1, h2, h3, h4, h5, h6, h7⟩ := hw
  obtain ⟨c1, c2, c3, c4⟩ := hb
  unfold fx_Md_isLabel
  rw [h3, nI_pred]
  rcases wi_M x T.1.length (by omega) m with ⟨j, hj, e1, e2⟩ | ⟨e1, e2⟩
  · refine Or.inl ⟨j, hj, e1, by rw [e1]; exact t_n_nI (by omega) hj, ?_⟩
    rw [e2, bn_s, gb_1]
  · refine Or.inr ⟨t_n_none e1 (by omega), ?_⟩
    rw [e2, bn_s, gb_0]
-- table entries begin
theorem m_p_table {m : rs_T} {f t : Nat} {a b : Int32} {T : ts_T} (hw : mw_T m f t T) (hb : tb_ok t T) (hel : T.2.2.2.1 = 0) : m_ph m f t 14 a b T (fx_Md_entries a m) := by
  have htop := mw_top hw hb
  obtain ⟨h0, h1, h2, h3, h4, h5, h6, h7⟩ := id hw
  have hth := lw_ht h7
  have hnx : ∀ w, t_nx (v_set (vm m) t 14 a b w) f t T = (match t_n a 20 with
    | none => none
    | some k => bif t_has (v_set (vm m) t 14 a b w) T 1 then some (T.1, T.2.1, t_tk (v_set (vm m) t 14 a b w) T 1, k + 1, none) else none) := fun w => by
    unfold t_nx
    rw [vs_o, vs_a, hel]
    simp (decide := true) only [if_false, if_true]
    cases t_n a 20 <;> rfl
  have hfin : ∀ w, ¬ t_fin (v_set (vm m) t 14 a b w) f t T := fun w hq => by
    have := hq.1
    rw [vs_o] at this
    exact absurd this (by decide)
  unfold fx_Md_entries
  rcases wi_M a 20 (by omega) m with ⟨j, hj, e1, e2⟩ | ⟨e1, e2⟩
  · have e20 : fx_Md_within a 20 m = some (1, m) := e2
    rw [e20, bn_s, if_neg i10]
    have eh : fx_Md_has 1 m = some (b2 (t_has (vm m) T 1), m) := by
      have := m_has (n := 1) htop (by omega)
      rw [← t_has_eq h7] at this
      exact this
    rw [eh, bn_s]
    cases hh : t_has (vm m) T 1
    · refine Or.inl ⟨rfl, fun w => ⟨?_, hfin w⟩⟩
      rw [hnx w, e1, t_n_nI (by omega) hj]
      simp only []
      rw [has_view (v_set_eq ..) h7, hh]; rfl
    · rw [b2_t, if_neg i10]
      have et : fx_Md_take 1 m = some (wA m 14 T.1.length (nI (T.2.2.1 - t_ht (vm m) T.1 - 1))) := m_take (n := 1) htop (by omega)
      rw [et, bv_s, e1, nI_1]
      have hv := v_set_eq (vm m) t 14 (nI j) b (rA m 9 t).toNatClampNeg
      refine Or.inr (Or.inl ⟨_, (T.1, T.2.1, t_tk (vm m) T 1, j + 1, none), (rA m 9 t).toNatClampNeg, rfl, ?_, ?_, ?_⟩)
      · rw [← e1, hnx _, e1, t_n_nI (by omega) hj]
        simp only []
        rw [has_view hv h7, hh, tk_view hv h7]; rfl
      · refine m1_frame (fun z _ _ _ _ => ?_) (fun j x hj => ?_) (fun j x => ?_)
        · simp (disch := omega) only [bn_s, bv_s, bd_s, gb_0, gb_1, rI_ws, rI_wn, rI_wA, rI_wL, rA_wI, rA_wL, rL_wI, rL_wA, rA_wss, rA_wn, rA_wsn, rL_wss, rL_wn, rL_wsn, rN_wI, rN_wA, rN_wL]
        · simp (disch := omega) only [bn_s, bv_s, bd_s, gb_0, gb_1, rI_ws, rI_wn, rI_wA, rI_wL, rA_wI, rA_wL, rL_wI, rL_wA, rA_wss, rA_wn, rA_wsn, rL_wss, rL_wn, rL_wsn, rN_wI, rN_wA, rN_wL]
        · simp (disch := omega) only [bn_s, bv_s, bd_s, gb_0, gb_1, rI_ws, rI_wn, rI_wA, rI_wL, rA_wI, rA_wL, rL_wI, rL_wA, rA_wss, rA_wn, rA_wsn, rL_wss, rL_wn, rL_wsn, rN_wI, rN_wA, rN_wL]
      · refine ⟨?_, ?_, fun z => ?_, ?_, ?_⟩
        · simp (disch := omega) only [bn_s, bv_s, bd_s, gb_0, gb_1, rI_ws, rI_wn, rI_wA, rI_wL, rA_wI, rA_wL, rL_wI, rL_wA, rA_wss, rA_wn, rA_wsn, rL_wss, rL_wn, rL_wsn, rN_wI, rN_wA, rN_wL]; exact h3
        · simp (disch := omega) only [bn_s, bv_s, bd_s, gb_0, gb_1, rI_ws, rI_wn, rI_wA, rI_wL, rA_wI, rA_wL, rL_wI, rL_wA, rA_wss, rA_wn, rA_wsn, rL_wss, rL_wn, rL_wsn, rN_wI, rN_wA, rN_wL]
        · show rI _ 6 = 1
          simp (disch := omega) only [bn_s, bv_s, bd_s, gb_0, gb_1, rI_ws, rI_wn, rI_wA, rI_wL, rA_wI, rA_wL, rL_wI, rL_wA, rA_wss, rA_wn, rA_wsn, rL_wss, rL_wn, rL_wsn, rN_wI, rN_wA, rN_wL]
        · have := wm_set (m2 := wI (wI (wA m 14 T.1.length (nI (T.2.2.1 - t_ht (vm m) T.1 - 1))) 4 (nI (j + 1))) 6 1) (d := l_dd T.1 T.2.1) (h2 := t_tk (vm m) T 1) (wm_view hv h7 h6) (fun j i _ _ hi => by
            by_cases e : j = 14
            · subst e; simp (disch := omega) only [bn_s, bv_s, bd_s, gb_0, gb_1, rI_ws, rI_wn, rI_wA, rI_wL, rA_wI, rA_wL, rL_wI, rL_wA, rA_wss, rA_wn, rA_wsn, rL_wss, rL_wn, rL_wsn, rN_wI, rN_wA, rN_wL]
            · simp (disch := omega) only [bn_s, bv_s, bd_s, gb_0, gb_1, rI_ws, rI_wn, rI_wA, rI_wL, rA_wI, rA_wL, rL_wI, rL_wA, rA_wss, rA_wn, rA_wsn, rL_wss, rL_wn, rL_wsn, rN_wI, rN_wA, rN_wL]) (fun j _ hj => by simp (disch := omega) only [bn_s, bv_s, bd_s, gb_0, gb_1, rI_ws, rI_wn, rI_wA, rI_wL, rA_wI, rA_wL, rL_wI, rL_wA, rA_wss, rA_wn, rA_wsn, rL_wss, rL_wn, rL_wsn, rN_wI, rN_wA, rN_wL]) (by
            simp (disch := omega) only [bn_s, bv_s, bd_s, gb_0, gb_1, rI_ws, rI_wn, rI_wA, rI_wL, rA_wI, rA_wL, rL_wI, rL_wA, rA_wss, rA_wn, rA_wsn, rL_wss, rL_wn, rL_wsn, rN_wI, rN_wA, rN_wL]
            rw [ht_view hv h7, t_tk_eq h7]
            congr 1; omega) (by simp (disch := omega) only [bn_s, bv_s, bd_s, gb_0, gb_1, rI_ws, rI_wn, rI_wA, rI_wL, rA_wI, rA_wL, rL_wI, rL_wA, rA_wss, rA_wn, rA_wsn, rL_wss, rL_wn, rL_wsn, rN_wI, rN_wA, rN_wL]; exact (wm_top h6 h7).2.2)
          rw [(l_in_dd _ _).1, (l_in_dd _ _).2] at this
          exact this
        · refine lw_h (lw_mono (Nat.le_succ t) (Nat.le_refl _) (lw_view hv h7)) ?_
          rw [ht_view hv h7, t_tk_eq h7]
          show _ ≤ _ + _
          omega
  · have e20 : fx_Md_within a 20 m = some (0, m) := e2
    rw [e20, bn_s, if_pos rfl]
    refine Or.inl ⟨rfl, fun w => ⟨?_, hfin w⟩⟩
    rw [hnx w, t_n_none e1 (by omega)]
