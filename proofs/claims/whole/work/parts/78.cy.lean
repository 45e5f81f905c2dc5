theorem max_l {a b : Nat} (h : b ≤ a) : max a b = a := Nat.max_eq_left h
-- the state behind exchanges
theorem c_ex_T {c : rs_T} {V : vw_T} {f t n k ms : Nat} {T : ts_T} {o a b : Int32} (h : cw_T c V f t T) (hb : tb_ok t T) (hel : T.2.2.2.1 = 0) (hm : rA c 3 f = nI ms) {c1 : rs_T} (e : c1 = wA (wI (wI c 6 (nI (t_tk V T n))) 6 (nI (t_tk V T n + k))) 3 f (nI (max ms (t_tk V T n + k)))) : c1_ok c c1 f t (rA c 12 t).toNatClampNeg (max ms (t_tk V T n + k)) ∧ c1_T c1 (v_set V t o a b (rA c 12 t).toNatClampNeg) f t (T.1, T.2.1, t_tk V T n + k, 0, none) := by
  obtain ⟨h2, h3, h4, h5, h6, h7, h8, hl, hw, hf, hr, hN⟩ := h
  have hv := v_set_eq V t o a b (rA c 12 t).toNatClampNeg
  subst e
  refine ⟨⟨fun q _ _ _ _ _ => ?_, fun j x hj => ?_, fun x hx => ?_, ?_, fun x hx => ?_, ?_, fun j x => ?_⟩, ⟨?_, ?_, ?_, ?_, fun z => absurd rfl z, ?_, ?_⟩⟩
  · simp (disch := omega) only [bn_s, bv_s, bd_s, gb_0, gb_1, rI_ws, rI_wn, rI_wA, rI_wL, rA_wI, rA_wL, rL_wI, rL_wA, rA_wss, rA_wn, rA_wsn, rL_wss, rL_wn, rL_wsn, rN_wI, rN_wA, rN_wL]
  · simp (disch := omega) only [bn_s, bv_s, bd_s, gb_0, gb_1, rI_ws, rI_wn, rI_wA, rI_wL, rA_wI, rA_wL, rL_wI, rL_wA, rA_wss, rA_wn, rA_wsn, rL_wss, rL_wn, rL_wsn, rN_wI, rN_wA, rN_wL]
  · simp (disch := omega) only [bn_s, bv_s, bd_s, gb_0, gb_1, rI_ws, rI_wn, rI_wA, rI_wL, rA_wI, rA_wL, rL_wI, rL_wA, rA_wss, rA_wn, rA_wsn, rL_wss, rL_wn, rL_wsn, rN_wI, rN_wA, rN_wL]
  · simp (disch := omega) only [bn_s, bv_s, bd_s, gb_0, gb_1, rI_ws, rI_wn, rI_wA, rI_wL, rA_wI, rA_wL, rL_wI, rL_wA, rA_wss, rA_wn, rA_wsn, rL_wss, rL_wn, rL_wsn, rN_wI, rN_wA, rN_wL]
  · simp (disch := omega) only [bn_s, bv_s, bd_s, gb_0, gb_1, rI_ws, rI_wn, rI_wA, rI_wL, rA_wI, rA_wL, rL_wI, rL_wA, rA_wss, rA_wn, rA_wsn, rL_wss, rL_wn, rL_wsn, rN_wI, rN_wA, rN_wL]
  · simp (disch := omega) only [bn_s, bv_s, bd_s, gb_0, gb_1, rI_ws, rI_wn, rI_wA, rI_wL, rA_wI, rA_wL, rL_wI, rL_wA, rA_wss, rA_wn, rA_wsn, rL_wss, rL_wn, rL_wsn, rN_wI, rN_wA, rN_wL]
  · simp (disch := omega) only [bn_s, bv_s, bd_s, gb_0, gb_1, rI_ws, rI_wn, rI_wA, rI_wL, rA_wI, rA_wL, rL_wI, rL_wA, rA_wss, rA_wn, rA_wsn, rL_wss, rL_wn, rL_wsn, rN_wI, rN_wA, rN_wL]
  · simp (disch := omega) only [bn_s, bv_s, bd_s, gb_0, gb_1, rI_ws, rI_wn, rI_wA, rI_wL, rA_wI, rA_wL, rL_wI, rL_wA, rA_wss, rA_wn, rA_wsn, rL_wss, rL_wn, rL_wsn, rN_wI, rN_wA, rN_wL]; exact h3
  · simp (disch := omega) only [bn_s, bv_s, bd_s, gb_0, gb_1, rI_ws, rI_wn, rI_wA, rI_wL, rA_wI, rA_wL, rL_wI, rL_wA, rA_wss, rA_wn, rA_wsn, rL_wss, rL_wn, rL_wsn, rN_wI, rN_wA, rN_wL]; exact h5
  · simp (disch := omega) only [bn_s, bv_s, bd_s, gb_0, gb_1, rI_ws, rI_wn, rI_wA, rI_wL, rA_wI, rA_wL, rL_wI, rL_wA, rA_wss, rA_wn, rA_wsn, rL_wss, rL_wn, rL_wsn, rN_wI, rN_wA, rN_wL]
  · simp (disch := omega) only [bn_s, bv_s, bd_s, gb_0, gb_1, rI_ws, rI_wn, rI_wA, rI_wL, rA_wI, rA_wL, rL_wI, rL_wA, rA_wss, rA_wn, rA_wsn, rL_wss, rL_wn, rL_wsn, rN_wI, rN_wA, rN_wL]; rw [h7, hel]
  · refine wc_keep (lw_view hv hw) (fun j i _ _ _ => ?_) (fun j x _ _ _ _ => ?_) (wc_view hv hw hl)
    · simp (disch := omega) only [bn_s, bv_s, bd_s, gb_0, gb_1, rI_ws, rI_wn, rI_wA, rI_wL, rA_wI, rA_wL, rL_wI, rL_wA, rA_wss, rA_wn, rA_wsn, rL_wss, rL_wn, rL_wsn, rN_wI, rN_wA, rN_wL]
    · simp (disch := omega) only [bn_s, bv_s, bd_s, gb_0, gb_1, rI_ws, rI_wn, rI_wA, rI_wL, rA_wI, rA_wL, rL_wI, rL_wA, rA_wss, rA_wn, rA_wsn, rL_wss, rL_wn, rL_wsn, rN_wI, rN_wA, rN_wL]
  · refine lw_h (lw_mono (Nat.le_succ t) (Nat.le_refl _) (lw_view hv hw)) ?_
    rw [ht_view hv hw, t_tk_eq hw]
    show _ ≤ _ + _
    omega
theorem c_p_turn {c : rs_T} {V : vw_T} {f t n k ms : Nat} {o a b : Int32} {T : ts_T} (h : cw_T c V f t T) (hb : tb_ok t T) (hel : T.2.2.2.1 = 0) (hn : n ≤ 20) (hk : k ≤ 8) (hm : rA c 3 f = nI ms) (hms : ms < 100000) (hno : ¬ o ∈ ([5, 6, 11, 12, 13] : List Int32)) (hnx : ∀ w, t_nx (v_set V t o a b w) f t T = t_tu (v_set V t o a b w) T n k) : c_ph c V f t o a b T ms (fx_Wr_exchanges (nI n) (nI k) c) := by
  have hw := h.2.2.2.2.2.2.2.2.1
  simp only [List.mem_cons, List.not_mem_nil, or_false, not_or] at hno
  rw [c_ex h hb (by omega) (by omega) hm hms]
  cases hh : t_has V T n
  · refine Or.inl ⟨rfl, fun w => ⟨?_, nf_op hno.2.2.1⟩⟩
    rw [hnx w, t_tu, has_view (v_set_eq ..) hw, hh]; rfl
  · obtain ⟨g1, g2⟩ := c_ex_T (o := o) (a := a) (b := b) (n := n) (k := k) h hb hel hm rfl
    refine Or.inr (Or.inl ⟨_, _, _, rfl, ?_, g1, g2, ?_, fun x => ?_⟩)
    · rw [hnx _, t_tu, has_view (v_set_eq ..) hw, hh, tk_view (v_set_eq ..) hw]; rfl
    · refine ⟨fun x _ _ => ?_, fun x _ _ => ?_, fun z => ?_, fun z => ?_, fun z => ?_⟩
      · simp (disch := omega) only [bn_s, bv_s, bd_s, gb_0, gb_1, rI_ws, rI_wn, rI_wA, rI_wL, rA_wI, rA_wL, rL_wI, rL_wA, rA_wss, rA_wn, rA_wsn, rL_wss, rL_wn, rL_wsn, rN_wI, rN_wA, rN_wL]
      · simp (disch := omega) only [bn_s, bv_s, bd_s, gb_0, gb_1, rI_ws, rI_wn, rI_wA, rI_wL, rA_wI, rA_wL, rL_wI, rL_wA, rA_wss, rA_wn, rA_wsn, rL_wss, rL_wn, rL_wsn, rN_wI, rN_wA, rN_wL]
      · rw [vs_o] at z
        rcases z with z | z | z
        · exact absurd z hno.2.2.2.1
        · exact absurd z hno.2.2.2.2
        · exact absurd z hno.2.1
      · rw [vs_o] at z; exact absurd z hno.2.2.1
      · rw [vs_o] at z; exact absurd z hno.1
    · simp (disch := omega) only [bn_s, bv_s, bd_s, gb_0, gb_1, rI_ws, rI_wn, rI_wA, rI_wL, rA_wI, rA_wL, rL_wI, rL_wA, rA_wss, rA_wn, rA_wsn, rL_wss, rL_wn, rL_wsn, rN_wI, rN_wA, rN_wL]
-- the state behind die
theorem c_die_T {c : rs_T} {V : vw_T} {f t ms : Nat} {T : ts_T} {o a b : Int32} (h : cw_T c V f t T) (hb : tb_ok t T) (hm : rA c 3 f = nI ms) (hms2 : T.2.2.1 ≤ ms) {c0 c1 : rs_T} (hI : ∀ q, ¬ q = 7 → ¬ q = 8 → rI c0 q = rI c q) (h70 : rI c0 7 = 0) (hA : ∀ j x, ¬ j = 10 → rA c0 j x = rA c j x) (hL : ∀ j x, rL c0 j x = rL c j x) (e : c1 = wA (wI c0 6 (nI (t_ht V T.1))) 14 T.1.length 1) : c1_ok c c1 f t (rA c 12 t).toNatClampNeg (max ms (t_die (v_set V t o a b (rA c 12 t).toNatClampNeg) T).2.2.1) ∧ c1_T c1 (v_set V t o a b (rA c 12 t).toNatClampNeg) f t (t_die (v_set V t o a b (rA c 12 t).toNatClampNeg) T) := by
  obtain ⟨h2, h3, h4, h5, h6, h7, h8, hl, hw, hf, hr, hN⟩ := h
  have hv := v_set_eq V t o a b (rA c 12 t).toNatClampNeg
  have hth := lw_ht hw
  unfold t_die
  rw [t_in_eq, ht_view hv hw]
  subst e
  refine ⟨⟨fun q _ _ _ _ _ => ?_, fun j x hj => ?_, fun x hx => ?_, ?_, fun x hx => ?_, ?_, fun j x => ?_⟩, ⟨?_, ?_, ?_, ?_, fun z => absurd rfl z, ?_, ?_⟩⟩
  · simp (disch := omega) only [bn_s, bv_s, bd_s, gb_0, gb_1, rI_ws, rI_wn, rI_wA, rI_wL, rA_wI, rA_wL, rL_wI, rL_wA, rA_wss, rA_wn, rA_wsn, rL_wss, rL_wn, rL_wsn, rN_wI, rN_wA, rN_wL]; exact hI q (by omega) (by omega)
  · simp (disch := omega) only [bn_s, bv_s, bd_s, gb_0, gb_1, rI_ws, rI_wn, rI_wA, rI_wL, rA_wI, rA_wL, rL_wI, rL_wA, rA_wss, rA_wn, rA_wsn, rL_wss, rL_wn, rL_wsn, rN_wI, rN_wA, rN_wL]; exact hA j x (by omega)
  · simp (disch := omega) only [bn_s, bv_s, bd_s, gb_0, gb_1, rI_ws, rI_wn, rI_wA, rI_wL, rA_wI, rA_wL, rL_wI, rL_wA, rA_wss, rA_wn, rA_wsn, rL_wss, rL_wn, rL_wsn, rN_wI, rN_wA, rN_wL]; exact hA 3 x (by decide)
  · simp (disch := omega) only [bn_s, bv_s, bd_s, gb_0, gb_1, rI_ws, rI_wn, rI_wA, rI_wL, rA_wI, rA_wL, rL_wI, rL_wA, rA_wss, rA_wn, rA_wsn, rL_wss, rL_wn, rL_wsn, rN_wI, rN_wA, rN_wL]; rw [hA 3 f (by decide), hm]; rw [max_l (by show t_ht V T.1 ≤ ms; omega)]
  · simp (disch := omega) only [bn_s, bv_s, bd_s, gb_0, gb_1, rI_ws, rI_wn, rI_wA, rI_wL, rA_wI, rA_wL, rL_wI, rL_wA, rA_wss, rA_wn, rA_wsn, rL_wss, rL_wn, rL_wsn, rN_wI, rN_wA, rN_wL]; exact hA 12 x (by decide)
  · simp (disch := omega) only [bn_s, bv_s, bd_s, gb_0, gb_1, rI_ws, rI_wn, rI_wA, rI_wL, rA_wI, rA_wL, rL_wI, rL_wA, rA_wss, rA_wn, rA_wsn, rL_wss, rL_wn, rL_wsn, rN_wI, rN_wA, rN_wL]; rw [hA 12 t (by decide)]
  · simp (disch := omega) only [bn_s, bv_s, bd_s, gb_0, gb_1, rI_ws, rI_wn, rI_wA, rI_wL, rA_wI, rA_wL, rL_wI, rL_wA, rA_wss, rA_wn, rA_wsn, rL_wss, rL_wn, rL_wsn, rN_wI, rN_wA, rN_wL]; exact hL j x
  · simp (disch := omega) only [bn_s, bv_s, bd_s, gb_0, gb_1, rI_ws, rI_wn, rI_wA, rI_wL, rA_wI, rA_wL, rL_wI, rL_wA, rA_wss, rA_wn, rA_wsn, rL_wss, rL_wn, rL_wsn, rN_wI, rN_wA, rN_wL]; rw [hI 3 (by decide) (by decide)]; exact h3
  · simp (disch := omega) only [bn_s, bv_s, bd_s, gb_0, gb_1, rI_ws, rI_wn, rI_wA, rI_wL, rA_wI, rA_wL, rL_wI, rL_wA, rA_wss, rA_wn, rA_wsn, rL_wss, rL_wn, rL_wsn, rN_wI, rN_wA, rN_wL, l_in_len]; rw [hI 5 (by decide) (by decide)]; exact h5
  · simp (disch := omega) only [bn_s, bv_s, bd_s, gb_0, gb_1, rI_ws, rI_wn, rI_wA, rI_wL, rA_wI, rA_wL, rL_wI, rL_wA, rA_wss, rA_wn, rA_wsn, rL_wss, rL_wn, rL_wsn, rN_wI, rN_wA, rN_wL]
  · simp (disch := omega) only [bn_s, bv_s, bd_s, gb_0, gb_1, rI_ws, rI_wn, rI_wA, rI_wL, rA_wI, rA_wL, rL_wI, rL_wA, rA_wss, rA_wn, rA_wsn, rL_wss, rL_wn, rL_wsn, rN_wI, rN_wA, rN_wL]; rw [h70]; exact nI_0.symm
  · refine wc_die (lw_view hv hw) (wc_view hv hw hl) (fun i _ => ?_) (fun i hi => ?_) ?_ (fun j x _ _ hj _ => ?_)
    · simp (disch := omega) only [bn_s, bv_s, bd_s, gb_0, gb_1, rI_ws, rI_wn, rI_wA, rI_wL, rA_wI, rA_wL, rL_wI, rL_wA, rA_wss, rA_wn, rA_wsn, rL_wss, rL_wn, rL_wsn, rN_wI, rN_wA, rN_wL]; exact hA 13 i (by decide)
    · simp (disch := omega) only [bn_s, bv_s, bd_s, gb_0, gb_1, rI_ws, rI_wn, rI_wA, rI_wL, rA_wI, rA_wL, rL_wI, rL_wA, rA_wss, rA_wn, rA_wsn, rL_wss, rL_wn, rL_wsn, rN_wI, rN_wA, rN_wL]; exact hA 14 i (by decide)
    · simp (disch := omega) only [bn_s, bv_s, bd_s, gb_0, gb_1, rI_ws, rI_wn, rI_wA, rI_wL, rA_wI, rA_wL, rL_wI, rL_wA, rA_wss, rA_wn, rA_wsn, rL_wss, rL_wn, rL_wsn, rN_wI, rN_wA, rN_wL]; rfl
    · simp (disch := omega) only [bn_s, bv_s, bd_s, gb_0, gb_1, rI_ws, rI_wn, rI_wA, rI_wL, rA_wI, rA_wL, rL_wI, rL_wA, rA_wss, rA_wn, rA_wsn, rL_wss, rL_wn, rL_wsn, rN_wI, rN_wA, rN_wL]; exact hA j x hj
  · refine lw_in (lw_h (lw_mono (Nat.le_succ t) (Nat.le_refl _) (lw_view hv hw)) ?_)
    rw [ht_view hv hw]
    exact Nat.le_refl _
-- TRAP, RETURN: the label dies
theorem c_p_die {c : rs_T} {V : vw_T} {f t ms : Nat} {o a b : Int32} {T : ts_T} (h : cw_T c V f t T) (hb : tb_ok t T) (hel : T.2.2.2.1 = 0) (hm : rA c 3 f = nI ms) (hms2 : T.2.2.1 ≤ ms) (hno : ¬ o ∈ ([5, 6, 11, 12, 13] : List Int32)) (hnx : t_nx (v_set V t o a b (rA c 12 t).toNatClampNeg) f t T = some (t_die (v_set V t o a b (rA c 12 t).toNatClampNeg) T)) : c_ph c V f t o a b T ms (bv (fx_Wr_die c) (fun st => some (1, st))) := by
  simp only [List.mem_cons, List.not_mem_nil, or_false, not_or] at hno
  have h7 := h.2.2.2.2.2.1
  rw [c_die h hb, bv_s]
  obtain ⟨g1, g2⟩ := c_die_T (o := o) (a := a) (b := b) h hb hm hms2 (c0 := c) (fun _ _ _ => rfl) (by rw [h7, hel]; exact nI_0) (fun _ _ _ => rfl) (fun _ _ => rfl) rfl
  refine Or.inr (Or.inl ⟨_, _, _, rfl, hnx, g1, g2, ?_, fun x => ?_⟩)
  · refine ⟨fun x _ _ => ?_, fun x _ _ => ?_, fun z => ?_, fun z => ?_, fun z => ?_⟩
    · simp (disch := omega) only [bn_s, bv_s, bd_s, gb_0, gb_1, rI_ws, rI_wn, rI_wA, rI_wL, rA_wI, rA_wL, rL_wI, rL_wA, rA_wss, rA_wn, rA_wsn, rL_wss, rL_wn, rL_wsn, rN_wI, rN_wA, rN_wL]
    · simp (disch := omega) only [bn_s, bv_s, bd_s, gb_0, gb_1, rI_ws, rI_wn, rI_wA, rI_wL, rA_wI, rA_wL, rL_wI, rL_wA, rA_wss, rA_wn, rA_wsn, rL_wss, rL_wn, rL_wsn, rN_wI, rN_wA, rN_wL]
    · rw [vs_o] at z
      rcases z with z | z | z
      · exact absurd z hno.2.2.2.1
      · exact absurd z hno.2.2.2.2
      · exact absurd z hno.2.1
    · rw [vs_o] at z; exact absurd z hno.2.2.1
    · rw [vs_o] at z; exact absurd z hno.1
  · simp (disch := omega) only [bn_s, bv_s, bd_s, gb_0, gb_1, rI_ws, rI_wn, rI_wA, rI_wL, rA_wI, rA_wL, rL_wI, rL_wA, rA_wss, rA_wn, rA_wsn, rL_wss, rL_wn, rL_wsn, rN_wI, rN_wA, rN_wL]
theorem c_p_ret {c : rs_T} {V : vw_T} {f t ms : Nat} {a b : Int32} {T : ts_T} (h : cw_T c V f t T) (hb : tb_ok t T) (hel : T.2.2.2.1 = 0) (hm : rA c 3 f = nI ms) (hms2 : T.2.2.1 ≤ ms) (hr8 : v_r V f ≤ 8) : c_ph c V f t 15 a b T ms (fx_Wr_admitsReturn c) := by
  obtain ⟨h2, h3, h4, h5, h6, h7, h8, hl, hw, hf, hr, hN⟩ := id h
  have hnx : ∀ w, t_nx (v_set V t 15 a b w) f t T = bif t_has V T (v_r V f) then some (t_die (v_set V t 15 a b w) T) else none := fun w => by
    unfold t_nx
    rw [vs_o, hel, vs_r]
    simp (decide := true) only [if_true, if_false]
    rw [has_view (v_set_eq ..) hw]
  unfold fx_Wr_admitsReturn
  rw [h3, gd_k (by omega) (by omega), nI_clamp (by omega), hr, c_has h hb (by omega), bn_s]
  cases hh : t_has V T (v_r V f)
  · refine Or.inl ⟨by rw [b2_f, if_pos rfl], fun w => ⟨?_, nf_op (by decide)⟩⟩
    rw [hnx w, hh]; rfl
  · rw [b2_t, if_neg i10]
    exact c_p_die h hb hel hm hms2 (by decide) (by rw [hnx, hh]; rfl)
-- BRANCH
theorem c_p_branch {c : rs_T} {V : vw_T} {f t ms : Nat} {a b : Int32} {T : ts_T} (h : cw_T c V f t T) (hb : tb_ok t T) (hlt : t < rN c 0) (hel : T.2.2.2.1 = 0) (hm : rA c 3 f = nI ms) (hms2 : T.2.2.1 ≤ ms) (hr8 : v_r V f ≤ 8) : c_ph c V f t 12 a b T ms (fx_Wr_admitsBranch a c) := by
  obtain ⟨h2, h3, h4, h5, h6, h7, h8, hl, hw, hf, hr, hN⟩ := id h
  obtain ⟨c1, c2, c3, c4⟩ := id hb
  have hnx : ∀ w, t_nx (v_set V t 12 a b w) f t T = (match t_n a T.1.length with
    | none => none
    | some k => bif t_has V T (t_want V f T.1 k) then some (t_die (v_set V t 12 a b w) T) else none) := fun w => by
    unfold t_nx
    rw [vs_o, vs_a, hel]
    simp (decide := true) only [if_true, if_false]
    cases t_n a T.1.length with
    | none => rfl
    | some k => simp only []; rw [want_view (v_set_eq ..) hw, has_view (v_set_eq ..) hw]
  unfold fx_Wr_admitsBranch
  rcases c_label h hb a with ⟨k, hk, ek, etn, el⟩ | ⟨etn, el⟩
  · have hwl : t_want V f T.1 k ≤ 8 := want_le hw hr8
    rw [el, bn_s, if_neg i10, ek, c_wants h hb hk, bn_s, c_has h hb (by omega), bn_s]
    cases hh : t_has V T (t_want V f T.1 k)
    · refine Or.inl ⟨by rw [b2_f, if_pos rfl], fun w => ⟨?_, nf_op (by decide)⟩⟩
      rw [← ek, hnx w, etn]; simp only []; rw [hh]; rfl
    · rw [b2_t, if_neg i10, h5, nI_pred, nI_sub hk, gd_k (by omega) (by omega), h4, gd_k (by omega) (by omega), nI_clamp (by omega), nI_clamp (by omega)]
      have hd : cw_T (wA c 10 t (rA c 13 (T.1.length - k))) V f t T := by
        refine ⟨?_, ?_, ?_, ?_, ?_, ?_, ?_, ?_, hw, hf, ?_, hN⟩
        · simp (disch := omega) only [bn_s, bv_s, bd_s, gb_0, gb_1, rI_ws, rI_wn, rI_wA, rI_wL, rA_wI, rA_wL, rL_wI, rL_wA, rA_wss, rA_wn, rA_wsn, rL_wss, rL_wn, rL_wsn, rN_wI, rN_wA, rN_wL]; exact h2
        · simp (disch := omega) only [bn_s, bv_s, bd_s, gb_0, gb_1, rI_ws, rI_wn, rI_wA, rI_wL, rA_wI, rA_wL, rL_wI, rL_wA, rA_wss, rA_wn, rA_wsn, rL_wss, rL_wn, rL_wsn, rN_wI, rN_wA, rN_wL]; exact h3
        · simp (disch := omega) only [bn_s, bv_s, bd_s, gb_0, gb_1, rI_ws, rI_wn, rI_wA, rI_wL, rA_wI, rA_wL, rL_wI, rL_wA, rA_wss, rA_wn, rA_wsn, rL_wss, rL_wn, rL_wsn, rN_wI, rN_wA, rN_wL]; exact h4
        · simp (disch := omega) only [bn_s, bv_s, bd_s, gb_0, gb_1, rI_ws, rI_wn, rI_wA, rI_wL, rA_wI, rA_wL, rL_wI, rL_wA, rA_wss, rA_wn, rA_wsn, rL_wss, rL_wn, rL_wsn, rN_wI, rN_wA, rN_wL]; exact h5
        · simp (disch := omega) only [bn_s, bv_s, bd_s, gb_0, gb_1, rI_ws, rI_wn, rI_wA, rI_wL, rA_wI, rA_wL, rL_wI, rL_wA, rA_wss, rA_wn, rA_wsn, rL_wss, rL_wn, rL_wsn, rN_wI, rN_wA, rN_wL]; exact h6
        · simp (disch := omega) only [bn_s, bv_s, bd_s, gb_0, gb_1, rI_ws, rI_wn, rI_wA, rI_wL, rA_wI, rA_wL, rL_wI, rL_wA, rA_wss, rA_wn, rA_wsn, rL_wss, rL_wn, rL_wsn, rN_wI, rN_wA, rN_wL]; exact h7
        · simp (disch := omega) only [bn_s, bv_s, bd_s, gb_0, gb_1, rI_ws, rI_wn, rI_wA, rI_wL, rA_wI, rA_wL, rL_wI, rL_wA, rA_wss, rA_wn, rA_wsn, rL_wss, rL_wn, rL_wsn, rN_wI, rN_wA, rN_wL]; exact h8
        · refine wc_keep hw (fun j i _ _ _ => ?_) (fun j x _ _ _ _ => ?_) hl
          · simp (disch := omega) only [bn_s, bv_s, bd_s, gb_0, gb_1, rI_ws, rI_wn, rI_wA, rI_wL, rA_wI, rA_wL, rL_wI, rL_wA, rA_wss, rA_wn, rA_wsn, rL_wss, rL_wn, rL_wsn, rN_wI, rN_wA, rN_wL]
          · simp (disch := omega) only [bn_s, bv_s, bd_s, gb_0, gb_1, rI_ws, rI_wn, rI_wA, rI_wL, rA_wI, rA_wL, rL_wI, rL_wA, rA_wss, rA_wn, rA_wsn, rL_wss, rL_wn, rL_wsn, rN_wI, rN_wA, rN_wL]
        · simp (disch := omega) only [bn_s, bv_s, bd_s, gb_0, gb_1, rI_ws, rI_wn, rI_wA, rI_wL, rA_wI, rA_wL, rL_wI, rL_wA, rA_wss, rA_wn, rA_wsn, rL_wss, rL_wn, rL_wsn, rN_wI, rN_wA, rN_wL]; exact hr
      rw [c_die hd hb, bv_s]
      obtain ⟨g1, g2⟩ := c_die_T (o := 12) (a := nI k) (b := b) h hb hm hms2 (c0 := wA c 10 t (rA c 13 (T.1.length - k))) (fun q _ _ => by simp (disch := omega) only [bn_s, bv_s, bd_s, gb_0, gb_1, rI_ws, rI_wn, rI_wA, rI_wL, rA_wI, rA_wL, rL_wI, rL_wA, rA_wss, rA_wn, rA_wsn, rL_wss, rL_wn, rL_wsn, rN_wI, rN_wA, rN_wL]) (by simp (disch := omega) only [bn_s, bv_s, bd_s, gb_0, gb_1, rI_ws, rI_wn, rI_wA, rI_wL, rA_wI, rA_wL, rL_wI, rL_wA, rA_wss, rA_wn, rA_wsn, rL_wss, rL_wn, rL_wsn, rN_wI, rN_wA, rN_wL]; rw [h7, hel]; exact nI_0) (fun j x hj => by simp (disch := omega) only [bn_s, bv_s, bd_s, gb_0, gb_1, rI_ws, rI_wn, rI_wA, rI_wL, rA_wI, rA_wL, rL_wI, rL_wA, rA_wss, rA_wn, rA_wsn, rL_wss, rL_wn, rL_wsn, rN_wI, rN_wA, rN_wL]) (fun j x => by simp (disch := omega) only [bn_s, bv_s, bd_s, gb_0, gb_1, rI_ws, rI_wn, rI_wA, rI_wL, rA_wI, rA_wL, rL_wI, rL_wA, rA_wss, rA_wn, rA_wsn, rL_wss, rL_wn, rL_wsn, rN_wI, rN_wA, rN_wL]) rfl
      refine Or.inr (Or.inl ⟨_, _, _, rfl, ?_, g1, g2, ?_, fun x => ?_⟩)
      · rw [← ek, hnx _, etn]; simp only []; rw [hh]; rfl
      · refine ⟨fun x hx _ => ?_, fun x _ _ => ?_, fun _ k' hk' => ?_, fun z => ?_, fun z => ?_⟩
        · simp (disch := omega) only [bn_s, bv_s, bd_s, gb_0, gb_1, rI_ws, rI_wn, rI_wA, rI_wL, rA_wI, rA_wL, rL_wI, rL_wA, rA_wss, rA_wn, rA_wsn, rL_wss, rL_wn, rL_wsn, rN_wI, rN_wA, rN_wL]
        · simp (disch := omega) only [bn_s, bv_s, bd_s, gb_0, gb_1, rI_ws, rI_wn, rI_wA, rI_wL, rA_wI, rA_wL, rL_wI, rL_wA, rA_wss, rA_wn, rA_wsn, rL_wss, rL_wn, rL_wsn, rN_wI, rN_wA, rN_wL]
        · rw [vs_a, ← ek, etn] at hk'
          cases hk'
          unfold lk_br
          simp (disch := omega) only [bn_s, bv_s, bd_s, gb_0, gb_1, rI_ws, rI_wn, rI_wA, rI_wL, rA_wI, rA_wL, rL_wI, rL_wA, rA_wss, rA_wn, rA_wsn, rL_wss, rL_wn, rL_wsn, rN_wI, rN_wA, rN_wL]
          exact wc_get hl k hk
        · rw [vs_o] at z; exact absurd z (by decide)
        · rw [vs_o] at z; exact absurd z (by decide)
      · simp (disch := omega) only [bn_s, bv_s, bd_s, gb_0, gb_1, rI_ws, rI_wn, rI_wA, rI_wL, rA_wI, rA_wL, rL_wI, rL_wA, rA_wss, rA_wn, rA_wsn, rL_wss, rL_wn, rL_wsn, rN_wI, rN_wA, rN_wL]
  · rw [el, bn_s, if_pos rfl]
    refine Or.inl ⟨rfl, fun w => ⟨?_, nf_op (by decide)⟩⟩
    rw [hnx w, etn]
