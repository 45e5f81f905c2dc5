-- BRANCH_IF
theorem c_p_brif {c : rs_T} {V : vw_T} {f t ms : Nat} {a b : Int32} {T : ts_T} (h : cw_T c V f t T) (hb : tb_ok t T) (hlt : t < rN c 0) (hel : T.2.2.2.1 = 0) (hm : rA c 3 f = nI ms) (hms : ms < 100000) (hr8 : v_r V f ≤ 8) : c_ph c V f t 13 a b T ms (fx_Wr_admitsBranchIf a c) := by
  obtain ⟨h2, h3, h4, h5, h6, h7, h8, hl, hw, hf, hr, hN⟩ := id h
  obtain ⟨c1, c2, c3, c4⟩ := id hb
  have hnx : ∀ w, t_nx (v_set V t 13 a b w) f t T = (match t_n a T.1.length with
    | none => none
    | some k => t_tu (v_set V t 13 a b w) T (t_want V f T.1 k + 1) (t_want V f T.1 k)) := fun w => by
    unfold t_nx
    rw [vs_o, vs_a, hel]
    simp (decide := true) only [if_true, if_false]
    cases t_n a T.1.length with
    | none => rfl
    | some k => simp only []; rw [want_view (v_set_eq ..) hw]
  unfold fx_Wr_admitsBranchIf
  rcases c_label h hb a with ⟨k, hk, ek, etn, el⟩ | ⟨etn, el⟩
  · have hwl : t_want V f T.1 k ≤ 8 := want_le hw hr8
    rw [el, bn_s, if_neg i10, ek, c_wants h hb hk, bn_s, c_wants h hb hk, bn_s, nI_1, c_ex h hb (by omega) (by omega) hm hms]
    cases hh : t_has V T (t_want V f T.1 k + 1)
    · rw [cond_false, bn_s, if_pos rfl]
      refine Or.inl ⟨rfl, fun w => ⟨?_, nf_op (by decide)⟩⟩
      rw [← ek, hnx w, etn]; simp only []; rw [t_tu, has_view (v_set_eq ..) hw, hh]; rfl
    · rw [cond_true, bn_s, if_neg i10]
      obtain ⟨g1, g2⟩ := c_ex_T (o := 13) (a := nI k) (b := b) (n := t_want V f T.1 k + 1) (k := t_want V f T.1 k) h hb hel hm rfl
      generalize hc1 : wA (wI (wI c 6 (nI (t_tk V T (t_want V f T.1 k + 1)))) 6 (nI (t_tk V T (t_want V f T.1 k + 1) + t_want V f T.1 k))) 3 f (nI (max ms (t_tk V T (t_want V f T.1 k + 1) + t_want V f T.1 k))) = c1 at g1 g2 ⊢
      have k5 : rI c1 5 = nI (T.1.length + 1) := g2.2.1
      have k4 : rI c1 4 = nI t := by rw [g1.1 4 (by decide) (by decide) (by decide) (by decide) (by decide)]; exact h4
      have k13 : ∀ i, rA c1 13 i = rA c 13 i := fun i => by rw [← hc1]; simp (disch := omega) only [bn_s, bv_s, bd_s, gb_0, gb_1, rI_ws, rI_wn, rI_wA, rI_wL, rA_wI, rA_wL, rL_wI, rL_wA, rA_wss, rA_wn, rA_wsn, rL_wss, rL_wn, rL_wsn, rN_wI, rN_wA, rN_wL]
      have k11 : ∀ i, rA c1 11 i = rA c 11 i := fun i => by rw [← hc1]; simp (disch := omega) only [bn_s, bv_s, bd_s, gb_0, gb_1, rI_ws, rI_wn, rI_wA, rI_wL, rA_wI, rA_wL, rL_wI, rL_wA, rA_wss, rA_wn, rA_wsn, rL_wss, rL_wn, rL_wsn, rN_wI, rN_wA, rN_wL]
      have k10 : ∀ i, rA c1 10 i = rA c 10 i := fun i => by rw [← hc1]; simp (disch := omega) only [bn_s, bv_s, bd_s, gb_0, gb_1, rI_ws, rI_wn, rI_wA, rI_wL, rA_wI, rA_wL, rL_wI, rL_wA, rA_wss, rA_wn, rA_wsn, rL_wss, rL_wn, rL_wsn, rN_wI, rN_wA, rN_wL]
      have k50 : ∀ i, rA c1 5 i = rA c 5 i := fun i => by rw [← hc1]; simp (disch := omega) only [bn_s, bv_s, bd_s, gb_0, gb_1, rI_ws, rI_wn, rI_wA, rI_wL, rA_wI, rA_wL, rL_wI, rL_wA, rA_wss, rA_wn, rA_wsn, rL_wss, rL_wn, rL_wsn, rN_wI, rN_wA, rN_wL]
      have kN0 : rN c1 0 = rN c 0 := by rw [← hc1]; rfl
      have kN1 : rN c1 1 = rN c 1 := by rw [← hc1]; rfl
      have hwv := g2.2.2.2.2.2.2
      rw [k5, nI_pred, nI_sub hk, gd_k (by omega) (by omega), k4, gd_k (by omega) (by omega), nI_clamp (by omega), nI_clamp (by omega), k13]
      refine Or.inr (Or.inl ⟨_, (T.1, T.2.1, t_tk V T (t_want V f T.1 k + 1) + t_want V f T.1 k, 0, none), (rA c 12 t).toNatClampNeg, rfl, ?_, ?_, ?_, ?_, fun x => ?_⟩)
      · rw [← ek, hnx _, etn]; simp only []; rw [t_tu, has_view (v_set_eq ..) hw, hh, tk_view (v_set_eq ..) hw]; rfl
      · obtain ⟨q1, q2, q3, q4, q5, q6, q7⟩ := g1
        refine ⟨fun q y1 y2 y3 y4 y5 => ?_, fun j x hj => ?_, fun x hx => ?_, ?_, fun x hx => ?_, ?_, fun j x => ?_⟩
        · simp (disch := omega) only [bn_s, bv_s, bd_s, gb_0, gb_1, rI_ws, rI_wn, rI_wA, rI_wL, rA_wI, rA_wL, rL_wI, rL_wA, rA_wss, rA_wn, rA_wsn, rL_wss, rL_wn, rL_wsn, rN_wI, rN_wA, rN_wL]; exact q1 q y1 y2 y3 y4 y5
        · simp (disch := omega) only [bn_s, bv_s, bd_s, gb_0, gb_1, rI_ws, rI_wn, rI_wA, rI_wL, rA_wI, rA_wL, rL_wI, rL_wA, rA_wss, rA_wn, rA_wsn, rL_wss, rL_wn, rL_wsn, rN_wI, rN_wA, rN_wL]; exact q2 j x hj
        · simp (disch := omega) only [bn_s, bv_s, bd_s, gb_0, gb_1, rI_ws, rI_wn, rI_wA, rI_wL, rA_wI, rA_wL, rL_wI, rL_wA, rA_wss, rA_wn, rA_wsn, rL_wss, rL_wn, rL_wsn, rN_wI, rN_wA, rN_wL]; exact q3 x hx
        · simp (disch := omega) only [bn_s, bv_s, bd_s, gb_0, gb_1, rI_ws, rI_wn, rI_wA, rI_wL, rA_wI, rA_wL, rL_wI, rL_wA, rA_wss, rA_wn, rA_wsn, rL_wss, rL_wn, rL_wsn, rN_wI, rN_wA, rN_wL]; exact q4
        · simp (disch := omega) only [bn_s, bv_s, bd_s, gb_0, gb_1, rI_ws, rI_wn, rI_wA, rI_wL, rA_wI, rA_wL, rL_wI, rL_wA, rA_wss, rA_wn, rA_wsn, rL_wss, rL_wn, rL_wsn, rN_wI, rN_wA, rN_wL]; exact q5 x hx
        · simp (disch := omega) only [bn_s, bv_s, bd_s, gb_0, gb_1, rI_ws, rI_wn, rI_wA, rI_wL, rA_wI, rA_wL, rL_wI, rL_wA, rA_wss, rA_wn, rA_wsn, rL_wss, rL_wn, rL_wsn, rN_wI, rN_wA, rN_wL]; exact q6
        · simp (disch := omega) only [bn_s, bv_s, bd_s, gb_0, gb_1, rI_ws, rI_wn, rI_wA, rI_wL, rA_wI, rA_wL, rL_wI, rL_wA, rA_wss, rA_wn, rA_wsn, rL_wss, rL_wn, rL_wsn, rN_wI, rN_wA, rN_wL]; exact q7 j x
      · obtain ⟨q1, q2, q3, q4, q5, q6, q7⟩ := g2
        refine ⟨?_, ?_, ?_, ?_, fun z => absurd rfl z, ?_, q7⟩
        · simp (disch := omega) only [bn_s, bv_s, bd_s, gb_0, gb_1, rI_ws, rI_wn, rI_wA, rI_wL, rA_wI, rA_wL, rL_wI, rL_wA, rA_wss, rA_wn, rA_wsn, rL_wss, rL_wn, rL_wsn, rN_wI, rN_wA, rN_wL]; exact q1
        · simp (disch := omega) only [bn_s, bv_s, bd_s, gb_0, gb_1, rI_ws, rI_wn, rI_wA, rI_wL, rA_wI, rA_wL, rL_wI, rL_wA, rA_wss, rA_wn, rA_wsn, rL_wss, rL_wn, rL_wsn, rN_wI, rN_wA, rN_wL]; exact q2
        · simp (disch := omega) only [bn_s, bv_s, bd_s, gb_0, gb_1, rI_ws, rI_wn, rI_wA, rI_wL, rA_wI, rA_wL, rL_wI, rL_wA, rA_wss, rA_wn, rA_wsn, rL_wss, rL_wn, rL_wsn, rN_wI, rN_wA, rN_wL]; exact q3
        · simp (disch := omega) only [bn_s, bv_s, bd_s, gb_0, gb_1, rI_ws, rI_wn, rI_wA, rI_wL, rA_wI, rA_wL, rL_wI, rL_wA, rA_wss, rA_wn, rA_wsn, rL_wss, rL_wn, rL_wsn, rN_wI, rN_wA, rN_wL]; exact q4
        · refine wc_keep q7 (fun j i _ _ _ => ?_) (fun j x _ _ _ _ => ?_) q6
          · simp (disch := omega) only [bn_s, bv_s, bd_s, gb_0, gb_1, rI_ws, rI_wn, rI_wA, rI_wL, rA_wI, rA_wL, rL_wI, rL_wA, rA_wss, rA_wn, rA_wsn, rL_wss, rL_wn, rL_wsn, rN_wI, rN_wA, rN_wL]
          · simp (disch := omega) only [bn_s, bv_s, bd_s, gb_0, gb_1, rI_ws, rI_wn, rI_wA, rI_wL, rA_wI, rA_wL, rL_wI, rL_wA, rA_wss, rA_wn, rA_wsn, rL_wss, rL_wn, rL_wsn, rN_wI, rN_wA, rN_wL]
      · refine ⟨fun x hx _ => ?_, fun x _ _ => ?_, fun _ k' hk' => ?_, fun z => ?_, fun z => ?_⟩
        · simp (disch := omega) only [bn_s, bv_s, bd_s, gb_0, gb_1, rI_ws, rI_wn, rI_wA, rI_wL, rA_wI, rA_wL, rL_wI, rL_wA, rA_wss, rA_wn, rA_wsn, rL_wss, rL_wn, rL_wsn, rN_wI, rN_wA, rN_wL]; exact k10 x
        · simp (disch := omega) only [bn_s, bv_s, bd_s, gb_0, gb_1, rI_ws, rI_wn, rI_wA, rI_wL, rA_wI, rA_wL, rL_wI, rL_wA, rA_wss, rA_wn, rA_wsn, rL_wss, rL_wn, rL_wsn, rN_wI, rN_wA, rN_wL]; exact k11 x
        · rw [vs_a, ← ek, etn] at hk'
          cases hk'
          unfold lk_br
          simp (disch := omega) only [bn_s, bv_s, bd_s, gb_0, gb_1, rI_ws, rI_wn, rI_wA, rI_wL, rA_wI, rA_wL, rL_wI, rL_wA, rA_wss, rA_wn, rA_wsn, rL_wss, rL_wn, rL_wsn, rN_wI, rN_wA, rN_wL]
          exact wc_get hl k hk
        · rw [vs_o] at z; exact absurd z (by decide)
        · rw [vs_o] at z; exact absurd z (by decide)
      · simp (disch := omega) only [bn_s, bv_s, bd_s, gb_0, gb_1, rI_ws, rI_wn, rI_wA, rI_wL, rA_wI, rA_wL, rL_wI, rL_wA, rA_wss, rA_wn, rA_wsn, rL_wss, rL_wn, rL_wsn, rN_wI, rN_wA, rN_wL]; exact k50 x
  · rw [el, bn_s, if_pos rfl]
    refine Or.inl ⟨rfl, fun w => ⟨?_, nf_op (by decide)⟩⟩
    rw [hnx w, etn]
-- TABLE
theorem c_p_table {c : rs_T} {V : vw_T} {f t ms : Nat} {a b : Int32} {T : ts_T} (h : cw_T c V f t T) (hb : tb_ok t T) (hel : T.2.2.2.1 = 0) (hm : rA c 3 f = nI ms) (hms : ms < 100000) : c_ph c V f t 14 a b T ms (fx_Wr_admitsTable a c) := by
  obtain ⟨h2, h3, h4, h5, h6, h7, h8, hl, hw, hf, hr, hN⟩ := id h
  have hnx : ∀ w, t_nx (v_set V t 14 a b w) f t T = (match t_n a 20 with
    | none => none
    | some k => bif t_has V T 1 then some (T.1, T.2.1, t_tk V T 1, k + 1, none) else none) := fun w => by
    unfold t_nx
    rw [vs_o, vs_a, hel]
    simp (decide := true) only [if_true, if_false]
    cases t_n a 20 with
    | none => rfl
    | some k => simp only []; rw [has_view (v_set_eq ..) hw, tk_view (v_set_eq ..) hw]
  unfold fx_Wr_admitsTable
  rcases wi_C a 20 (by omega) c with ⟨j, hj, e1, e2⟩ | ⟨e1, e2⟩
  · have e20 : fx_Ma_isWithin a 20 c = some (1, c) := e2
    have eex : fx_Wr_exchanges 1 0 c = _ := c_ex (n := 1) (k := 0) h hb (by omega) (by omega) hm hms
    rw [e20, bn_s, if_neg i10, eex]
    cases hh : t_has V T 1
    · rw [cond_false, bn_s, if_pos rfl]
      refine Or.inl ⟨rfl, fun w => ⟨?_, nf_op (by decide)⟩⟩
      rw [hnx w, e1, t_n_nI (by omega) hj]; simp only []; rw [hh]; rfl
    · rw [cond_true, bn_s, if_neg i10]
      obtain ⟨g1, g2⟩ := c_ex_T (o := 14) (a := a) (b := b) (n := 1) (k := 0) h hb hel hm rfl
      have hv := v_set_eq V t 14 a b (rA c 12 t).toNatClampNeg
      generalize hc1 : wA (wI (wI c 6 (nI (t_tk V T 1))) 6 (nI (t_tk V T 1 + 0))) 3 f (nI (max ms (t_tk V T 1 + 0))) = c1 at g1 g2 ⊢
      have k11 : ∀ i, rA c1 11 i = rA c 11 i := fun i => by rw [← hc1]; simp (disch := omega) only [bn_s, bv_s, bd_s, gb_0, gb_1, rI_ws, rI_wn, rI_wA, rI_wL, rA_wI, rA_wL, rL_wI, rL_wA, rA_wss, rA_wn, rA_wsn, rL_wss, rL_wn, rL_wsn, rN_wI, rN_wA, rN_wL]
      have k10 : ∀ i, rA c1 10 i = rA c 10 i := fun i => by rw [← hc1]; simp (disch := omega) only [bn_s, bv_s, bd_s, gb_0, gb_1, rI_ws, rI_wn, rI_wA, rI_wL, rA_wI, rA_wL, rL_wI, rL_wA, rA_wss, rA_wn, rA_wsn, rL_wss, rL_wn, rL_wsn, rN_wI, rN_wA, rN_wL]
      have k50 : ∀ i, rA c1 5 i = rA c 5 i := fun i => by rw [← hc1]; simp (disch := omega) only [bn_s, bv_s, bd_s, gb_0, gb_1, rI_ws, rI_wn, rI_wA, rI_wL, rA_wI, rA_wL, rL_wI, rL_wA, rA_wss, rA_wn, rA_wsn, rL_wss, rL_wn, rL_wsn, rN_wI, rN_wA, rN_wL]
      refine Or.inr (Or.inl ⟨_, (T.1, T.2.1, t_tk V T 1, j + 1, none), (rA c 12 t).toNatClampNeg, rfl, ?_, ?_, ?_, ?_, fun x => ?_⟩)
      · rw [hnx _, e1, t_n_nI (by omega) hj]; simp only []; rw [hh]; rfl
      · obtain ⟨q1, q2, q3, q4, q5, q6, q7⟩ := g1
        refine ⟨fun q y1 y2 y3 y4 y5 => ?_, fun j x hj => ?_, fun x hx => ?_, ?_, fun x hx => ?_, ?_, fun j x => ?_⟩
        · simp (disch := omega) only [bn_s, bv_s, bd_s, gb_0, gb_1, rI_ws, rI_wn, rI_wA, rI_wL, rA_wI, rA_wL, rL_wI, rL_wA, rA_wss, rA_wn, rA_wsn, rL_wss, rL_wn, rL_wsn, rN_wI, rN_wA, rN_wL]; exact q1 q y1 y2 y3 y4 y5
        · simp (disch := omega) only [bn_s, bv_s, bd_s, gb_0, gb_1, rI_ws, rI_wn, rI_wA, rI_wL, rA_wI, rA_wL, rL_wI, rL_wA, rA_wss, rA_wn, rA_wsn, rL_wss, rL_wn, rL_wsn, rN_wI, rN_wA, rN_wL]; exact q2 j x hj
        · simp (disch := omega) only [bn_s, bv_s, bd_s, gb_0, gb_1, rI_ws, rI_wn, rI_wA, rI_wL, rA_wI, rA_wL, rL_wI, rL_wA, rA_wss, rA_wn, rA_wsn, rL_wss, rL_wn, rL_wsn, rN_wI, rN_wA, rN_wL]; exact q3 x hx
        · simp (disch := omega) only [bn_s, bv_s, bd_s, gb_0, gb_1, rI_ws, rI_wn, rI_wA, rI_wL, rA_wI, rA_wL, rL_wI, rL_wA, rA_wss, rA_wn, rA_wsn, rL_wss, rL_wn, rL_wsn, rN_wI, rN_wA, rN_wL]; exact q4
        · simp (disch := omega) only [bn_s, bv_s, bd_s, gb_0, gb_1, rI_ws, rI_wn, rI_wA, rI_wL, rA_wI, rA_wL, rL_wI, rL_wA, rA_wss, rA_wn, rA_wsn, rL_wss, rL_wn, rL_wsn, rN_wI, rN_wA, rN_wL]; exact q5 x hx
        · simp (disch := omega) only [bn_s, bv_s, bd_s, gb_0, gb_1, rI_ws, rI_wn, rI_wA, rI_wL, rA_wI, rA_wL, rL_wI, rL_wA, rA_wss, rA_wn, rA_wsn, rL_wss, rL_wn, rL_wsn, rN_wI, rN_wA, rN_wL]; exact q6
        · simp (disch := omega) only [bn_s, bv_s, bd_s, gb_0, gb_1, rI_ws, rI_wn, rI_wA, rI_wL, rA_wI, rA_wL, rL_wI, rL_wA, rA_wss, rA_wn, rA_wsn, rL_wss, rL_wn, rL_wsn, rN_wI, rN_wA, rN_wL]; exact q7 j x
      · obtain ⟨q1, q2, q3, q4, q5, q6, q7⟩ := g2
        refine ⟨?_, ?_, ?_, ?_, fun _ => ?_, ?_, q7⟩
        · simp (disch := omega) only [bn_s, bv_s, bd_s, gb_0, gb_1, rI_ws, rI_wn, rI_wA, rI_wL, rA_wI, rA_wL, rL_wI, rL_wA, rA_wss, rA_wn, rA_wsn, rL_wss, rL_wn, rL_wsn, rN_wI, rN_wA, rN_wL]; exact q1
        · simp (disch := omega) only [bn_s, bv_s, bd_s, gb_0, gb_1, rI_ws, rI_wn, rI_wA, rI_wL, rA_wI, rA_wL, rL_wI, rL_wA, rA_wss, rA_wn, rA_wsn, rL_wss, rL_wn, rL_wsn, rN_wI, rN_wA, rN_wL]; exact q2
        · simp (disch := omega) only [bn_s, bv_s, bd_s, gb_0, gb_1, rI_ws, rI_wn, rI_wA, rI_wL, rA_wI, rA_wL, rL_wI, rL_wA, rA_wss, rA_wn, rA_wsn, rL_wss, rL_wn, rL_wsn, rN_wI, rN_wA, rN_wL]; exact q3
        · simp (disch := omega) only [bn_s, bv_s, bd_s, gb_0, gb_1, rI_ws, rI_wn, rI_wA, rI_wL, rA_wI, rA_wL, rL_wI, rL_wA, rA_wss, rA_wn, rA_wsn, rL_wss, rL_wn, rL_wsn, rN_wI, rN_wA, rN_wL]; rw [e1]; exact nI_1 j
        · show rI _ 8 = -1
          simp (disch := omega) only [bn_s, bv_s, bd_s, gb_0, gb_1, rI_ws, rI_wn, rI_wA, rI_wL, rA_wI, rA_wL, rL_wI, rL_wA, rA_wss, rA_wn, rA_wsn, rL_wss, rL_wn, rL_wsn, rN_wI, rN_wA, rN_wL]
        · refine wc_keep q7 (fun j i _ _ _ => ?_) (fun j x _ _ _ _ => ?_) q6
          · simp (disch := omega) only [bn_s, bv_s, bd_s, gb_0, gb_1, rI_ws, rI_wn, rI_wA, rI_wL, rA_wI, rA_wL, rL_wI, rL_wA, rA_wss, rA_wn, rA_wsn, rL_wss, rL_wn, rL_wsn, rN_wI, rN_wA, rN_wL]
          · simp (disch := omega) only [bn_s, bv_s, bd_s, gb_0, gb_1, rI_ws, rI_wn, rI_wA, rI_wL, rA_wI, rA_wL, rL_wI, rL_wA, rA_wss, rA_wn, rA_wsn, rL_wss, rL_wn, rL_wsn, rN_wI, rN_wA, rN_wL]
      · refine ⟨fun x hx _ => ?_, fun x _ _ => ?_, fun z => ?_, fun z => ?_, fun z => ?_⟩
        · simp (disch := omega) only [bn_s, bv_s, bd_s, gb_0, gb_1, rI_ws, rI_wn, rI_wA, rI_wL, rA_wI, rA_wL, rL_wI, rL_wA, rA_wss, rA_wn, rA_wsn, rL_wss, rL_wn, rL_wsn, rN_wI, rN_wA, rN_wL]; exact k10 x
        · simp (disch := omega) only [bn_s, bv_s, bd_s, gb_0, gb_1, rI_ws, rI_wn, rI_wA, rI_wL, rA_wI, rA_wL, rL_wI, rL_wA, rA_wss, rA_wn, rA_wsn, rL_wss, rL_wn, rL_wsn, rN_wI, rN_wA, rN_wL]; exact k11 x
        · rw [vs_o] at z; exact absurd z (by decide)
        · rw [vs_o] at z; exact absurd z (by decide)
        · rw [vs_o] at z; exact absurd z (by decide)
      · simp (disch := omega) only [bn_s, bv_s, bd_s, gb_0, gb_1, rI_ws, rI_wn, rI_wA, rI_wL, rA_wI, rA_wL, rL_wI, rL_wA, rA_wss, rA_wn, rA_wsn, rL_wss, rL_wn, rL_wsn, rN_wI, rN_wA, rN_wL]; exact k50 x
  · have e20 : fx_Ma_isWithin a 20 c = some (0, c) := e2
    rw [e20, bn_s, if_pos rfl]
    refine Or.inl ⟨rfl, fun w => ⟨?_, nf_op (by decide)⟩⟩
    rw [hnx w, t_n_none e1 (by omega)]
-- ENTRY
theorem c_p_entry {c : rs_T} {V : vw_T} {f t ms : Nat} {a b : Int32} {T : ts_T} (h : cw_T c V f t T) (hb : tb_ok t T) (hlt : t < rN c 0) (hel : ¬ T.2.2.2.1 = 0) (hm : rA c 3 f = nI ms) (hms2 : T.2.2.1 ≤ ms) (hr8 : v_r V f ≤ 8) (hfirst : ∀ x, T.2.2.2.2 = some x → t_has V T x = true) : c_ph c V f t 6 a b T ms (fx_Wr_admitsTableEntry a c) := by
  obtain ⟨h2, h3, h4, h5, h6, h7, h8, hl, hw, hf, hr, hN⟩ := id h
  obtain ⟨c1, c2, c3, c4⟩ := id hb
  have hnx : ∀ w, t_nx (v_set V t 6 a b w) f t T = t_entry (v_set V t 6 a b w) f t T := fun w => by
    unfold t_nx
    rw [vs_o, if_pos rfl, if_neg hel]
  unfold fx_Wr_admitsTableEntry
  rcases c_label h hb a with ⟨k, hk, ek, etn, el⟩ | ⟨etn, el⟩
  · have hwl : t_want V f T.1 k ≤ 8 := want_le hw hr8
    have hent0 : ∀ w, t_entry (v_set V t 6 a b w) f t T = bif (match T.2.2.2.2 with
        | none => t_has V T (t_want V f T.1 k)
        | some x => decide (t_want V f T.1 k = x)) then (if T.2.2.2.1 = 1 then some (t_die (v_set V t 6 a b w) T) else some (T.1, T.2.1, T.2.2.1, T.2.2.2.1 - 1, some (t_want V f T.1 k))) else none := fun w => by
      have hv := v_set_eq V t 6 a b w
      unfold t_entry
      rw [vs_a, etn]
      simp only []
      rw [want_view hv hw, has_view hv hw]
      cases T.2.2.2.2 <;> rfl
    rw [el, bn_s, if_neg i10, ek, c_wants h hb hk, bn_s, c_has h hb (by omega), bn_s]
    have hacc : (∀ w, t_entry (v_set V t 6 a b w) f t T = if T.2.2.2.1 = 1 then some (t_die (v_set V t 6 a b w) T) else some (T.1, T.2.1, T.2.2.1, T.2.2.2.1 - 1, some (t_want V f T.1 k))) → c_ph c V f t 6 (nI k) b T ms (fx_Wr_admitsTableEntry_b47 (nI k) (nI (t_want V f T.1 k)) c) := fun hent => by
      unfold fx_Wr_admitsTableEntry_b47
      have esub : nI T.2.2.2.1 - 1 = nI (T.2.2.2.1 - 1) := nI_sub (b := 1) (by omega)
      rw [h5, nI_pred, nI_sub hk, gd_k (by omega) (by omega), h4, gd_k (by omega) (by omega), nI_clamp (by omega), nI_clamp (by omega), h7, esub]
      by_cases e1 : T.2.2.2.1 = 1
      · rw [if_pos (by rw [e1]; rfl)]
        have hd : cw_T (wI (wI (wA c 10 t (rA c 13 (T.1.length - k))) 8 (nI (t_want V f T.1 k))) 7 (nI (T.2.2.2.1 - 1))) V f t (T.1, T.2.1, T.2.2.1, 0, none) := by
          refine ⟨?_, ?_, ?_, ?_, ?_, ?_, fun z => absurd rfl z, ?_, hw, hf, ?_, hN⟩
          · simp (disch := omega) only [bn_s, bv_s, bd_s, gb_0, gb_1, rI_ws, rI_wn, rI_wA, rI_wL, rA_wI, rA_wL, rL_wI, rL_wA, rA_wss, rA_wn, rA_wsn, rL_wss, rL_wn, rL_wsn, rN_wI, rN_wA, rN_wL]; exact h2
          · simp (disch := omega) only [bn_s, bv_s, bd_s, gb_0, gb_1, rI_ws, rI_wn, rI_wA, rI_wL, rA_wI, rA_wL, rL_wI, rL_wA, rA_wss, rA_wn, rA_wsn, rL_wss, rL_wn, rL_wsn, rN_wI, rN_wA, rN_wL]; exact h3
          · simp (disch := omega) only [bn_s, bv_s, bd_s, gb_0, gb_1, rI_ws, rI_wn, rI_wA, rI_wL, rA_wI, rA_wL, rL_wI, rL_wA, rA_wss, rA_wn, rA_wsn, rL_wss, rL_wn, rL_wsn, rN_wI, rN_wA, rN_wL]; exact h4
          · simp (disch := omega) only [bn_s, bv_s, bd_s, gb_0, gb_1, rI_ws, rI_wn, rI_wA, rI_wL, rA_wI, rA_wL, rL_wI, rL_wA, rA_wss, rA_wn, rA_wsn, rL_wss, rL_wn, rL_wsn, rN_wI, rN_wA, rN_wL]; exact h5
          · simp (disch := omega) only [bn_s, bv_s, bd_s, gb_0, gb_1, rI_ws, rI_wn, rI_wA, rI_wL, rA_wI, rA_wL, rL_wI, rL_wA, rA_wss, rA_wn, rA_wsn, rL_wss, rL_wn, rL_wsn, rN_wI, rN_wA, rN_wL]; exact h6
          · simp (disch := omega) only [bn_s, bv_s, bd_s, gb_0, gb_1, rI_ws, rI_wn, rI_wA, rI_wL, rA_wI, rA_wL, rL_wI, rL_wA, rA_wss, rA_wn, rA_wsn, rL_wss, rL_wn, rL_wsn, rN_wI, rN_wA, rN_wL]; rw [e1]
          · refine wc_keep hw (fun j i _ _ _ => ?_) (fun j x _ _ _ _ => ?_) hl
            · simp (disch := omega) only [bn_s, bv_s, bd_s, gb_0, gb_1, rI_ws, rI_wn, rI_wA, rI_wL, rA_wI, rA_wL, rL_wI, rL_wA, rA_wss, rA_wn, rA_wsn, rL_wss, rL_wn, rL_wsn, rN_wI, rN_wA, rN_wL]
            · simp (disch := omega) only [bn_s, bv_s, bd_s, gb_0, gb_1, rI_ws, rI_wn, rI_wA, rI_wL, rA_wI, rA_wL, rL_wI, rL_wA, rA_wss, rA_wn, rA_wsn, rL_wss, rL_wn, rL_wsn, rN_wI, rN_wA, rN_wL]
          · simp (disch := omega) only [bn_s, bv_s, bd_s, gb_0, gb_1, rI_ws, rI_wn, rI_wA, rI_wL, rA_wI, rA_wL, rL_wI, rL_wA, rA_wss, rA_wn, rA_wsn, rL_wss, rL_wn, rL_wsn, rN_wI, rN_wA, rN_wL]; exact hr
        have hdd := c_die hd ⟨c1, c2, c3, by show 0 ≤ 21; omega⟩
        rw [hdd, bv_s]
        obtain ⟨g1, g2⟩ := c_die_T (o := 6) (a := nI k) (b := b) h hb hm hms2 (c0 := wI (wI (wA c 10 t (rA c 13 (T.1.length - k))) 8 (nI (t_want V f T.1 k))) 7 (nI (T.2.2.2.1 - 1))) (fun q _ _ => by simp (disch := omega) only [bn_s, bv_s, bd_s, gb_0, gb_1, rI_ws, rI_wn, rI_wA, rI_wL, rA_wI, rA_wL, rL_wI, rL_wA, rA_wss, rA_wn, rA_wsn, rL_wss, rL_wn, rL_wsn, rN_wI, rN_wA, rN_wL]) (by simp (disch := omega) only [bn_s, bv_s, bd_s, gb_0, gb_1, rI_ws, rI_wn, rI_wA, rI_wL, rA_wI, rA_wL, rL_wI, rL_wA, rA_wss, rA_wn, rA_wsn, rL_wss, rL_wn, rL_wsn, rN_wI, rN_wA, rN_wL]; rw [e1]; exact nI_0) (fun j x hj => by simp (disch := omega) only [bn_s, bv_s, bd_s, gb_0, gb_1, rI_ws, rI_wn, rI_wA, rI_wL, rA_wI, rA_wL, rL_wI, rL_wA, rA_wss, rA_wn, rA_wsn, rL_wss, rL_wn, rL_wsn, rN_wI, rN_wA, rN_wL]) (fun j x => by simp (disch := omega) only [bn_s, bv_s, bd_s, gb_0, gb_1, rI_ws, rI_wn, rI_wA, rI_wL, rA_wI, rA_wL, rL_wI, rL_wA, rA_wss, rA_wn, rA_wsn, rL_wss, rL_wn, rL_wsn, rN_wI, rN_wA, rN_wL]) rfl
        refine Or.inr (Or.inl ⟨_, _, _, rfl, ?_, g1, g2, ?_, fun x => ?_⟩)
        · rw [← ek, hnx _, hent _, if_pos e1]
        · refine ⟨fun x hx _ => ?_, fun x _ _ => ?_, fun _ k' hk' => ?_, fun z => ?_, fun z => ?_⟩
          · simp (disch := omega) only [bn_s, bv_s, bd_s, gb_0, gb_1, rI_ws, rI_wn, rI_wA, rI_wL, rA_wI, rA_wL, rL_wI, rL_wA, rA_wss, rA_wn, rA_wsn, rL_wss, rL_wn, rL_wsn, rN_wI, rN_wA, rN_wL]
          · simp (disch := omega) only [bn_s, bv_s, bd_s, gb_0, gb_1, rI_ws, rI_wn, rI_wA, rI_wL, rA_wI, rA_wL, rL_wI, rL_wA, rA_wss, rA_wn, rA_wsn, rL_wss, rL_wn, rL_wsn, rN_wI, rN_wA, rN_wL]
          · rw [vs_a, ← ek, etn] at hk'
            cases hk'
            unfold lk_br
            simp (disch := omega) only [bn_s, bv_s, bd_s, gb_0, gb_1, rI_ws, rI_wn, rI_wA, rI_wL, rA_wI, rA_wL, rL_wI, rL_wA, rA_wss, rA_wn, rA_wsn, rL_wss, rL_wn, rL_wsn, rN_wI, rN_wA, rN_wL]
            exact wc_get hl k hk
          · rw [vs_o] at z; exact absurd z (by decide)
          · rw [vs_o] at z; exact absurd z (by decide)
        · simp (disch := omega) only [bn_s, bv_s, bd_s, gb_0, gb_1, rI_ws, rI_wn, rI_wA, rI_wL, rA_wI, rA_wL, rL_wI, rL_wA, rA_wss, rA_wn, rA_wsn, rL_wss, rL_wn, rL_wsn, rN_wI, rN_wA, rN_wL]
      · have e2 : ¬ nI (T.2.2.2.1 - 1) = 0 := nI_ne0 (by omega) (by omega)
        rw [if_neg e2]
        have hv := v_set_eq V t 6 (nI k) b (rA c 12 t).toNatClampNeg
        refine Or.inr (Or.inl ⟨_, (T.1, T.2.1, T.2.2.1, T.2.2.2.1 - 1, some (t_want V f T.1 k)), (rA c 12 t).toNatClampNeg, rfl, ?_, ?_, ?_, ?_, fun x => ?_⟩)
        · rw [← ek, hnx _, hent _, if_neg e1]
        · refine ⟨fun q _ _ _ _ _ => ?_, fun j x hj => ?_, fun x hx => ?_, ?_, fun x hx => ?_, ?_, fun j x => ?_⟩
          · simp (disch := omega) only [bn_s, bv_s, bd_s, gb_0, gb_1, rI_ws, rI_wn, rI_wA, rI_wL, rA_wI, rA_wL, rL_wI, rL_wA, rA_wss, rA_wn, rA_wsn, rL_wss, rL_wn, rL_wsn, rN_wI, rN_wA, rN_wL]
          · simp (disch := omega) only [bn_s, bv_s, bd_s, gb_0, gb_1, rI_ws, rI_wn, rI_wA, rI_wL, rA_wI, rA_wL, rL_wI, rL_wA, rA_wss, rA_wn, rA_wsn, rL_wss, rL_wn, rL_wsn, rN_wI, rN_wA, rN_wL]
          · simp (disch := omega) only [bn_s, bv_s, bd_s, gb_0, gb_1, rI_ws, rI_wn, rI_wA, rI_wL, rA_wI, rA_wL, rL_wI, rL_wA, rA_wss, rA_wn, rA_wsn, rL_wss, rL_wn, rL_wsn, rN_wI, rN_wA, rN_wL]
          · simp (disch := omega) only [bn_s, bv_s, bd_s, gb_0, gb_1, rI_ws, rI_wn, rI_wA, rI_wL, rA_wI, rA_wL, rL_wI, rL_wA, rA_wss, rA_wn, rA_wsn, rL_wss, rL_wn, rL_wsn, rN_wI, rN_wA, rN_wL]; rw [hm, max_l (by exact hms2)]
          · simp (disch := omega) only [bn_s, bv_s, bd_s, gb_0, gb_1, rI_ws, rI_wn, rI_wA, rI_wL, rA_wI, rA_wL, rL_wI, rL_wA, rA_wss, rA_wn, rA_wsn, rL_wss, rL_wn, rL_wsn, rN_wI, rN_wA, rN_wL]
          · simp (disch := omega) only [bn_s, bv_s, bd_s, gb_0, gb_1, rI_ws, rI_wn, rI_wA, rI_wL, rA_wI, rA_wL, rL_wI, rL_wA, rA_wss, rA_wn, rA_wsn, rL_wss, rL_wn, rL_wsn, rN_wI, rN_wA, rN_wL]
          · simp (disch := omega) only [bn_s, bv_s, bd_s, gb_0, gb_1, rI_ws, rI_wn, rI_wA, rI_wL, rA_wI, rA_wL, rL_wI, rL_wA, rA_wss, rA_wn, rA_wsn, rL_wss, rL_wn, rL_wsn, rN_wI, rN_wA, rN_wL]
        · refine ⟨?_, ?_, ?_, ?_, fun _ => ⟨?_, hwl⟩, ?_, lw_mono (Nat.le_succ t) (Nat.le_refl _) (lw_view hv hw)⟩
          · simp (disch := omega) only [bn_s, bv_s, bd_s, gb_0, gb_1, rI_ws, rI_wn, rI_wA, rI_wL, rA_wI, rA_wL, rL_wI, rL_wA, rA_wss, rA_wn, rA_wsn, rL_wss, rL_wn, rL_wsn, rN_wI, rN_wA, rN_wL]; exact h3
          · simp (disch := omega) only [bn_s, bv_s, bd_s, gb_0, gb_1, rI_ws, rI_wn, rI_wA, rI_wL, rA_wI, rA_wL, rL_wI, rL_wA, rA_wss, rA_wn, rA_wsn, rL_wss, rL_wn, rL_wsn, rN_wI, rN_wA, rN_wL]; exact h5
          · simp (disch := omega) only [bn_s, bv_s, bd_s, gb_0, gb_1, rI_ws, rI_wn, rI_wA, rI_wL, rA_wI, rA_wL, rL_wI, rL_wA, rA_wss, rA_wn, rA_wsn, rL_wss, rL_wn, rL_wsn, rN_wI, rN_wA, rN_wL]; exact h6
          · simp (disch := omega) only [bn_s, bv_s, bd_s, gb_0, gb_1, rI_ws, rI_wn, rI_wA, rI_wL, rA_wI, rA_wL, rL_wI, rL_wA, rA_wss, rA_wn, rA_wsn, rL_wss, rL_wn, rL_wsn, rN_wI, rN_wA, rN_wL]
          · simp (disch := omega) only [bn_s, bv_s, bd_s, gb_0, gb_1, rI_ws, rI_wn, rI_wA, rI_wL, rA_wI, rA_wL, rL_wI, rL_wA, rA_wss, rA_wn, rA_wsn, rL_wss, rL_wn, rL_wsn, rN_wI, rN_wA, rN_wL]
          · refine wc_keep (lw_view hv hw) (fun j i _ _ _ => ?_) (fun j x _ _ _ _ => ?_) (wc_view hv hw hl)
            · simp (disch := omega) only [bn_s, bv_s, bd_s, gb_0, gb_1, rI_ws, rI_wn, rI_wA, rI_wL, rA_wI, rA_wL, rL_wI, rL_wA, rA_wss, rA_wn, rA_wsn, rL_wss, rL_wn, rL_wsn, rN_wI, rN_wA, rN_wL]
            · simp (disch := omega) only [bn_s, bv_s, bd_s, gb_0, gb_1, rI_ws, rI_wn, rI_wA, rI_wL, rA_wI, rA_wL, rL_wI, rL_wA, rA_wss, rA_wn, rA_wsn, rL_wss, rL_wn, rL_wsn, rN_wI, rN_wA, rN_wL]
        · refine ⟨fun x hx _ => ?_, fun x _ _ => ?_, fun _ k' hk' => ?_, fun z => ?_, fun z => ?_⟩
          · simp (disch := omega) only [bn_s, bv_s, bd_s, gb_0, gb_1, rI_ws, rI_wn, rI_wA, rI_wL, rA_wI, rA_wL, rL_wI, rL_wA, rA_wss, rA_wn, rA_wsn, rL_wss, rL_wn, rL_wsn, rN_wI, rN_wA, rN_wL]
          · simp (disch := omega) only [bn_s, bv_s, bd_s, gb_0, gb_1, rI_ws, rI_wn, rI_wA, rI_wL, rA_wI, rA_wL, rL_wI, rL_wA, rA_wss, rA_wn, rA_wsn, rL_wss, rL_wn, rL_wsn, rN_wI, rN_wA, rN_wL]
          · rw [vs_a, ← ek, etn] at hk'
            cases hk'
            unfold lk_br
            simp (disch := omega) only [bn_s, bv_s, bd_s, gb_0, gb_1, rI_ws, rI_wn, rI_wA, rI_wL, rA_wI, rA_wL, rL_wI, rL_wA, rA_wss, rA_wn, rA_wsn, rL_wss, rL_wn, rL_wsn, rN_wI, rN_wA, rN_wL]
            exact wc_get hl k hk
          · rw [vs_o] at z; exact absurd z (by decide)
          · rw [vs_o] at z; exact absurd z (by decide)
        · simp (disch := omega) only [bn_s, bv_s, bd_s, gb_0, gb_1, rI_ws, rI_wn, rI_wA, rI_wL, rA_wI, rA_wL, rL_wI, rL_wA, rA_wss, rA_wn, rA_wsn, rL_wss, rL_wn, rL_wsn, rN_wI, rN_wA, rN_wL]
    have h8' := h8 hel
    cases hwt : T.2.2.2.2 with
    | none =>
      rw [hwt] at h8'
      have h8'' : rI c 8 = -1 := h8'
      have hent1 := hent0
      rw [hwt] at hent1
      cases hh : t_has V T (t_want V f T.1 k)
      · refine Or.inl ⟨by rw [b2_f, if_pos rfl], fun w => ⟨?_, nf_op (by decide)⟩⟩
        rw [← ek, hnx w, hent1 w]; simp only []; rw [hh]; rfl
      · rw [b2_t, if_neg i10, h8'', if_pos rfl]
        exact hacc (fun w => by rw [hent1 w]; simp only []; rw [hh]; rfl)
    | some x =>
      rw [hwt] at h8'
      have hent1 := hent0
      rw [hwt] at hent1
      obtain ⟨p2, p3⟩ : rI c 8 = nI x ∧ x ≤ 8 := h8'
      by_cases e : t_want V f T.1 k = x
      · have hh := hfirst x hwt
        rw [e, hh, b2_t, if_neg i10, p2, if_neg (fun z => (nI_m1 (by omega)).mp z), if_pos rfl, ← e]
        exact hacc (fun w => by rw [hent1 w]; simp only []; rw [decide_eq_true e]; rfl)
      · have e2 : ¬ nI x = nI (t_want V f T.1 k) := fun z => e ((nI_eq (by omega) (by omega)).mp z).symm
        have hno : c_ph c V f t 6 (nI k) b T ms (some (0, c)) := by
          refine Or.inl ⟨rfl, fun w => ⟨?_, nf_op (by decide)⟩⟩
          rw [← ek, hnx w, hent1 w]; simp only []; rw [decide_eq_false e]; rfl
        cases hh : t_has V T (t_want V f T.1 k)
        · rw [b2_f, if_pos rfl]; exact hno
        · rw [b2_t, if_neg i10, p2, if_neg (fun z => (nI_m1 (by omega)).mp z), if_neg e2]; exact hno
  · rw [el, bn_s, if_pos rfl]
    refine Or.inl ⟨rfl, fun w => ⟨?_, nf_op (by decide)⟩⟩
    rw [hnx w]; unfold t_entry; rw [vs_a, etn]
