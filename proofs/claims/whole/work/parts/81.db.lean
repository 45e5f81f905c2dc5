-- labels begin in order
def ls_L : List lb_T → Prop
  | [] => True
  | q :: L => (∀ r ∈ L, r.1 < q.1) ∧ ls_L L
theorem wc_keep2 {V : vw_T} {c c2 : rs_T} : ∀ {L : List lb_T} {d0 : Bool}, (∀ j i, 13 ≤ j → j ≤ 14 → i ≤ L.length → rA c2 j i = rA c j i) → (∀ j, 7 ≤ j → j ≤ 12 → ¬ j = 10 → ∀ r ∈ L, rA c2 j r.1 = rA c j r.1) → wc_L V c L d0 → wc_L V c2 L d0 := by
  intro L
  induction L with
  | nil =>
    intro d0 hk _ hm
    exact ⟨(hk 13 0 (by decide) (by decide) (Nat.le_refl _)).trans hm.1, (hk 14 0 (by decide) (by decide) (Nat.le_refl _)).trans hm.2⟩
  | cons q L ih =>
    intro d0 hk hx hm
    obtain ⟨m1, m2, m3, m4, m5, m6, m7, m8, m9⟩ := hm
    have hq : q ∈ q :: L := List.mem_cons_self
    refine ⟨(hk 13 _ (by decide) (by decide) (Nat.le_refl _)).trans m1, (hk 14 _ (by decide) (by decide) (Nat.le_refl _)).trans m2, (hx 12 (by decide) (by decide) (by decide) q hq).trans m3, (hx 7 (by decide) (by decide) (by decide) q hq).trans m4, (hx 8 (by decide) (by decide) (by decide) q hq).trans m5, (hx 9 (by decide) (by decide) (by decide) q hq).trans m6, ?_, ?_, ?_⟩
    · rw [hx 11 (by decide) (by decide) (by decide) q hq]; exact m7
    · rw [hx 11 (by decide) (by decide) (by decide) q hq]; exact m8
    · exact ih (fun j i h1 h2 h3 => hk j i h1 h2 (Nat.le_succ_of_le h3)) (fun j h1 h2 h3 r hr => hx j h1 h2 h3 r (List.mem_cons_of_mem _ hr)) m9
theorem c_if {c : rs_T} {V : vw_T} {t : Nat} {q : lb_T} {L : List lb_T} {d0 : Bool} {h : Nat} (hl : wc_L V c (q :: L) d0) (hw : lw_L V t (q :: L) h) (ht : t ≤ rN c 0 ∧ rN c 0 ≤ 1500) : fx_Wr_isIfWithoutElse (nI q.1) c = some (b2 (decide (v_o V q.1 = 4) && !q.2.1), c) := by
  obtain ⟨m1, m2, m3, m4, m5, m6, m7, m8, m9⟩ := hl
  have hq := hw.1
  have ne : ¬ nI q.1 = -1 := fun z => (nI_m1 (by omega)).mp z
  unfold fx_Wr_isIfWithoutElse
  rw [if_neg ne, gd_k (by omega) (by omega), gd_k (by omega) (by omega), nI_clamp (by omega), m4]
  by_cases e : v_o V q.1 = 4
  · rw [if_pos e, decide_eq_true e]
    cases he : q.2.1
    · rw [m7 he, if_pos rfl]; rfl
    · obtain ⟨x, hx, ex⟩ := m8 he
      rw [ex, if_neg (fun z => (nI_m1 (by omega)).mp z)]; rfl
  · rw [if_neg e, decide_eq_false e]; rfl
-- ELSE
theorem c_p_else {c : rs_T} {V : vw_T} {f t ms : Nat} {a b : Int32} {T : ts_T} (h : cw_T c V f t T) (hb : tb_ok t T) (hlt : t < rN c 0) (ht : t < 512) (hel : T.2.2.2.1 = 0) (hm : rA c 3 f = nI ms) (hms : ms < 100000) (hr8 : v_r V f ≤ 8) (hso : ls_L T.1) : c_ph c V f t 5 a b T ms (fx_Wr_admitsElse c) := by
  have hrd := c_ready h hb hr8
  obtain ⟨h2, h3, h4, h5, h6, h7, h8, hl, hw, hf, hr, hN⟩ := id h
  obtain ⟨c1, c2, c3, c4⟩ := id hb
  have hnx : ∀ w, t_nx (v_set V t 5 a b w) f t T = t_else (v_set V t 5 a b w) f T := fun w => by
    unfold t_nx
    rw [vs_o, hel]
    simp (decide := true) only [if_false, if_true]
  have hdv : ∀ w, t_done (v_set V t 5 a b w) f T = t_done V f T := fun w => done_view (v_set_eq ..) hw
  unfold fx_Wr_admitsElse
  rw [h5, nI_pred, gd_k (by omega) (by omega), bd_s, nI_clamp (by omega)]
  cases hL : T.1 with
  | nil =>
    rw [hL] at hl
    have e : rA c 13 ([] : List lb_T).length = -1 := hl.1
    have e2 : fx_Wr_isIfWithoutElse (-1) c = some (0, c) := by unfold fx_Wr_isIfWithoutElse; rw [if_pos rfl]
    rw [e, e2, bn_s, if_pos rfl]
    refine Or.inl ⟨rfl, fun w => ⟨?_, nf_op (by decide)⟩⟩
    rw [hnx w]; unfold t_else; rw [hL]
  | cons q L =>
    have hw0 := hw
    have hl0 := hl
    have hNL := hN
    rw [hL] at hNL
    rw [hL] at hl hw c2 h5
    have hlen : (q :: L).length = L.length + 1 := rfl
    rw [hlen] at c2 h5 ⊢
    obtain ⟨m1, m2, m3, m4, m5, m6, m7, m8, m9⟩ := id hl
    obtain ⟨l1, ⟨x, y, hx, hy, e1, e2⟩, l3, l4, l5, l6⟩ := id hw
    have hq : q.1 < 512 := by omega
    rw [m1, c_if hl hw (by omega), bn_s]
    cases hc : (decide (v_o V q.1 = 4) && !q.2.1)
    · refine Or.inl ⟨by rw [b2_f, if_pos rfl], fun w => ⟨?_, nf_op (by decide)⟩⟩
      obtain ⟨w1, w2, w3, w4⟩ := (v_set_eq V t 5 a b w).1 q.1 l1
      rw [hnx w]; unfold t_else; rw [hL]; simp only []
      rw [w1, hc]; rfl
    · rw [b2_t, if_neg i10, hrd, bn_s]
      cases hd : t_done V f T
      · refine Or.inl ⟨by rw [b2_f, if_pos rfl], fun w => ⟨?_, nf_op (by decide)⟩⟩
        rw [hnx w]; unfold t_else; rw [hL]; simp only []
        rw [hdv w, hd, Bool.and_false]; rfl
      · rw [b2_t, if_neg i10, bd_s, h4, gd_k (by omega) (by omega), gd_k (by omega) (by omega), gd_k (by omega) (by omega), gd_k (by omega) (by omega), h5, nI_pred, gd_k (by omega) (by omega), gd_k (by omega) (by omega), nI_clamp (by omega), nI_clamp (by omega), nI_clamp (by omega), m3, m5, e1]
        have hqt : ¬ q.1 = t := by omega
        generalize hc0 : wA (wI (wA (wA (wA c 11 q.1 (nI t)) 11 t (nI q.1)) 10 t (-1)) 6 (nI (v_w V q.1))) 14 (L.length + 1) 0 = c0
        rw [c_put (c := c0) (h := v_w V q.1) (f := f) (ms := ms) (by rw [← hc0]; simp (disch := omega) only [bn_s, bv_s, bd_s, gb_0, gb_1, rI_ws, rI_wn, rI_wA, rI_wL, rA_wI, rA_wL, rL_wI, rL_wA, rA_wss, rA_wn, rA_wsn, rL_wss, rL_wn, rL_wsn, rN_wI, rN_wA, rN_wL]; exact h3) hf (by rw [← hc0]; simp (disch := omega) only [bn_s, bv_s, bd_s, gb_0, gb_1, rI_ws, rI_wn, rI_wA, rI_wL, rA_wI, rA_wL, rL_wI, rL_wA, rA_wss, rA_wn, rA_wsn, rL_wss, rL_wn, rL_wsn, rN_wI, rN_wA, rN_wL]) (by rw [← hc0]; simp (disch := omega) only [bn_s, bv_s, bd_s, gb_0, gb_1, rI_ws, rI_wn, rI_wA, rI_wL, rA_wI, rA_wL, rL_wI, rL_wA, rA_wss, rA_wn, rA_wsn, rL_wss, rL_wn, rL_wsn, rN_wI, rN_wA, rN_wL]; exact hm) (by omega) (by omega), bv_s]
        have hv := v_set_eq V t 5 a b (rA c 12 t).toNatClampNeg
        obtain ⟨w1, w2, w3, w4⟩ := hv.1 q.1 l1
        have hc' := hc
        rw [Bool.and_eq_true] at hc'
        have ho4 : v_o V q.1 = 4 := of_decide_eq_true hc'.1
        refine Or.inr (Or.inl ⟨_, ((q.1, true, false) :: L, T.2.1, v_w V q.1 + x, 0, none), (rA c 12 t).toNatClampNeg, rfl, ?_, ?_, ?_, ?_, fun z => ?_⟩)
        · rw [hnx _]; unfold t_else; rw [hL]; simp only []
          rw [hdv, hd, w1, w2, w4, hc, e1, nI_clamp (by omega)]; rfl
        · refine ⟨fun z _ _ _ _ _ => ?_, fun j z hj => ?_, fun z hz => ?_, ?_, fun z hz => ?_, ?_, fun j z => ?_⟩
          · rw [← hc0]; simp (disch := omega) only [bn_s, bv_s, bd_s, gb_0, gb_1, rI_ws, rI_wn, rI_wA, rI_wL, rA_wI, rA_wL, rL_wI, rL_wA, rA_wss, rA_wn, rA_wsn, rL_wss, rL_wn, rL_wsn, rN_wI, rN_wA, rN_wL]
          · rw [← hc0]; simp (disch := omega) only [bn_s, bv_s, bd_s, gb_0, gb_1, rI_ws, rI_wn, rI_wA, rI_wL, rA_wI, rA_wL, rL_wI, rL_wA, rA_wss, rA_wn, rA_wsn, rL_wss, rL_wn, rL_wsn, rN_wI, rN_wA, rN_wL]
          · rw [← hc0]; simp (disch := omega) only [bn_s, bv_s, bd_s, gb_0, gb_1, rI_ws, rI_wn, rI_wA, rI_wL, rA_wI, rA_wL, rL_wI, rL_wA, rA_wss, rA_wn, rA_wsn, rL_wss, rL_wn, rL_wsn, rN_wI, rN_wA, rN_wL]
          · simp (disch := omega) only [bn_s, bv_s, bd_s, gb_0, gb_1, rI_ws, rI_wn, rI_wA, rI_wL, rA_wI, rA_wL, rL_wI, rL_wA, rA_wss, rA_wn, rA_wsn, rL_wss, rL_wn, rL_wsn, rN_wI, rN_wA, rN_wL]
          · rw [← hc0]; simp (disch := omega) only [bn_s, bv_s, bd_s, gb_0, gb_1, rI_ws, rI_wn, rI_wA, rI_wL, rA_wI, rA_wL, rL_wI, rL_wA, rA_wss, rA_wn, rA_wsn, rL_wss, rL_wn, rL_wsn, rN_wI, rN_wA, rN_wL]
          · rw [← hc0]; simp (disch := omega) only [bn_s, bv_s, bd_s, gb_0, gb_1, rI_ws, rI_wn, rI_wA, rI_wL, rA_wI, rA_wL, rL_wI, rL_wA, rA_wss, rA_wn, rA_wsn, rL_wss, rL_wn, rL_wsn, rN_wI, rN_wA, rN_wL]
          · rw [← hc0]; simp (disch := omega) only [bn_s, bv_s, bd_s, gb_0, gb_1, rI_ws, rI_wn, rI_wA, rI_wL, rA_wI, rA_wL, rL_wI, rL_wA, rA_wss, rA_wn, rA_wsn, rL_wss, rL_wn, rL_wsn, rN_wI, rN_wA, rN_wL]
        · refine ⟨?_, ?_, ?_, ?_, fun z => absurd rfl z, ?_, ?_⟩
          · rw [← hc0]; simp (disch := omega) only [bn_s, bv_s, bd_s, gb_0, gb_1, rI_ws, rI_wn, rI_wA, rI_wL, rA_wI, rA_wL, rL_wI, rL_wA, rA_wss, rA_wn, rA_wsn, rL_wss, rL_wn, rL_wsn, rN_wI, rN_wA, rN_wL]; exact h3
          · rw [← hc0]; simp (disch := omega) only [bn_s, bv_s, bd_s, gb_0, gb_1, rI_ws, rI_wn, rI_wA, rI_wL, rA_wI, rA_wL, rL_wI, rL_wA, rA_wss, rA_wn, rA_wsn, rL_wss, rL_wn, rL_wsn, rN_wI, rN_wA, rN_wL]; exact h5
          · simp (disch := omega) only [bn_s, bv_s, bd_s, gb_0, gb_1, rI_ws, rI_wn, rI_wA, rI_wL, rA_wI, rA_wL, rL_wI, rL_wA, rA_wss, rA_wn, rA_wsn, rL_wss, rL_wn, rL_wsn, rN_wI, rN_wA, rN_wL]
          · rw [← hc0]; simp (disch := omega) only [bn_s, bv_s, bd_s, gb_0, gb_1, rI_ws, rI_wn, rI_wA, rI_wL, rA_wI, rA_wL, rL_wI, rL_wA, rA_wss, rA_wn, rA_wsn, rL_wss, rL_wn, rL_wsn, rN_wI, rN_wA, rN_wL]; rw [h7, hel]
          · refine ⟨?_, ?_, ?_, ?_, ?_, ?_, fun z => absurd z.symm Bool.false_ne_true, fun _ => ⟨t, by omega, ?_⟩, ?_⟩
            · rw [← hc0]; simp (disch := omega) only [bn_s, bv_s, bd_s, gb_0, gb_1, rI_ws, rI_wn, rI_wA, rI_wL, rA_wI, rA_wL, rL_wI, rL_wA, rA_wss, rA_wn, rA_wsn, rL_wss, rL_wn, rL_wsn, rN_wI, rN_wA, rN_wL]; exact m1
            · rw [← hc0]; simp (disch := omega) only [bn_s, bv_s, bd_s, gb_0, gb_1, rI_ws, rI_wn, rI_wA, rI_wL, rA_wI, rA_wL, rL_wI, rL_wA, rA_wss, rA_wn, rA_wsn, rL_wss, rL_wn, rL_wsn, rN_wI, rN_wA, rN_wL]; rfl
            · rw [← hc0]; simp (disch := omega) only [bn_s, bv_s, bd_s, gb_0, gb_1, rI_ws, rI_wn, rI_wA, rI_wL, rA_wI, rA_wL, rL_wI, rL_wA, rA_wss, rA_wn, rA_wsn, rL_wss, rL_wn, rL_wsn, rN_wI, rN_wA, rN_wL]; rw [w4]; exact m3
            · rw [← hc0]; simp (disch := omega) only [bn_s, bv_s, bd_s, gb_0, gb_1, rI_ws, rI_wn, rI_wA, rI_wL, rA_wI, rA_wL, rL_wI, rL_wA, rA_wss, rA_wn, rA_wsn, rL_wss, rL_wn, rL_wsn, rN_wI, rN_wA, rN_wL]; rw [w1]; exact m4
            · rw [← hc0]; simp (disch := omega) only [bn_s, bv_s, bd_s, gb_0, gb_1, rI_ws, rI_wn, rI_wA, rI_wL, rA_wI, rA_wL, rL_wI, rL_wA, rA_wss, rA_wn, rA_wsn, rL_wss, rL_wn, rL_wsn, rN_wI, rN_wA, rN_wL]; rw [w2]; exact m5
            · rw [← hc0]; simp (disch := omega) only [bn_s, bv_s, bd_s, gb_0, gb_1, rI_ws, rI_wn, rI_wA, rI_wL, rA_wI, rA_wL, rL_wI, rL_wA, rA_wss, rA_wn, rA_wsn, rL_wss, rL_wn, rL_wsn, rN_wI, rN_wA, rN_wL]; rw [w3]; exact m6
            · rw [← hc0]; simp (disch := omega) only [bn_s, bv_s, bd_s, gb_0, gb_1, rI_ws, rI_wn, rI_wA, rI_wL, rA_wI, rA_wL, rL_wI, rL_wA, rA_wss, rA_wn, rA_wsn, rL_wss, rL_wn, rL_wsn, rN_wI, rN_wA, rN_wL]
            · rw [hL] at hso
              refine wc_keep2 (fun j i _ _ hi => ?_) (fun j _ _ _ r hr => ?_) (wc_view hv l6 m9)
              · rw [← hc0]
                rcases (show j = 13 ∨ j = 14 by omega) with rfl | rfl <;> simp (disch := omega) only [bn_s, bv_s, bd_s, gb_0, gb_1, rI_ws, rI_wn, rI_wA, rI_wL, rA_wI, rA_wL, rL_wI, rL_wA, rA_wss, rA_wn, rA_wsn, rL_wss, rL_wn, rL_wsn, rN_wI, rN_wA, rN_wL]
              · have hr1 := hso.1 r hr
                rw [← hc0]
                rcases (show j = 7 ∨ j = 8 ∨ j = 9 ∨ j = 11 ∨ j = 12 by omega) with rfl | rfl | rfl | rfl | rfl <;> simp (disch := omega) only [bn_s, bv_s, bd_s, gb_0, gb_1, rI_ws, rI_wn, rI_wA, rI_wL, rA_wI, rA_wL, rL_wI, rL_wA, rA_wss, rA_wn, rA_wsn, rL_wss, rL_wn, rL_wsn, rN_wI, rN_wA, rN_wL]
          · have l7 := lw_mono (Nat.le_succ t) (Nat.le_refl _) (lw_view hv hw)
            exact ⟨l7.1, l7.2.1, l7.2.2.1, by rw [w4]; exact Nat.le_add_right _ _, fun _ => by rw [w1]; exact ho4, l7.2.2.2.2.2⟩
        · refine ⟨fun z hz _ => ?_, fun z hz hz2 => ?_, fun z => ?_, fun z => ?_, fun z => ?_⟩
          · rw [← hc0]; simp (disch := omega) only [bn_s, bv_s, bd_s, gb_0, gb_1, rI_ws, rI_wn, rI_wA, rI_wL, rA_wI, rA_wL, rL_wI, rL_wA, rA_wss, rA_wn, rA_wsn, rL_wss, rL_wn, rL_wsn, rN_wI, rN_wA, rN_wL]
          · have hzq := hz2 q L hL (by rw [vs_o])
            rw [← hc0]; simp (disch := omega) only [bn_s, bv_s, bd_s, gb_0, gb_1, rI_ws, rI_wn, rI_wA, rI_wL, rA_wI, rA_wL, rL_wI, rL_wA, rA_wss, rA_wn, rA_wsn, rL_wss, rL_wn, rL_wsn, rN_wI, rN_wA, rN_wL]
          · rw [vs_o] at z; exact absurd z (by decide)
          · rw [vs_o] at z; exact absurd z (by decide)
          · rw [hL]
            refine ⟨?_, ?_⟩
            · rw [← hc0]; simp (disch := omega) only [bn_s, bv_s, bd_s, gb_0, gb_1, rI_ws, rI_wn, rI_wA, rI_wL, rA_wI, rA_wL, rL_wI, rL_wA, rA_wss, rA_wn, rA_wsn, rL_wss, rL_wn, rL_wsn, rN_wI, rN_wA, rN_wL]
            · rw [← hc0]; simp (disch := omega) only [bn_s, bv_s, bd_s, gb_0, gb_1, rI_ws, rI_wn, rI_wA, rI_wL, rA_wI, rA_wL, rL_wI, rL_wA, rA_wss, rA_wn, rA_wsn, rL_wss, rL_wn, rL_wsn, rN_wI, rN_wA, rN_wL]
        · rw [← hc0]; simp (disch := omega) only [bn_s, bv_s, bd_s, gb_0, gb_1, rI_ws, rI_wn, rI_wA, rI_wL, rA_wI, rA_wL, rL_wI, rL_wA, rA_wss, rA_wn, rA_wsn, rL_wss, rL_wn, rL_wsn, rN_wI, rN_wA, rN_wL]
