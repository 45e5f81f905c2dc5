-- the class's words behind the checks, once the instruction is laid down
def c1_Z (c1 : rs_T) (V : vw_T) (f t : Nat) (T : ts_T) : Prop := rI c1 3 = nI f ∧ rI c1 5 = nI (T.1.length + 1) ∧ rI c1 6 = nI T.2.2.1 ∧ rI c1 7 = nI T.2.2.2.1 ∧
  (¬ T.2.2.2.1 = 0 → match T.2.2.2.2 with
    | none => rI c1 8 = -1
    | some x => rI c1 8 = nI x ∧ x ≤ 8) ∧ wc_L V (wA (wA (wA c1 7 t (v_o V t)) 8 t (v_a V t)) 9 t (v_b V t)) T.1 T.2.1 ∧ lw_L V (t + 1) T.1 T.2.2.1
def c_p2 (c : rs_T) (V : vw_T) (f t : Nat) (o a b : Int32) (T : ts_T) (ms : Nat) (r : Option (Int32 × rs_T)) : Prop :=
  (r = some (0, c) ∧ ∀ w, t_nx (v_set V t o a b w) f t T = none ∧ ¬ t_fin (v_set V t o a b w) f t T) ∨
  (∃ (c1 : rs_T) (T2 : ts_T) (w : Nat), r = some (1, c1) ∧ t_nx (v_set V t o a b w) f t T = some T2 ∧ c1_ok c c1 f t w (max ms T2.2.2.1) ∧ c1_Z c1 (v_set V t o a b w) f t T2 ∧ lk_step c c1 (v_set V t o a b w) t T ∧ (∀ x, rA c1 5 x = rA c 5 x) ∧ ln_ok c1.2.2.2 ∧ rN c1 0 = rN c 0 ∧ rN c1 2 = rN c 2 ∧ T2.1.length + 1 ≤ rN c1 1) ∨
  (∃ (c1 : rs_T) (w : Nat), r = some (1, c1) ∧ t_fin (v_set V t o a b w) f t T ∧ c1_ok c c1 f t w ms ∧ rI c1 3 = -1 ∧ rI c1 5 = 0 ∧ rI c1 6 = 0 ∧ rI c1 7 = 0 ∧ rA c1 5 f = nI t ∧ (∀ x, ¬ x = f → rA c1 5 x = rA c 5 x) ∧ lk_step c c1 (v_set V t o a b w) t T ∧ ln_ok c1.2.2.2 ∧ rN c1 0 = rN c 0 ∧ rN c1 2 = rN c 2)
theorem nx_old {V : vw_T} {f t : Nat} {T T2 : ts_T} (h : t_nx V f t T = some T2) (hl : lw_L V t T.1 T.2.2.1) (ho : ¬ v_o V t ∈ ([2, 3, 4] : List Int32)) : ∃ h2 : Nat, lw_L V t T2.1 h2 := by
  have hdie : ∃ h2 : Nat, lw_L V t (t_die V T).1 h2 := ⟨T.2.2.1, by unfold t_die; rw [t_in_eq]; exact lw_in hl⟩
  have htu : ∀ n k : Nat, t_tu V T n k = some T2 → ∃ h2 : Nat, lw_L V t T2.1 h2 := fun n k h => ⟨T.2.2.1, by rw [(tu_b h hl).1]; exact hl⟩
  simp only [List.mem_cons, List.not_mem_nil, or_false, not_or] at ho
  rcases nx_cases h with ⟨-, -, h⟩ | ⟨-, h⟩
  · obtain ⟨k, hk, -, -, ⟨-, rfl⟩ | ⟨-, rfl⟩⟩ := entry_some h
    · exact hdie
    · exact ⟨_, hl⟩
  · rcases h with ⟨-, rfl⟩ | ⟨z, h⟩ | ⟨z, h⟩ | ⟨-, h⟩ | ⟨-, h⟩ | ⟨-, k, -, -, rfl⟩ | ⟨-, k, -, h⟩ | ⟨-, k, hk, -, rfl⟩ | ⟨-, -, rfl⟩ | ⟨-, g, hg, h⟩ | ⟨-, x, y, hx, hy, h⟩ | ⟨-, h⟩
    · exact hdie
    · rcases z with z | z
      · exact absurd z ho.1
      · exact absurd z ho.2.1
    · exact absurd z ho.2.2
    · obtain ⟨q, L, hL, h4, -, -, rfl⟩ := else_some h
      rw [hL] at hl
      exact ⟨T.2.2.1, hl.1, hl.2.1, hl.2.2.1, hl.2.2.2.1, fun _ => h4, hl.2.2.2.2.2⟩
    · obtain ⟨q, L, hL, -, -, rfl⟩ := end_some h
      rw [hL] at hl
      exact ⟨_, hl.2.2.2.2.2⟩
    · exact hdie
    · exact htu _ _ h
    · exact ⟨_, hl⟩
    · exact hdie
    · exact htu _ _ h
    · exact htu _ _ h
    · obtain ⟨n, k, e1, -, h⟩ := plain_some h
      exact htu _ _ h
theorem nx_len {V : vw_T} {f t : Nat} {T T2 : ts_T} (h : t_nx V f t T = some T2) (hl : lw_L V t T.1 T.2.2.1) (ho : ¬ v_o V t ∈ ([2, 3, 4] : List Int32)) : T2.1.length ≤ T.1.length := by
  have hdie : (t_die V T).1.length ≤ T.1.length := by unfold t_die; rw [t_in_eq, l_in_len]; exact Nat.le_refl _
  have htu : ∀ n k : Nat, t_tu V T n k = some T2 → T2.1.length ≤ T.1.length := fun n k h => by rw [(tu_b h hl).1]; exact Nat.le_refl _
  simp only [List.mem_cons, List.not_mem_nil, or_false, not_or] at ho
  rcases nx_cases h with ⟨-, -, h⟩ | ⟨-, h⟩
  · obtain ⟨k, hk, -, -, ⟨-, rfl⟩ | ⟨-, rfl⟩⟩ := entry_some h
    · exact hdie
    · exact Nat.le_refl _
  · rcases h with ⟨-, rfl⟩ | ⟨z, h⟩ | ⟨z, h⟩ | ⟨-, h⟩ | ⟨-, h⟩ | ⟨-, k, -, -, rfl⟩ | ⟨-, k, -, h⟩ | ⟨-, k, hk, -, rfl⟩ | ⟨-, -, rfl⟩ | ⟨-, g, hg, h⟩ | ⟨-, x, y, hx, hy, h⟩ | ⟨-, h⟩
    · exact hdie
    · rcases z with z | z
      · exact absurd z ho.1
      · exact absurd z ho.2.1
    · exact absurd z ho.2.2
    · obtain ⟨q, L, hL, h4, -, -, rfl⟩ := else_some h
      rw [hL]
      exact Nat.le_refl _
    · obtain ⟨q, L, hL, -, -, rfl⟩ := end_some h
      rw [hL]
      exact Nat.le_succ _
    · exact hdie
    · exact htu _ _ h
    · exact Nat.le_refl _
    · exact hdie
    · exact htu _ _ h
    · exact htu _ _ h
    · obtain ⟨n, k, e1, -, h⟩ := plain_some h
      exact htu _ _ h
theorem c_p12 {c : rs_T} {V : vw_T} {f t ms : Nat} {o a b : Int32} {T : ts_T} {r : Option (Int32 × rs_T)} (h : c_ph c V f t o a b T ms r) (hl : lw_L V t T.1 T.2.2.1) (ho : ¬ o ∈ ([2, 3, 4] : List Int32)) (hLn : ln_ok c.2.2.2) (hlab : T.1.length + 1 ≤ rN c 1) (hnf : ∀ r' c1, r = some (r', c1) → c1.2.2.2 = c.2.2.2) : c_p2 c V f t o a b T ms r := by
  rcases h with h | ⟨c1, T2, w, e, g1, g2, g3, g4⟩ | ⟨c1, w, e, g1, g2, g3, g4, g5, g6, g7, g8, g9⟩
  · exact Or.inl h
  · have hn0 := hnf _ _ e
    have hlen := nx_len g1 (lw_view (v_set_eq V t o a b w) hl) (by rw [vs_o]; exact ho)
    refine Or.inr (Or.inl ⟨c1, T2, w, e, g1, g2, ?_, g4.1, g4.2, by rw [hn0]; exact hLn, congrFun hn0 0, congrFun hn0 2, by have : rN c1 1 = rN c 1 := congrFun hn0 1; omega⟩)
    obtain ⟨q1, q2, q3, q4, q5, q6, q7⟩ := g3
    obtain ⟨h2, hl2⟩ := nx_old g1 (lw_view (v_set_eq V t o a b w) hl) (by rw [vs_o]; exact ho)
    refine ⟨q1, q2, q3, q4, q5, ?_, q7⟩
    refine wc_keep hl2 (fun j i _ _ _ => ?_) (fun j x _ _ _ hx => ?_) q6
    · simp (disch := omega) only [bn_s, bv_s, bd_s, gb_0, gb_1, rI_ws, rI_wn, rI_wA, rI_wL, rA_wI, rA_wL, rL_wI, rL_wA, rA_wss, rA_wn, rA_wsn, rL_wss, rL_wn, rL_wsn, rN_wI, rN_wA, rN_wL]
    · rcases (show j = 7 ∨ j = 8 ∨ j = 9 ∨ j = 11 ∨ j = 12 by omega) with rfl | rfl | rfl | rfl | rfl <;> simp (disch := omega) only [bn_s, bv_s, bd_s, gb_0, gb_1, rI_ws, rI_wn, rI_wA, rI_wL, rA_wI, rA_wL, rL_wI, rL_wA, rA_wss, rA_wn, rA_wsn, rL_wss, rL_wn, rL_wsn, rN_wI, rN_wA, rN_wL]
  · have hn0 := hnf _ _ e
    exact Or.inr (Or.inr ⟨c1, w, e, g1, g2, g3, g4, g5, g6, g7, g8, g9, by rw [hn0]; exact hLn, congrFun hn0 0, congrFun hn0 2⟩)
-- BLOCK, LOOP, IF
theorem c_p_begin {c : rs_T} {V : vw_T} {f t more ms : Nat} {o a b : Int32} {T : ts_T} (h : cw_T c V f t T) (hb : tb_ok t T) (hlt : t < rN c 0) (ht : t < 512) (hel : T.2.2.2.1 = 0) (hm : rA c 3 f = nI ms) (hms : ms < 100000) (hop : o = 2 ∨ o = 3 ∨ o = 4) (hmore : more ≤ 1) (hnx : ∀ w, t_nx (v_set V t o a b w) f t T = t_begin (v_set V t o a b w) t T more) (hfin : ∀ w, ¬ t_fin (v_set V t o a b w) f t T) (hLn : ln_ok c.2.2.2) : c_p2 c V f t o a b T ms (fx_Wr_admitsBegin a b (nI more) c) := by
  obtain ⟨h2, h3, h4, h5, h6, h7, h8, hl, hw, hf, hr, hN⟩ := id h
  obtain ⟨c1, c2, c3, c4⟩ := id hb
  have hth := lw_ht hw
  unfold fx_Wr_admitsBegin
  rcases wi_C a 4 (by omega) c with ⟨x, hx, ex, e2⟩ | ⟨ea, e2⟩
  · have e4 : fx_Ma_isWithin a 4 c = some (1, c) := e2
    rw [e4, bn_s, if_neg i10]
    rcases wi_C b 4 (by omega) c with ⟨y, hy, ey, f2⟩ | ⟨eb, f2⟩
    · have f4 : fx_Ma_isWithin b 4 c = some (1, c) := f2
      have exm : a + nI more = nI (x + more) := by rw [ex, nI_add]
      rw [f4, bn_s, if_neg i10, exm, c_has h hb (by omega), bn_s]
      cases hh : t_has V T (x + more)
      · refine Or.inl ⟨by rw [b2_f, if_pos rfl], fun w => ⟨?_, hfin w⟩⟩
        rw [hnx w]
        unfold t_begin
        rw [vs_a, vs_b, ex, ey, t_n_nI (by omega) hx, t_n_nI (by omega) hy]
        simp only []
        rw [has_view (v_set_eq ..) hw, hh]; rfl
      · have htk : t_tk V T (x + more) ≤ 8 * t := by rw [t_tk_eq hw]; omega
        obtain ⟨g, m1, m2, m3, m4, m5⟩ := wr_mk h5 (by omega) hLn hN.2.2.1
        rw [b2_t, if_neg i10, m1, bn_s, if_neg i10]
        refine Or.inr (Or.inl ?_)
        have m20 := m2
        unfold ln_ok at m20
        have h' : cw_T (wG c g) V f t T := ⟨h2, h3, h4, h5, h6, h7, h8, wc_keep (c := c) (c2 := wG c g) hw (fun _ _ _ _ _ => rfl) (fun _ _ _ _ _ _ => rfl) hl, hw, hf, hr, by show t ≤ g 0 ∧ g 0 ≤ 1500 ∧ T.1.length + 1 ≤ g 1 ∧ g 1 ≤ 1501; omega⟩
        have hm' : rA (wG c g) 3 f = nI ms := hm
        have hlt' : t < rN (wG c g) 0 ∧ T.1.length + 1 < rN (wG c g) 1 := ⟨by show t < g 0; omega, m3⟩
        have hln' : ln_ok (wG c g).2.2.2 := m2
        have e0' : rN c 0 = rN (wG c g) 0 := m4.symm
        have e2' : rN c 2 = rN (wG c g) 2 := m5.symm
        rw [e0', e2']
        show ∃ (c1 : rs_T) (T2 : ts_T) (w : Nat), _ = some (1, c1) ∧ t_nx (v_set V t o a b w) f t T = some T2 ∧ c1_ok (wG c g) c1 f t w (max ms T2.2.2.1) ∧ c1_Z c1 (v_set V t o a b w) f t T2 ∧ lk_step (wG c g) c1 (v_set V t o a b w) t T ∧ (∀ x, rA c1 5 x = rA (wG c g) 5 x) ∧ ln_ok c1.2.2.2 ∧ rN c1 0 = rN (wG c g) 0 ∧ rN c1 2 = rN (wG c g) 2 ∧ T2.1.length + 1 ≤ rN c1 1
        clear e0' e2' m1 m4 m5 hLn e2 e4 f2 f4 h2 h3 h4 h5 h6 h7 h8 hl hr hN hm hlt h
        generalize wG c g = c at h' hm' hlt' hln' ⊢
        obtain ⟨h2, h3, h4, h5, h6, h7, h8, hl, -, -, hr, hN⟩ := id h'
        have hm := hm'
        rw [bd_s, c_take h' hb (by omega), bv_s, h4]
        simp only [rN_wI]
        rw [gd_k (by omega) (by omega), gd_k (by omega) (by omega), gd_k (by omega) (by omega)]
        have k5 : rI (wI c 6 (nI (t_tk V T (x + more)))) 5 = nI (T.1.length + 1) := by simp (disch := omega) only [bn_s, bv_s, bd_s, gb_0, gb_1, rI_ws, rI_wn, rI_wA, rI_wL, rA_wI, rA_wL, rL_wI, rL_wA, rA_wss, rA_wn, rA_wsn, rL_wss, rL_wn, rL_wsn, rN_wI, rN_wA, rN_wL]; exact h5
        rw [k5, gd_k (by omega) (by omega), gd_k (by omega) (by omega), nI_clamp (by omega), nI_clamp (by omega), nI_1, rI_ws, ex]
        generalize hc0 : wI (wA (wA (wA (wA (wA (wI c 6 (nI (t_tk V T (x + more)))) 12 t (nI (t_tk V T (x + more)))) 10 t (-1)) 11 t (-1)) 13 (T.1.length + 1) (nI t)) 14 (T.1.length + 1) 0) 5 (nI (T.1.length + 1 + 1)) = c0
        rw [c_put (c := c0) (h := t_tk V T (x + more)) (f := f) (ms := ms) (by rw [← hc0]; simp (disch := omega) only [bn_s, bv_s, bd_s, gb_0, gb_1, rI_ws, rI_wn, rI_wA, rI_wL, rA_wI, rA_wL, rL_wI, rL_wA, rA_wss, rA_wn, rA_wsn, rL_wss, rL_wn, rL_wsn, rN_wI, rN_wA, rN_wL]; exact h3) hf (by rw [← hc0]; simp (disch := omega) only [bn_s, bv_s, bd_s, gb_0, gb_1, rI_ws, rI_wn, rI_wA, rI_wL, rA_wI, rA_wL, rL_wI, rL_wA, rA_wss, rA_wn, rA_wsn, rL_wss, rL_wn, rL_wsn, rN_wI, rN_wA, rN_wL]) (by rw [← hc0]; simp (disch := omega) only [bn_s, bv_s, bd_s, gb_0, gb_1, rI_ws, rI_wn, rI_wA, rI_wL, rA_wI, rA_wL, rL_wI, rL_wA, rA_wss, rA_wn, rA_wsn, rL_wss, rL_wn, rL_wsn, rN_wI, rN_wA, rN_wL]; exact hm) (by omega) (by omega), bv_s]
        have hv := v_set_eq V t o (nI x) b (t_tk V T (x + more))
        refine ⟨_, ((t, false, false) :: T.1, T.2.1, t_tk V T (x + more) + x, 0, none), t_tk V T (x + more), rfl, ?_, ?_, ?_, ?_, fun z => ?_, by rw [← hc0]; exact hln', by rw [← hc0]; rfl, by rw [← hc0]; rfl, by rw [← hc0]; exact hlt'.2⟩
        · rw [← ex, hnx _]
          unfold t_begin
          rw [vs_a, vs_b, vs_w, ex, ey, t_n_nI (by omega) hx, t_n_nI (by omega) hy]
          simp only []
          rw [has_view (v_set_eq ..) hw, hh, tk_view (v_set_eq ..) hw, if_pos rfl]; rfl
        · refine ⟨fun q _ _ _ _ _ => ?_, fun j z hj => ?_, fun z hz => ?_, ?_, fun z hz => ?_, ?_, fun j z => ?_⟩
          · rw [← hc0]; simp (disch := omega) only [bn_s, bv_s, bd_s, gb_0, gb_1, rI_ws, rI_wn, rI_wA, rI_wL, rA_wI, rA_wL, rL_wI, rL_wA, rA_wss, rA_wn, rA_wsn, rL_wss, rL_wn, rL_wsn, rN_wI, rN_wA, rN_wL]
          · rw [← hc0]; simp (disch := omega) only [bn_s, bv_s, bd_s, gb_0, gb_1, rI_ws, rI_wn, rI_wA, rI_wL, rA_wI, rA_wL, rL_wI, rL_wA, rA_wss, rA_wn, rA_wsn, rL_wss, rL_wn, rL_wsn, rN_wI, rN_wA, rN_wL]
          · rw [← hc0]; simp (disch := omega) only [bn_s, bv_s, bd_s, gb_0, gb_1, rI_ws, rI_wn, rI_wA, rI_wL, rA_wI, rA_wL, rL_wI, rL_wA, rA_wss, rA_wn, rA_wsn, rL_wss, rL_wn, rL_wsn, rN_wI, rN_wA, rN_wL]
          · simp (disch := omega) only [bn_s, bv_s, bd_s, gb_0, gb_1, rI_ws, rI_wn, rI_wA, rI_wL, rA_wI, rA_wL, rL_wI, rL_wA, rA_wss, rA_wn, rA_wsn, rL_wss, rL_wn, rL_wsn, rN_wI, rN_wA, rN_wL]
          · rw [← hc0]; simp (disch := omega) only [bn_s, bv_s, bd_s, gb_0, gb_1, rI_ws, rI_wn, rI_wA, rI_wL, rA_wI, rA_wL, rL_wI, rL_wA, rA_wss, rA_wn, rA_wsn, rL_wss, rL_wn, rL_wsn, rN_wI, rN_wA, rN_wL]
          · rw [← hc0]; simp (disch := omega) only [bn_s, bv_s, bd_s, gb_0, gb_1, rI_ws, rI_wn, rI_wA, rI_wL, rA_wI, rA_wL, rL_wI, rL_wA, rA_wss, rA_wn, rA_wsn, rL_wss, rL_wn, rL_wsn, rN_wI, rN_wA, rN_wL]; exact nI_clamp (by omega)
          · rw [← hc0]; simp (disch := omega) only [bn_s, bv_s, bd_s, gb_0, gb_1, rI_ws, rI_wn, rI_wA, rI_wL, rA_wI, rA_wL, rL_wI, rL_wA, rA_wss, rA_wn, rA_wsn, rL_wss, rL_wn, rL_wsn, rN_wI, rN_wA, rN_wL]
        · refine ⟨?_, ?_, ?_, ?_, fun z => absurd rfl z, ?_, ?_⟩
          · rw [← hc0]; simp (disch := omega) only [bn_s, bv_s, bd_s, gb_0, gb_1, rI_ws, rI_wn, rI_wA, rI_wL, rA_wI, rA_wL, rL_wI, rL_wA, rA_wss, rA_wn, rA_wsn, rL_wss, rL_wn, rL_wsn, rN_wI, rN_wA, rN_wL]; exact h3
          · rw [← hc0]; simp (disch := omega) only [bn_s, bv_s, bd_s, gb_0, gb_1, rI_ws, rI_wn, rI_wA, rI_wL, rA_wI, rA_wL, rL_wI, rL_wA, rA_wss, rA_wn, rA_wsn, rL_wss, rL_wn, rL_wsn, rN_wI, rN_wA, rN_wL]; rfl
          · simp (disch := omega) only [bn_s, bv_s, bd_s, gb_0, gb_1, rI_ws, rI_wn, rI_wA, rI_wL, rA_wI, rA_wL, rL_wI, rL_wA, rA_wss, rA_wn, rA_wsn, rL_wss, rL_wn, rL_wsn, rN_wI, rN_wA, rN_wL]
          · rw [← hc0]; simp (disch := omega) only [bn_s, bv_s, bd_s, gb_0, gb_1, rI_ws, rI_wn, rI_wA, rI_wL, rA_wI, rA_wL, rL_wI, rL_wA, rA_wss, rA_wn, rA_wsn, rL_wss, rL_wn, rL_wsn, rN_wI, rN_wA, rN_wL]; rw [h7, hel]
          · refine ⟨?_, ?_, ?_, ?_, ?_, ?_, fun _ => ?_, fun z => absurd z Bool.false_ne_true, ?_⟩
            · rw [← hc0]; simp (disch := omega) only [bn_s, bv_s, bd_s, gb_0, gb_1, rI_ws, rI_wn, rI_wA, rI_wL, rA_wI, rA_wL, rL_wI, rL_wA, rA_wss, rA_wn, rA_wsn, rL_wss, rL_wn, rL_wsn, rN_wI, rN_wA, rN_wL]
            · rw [← hc0]; simp (disch := omega) only [bn_s, bv_s, bd_s, gb_0, gb_1, rI_ws, rI_wn, rI_wA, rI_wL, rA_wI, rA_wL, rL_wI, rL_wA, rA_wss, rA_wn, rA_wsn, rL_wss, rL_wn, rL_wsn, rN_wI, rN_wA, rN_wL]; rfl
            · rw [← hc0]; simp (disch := omega) only [bn_s, bv_s, bd_s, gb_0, gb_1, rI_ws, rI_wn, rI_wA, rI_wL, rA_wI, rA_wL, rL_wI, rL_wA, rA_wss, rA_wn, rA_wsn, rL_wss, rL_wn, rL_wsn, rN_wI, rN_wA, rN_wL]; rw [vs_w]
            · simp (disch := omega) only [bn_s, bv_s, bd_s, gb_0, gb_1, rI_ws, rI_wn, rI_wA, rI_wL, rA_wI, rA_wL, rL_wI, rL_wA, rA_wss, rA_wn, rA_wsn, rL_wss, rL_wn, rL_wsn, rN_wI, rN_wA, rN_wL]
            · simp (disch := omega) only [bn_s, bv_s, bd_s, gb_0, gb_1, rI_ws, rI_wn, rI_wA, rI_wL, rA_wI, rA_wL, rL_wI, rL_wA, rA_wss, rA_wn, rA_wsn, rL_wss, rL_wn, rL_wsn, rN_wI, rN_wA, rN_wL]
            · simp (disch := omega) only [bn_s, bv_s, bd_s, gb_0, gb_1, rI_ws, rI_wn, rI_wA, rI_wL, rA_wI, rA_wL, rL_wI, rL_wA, rA_wss, rA_wn, rA_wsn, rL_wss, rL_wn, rL_wsn, rN_wI, rN_wA, rN_wL]
            · rw [← hc0]; simp (disch := omega) only [bn_s, bv_s, bd_s, gb_0, gb_1, rI_ws, rI_wn, rI_wA, rI_wL, rA_wI, rA_wL, rL_wI, rL_wA, rA_wss, rA_wn, rA_wsn, rL_wss, rL_wn, rL_wsn, rN_wI, rN_wA, rN_wL]
            · refine wc_keep (lw_view hv hw) (fun j i _ _ hi => ?_) (fun j z _ _ _ hz => ?_) (wc_view hv hw hl)
              · rw [← hc0]
                rcases (show j = 13 ∨ j = 14 by omega) with rfl | rfl <;> simp (disch := omega) only [bn_s, bv_s, bd_s, gb_0, gb_1, rI_ws, rI_wn, rI_wA, rI_wL, rA_wI, rA_wL, rL_wI, rL_wA, rA_wss, rA_wn, rA_wsn, rL_wss, rL_wn, rL_wsn, rN_wI, rN_wA, rN_wL]
              · rw [← hc0]
                rcases (show j = 7 ∨ j = 8 ∨ j = 9 ∨ j = 11 ∨ j = 12 by omega) with rfl | rfl | rfl | rfl | rfl <;> simp (disch := omega) only [bn_s, bv_s, bd_s, gb_0, gb_1, rI_ws, rI_wn, rI_wA, rI_wL, rA_wI, rA_wL, rL_wI, rL_wA, rA_wss, rA_wn, rA_wsn, rL_wss, rL_wn, rL_wsn, rN_wI, rN_wA, rN_wL]
          · refine ⟨Nat.lt_succ_self t, ⟨x, y, hx, hy, ?_, ?_⟩, ?_, ?_, fun z => absurd z Bool.false_ne_true, ?_⟩
            · rw [vs_a]
            · rw [vs_b]; exact ey
            · rw [vs_o]; exact hop
            · rw [vs_w]; exact Nat.le_add_right _ _
            · rw [vs_w]
              refine lw_h (lw_mono (Nat.le_succ t) (Nat.le_refl _) (lw_view hv hw)) ?_
              rw [ht_view hv hw, t_tk_eq hw]
              exact Nat.le_add_right _ _
        · refine ⟨fun z hz _ => ?_, fun z hz _ => ?_, fun z => ?_, fun z => ?_, fun z => ?_⟩
          · rw [← hc0]; simp (disch := omega) only [bn_s, bv_s, bd_s, gb_0, gb_1, rI_ws, rI_wn, rI_wA, rI_wL, rA_wI, rA_wL, rL_wI, rL_wA, rA_wss, rA_wn, rA_wsn, rL_wss, rL_wn, rL_wsn, rN_wI, rN_wA, rN_wL]
          · rw [← hc0]; simp (disch := omega) only [bn_s, bv_s, bd_s, gb_0, gb_1, rI_ws, rI_wn, rI_wA, rI_wL, rA_wI, rA_wL, rL_wI, rL_wA, rA_wss, rA_wn, rA_wsn, rL_wss, rL_wn, rL_wsn, rN_wI, rN_wA, rN_wL]
          · rw [vs_o] at z; rcases hop with rfl | rfl | rfl <;> exact absurd z (by decide)
          · rw [vs_o] at z; rcases hop with rfl | rfl | rfl <;> exact absurd z (by decide)
          · rw [vs_o] at z; rcases hop with rfl | rfl | rfl <;> exact absurd z (by decide)
        · rw [← hc0]; simp (disch := omega) only [bn_s, bv_s, bd_s, gb_0, gb_1, rI_ws, rI_wn, rI_wA, rI_wL, rA_wI, rA_wL, rL_wI, rL_wA, rA_wss, rA_wn, rA_wsn, rL_wss, rL_wn, rL_wsn, rN_wI, rN_wA, rN_wL]
    · have f4 : fx_Ma_isWithin b 4 c = some (0, c) := f2
      rw [f4, bn_s, if_pos rfl]
      refine Or.inl ⟨rfl, fun w => ⟨?_, hfin w⟩⟩
      rw [hnx w]
      unfold t_begin
      rw [vs_a, vs_b, ex, t_n_nI (by omega) hx, t_n_none eb (by omega)]
  · have e4 : fx_Ma_isWithin a 4 c = some (0, c) := e2
    rw [e4, bn_s, if_pos rfl]
    refine Or.inl ⟨rfl, fun w => ⟨?_, hfin w⟩⟩
    rw [hnx w]
    unfold t_begin
    rw [vs_a, vs_b, t_n_none ea (by omega)]
