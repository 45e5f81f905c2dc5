-- ENTRY
theorem m_p_entry {m : rs_T} {f t : Nat} {a b : Int32} {T : ts_T} (hw : mw_T m f t T) (hb : tb_ok t T) (hel : ¬ T.2.2.2.1 = 0) (hr1 : rA m 3 f = nI (v_r (vm m) f)) (hr : v_r (vm m) f ≤ 8) : m_ph m f t 6 a b T (fx_Md_entryTo a m) := by
  have htop := mw_top hw hb
  obtain ⟨h0, h1, h2, h3, h4, h5, h6, h7⟩ := id hw
  obtain ⟨c1, c2, c3, c4⟩ := id hb
  have hnx : ∀ w, t_nx (v_set (vm m) t 6 a b w) f t T = t_entry (v_set (vm m) t 6 a b w) f t T := fun w => by
    unfold t_nx
    rw [vs_o, if_pos rfl, if_neg hel]
  have hfin : ∀ w, ¬ t_fin (v_set (vm m) t 6 a b w) f t T := fun w hq => by
    have := hq.1
    rw [vs_o] at this
    exact absurd this (by decide)
  have e4 : ¬ rI m 4 = 0 := by rw [h4]; exact nI_ne0 (by omega) (by omega)
  unfold fx_Md_entryTo
  rw [if_neg e4]
  rcases m_label hw hb a with ⟨k, hk, ek, etn, el⟩ | ⟨etn, el⟩
  · rw [el, bn_s, if_neg i10]
    have hwl : t_want (vm m) f T.1 k ≤ 8 := want_le h7 hr
    have hwants := m_wants hw hb hr1 hk
    -- what comes behind the checks
    have hacc : ∀ ok : Bool, ok = true → (∀ w, t_entry (v_set (vm m) t 6 a b w) f t T = bif ok then (if T.2.2.2.1 = 1 then some (t_die (v_set (vm m) t 6 a b w) T) else some (T.1, T.2.1, T.2.2.1, T.2.2.2.1 - 1, some (t_want (vm m) f T.1 k))) else none) → m_ph m f t 6 a b T (fx_Md_entryTo_b53 a m) := fun ok hok hent => by
      unfold fx_Md_entryTo_b53
      have esub : nI T.2.2.2.1 - 1 = nI (T.2.2.2.1 - 1) := nI_sub (b := 1) (by omega)
      rw [ek, hwants, bn_s, h4, esub]
      have hv := v_set_eq (vm m) t 6 (nI k) b (rA m 9 t).toNatClampNeg
      by_cases e1 : T.2.2.2.1 = 1
      · rw [if_pos (by rw [e1]; rfl)]
        have htop2 : mt_T (wI (wI (wI m 5 (nI (t_want (vm m) f T.1 k))) 6 0) 4 (nI (T.2.2.2.1 - 1))) T.1.length (t_ht (vm m) T.1) (T.2.2.1 - t_ht (vm m) T.1) (t_dd T) := by
          obtain ⟨g1, g2, g3, g4, g5, g6⟩ := htop
          refine ⟨?_, ?_, ?_, ?_, g5, g6⟩
          · simp (disch := omega) only [bn_s, bv_s, bd_s, gb_0, gb_1, rI_ws, rI_wn, rI_wA, rI_wL, rA_wI, rA_wL, rL_wI, rL_wA, rA_wss, rA_wn, rA_wsn, rL_wss, rL_wn, rL_wsn, rN_wI, rN_wA, rN_wL]; exact g1
          · simp (disch := omega) only [bn_s, bv_s, bd_s, gb_0, gb_1, rI_ws, rI_wn, rI_wA, rI_wL, rA_wI, rA_wL, rL_wI, rL_wA, rA_wss, rA_wn, rA_wsn, rL_wss, rL_wn, rL_wsn, rN_wI, rN_wA, rN_wL]; exact g2
          · simp (disch := omega) only [bn_s, bv_s, bd_s, gb_0, gb_1, rI_ws, rI_wn, rI_wA, rI_wL, rA_wI, rA_wL, rL_wI, rL_wA, rA_wss, rA_wn, rA_wsn, rL_wss, rL_wn, rL_wsn, rN_wI, rN_wA, rN_wL]; exact g3
          · simp (disch := omega) only [bn_s, bv_s, bd_s, gb_0, gb_1, rI_ws, rI_wn, rI_wA, rI_wL, rA_wI, rA_wL, rL_wI, rL_wA, rA_wss, rA_wn, rA_wsn, rL_wss, rL_wn, rL_wsn, rN_wI, rN_wA, rN_wL]; exact g4
        rw [m_die htop2, bv_s]
        refine Or.inr (Or.inl ⟨_, t_die (v_set (vm m) t 6 (nI k) b (rA m 9 t).toNatClampNeg) T, (rA m 9 t).toNatClampNeg, rfl, ?_, ?_, ?_⟩)
        · rw [← ek, hnx _, hent _, hok, if_pos e1]; rfl
        · refine m1_frame (fun z _ _ _ _ => ?_) (fun j z hj => ?_) (fun j z => ?_)
          · simp (disch := omega) only [bn_s, bv_s, bd_s, gb_0, gb_1, rI_ws, rI_wn, rI_wA, rI_wL, rA_wI, rA_wL, rL_wI, rL_wA, rA_wss, rA_wn, rA_wsn, rL_wss, rL_wn, rL_wsn, rN_wI, rN_wA, rN_wL]
          · simp (disch := omega) only [bn_s, bv_s, bd_s, gb_0, gb_1, rI_ws, rI_wn, rI_wA, rI_wL, rA_wI, rA_wL, rL_wI, rL_wA, rA_wss, rA_wn, rA_wsn, rL_wss, rL_wn, rL_wsn, rN_wI, rN_wA, rN_wL]
          · simp (disch := omega) only [bn_s, bv_s, bd_s, gb_0, gb_1, rI_ws, rI_wn, rI_wA, rI_wL, rA_wI, rA_wL, rL_wI, rL_wA, rA_wss, rA_wn, rA_wsn, rL_wss, rL_wn, rL_wsn, rN_wI, rN_wA, rN_wL]
        · unfold t_die
          rw [t_in_eq]
          refine ⟨?_, ?_, fun z => absurd rfl z, ?_, ?_⟩
          · simp (disch := omega) only [bn_s, bv_s, bd_s, gb_0, gb_1, rI_ws, rI_wn, rI_wA, rI_wL, rA_wI, rA_wL, rL_wI, rL_wA, rA_wss, rA_wn, rA_wsn, rL_wss, rL_wn, rL_wsn, rN_wI, rN_wA, rN_wL, l_in_len]; exact h3
          · simp (disch := omega) only [bn_s, bv_s, bd_s, gb_0, gb_1, rI_ws, rI_wn, rI_wA, rI_wL, rA_wI, rA_wL, rL_wI, rL_wA, rA_wss, rA_wn, rA_wsn, rL_wss, rL_wn, rL_wsn, rN_wI, rN_wA, rN_wL]; rw [e1]
          · refine wm_set (wm_view hv h7 h6) (fun j i _ _ hi => ?_) (fun j _ hj => ?_) ?_ ?_
            · by_cases e : j = 14
              · subst e; simp (disch := omega) only [bn_s, bv_s, bd_s, gb_0, gb_1, rI_ws, rI_wn, rI_wA, rI_wL, rA_wI, rA_wL, rL_wI, rL_wA, rA_wss, rA_wn, rA_wsn, rL_wss, rL_wn, rL_wsn, rN_wI, rN_wA, rN_wL]
              · by_cases e : j = 15
                · subst e; simp (disch := omega) only [bn_s, bv_s, bd_s, gb_0, gb_1, rI_ws, rI_wn, rI_wA, rI_wL, rA_wI, rA_wL, rL_wI, rL_wA, rA_wss, rA_wn, rA_wsn, rL_wss, rL_wn, rL_wsn, rN_wI, rN_wA, rN_wL]
                · simp (disch := omega) only [bn_s, bv_s, bd_s, gb_0, gb_1, rI_ws, rI_wn, rI_wA, rI_wL, rA_wI, rA_wL, rL_wI, rL_wA, rA_wss, rA_wn, rA_wsn, rL_wss, rL_wn, rL_wsn, rN_wI, rN_wA, rN_wL]
            · simp (disch := omega) only [bn_s, bv_s, bd_s, gb_0, gb_1, rI_ws, rI_wn, rI_wA, rI_wL, rA_wI, rA_wL, rL_wI, rL_wA, rA_wss, rA_wn, rA_wsn, rL_wss, rL_wn, rL_wsn, rN_wI, rN_wA, rN_wL]
            · simp (disch := omega) only [bn_s, bv_s, bd_s, gb_0, gb_1, rI_ws, rI_wn, rI_wA, rI_wL, rA_wI, rA_wL, rL_wI, rL_wA, rA_wss, rA_wn, rA_wsn, rL_wss, rL_wn, rL_wsn, rN_wI, rN_wA, rN_wL, Nat.sub_self, nI_0]
            · simp (disch := omega) only [bn_s, bv_s, bd_s, gb_0, gb_1, rI_ws, rI_wn, rI_wA, rI_wL, rA_wI, rA_wL, rL_wI, rL_wA, rA_wss, rA_wn, rA_wsn, rL_wss, rL_wn, rL_wsn, rN_wI, rN_wA, rN_wL]; rfl
          · exact lw_in (lw_h (lw_mono (Nat.le_succ t) (Nat.le_refl _) (lw_view hv h7)) (Nat.le_refl _))
      · have e2 : ¬ nI (T.2.2.2.1 - 1) = 0 := nI_ne0 (by omega) (by omega)
        rw [if_neg e2]
        refine Or.inr (Or.inl ⟨_, (T.1, T.2.1, T.2.2.1, T.2.2.2.1 - 1, some (t_want (vm m) f T.1 k)), (rA m 9 t).toNatClampNeg, rfl, ?_, ?_, ?_⟩)
        · rw [← ek, hnx _, hent _, hok, if_neg e1]; rfl
        · refine m1_frame (fun z _ _ _ _ => ?_) (fun j z hj => ?_) (fun j z => ?_)
          · simp (disch := omega) only [bn_s, bv_s, bd_s, gb_0, gb_1, rI_ws, rI_wn, rI_wA, rI_wL, rA_wI, rA_wL, rL_wI, rL_wA, rA_wss, rA_wn, rA_wsn, rL_wss, rL_wn, rL_wsn, rN_wI, rN_wA, rN_wL]
          · simp (disch := omega) only [bn_s, bv_s, bd_s, gb_0, gb_1, rI_ws, rI_wn, rI_wA, rI_wL, rA_wI, rA_wL, rL_wI, rL_wA, rA_wss, rA_wn, rA_wsn, rL_wss, rL_wn, rL_wsn, rN_wI, rN_wA, rN_wL]
          · simp (disch := omega) only [bn_s, bv_s, bd_s, gb_0, gb_1, rI_ws, rI_wn, rI_wA, rI_wL, rA_wI, rA_wL, rL_wI, rL_wA, rA_wss, rA_wn, rA_wsn, rL_wss, rL_wn, rL_wsn, rN_wI, rN_wA, rN_wL]
        · refine ⟨?_, ?_, fun _ => ⟨?_, ?_, hwl⟩, ?_, ?_⟩
          · simp (disch := omega) only [bn_s, bv_s, bd_s, gb_0, gb_1, rI_ws, rI_wn, rI_wA, rI_wL, rA_wI, rA_wL, rL_wI, rL_wA, rA_wss, rA_wn, rA_wsn, rL_wss, rL_wn, rL_wsn, rN_wI, rN_wA, rN_wL]; exact h3
          · simp (disch := omega) only [bn_s, bv_s, bd_s, gb_0, gb_1, rI_ws, rI_wn, rI_wA, rI_wL, rA_wI, rA_wL, rL_wI, rL_wA, rA_wss, rA_wn, rA_wsn, rL_wss, rL_wn, rL_wsn, rN_wI, rN_wA, rN_wL]
          · simp (disch := omega) only [bn_s, bv_s, bd_s, gb_0, gb_1, rI_ws, rI_wn, rI_wA, rI_wL, rA_wI, rA_wL, rL_wI, rL_wA, rA_wss, rA_wn, rA_wsn, rL_wss, rL_wn, rL_wsn, rN_wI, rN_wA, rN_wL]
          · simp (disch := omega) only [bn_s, bv_s, bd_s, gb_0, gb_1, rI_ws, rI_wn, rI_wA, rI_wL, rA_wI, rA_wL, rL_wI, rL_wA, rA_wss, rA_wn, rA_wsn, rL_wss, rL_wn, rL_wsn, rN_wI, rN_wA, rN_wL]
          · refine wm_keep (fun j i g1 g2 g3 => ?_) (wm_view hv h7 h6)
            simp (disch := omega) only [bn_s, bv_s, bd_s, gb_0, gb_1, rI_ws, rI_wn, rI_wA, rI_wL, rA_wI, rA_wL, rL_wI, rL_wA, rA_wss, rA_wn, rA_wsn, rL_wss, rL_wn, rL_wsn, rN_wI, rN_wA, rN_wL]
          · exact lw_mono (Nat.le_succ t) (Nat.le_refl _) (lw_view hv h7)
    have hent0 : ∀ w, t_entry (v_set (vm m) t 6 a b w) f t T = bif (match T.2.2.2.2 with
        | none => t_has (vm m) T (t_want (vm m) f T.1 k)
        | some x => decide (t_want (vm m) f T.1 k = x)) then (if T.2.2.2.1 = 1 then some (t_die (v_set (vm m) t 6 a b w) T) else some (T.1, T.2.1, T.2.2.1, T.2.2.2.1 - 1, some (t_want (vm m) f T.1 k))) else none := fun w => by
      have hv := v_set_eq (vm m) t 6 a b w
      unfold t_entry
      rw [vs_a, etn]
      simp only []
      rw [want_view hv h7, has_view hv h7]
      cases T.2.2.2.2 <;> rfl
    have h5' := h5 hel
    cases hwt : T.2.2.2.2 with
    | none =>
      rw [hwt] at h5'
      have h5'' : rI m 6 = 1 := h5'
      have hent1 := hent0
      rw [hwt] at hent1
      rw [h5'', if_neg i10, ek, hwants, bn_s, m_has htop (by omega), ← t_has_eq h7, bn_s]
      cases hh : t_has (vm m) T (t_want (vm m) f T.1 k)
      · refine Or.inl ⟨rfl, fun w => ⟨?_, ?_⟩⟩
        · rw [← ek, hnx w, hent1 w]; simp only []; rw [hh]; rfl
        · rw [← ek]; exact hfin w
      · rw [b2_t, if_neg i10, ← ek]
        exact hacc true rfl (fun w => by rw [hent1 w]; simp only []; rw [hh])
    | some x =>
      rw [hwt] at h5'
      have hent1 := hent0
      rw [hwt] at hent1
      obtain ⟨p1, p2, p3⟩ : rI m 6 = 0 ∧ rI m 5 = nI x ∧ x ≤ 8 := h5'
      rw [p1, if_pos rfl, ek, hwants, bn_s, p2]
      by_cases e : t_want (vm m) f T.1 k = x
      · rw [if_pos (by rw [e]), ← ek]
        exact hacc true rfl (fun w => by rw [hent1 w]; simp only []; rw [decide_eq_true e])
      · have e2 : ¬ nI (t_want (vm m) f T.1 k) = nI x := fun z => e ((nI_eq (by omega) (by omega)).mp z)
        rw [if_neg e2]
        refine Or.inl ⟨rfl, fun w => ⟨?_, ?_⟩⟩
        · rw [← ek, hnx w, hent1 w]; simp only []; rw [decide_eq_false e]; rfl
        · rw [← ek]; exact hfin w
  · rw [el, bn_s, if_pos rfl]
    refine Or.inl ⟨rfl, fun w => ⟨?_, hfin w⟩⟩
    rw [hnx w]; unfold t_entry; rw [vs_a, etn]
