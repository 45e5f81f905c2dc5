theorem ph_gb {m : rs_T} {f t : Nat} {o a b : Int32} {T : ts_T} {r : Option (Int32 × rs_T)} (h : m_ph m f t o a b T r) : m_ph m f t o a b T (bn r (fun r st => gb r (some (r, st)))) := by
  rcases h with ⟨e, h⟩ | ⟨m1, T2, w, e, h⟩ | ⟨m1, w, e, h⟩
  · rw [e, bn_s, gb_0]; exact Or.inl ⟨rfl, h⟩
  · rw [e, bn_s, gb_1]; exact Or.inr (Or.inl ⟨m1, T2, w, rfl, h⟩)
  · rw [e, bn_s, gb_1]; exact Or.inr (Or.inr ⟨m1, w, rfl, h⟩)
theorem ph_if {m : rs_T} {f t : Nat} {o a b : Int32} {T : ts_T} {r : Option (Int32 × rs_T)} (h : m_ph m f t o a b T r) : m_ph m f t o a b T (bn r (fun r st => if r = 0 then some (0, st) else some (1, st))) := by
  rcases h with ⟨e, h⟩ | ⟨m1, T2, w, e, h⟩ | ⟨m1, w, e, h⟩
  · rw [e, bn_s, if_pos rfl]; exact Or.inl ⟨rfl, h⟩
  · rw [e, bn_s, if_neg i10]; exact Or.inr (Or.inl ⟨m1, T2, w, rfl, h⟩)
  · rw [e, bn_s, if_neg i10]; exact Or.inr (Or.inr ⟨m1, w, rfl, h⟩)
theorem has_0 {V : vw_T} {T : ts_T} {t : Nat} (hl : lw_L V t T.1 T.2.2.1) : t_has V T 0 = true := by
  unfold t_has
  have := lw_ht hl
  simp [this]
theorem nf_op {V : vw_T} {f t : Nat} {T : ts_T} {o a b : Int32} {w : Nat} (h : ¬ o = 11) : ¬ t_fin (v_set V t o a b w) f t T := fun hq => h (by have := hq.1; rw [vs_o] at this; exact this)
-- the controls
theorem m_ctl {m : rs_T} {f t : Nat} {o a b : Int32} {T : ts_T} (hw : mw_T m f t T) (hb : tb_ok t T) (ht : t < 512) (hel : T.2.2.2.1 = 0) (hF : mf_ok m (f + 1)) (ho : o ∈ ([0, 1, 2, 3, 4, 5, 11, 12, 13, 14, 15, 16, 17] : List Int32)) : m_ph m f t o a b T (fx_Md_control o a b m) := by
  have htop := mw_top hw hb
  obtain ⟨h0, h1, h2, h3, h4, h5, h6, h7⟩ := id hw
  obtain ⟨c1, c2, c3, c4⟩ := id hb
  obtain ⟨hF1, hF2⟩ := hF
  obtain ⟨p1, p2, p3, p4, p5, p6⟩ := hF2 f (Nat.lt_succ_self f)
  simp only [List.mem_cons, List.not_mem_nil, or_false] at ho
  rcases ho with rfl | rfl | rfl | rfl | rfl | rfl | rfl | rfl | rfl | rfl | rfl | rfl | rfl
  · unfold fx_Md_control
    simp (decide := true) only [if_true, if_false]
    refine ph_gb (m_p_ends (n := 0) hw hb hel (by omega) (fun w => ?_) (fun w => nf_op (by decide)))
    rw [has_view (v_set_eq ..) h7, has_0 h7]
    unfold t_nx
    rw [vs_o, hel]
    simp (decide := true) only [if_true, if_false, cond_true]
  · unfold fx_Md_control
    simp (decide := true) only [if_true, if_false]
    have hv := v_set_eq (vm m) t 1 a b (rA m 9 t).toNatClampNeg
    have etk : t_tk (vm m) T 0 + 0 = T.2.2.1 := by rw [t_tk_eq h7]; have := lw_ht h7; omega
    refine Or.inr (Or.inl ⟨m, (T.1, T.2.1, T.2.2.1, 0, none), (rA m 9 t).toNatClampNeg, rfl, ?_, m1_frame (fun _ _ _ _ _ => rfl) (fun _ _ _ => rfl) (fun _ _ => rfl), ?_⟩)
    · unfold t_nx t_plain
      rw [vs_o, hel]
      simp (decide := true) only [if_true, if_false, t_ar, t_lim, cond_true, t_tu]
      rw [has_view hv h7, has_0 h7, tk_view hv h7, etk]; rfl
    · refine ⟨h3, by rw [h4, hel], fun z => absurd rfl z, wm_view hv h7 h6, lw_mono (Nat.le_succ t) (Nat.le_refl _) (lw_view hv h7)⟩
  · unfold fx_Md_control
    simp (decide := true) only [if_true, if_false]
    refine ph_gb (m_p_begin (more := 0) hw hb ht hel (vs_o ..) (Or.inl rfl) rfl (fun w => ?_) (fun w => nf_op (by decide)))
    unfold t_nx
    rw [vs_o, hel]
    simp (decide := true) only [if_true, if_false]
  · unfold fx_Md_control
    simp (decide := true) only [if_true, if_false]
    refine ph_gb (m_p_begin (more := 0) hw hb ht hel (vs_o ..) (Or.inr (Or.inl rfl)) rfl (fun w => ?_) (fun w => nf_op (by decide)))
    unfold t_nx
    rw [vs_o, hel]
    simp (decide := true) only [if_true, if_false]
  · unfold fx_Md_control
    simp (decide := true) only [if_true, if_false]
    refine ph_gb (m_p_begin (more := 1) hw hb ht hel (vs_o ..) (Or.inr (Or.inr rfl)) rfl (fun w => ?_) (fun w => nf_op (by decide)))
    unfold t_nx
    rw [vs_o, hel]
    simp (decide := true) only [if_true, if_false]
  · unfold fx_Md_control
    simp (decide := true) only [if_true, if_false]
    exact ph_gb (m_p_else hw hb hel p5)
  · unfold fx_Md_control
    simp (decide := true) only [if_true, if_false]
    exact ph_gb (m_p_end hw hb hel p5)
  · unfold fx_Md_control
    simp (decide := true) only [if_true, if_false]
    have hnx : ∀ w, t_nx (v_set (vm m) t 12 a b w) f t T = (match t_n a T.1.length with
      | none => none
      | some k => bif t_has (v_set (vm m) t 12 a b w) T (t_want (v_set (vm m) t 12 a b w) f T.1 k) then some (t_die (v_set (vm m) t 12 a b w) T) else none) := fun w => by
      unfold t_nx
      rw [vs_o, vs_a, hel]
      simp (decide := true) only [if_true, if_false]
      cases t_n a T.1.length <;> rfl
    rcases m_label hw hb a with ⟨k, hk, ek, etn, el⟩ | ⟨etn, el⟩
    · rw [el, bn_s, if_neg i10, ek, m_wants hw hb p2 hk, bn_s, ← ek]
      have hwl : t_want (vm m) f T.1 k ≤ 8 := want_le h7 p5
      refine ph_if (m_p_ends hw hb hel (by omega) (fun w => ?_) (fun w => nf_op (by decide)))
      rw [hnx w, etn]
      simp only []
      rw [want_view (v_set_eq ..) h7]
    · rw [el, bn_s, if_pos rfl]
      refine Or.inl ⟨rfl, fun w => ⟨?_, nf_op (by decide)⟩⟩
      rw [hnx w, etn]
  · unfold fx_Md_control
    simp (decide := true) only [if_true, if_false]
    have hnx : ∀ w, t_nx (v_set (vm m) t 13 a b w) f t T = (match t_n a T.1.length with
      | none => none
      | some k => t_tu (v_set (vm m) t 13 a b w) T (t_want (v_set (vm m) t 13 a b w) f T.1 k + 1) (t_want (v_set (vm m) t 13 a b w) f T.1 k)) := fun w => by
      unfold t_nx
      rw [vs_o, vs_a, hel]
      simp (decide := true) only [if_true, if_false]
      cases t_n a T.1.length <;> rfl
    rcases m_label hw hb a with ⟨k, hk, ek, etn, el⟩ | ⟨etn, el⟩
    · rw [el, bn_s, if_neg i10, ek, m_wants hw hb p2 hk, bn_s, m_wants hw hb p2 hk, bn_s, ← ek, lit_add, Nat.add_comm]
      have hwl : t_want (vm m) f T.1 k ≤ 8 := want_le h7 p5
      refine ph_if (m_p_turn hw hb hel (show t_want (vm m) f T.1 k + 1 ≤ 20 by omega) hwl (fun w => ?_) (fun w => nf_op (by decide)))
      rw [hnx w, etn]
      simp only []
      rw [want_view (v_set_eq ..) h7]
    · rw [el, bn_s, if_pos rfl]
      refine Or.inl ⟨rfl, fun w => ⟨?_, nf_op (by decide)⟩⟩
      rw [hnx w, etn]
  · unfold fx_Md_control
    simp (decide := true) only [if_true, if_false]
    exact ph_gb (m_p_table hw hb hel)
  · unfold fx_Md_control
    simp (decide := true) only [if_true, if_false]
    have e0 : gd (0 : Int32) 1501 (bn (fx_Md_ends (rA m 12 (0 : Int32).toNatClampNeg) m) (fun r32 st31 => gb r32 (some (r32, st31)))) = bn (fx_Md_ends (nI (v_r (vm m) f)) m) (fun r32 st31 => gb r32 (some (r32, st31))) := by
      have e := gd_k (α := Int32 × rs_T) (k := 0) (n := 1501) (x := bn (fx_Md_ends (rA m 12 (0 : Int32).toNatClampNeg) m) (fun r32 st31 => gb r32 (some (r32, st31)))) (by omega) (by omega)
      rw [nI_0] at e
      rw [e, show (0 : Int32).toNatClampNeg = 0 from rfl, (wm_bot h6).2]
    rw [e0]
    refine ph_gb (m_p_ends hw hb hel (by omega) (fun w => ?_) (fun w => nf_op (by decide)))
    unfold t_nx
    rw [vs_o, hel, vs_r]
    simp (decide := true) only [if_true, if_false]
  · unfold fx_Md_control
    simp (decide := true) only [if_true, if_false]
    have hnx : ∀ w, t_nx (v_set (vm m) t 16 a b w) f t T = (match t_n a f with
      | none => none
      | some g => t_tu (v_set (vm m) t 16 a b w) T (v_p (vm m) g) (v_r (vm m) g)) := fun w => by
      unfold t_nx
      rw [vs_o, vs_a, hel, vs_p, vs_r]
      simp (decide := true) only [if_true, if_false]
      cases t_n a f <;> rfl
    rw [h0, nI_pred]
    rcases wi_M a f (by omega) m with ⟨g, hg, eg, e2⟩ | ⟨eg, e2⟩
    · obtain ⟨q1, q2, q3, q4, q5, q6⟩ := hF2 g (by omega)
      rw [e2, bn_s, if_neg i10, eg, gd_k (by omega) (by omega), gd_k (by omega) (by omega), nI_clamp (by omega), q1, q2, ← eg]
      refine ph_if (m_p_turn hw hb hel (by omega) q5 (fun w => ?_) (fun w => nf_op (by decide)))
      rw [hnx w, eg, t_n_nI (by omega) hg]
    · rw [e2, bn_s, if_pos rfl]
      refine Or.inl ⟨rfl, fun w => ⟨?_, nf_op (by decide)⟩⟩
      rw [hnx w, t_n_none eg (by omega)]
  · unfold fx_Md_control
    simp (decide := true) only [if_true, if_false]
    have hnx : ∀ w, t_nx (v_set (vm m) t 17 a b w) f t T = (match t_n a 8, t_n b 8 with
      | some x, some y => t_tu (v_set (vm m) t 17 a b w) T (x + 1) y
      | _, _ => none) := fun w => by
      unfold t_nx
      rw [vs_o, vs_a, vs_b, hel]
      simp (decide := true) only [if_true, if_false]
      cases t_n a 8 <;> cases t_n b 8 <;> rfl
    rcases wi_M a 8 (by omega) m with ⟨x, hx, ex, e2⟩ | ⟨ex, e2⟩
    · have e3 : fx_Md_within a 8 m = some (1, m) := e2
      rw [e3, bn_s, if_neg i10]
      rcases wi_M b 8 (by omega) m with ⟨y, hy, ey, f2⟩ | ⟨ey, f2⟩
      · have f3 : fx_Md_within b 8 m = some (1, m) := f2
        have eq1 : (1 : Int32) + a = nI (x + 1) := by rw [ex, lit_add, Nat.add_comm]
        rw [f3, bn_s, if_neg i10, eq1]
        have := ph_if (m_p_turn (o := 17) (a := a) (b := b) hw hb hel (show x + 1 ≤ 20 by omega) hy (fun w => by rw [hnx w, ex, ey, t_n_nI (by omega) hx, t_n_nI (by omega) hy]) (fun w => nf_op (by decide)))
        rw [← ey] at this
        exact this
      · have f3 : fx_Md_within b 8 m = some (0, m) := f2
        rw [f3, bn_s, if_pos rfl]
        refine Or.inl ⟨rfl, fun w => ⟨?_, nf_op (by decide)⟩⟩
        rw [hnx w, ex, t_n_nI (by omega) hx, t_n_none ey (by omega)]
    · have e3 : fx_Md_within a 8 m = some (0, m) := e2
      rw [e3, bn_s, if_pos rfl]
      refine Or.inl ⟨rfl, fun w => ⟨?_, nf_op (by decide)⟩⟩
      rw [hnx w, t_n_none ex (by omega)]
