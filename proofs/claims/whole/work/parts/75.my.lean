theorem ar_neg {o : Int32} (h : o < 0) : t_ar o = none := by
  rcases ar_mem o with e | e
  · exact e
  · refine absurd e (fun e => ?_)
    simp only [List.mem_cons, List.not_mem_nil, or_false] at e
    rcases e with rfl | rfl | rfl | rfl | rfl | rfl | rfl | rfl | rfl | rfl | rfl | rfl | rfl | rfl | rfl | rfl | rfl | rfl | rfl | rfl | rfl | rfl | rfl | rfl | rfl | rfl | rfl | rfl | rfl | rfl | rfl | rfl | rfl | rfl | rfl | rfl | rfl | rfl | rfl | rfl | rfl | rfl | rfl | rfl | rfl | rfl | rfl | rfl | rfl | rfl | rfl | rfl | rfl | rfl <;> exact absurd h (by decide)
-- from the checks to code()'s end
theorem cd_of {m : rs_T} {f t s ms : Nat} {o a b : Int32} {T : ts_T} {r : Option (Int32 × rs_T)} (h : m_ph m f t o a b T r) (hw : mw_T m f t T) (hb : tb_ok t T) (ht : t < 512) (hF : mf_ok m (f + 1)) (hs : rA m 0 f = nI s) (hst : s ≤ t) (hms : rA m 5 f = nI ms) (hms2 : ms < 100000) : m_cd m f t o a b T s ms (bn r (fun r st => fx_Md_code_b108 o a b r st)) := by
  obtain ⟨h0, h1, -, -, -, -, -, h7⟩ := hw
  have hf : f < 40 := by have := hF.1; omega
  rcases h with ⟨e, h⟩ | ⟨m1, T2, w, e, g1, g2, g3⟩ | ⟨m1, w, e, g1, g2, g3⟩
  · rw [e, bn_s, m_ref]; exact Or.inl ⟨rfl, h⟩
  · rw [e, bn_s]
    refine Or.inr (Or.inl ⟨m1, T2, w, ?_, g1, g2, g3⟩)
    obtain ⟨k3, k4, k5, k6, k7⟩ := g3
    obtain ⟨e1, e2, e3⟩ := wm_top k6 k7
    have hth := lw_ht k7
    have hv := v_set_eq (vm m) t o a b w
    have hb2 := nx_b g1 (lw_view hv h7) hb ht hf (fun g hg => by rw [vs_r]; exact (hF.2 g (by omega)).2.2.2.2.1)
    obtain ⟨d1, d2, d3, d4⟩ := hb2
    have := m_fin (m1 := m1) (f := f) (t := t) (k := T2.1.length) (hh := t_ht (v_set (vm m) t o a b w) T2.1) (ow := T2.2.2.1 - t_ht (v_set (vm m) t o a b w) T2.1) (s := s) (ms := ms) (o := o) (a := a) (b := b) (by rw [g2.1 0 (by decide) (by decide) (by decide) (by decide)]; exact h0) (by rw [g2.1 1 (by decide) (by decide) (by decide) (by decide)]; exact h1) k3 (by omega) e1 e2 (by rw [g2.2.1 0 f (Or.inl (by decide))]; exact hs) (by rw [g2.2.1 5 f (Or.inl (by decide))]; exact hms) hf (by omega) hst (by omega) (by omega)
    rw [this, show t_ht (v_set (vm m) t o a b w) T2.1 + (T2.2.2.1 - t_ht (v_set (vm m) t o a b w) T2.1) = T2.2.2.1 by omega]
  · rw [e, bn_s]
    refine Or.inr (Or.inr ⟨m1, w, ?_, g1, g2, g3⟩)
    exact m_fin0 (by rw [g2.1 0 (by decide) (by decide) (by decide) (by decide)]; exact h0) (by rw [g2.1 1 (by decide) (by decide) (by decide) (by decide)]; exact h1) g3 (by rw [g2.2.1 0 f (Or.inl (by decide))]; exact hs) hf (by omega) hst
theorem b80_eq {m : rs_T} {f t : Nat} {o a b : Int32} {T : ts_T} (h : m_ph m f t o a b T (fx_Md_control o a b m)) (ho : ¬ o < 0) : fx_Md_code_b80 o a b m = bn (fx_Md_control o a b m) (fun r st => fx_Md_code_b108 o a b r st) := by
  unfold fx_Md_code_b80 fx_Md_code_b98
  rw [if_neg ho]
  rcases h with ⟨e, h⟩ | ⟨m1, T2, w, e, g1, g2, g3⟩ | ⟨m1, w, e, g1, g2, g3⟩
  · rw [e, bn_s, bn_s, if_pos rfl]
  · rw [e, bn_s, bn_s, if_neg i10]
  · rw [e, bn_s, bn_s, if_neg i10]
theorem md_code {m : rs_T} {f t s ms : Nat} {T : ts_T} (o a b : Int32) (hw : mw_T m f t T) (hb : tb_ok t T) (ht : t < 512) (hF : mf_ok m (f + 1)) (hs : rA m 0 f = nI s) (hst : s ≤ t) (hms : rA m 5 f = nI ms) (hms2 : ms < 100000) : m_cd m f t o a b T s ms (fx_Md_code o a b m) := by
  obtain ⟨h0, h1, h2, h3, h4, h5, h6, h7⟩ := id hw
  obtain ⟨c1, c2, c3, c4⟩ := id hb
  obtain ⟨p1, p2, p3, p4, p5, p6⟩ := hF.2 f (Nat.lt_succ_self f)
  have e1 : ¬ rI m 2 = 0 := by rw [h2]; exact i10
  have e2 : ¬ rI m 1 = 1500 := by
    rw [h1]
    intro z
    have : t = 1500 := (eq_lit (k := 1500) (show t < 2 ^ 31 by omega) (by omega)).mp z
    omega
  have no : (∀ w, t_nx (v_set (vm m) t o a b w) f t T = none) → ¬ o = 11 → m_cd m f t o a b T s ms (some (-1, m)) := fun h h11 => Or.inl ⟨rfl, fun w => ⟨h w, nf_op h11⟩⟩
  unfold fx_Md_code
  rw [if_neg e1, if_neg e2, h4]
  by_cases hel : T.2.2.2.1 = 0
  · rw [if_pos (by rw [hel]; exact Int32.le_refl _)]
    by_cases o6 : o = 6
    · rw [if_pos o6]
      refine no (fun w => ?_) (by rw [o6]; decide)
      unfold t_nx
      rw [vs_o, if_pos o6, if_pos hel]
    · rw [if_neg o6]
      unfold fx_Md_code_b43
      rw [if_neg o6]
      have hctl : o ∈ ([0, 1, 2, 3, 4, 5, 11, 12, 13, 14, 15, 16, 17] : List Int32) → ¬ o < 0 → m_cd m f t o a b T s ms (fx_Md_code_b80 o a b m) := fun hz h0' => by
        have hp := m_ctl (a := a) (b := b) hw hb ht hel hF hz
        rw [b80_eq hp h0']
        exact cd_of hp hw hb ht hF hs hst hms hms2
      by_cases o5 : o < 6
      · rw [if_pos o5]
        by_cases on : o < 0
        · have : fx_Md_code_b80 o a b m = some (-1, m) := by
            unfold fx_Md_code_b80 fx_Md_code_b98
            rw [if_pos on, m_ref]
          rw [this]
          refine no (fun w => ?_) (fun z => by rw [z] at on; exact absurd on (by decide))
          have hz : ¬ o ∈ ([0, 2, 3, 4, 5, 6, 11, 12, 13, 14, 15, 16, 17] : List Int32) := fun z => by
            simp only [List.mem_cons, List.not_mem_nil, or_false] at z
            rcases z with rfl | rfl | rfl | rfl | rfl | rfl | rfl | rfl | rfl | rfl | rfl | rfl | rfl <;> exact absurd on (by decide)
          rw [nx_pl hel hz]
          exact pl_no (Or.inl (ar_neg on))
        · refine hctl ?_ on
          obtain ⟨j, hj, ej⟩ := sm_of (x := o) (k := 5) (by omega) on (fun z => by
            have y1 := Int32.lt_iff_toInt_lt.mp z
            have y2 := Int32.lt_iff_toInt_lt.mp o5
            have y3 : (nI 5).toInt = 5 := by decide
            have y4 : (6 : Int32).toInt = 6 := by decide
            omega)
          rw [ej]
          rcases (show j = 0 ∨ j = 1 ∨ j = 2 ∨ j = 3 ∨ j = 4 ∨ j = 5 by omega) with rfl | rfl | rfl | rfl | rfl | rfl <;> decide
      · rw [if_neg o5]
        have on : ¬ o < 0 := fun z => o5 (by
          have y1 := Int32.lt_iff_toInt_lt.mp z
          rw [Int32.lt_iff_toInt_lt]
          have y3 : (0 : Int32).toInt = 0 := by decide
          have y4 : (6 : Int32).toInt = 6 := by decide
          omega)
        by_cases o11 : o = 11
        · rw [if_pos o11]; exact hctl (by rw [o11]; decide) on
        · rw [if_neg o11]
          rcases wi_M (o - 12) 5 (by omega) m with ⟨j, hj, ej, e5⟩ | ⟨ej, e5⟩
          · have e6 : fx_Md_within (o - 12) 5 m = some (1, m) := e5
            rw [e6, bn_s, if_neg i10]
            refine hctl ?_ on
            have eo : o = nI (j + 12) := by rw [(Int32.sub_add_cancel o 12).symm, ej, add_lit]
            rw [eo]
            rcases (show j = 0 ∨ j = 1 ∨ j = 2 ∨ j = 3 ∨ j = 4 ∨ j = 5 by omega) with rfl | rfl | rfl | rfl | rfl | rfl <;> decide
          · have e6 : fx_Md_within (o - 12) 5 m = some (0, m) := e5
            rw [e6, bn_s, if_pos rfl]
            refine cd_of (m_pl hw hb hel hF (fun z => ?_)) hw hb ht hF hs hst hms hms2
            simp only [List.mem_cons, List.not_mem_nil, or_false] at z
            rcases z with rfl | rfl | rfl | rfl | rfl | rfl | rfl | rfl | rfl | rfl | rfl | rfl | rfl | rfl
            · exact o5 (by decide)
            · exact o5 (by decide)
            · exact o5 (by decide)
            · exact o5 (by decide)
            · exact o5 (by decide)
            · exact o5 (by decide)
            · exact o6 rfl
            · exact o11 rfl
            · exact ej 0 (by decide) (by decide)
            · exact ej 1 (by decide) (by decide)
            · exact ej 2 (by decide) (by decide)
            · exact ej 3 (by decide) (by decide)
            · exact ej 4 (by decide) (by decide)
            · exact ej 5 (by decide) (by decide)
  · have e3 : ¬ nI T.2.2.2.1 ≤ 0 := nI_nle (by omega) (by omega)
    rw [if_neg e3]
    by_cases o6 : o = 6
    · rw [if_pos o6]
      unfold fx_Md_code_b43
      rw [if_pos o6]
      subst o6
      exact cd_of (m_p_entry hw hb hel p2 p5) hw hb ht hF hs hst hms hms2
    · rw [if_neg o6]
      refine Or.inl ⟨rfl, fun w => ⟨?_, fun hq => hel hq.2.1⟩⟩
      unfold t_nx
      rw [vs_o, if_neg o6, if_pos hel]
