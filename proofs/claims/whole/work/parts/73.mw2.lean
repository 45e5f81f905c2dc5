theorem ar_mem (o : Int32) : t_ar o = none ∨ o ∈ ([1, 26, 27, 32, 33, 34, 35, 36, 40, 41, 42, 43, 44, 45, 46, 47, 48, 49, 50, 51, 52, 53, 54, 55, 56, 57, 58, 59, 60, 61, 62, 63, 64, 65, 66, 69, 70, 71, 72, 73, 80, 81, 83, 106, 107, 108, 110, 113, 116, 124, 125, 126, 167, 173] : List Int32) := by
  by_cases h : o ∈ ([1, 26, 27, 32, 33, 34, 35, 36, 40, 41, 42, 43, 44, 45, 46, 47, 48, 49, 50, 51, 52, 53, 54, 55, 56, 57, 58, 59, 60, 61, 62, 63, 64, 65, 66, 69, 70, 71, 72, 73, 80, 81, 83, 106, 107, 108, 110, 113, 116, 124, 125, 126, 167, 173] : List Int32)
  · exact Or.inr h
  · refine Or.inl ?_
    simp only [List.mem_cons, List.not_mem_nil, or_false, not_or] at h
    unfold t_ar
    simp only [List.mem_cons, List.not_mem_nil, or_false, h, or_self, if_false]
theorem ar_40 : ∀ j, j < 14 → t_ar (nI (j + 40)) = some (1, 1) := by decide
theorem ar_54 : ∀ j, j < 9 → t_ar (nI (j + 54)) = some (2, 0) := by decide
theorem lim_40 (V : vw_T) (f : Nat) (a : Int32) : ∀ j, j < 14 → t_lim V f (nI (j + 40)) a = true := fun j hj => by
  rcases (show j = 0 ∨ j = 1 ∨ j = 2 ∨ j = 3 ∨ j = 4 ∨ j = 5 ∨ j = 6 ∨ j = 7 ∨ j = 8 ∨ j = 9 ∨ j = 10 ∨ j = 11 ∨ j = 12 ∨ j = 13 by omega) with rfl | rfl | rfl | rfl | rfl | rfl | rfl | rfl | rfl | rfl | rfl | rfl | rfl | rfl <;> rfl
theorem lim_54 (V : vw_T) (f : Nat) (a : Int32) : ∀ j, j < 9 → t_lim V f (nI (j + 54)) a = true := fun j hj => by
  rcases (show j = 0 ∨ j = 1 ∨ j = 2 ∨ j = 3 ∨ j = 4 ∨ j = 5 ∨ j = 6 ∨ j = 7 ∨ j = 8 by omega) with rfl | rfl | rfl | rfl | rfl | rfl | rfl | rfl | rfl <;> rfl
theorem pl_tu {V : vw_T} {f t n k w : Nat} {o a b : Int32} {T : ts_T} (h1 : t_ar o = some (n, k)) (h2 : t_lim V f o a = true) : t_plain (v_set V t o a b w) f t T = t_tu (v_set V t o a b w) T n k := by
  unfold t_plain
  rw [vs_o, vs_a, h1]
  have e : t_lim (v_set V t o a b w) f o a = t_lim V f o a := Eq.trans rfl rfl
  simp only []
  rw [e, h2]; rfl
theorem pl_no {V : vw_T} {f t w : Nat} {o a b : Int32} {T : ts_T} (h : t_ar o = none ∨ t_lim V f o a = false) : t_plain (v_set V t o a b w) f t T = none := by
  unfold t_plain
  rw [vs_o, vs_a]
  have e : t_lim (v_set V t o a b w) f o a = t_lim V f o a := Eq.trans rfl rfl
  rcases h with h | h
  · rw [h]
  · cases t_ar o with
    | none => rfl
    | some q => simp only []; rw [e, h]; rfl
theorem lim_l {V : vw_T} {f : Nat} {o a : Int32} (ho : o ∈ ([32, 33, 34] : List Int32)) : t_lim V f o a = (bif Nat.ble (v_p V f + v_c V f) 0 then false else (t_n a (v_p V f + v_c V f - 1)).isSome) := by
  unfold t_lim
  rw [if_pos ho]
theorem lim_g {V : vw_T} {f : Nat} {o a : Int32} (ho : o ∈ ([35, 36] : List Int32)) : t_lim V f o a = (t_n a 7).isSome := by
  unfold t_lim
  simp only [List.mem_cons, List.not_mem_nil, or_false] at ho
  rcases ho with rfl | rfl <;> rfl
-- a local's number, as the reference tests it
theorem m_loc {m : rs_T} {P : Nat} (hP : P ≤ 16) (a : Int32) : (fx_Md_within a (nI P - 1) m = some (1, m) ∧ (bif Nat.ble P 0 then false else (t_n a (P - 1)).isSome) = true) ∨ (fx_Md_within a (nI P - 1) m = some (0, m) ∧ (bif Nat.ble P 0 then false else (t_n a (P - 1)).isSome) = false) := by
  by_cases h : P = 0
  · subst h
    refine Or.inr ⟨?_, rfl⟩
    unfold fx_Md_within
    have e : nI 0 - 1 = -1 := by decide
    rw [e]
    by_cases ha : a < 0
    · rw [if_pos ha]
    · rw [if_neg ha, if_pos]
      have : ¬ a.toInt < 0 := fun z => ha (Int32.lt_iff_toInt_lt.mpr z)
      rw [Int32.lt_iff_toInt_lt]
      have e2 : (-1 : Int32).toInt = -1 := by decide
      omega
  · have e : nI P - 1 = nI (P - 1) := nI_sub (b := 1) (by omega)
    have eb : Nat.ble P 0 = false := by
      cases P with
      | zero => exact absurd rfl h
      | succ n => rfl
    rw [e, eb, cond_false]
    rcases wi_M a (P - 1) (by omega) m with ⟨j, hj, ej, e2⟩ | ⟨ej, e2⟩
    · exact Or.inl ⟨e2, by rw [ej, t_n_nI (by omega) hj]; rfl⟩
    · exact Or.inr ⟨e2, by rw [t_n_none ej (by omega)]; rfl⟩
theorem nx_pl {V : vw_T} {f t w : Nat} {o a b : Int32} {T : ts_T} (hel : T.2.2.2.1 = 0) (ho : ¬ o ∈ ([0, 2, 3, 4, 5, 6, 11, 12, 13, 14, 15, 16, 17] : List Int32)) : t_nx (v_set V t o a b w) f t T = t_plain (v_set V t o a b w) f t T := by
  simp only [List.mem_cons, List.not_mem_nil, or_false, not_or] at ho
  unfold t_nx
  rw [vs_o, hel]
  simp only [ho, if_false, not_true_eq_false, or_self]
theorem m_pl {m : rs_T} {f t : Nat} {o a b : Int32} {T : ts_T} (hw : mw_T m f t T) (hb : tb_ok t T) (hel : T.2.2.2.1 = 0) (hF : mf_ok m (f + 1)) (ho : ¬ o ∈ ([0, 1, 2, 3, 4, 5, 6, 11, 12, 13, 14, 15, 16, 17] : List Int32)) : m_ph m f t o a b T (fx_Md_plain o a m) := by
  obtain ⟨h0, h1, h2, h3, h4, h5, h6, h7⟩ := id hw
  obtain ⟨c1, c2, c3, c4⟩ := id hb
  obtain ⟨hF1, hF2⟩ := hF
  obtain ⟨p1, p2, p3, p4, p5, p6⟩ := hF2 f (Nat.lt_succ_self f)
  have ho2 : ¬ o ∈ ([0, 2, 3, 4, 5, 6, 11, 12, 13, 14, 15, 16, 17] : List Int32) := fun z => ho (by
    simp only [List.mem_cons, List.not_mem_nil, or_false] at z ⊢
    rcases z with z | z | z | z | z | z | z | z | z | z | z | z | z <;> simp [z])
  have n11 : ¬ o = 11 := fun z => ho2 (by rw [z]; decide)
  have hnx : ∀ w, t_nx (v_set (vm m) t o a b w) f t T = t_plain (v_set (vm m) t o a b w) f t T := fun w => nx_pl hel ho2
  have no : (t_ar o = none ∨ t_lim (vm m) f o a = false) → m_ph m f t o a b T (some (0, m)) := fun h => Or.inl ⟨rfl, fun w => ⟨by rw [hnx w]; exact pl_no h, nf_op n11⟩⟩
  have yes : ∀ n q : Nat, n ≤ 20 → q ≤ 8 → t_ar o = some (n, q) → t_lim (vm m) f o a = true → m_ph m f t o a b T (fx_Md_turn (nI n) (nI q) m) := fun n q hn hq g1 g2 => m_p_turn hw hb hel hn hq (fun w => by rw [hnx w]; exact pl_tu g1 g2) (fun w => nf_op n11)
  unfold fx_Md_plain
  rw [h0, nI_pred, gd_k (by omega) (by omega), gd_k (by omega) (by omega), nI_clamp (by omega), p1, p3, nI_add, bd_s]
  by_cases g0 : o ∈ ([26] : List Int32)
  · rw [if_pos g0]
    have har : t_ar o = some (1, 0) := by
      simp only [List.mem_cons, List.not_mem_nil, or_false] at g0
      subst g0; rfl
    have hlim : t_lim (vm m) f o a = true := by
      simp only [List.mem_cons, List.not_mem_nil, or_false] at g0
      subst g0; rfl
    exact ph_gb (yes 1 0 (by omega) (by omega) har hlim)
  rw [if_neg g0]
  by_cases g1 : o ∈ ([27] : List Int32)
  · rw [if_pos g1]
    have har : t_ar o = some (3, 1) := by
      simp only [List.mem_cons, List.not_mem_nil, or_false] at g1
      subst g1; rfl
    have hlim : t_lim (vm m) f o a = true := by
      simp only [List.mem_cons, List.not_mem_nil, or_false] at g1
      subst g1; rfl
    exact ph_gb (yes 3 1 (by omega) (by omega) har hlim)
  rw [if_neg g1]
  by_cases g2 : o ∈ ([32] : List Int32)
  · rw [if_pos g2]
    have har : t_ar o = some (0, 1) := by
      simp only [List.mem_cons, List.not_mem_nil, or_false] at g2
      subst g2; rfl
    have hll := lim_l (V := vm m) (f := f) (a := a) (show o ∈ ([32, 33, 34] : List Int32) by simp only [List.mem_cons, List.not_mem_nil, or_false] at g2 ⊢; subst g2; decide)
    rcases m_loc (m := m) (show v_p (vm m) f + v_c (vm m) f ≤ 16 by omega) a with ⟨e1, e2⟩ | ⟨e1, e2⟩
    · rw [e1, bn_s, if_neg i10]
      exact ph_if (yes 0 1 (by omega) (by omega) har (hll.trans e2))
    · rw [e1, bn_s, if_pos rfl]
      exact no (Or.inr (hll.trans e2))
  rw [if_neg g2]
  by_cases g3 : o ∈ ([33] : List Int32)
  · rw [if_pos g3]
    have har : t_ar o = some (1, 0) := by
      simp only [List.mem_cons, List.not_mem_nil, or_false] at g3
      subst g3; rfl
    have hll := lim_l (V := vm m) (f := f) (a := a) (show o ∈ ([32, 33, 34] : List Int32) by simp only [List.mem_cons, List.not_mem_nil, or_false] at g3 ⊢; subst g3; decide)
    rcases m_loc (m := m) (show v_p (vm m) f + v_c (vm m) f ≤ 16 by omega) a with ⟨e1, e2⟩ | ⟨e1, e2⟩
    · rw [e1, bn_s, if_neg i10]
      exact ph_if (yes 1 0 (by omega) (by omega) har (hll.trans e2))
    · rw [e1, bn_s, if_pos rfl]
      exact no (Or.inr (hll.trans e2))
  rw [if_neg g3]
  by_cases g4 : o ∈ ([34] : List Int32)
  · rw [if_pos g4]
    have har : t_ar o = some (1, 1) := by
      simp only [List.mem_cons, List.not_mem_nil, or_false] at g4
      subst g4; rfl
    have hll := lim_l (V := vm m) (f := f) (a := a) (show o ∈ ([32, 33, 34] : List Int32) by simp only [List.mem_cons, List.not_mem_nil, or_false] at g4 ⊢; subst g4; decide)
    rcases m_loc (m := m) (show v_p (vm m) f + v_c (vm m) f ≤ 16 by omega) a with ⟨e1, e2⟩ | ⟨e1, e2⟩
    · rw [e1, bn_s, if_neg i10]
      exact ph_if (yes 1 1 (by omega) (by omega) har (hll.trans e2))
    · rw [e1, bn_s, if_pos rfl]
      exact no (Or.inr (hll.trans e2))
  rw [if_neg g4]
  by_cases g5 : o ∈ ([35] : List Int32)
  · rw [if_pos g5]
    have har : t_ar o = some (0, 1) := by
      simp only [List.mem_cons, List.not_mem_nil, or_false] at g5
      subst g5; rfl
    have hll := lim_g (V := vm m) (f := f) (a := a) (show o ∈ ([35, 36] : List Int32) by simp only [List.mem_cons, List.not_mem_nil, or_false] at g5 ⊢; subst g5; decide)
    rcases wi_M a 7 (by omega) m with ⟨j, hj, ej, e2⟩ | ⟨ej, e2⟩
    · have e3 : fx_Md_within a 7 m = some (1, m) := e2
      rw [e3, bn_s, if_neg i10]
      exact ph_if (yes 0 1 (by omega) (by omega) har (hll.trans (by rw [ej, t_n_nI (by omega) hj]; rfl)))
    · have e3 : fx_Md_within a 7 m = some (0, m) := e2
      rw [e3, bn_s, if_pos rfl]
      exact no (Or.inr (hll.trans (by rw [t_n_none ej (by omega)]; rfl)))
  rw [if_neg g5]
  by_cases g6 : o ∈ ([36] : List Int32)
  · rw [if_pos g6]
    have har : t_ar o = some (1, 0) := by
      simp only [List.mem_cons, List.not_mem_nil, or_false] at g6
      subst g6; rfl
    have hll := lim_g (V := vm m) (f := f) (a := a) (show o ∈ ([35, 36] : List Int32) by simp only [List.mem_cons, List.not_mem_nil, or_false] at g6 ⊢; subst g6; decide)
    rcases wi_M a 7 (by omega) m with ⟨j, hj, ej, e2⟩ | ⟨ej, e2⟩
    · have e3 : fx_Md_within a 7 m = some (1, m) := e2
      rw [e3, bn_s, if_neg i10]
      exact ph_if (yes 1 0 (by omega) (by omega) har (hll.trans (by rw [ej, t_n_nI (by omega) hj]; rfl)))
    · have e3 : fx_Md_within a 7 m = some (0, m) := e2
      rw [e3, bn_s, if_pos rfl]
      exact no (Or.inr (hll.trans (by rw [t_n_none ej (by omega)]; rfl)))
  rw [if_neg g6]
  by_cases g7 : o ∈ ([63, 65, 66] : List Int32)
  · rw [if_pos g7]
    have har : t_ar o = some (0, 1) := by
      simp only [List.mem_cons, List.not_mem_nil, or_false] at g7
      rcases g7 with rfl | rfl | rfl <;> rfl
    have hlim : t_lim (vm m) f o a = true := by
      simp only [List.mem_cons, List.not_mem_nil, or_false] at g7
      rcases g7 with rfl | rfl | rfl <;> rfl
    exact ph_gb (yes 0 1 (by omega) (by omega) har hlim)
  rw [if_neg g7]
  by_cases g8 : o ∈ ([64, 69, 80, 167, 173] : List Int32)
  · rw [if_pos g8]
    have har : t_ar o = some (1, 1) := by
      simp only [List.mem_cons, List.not_mem_nil, or_false] at g8
      rcases g8 with rfl | rfl | rfl | rfl | rfl <;> rfl
    have hlim : t_lim (vm m) f o a = true := by
      simp only [List.mem_cons, List.not_mem_nil, or_false] at g8
      rcases g8 with rfl | rfl | rfl | rfl | rfl <;> rfl
    exact ph_gb (yes 1 1 (by omega) (by omega) har hlim)
  rw [if_neg g8]
  by_cases g9 : o ∈ ([70, 71, 72, 73, 81, 83, 106, 107, 108, 110, 113, 116, 124, 125, 126] : List Int32)
  · rw [if_pos g9]
    have har : t_ar o = some (2, 1) := by
      simp only [List.mem_cons, List.not_mem_nil, or_false] at g9
      rcases g9 with rfl | rfl | rfl | rfl | rfl | rfl | rfl | rfl | rfl | rfl | rfl | rfl | rfl | rfl | rfl <;> rfl
    have hlim : t_lim (vm m) f o a = true := by
      simp only [List.mem_cons, List.not_mem_nil, or_false] at g9
      rcases g9 with rfl | rfl | rfl | rfl | rfl | rfl | rfl | rfl | rfl | rfl | rfl | rfl | rfl | rfl | rfl <;> rfl
    exact ph_gb (yes 2 1 (by omega) (by omega) har hlim)
  rw [if_neg g9]
  have back : ∀ k : Int32, o = o - k + k := fun k => (Int32.sub_add_cancel o k).symm
  rcases wi_M (o - 40) 13 (by omega) m with ⟨j, hj, ej, e2⟩ | ⟨ej, e2⟩
  · have e3 : fx_Md_within (o - 40) 13 m = some (1, m) := e2
    rw [e3, bn_s, if_neg i10]
    have eo : o = nI (j + 40) := by rw [back 40, ej, add_lit]
    exact ph_gb (yes 1 1 (by omega) (by omega) (by rw [eo]; exact ar_40 j (by omega)) (by rw [eo]; exact lim_40 _ _ _ j (by omega)))
  · have e3 : fx_Md_within (o - 40) 13 m = some (0, m) := e2
    rw [e3, bn_s, if_pos rfl]
    rcases wi_M (o - 54) 8 (by omega) m with ⟨i, hi, ei, f2⟩ | ⟨ei, f2⟩
    · have f3 : fx_Md_within (o - 54) 8 m = some (1, m) := f2
      rw [f3, bn_s, if_neg i10]
      have eo : o = nI (i + 54) := by rw [back 54, ei, add_lit]
      exact ph_if (yes 2 0 (by omega) (by omega) (by rw [eo]; exact ar_54 i (by omega)) (by rw [eo]; exact lim_54 _ _ _ i (by omega)))
    · have f3 : fx_Md_within (o - 54) 8 m = some (0, m) := f2
      rw [f3, bn_s, if_pos rfl]
      refine no ?_
      rcases ar_mem o with h | h
      · exact Or.inl h
      · refine absurd h (fun h => ?_)
        simp only [List.mem_cons, List.not_mem_nil, or_false] at h
        rcases h with rfl | rfl | rfl | rfl | rfl | rfl | rfl | rfl | rfl | rfl | rfl | rfl | rfl | rfl | rfl | rfl | rfl | rfl | rfl | rfl | rfl | rfl | rfl | rfl | rfl | rfl | rfl | rfl | rfl | rfl | rfl | rfl | rfl | rfl | rfl | rfl | rfl | rfl | rfl | rfl | rfl | rfl | rfl | rfl | rfl | rfl | rfl | rfl | rfl | rfl | rfl | rfl | rfl | rfl
        · exact ho (by decide)
        · exact g0 (by decide)
        · exact g1 (by decide)
        · exact g2 (by decide)
        · exact g3 (by decide)
        · exact g4 (by decide)
        · exact g5 (by decide)
        · exact g6 (by decide)
        · exact ej 0 (by decide) (by decide)
        · exact ej 1 (by decide) (by decide)
        · exact ej 2 (by decide) (by decide)
        · exact ej 3 (by decide) (by decide)
        · exact ej 4 (by decide) (by decide)
        · exact ej 5 (by decide) (by decide)
        · exact ej 6 (by decide) (by decide)
        · exact ej 7 (by decide) (by decide)
        · exact ej 8 (by decide) (by decide)
        · exact ej 9 (by decide) (by decide)
        · exact ej 10 (by decide) (by decide)
        · exact ej 11 (by decide) (by decide)
        · exact ej 12 (by decide) (by decide)
        · exact ej 13 (by decide) (by decide)
        · exact ei 0 (by decide) (by decide)
        · exact ei 1 (by decide) (by decide)
        · exact ei 2 (by decide) (by decide)
        · exact ei 3 (by decide) (by decide)
        · exact ei 4 (by decide) (by decide)
        · exact ei 5 (by decide) (by decide)
        · exact ei 6 (by decide) (by decide)
        · exact ei 7 (by decide) (by decide)
        · exact ei 8 (by decide) (by decide)
        · exact g7 (by decide)
        · exact g8 (by decide)
        · exact g7 (by decide)
        · exact g7 (by decide)
        · exact g8 (by decide)
        · exact g9 (by decide)
        · exact g9 (by decide)
        · exact g9 (by decide)
        · exact g9 (by decide)
        · exact g8 (by decide)
        · exact g9 (by decide)
        · exact g9 (by decide)
        · exact g9 (by decide)
        · exact g9 (by decide)
        · exact g9 (by decide)
        · exact g9 (by decide)
        · exact g9 (by decide)
        · exact g9 (by decide)
        · exact g9 (by decide)
        · exact g9 (by decide)
        · exact g9 (by decide)
        · exact g8 (by decide)
        · exact g8 (by decide)
