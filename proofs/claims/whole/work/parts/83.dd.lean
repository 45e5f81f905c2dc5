-- what the class's tables say of an operation
theorem op_yes (st : rs_T) : ∀ o ∈ ([1, 26, 27, 32, 33, 34, 35, 36, 40, 41, 42, 43, 44, 45, 46, 47, 48, 49, 50, 51, 52, 53, 54, 55, 56, 57, 58, 59, 60, 61, 62, 63, 64, 65, 66, 69, 70, 71, 72, 73, 80, 81, 83, 106, 107, 108, 110, 113, 116, 124, 125, 126, 167, 173] : List Int32), ∃ n k : Nat, t_ar o = some (n, k) ∧ fx_Op_takes o st = some (nI n, st) ∧ fx_Op_puts o st = some (nI k, st) := by
  intro o ho
  simp only [List.mem_cons, List.not_mem_nil, or_false] at ho
  rcases ho with rfl | rfl | rfl | rfl | rfl | rfl | rfl | rfl | rfl | rfl | rfl | rfl | rfl | rfl | rfl | rfl | rfl | rfl | rfl | rfl | rfl | rfl | rfl | rfl | rfl | rfl | rfl | rfl | rfl | rfl | rfl | rfl | rfl | rfl | rfl | rfl | rfl | rfl | rfl | rfl | rfl | rfl | rfl | rfl | rfl | rfl | rfl | rfl | rfl | rfl | rfl | rfl | rfl | rfl <;> exact ⟨_, _, rfl, rfl, rfl⟩
theorem op_in {o : Int32} {a b : Nat} (hb : b < 2 ^ 31) (ha : a ≤ b) (h1 : ¬ o < nI a) (h2 : ¬ nI b < o) : ∃ j : Nat, a ≤ j ∧ j ≤ b ∧ o = nI j := by
  have e1 : ¬ o.toInt < (nI a).toInt := fun z => h1 (Int32.lt_iff_toInt_lt.mpr z)
  have e2 : ¬ (nI b).toInt < o.toInt := fun z => h2 (Int32.lt_iff_toInt_lt.mpr z)
  rw [nI_toInt (by omega)] at e1 e2
  refine ⟨o.toInt.toNat, by omega, by omega, ?_⟩
  apply Int32.toInt_inj.mp
  rw [nI_toInt (by omega)]
  omega
theorem op_no (st : rs_T) {o : Int32} (ho : ¬ o ∈ ([1, 26, 27, 32, 33, 34, 35, 36, 40, 41, 42, 43, 44, 45, 46, 47, 48, 49, 50, 51, 52, 53, 54, 55, 56, 57, 58, 59, 60, 61, 62, 63, 64, 65, 66, 69, 70, 71, 72, 73, 80, 81, 83, 106, 107, 108, 110, 113, 116, 124, 125, 126, 167, 173] : List Int32)) : fx_Op_takes o st = some (-1, st) := by
  have h40 : ∀ j : Nat, 40 ≤ j → j ≤ 62 → ¬ o = nI j := fun j h1 h2 e => ho (by
    rw [e]
    rcases (show j = 40 ∨ j = 41 ∨ j = 42 ∨ j = 43 ∨ j = 44 ∨ j = 45 ∨ j = 46 ∨ j = 47 ∨ j = 48 ∨ j = 49 ∨ j = 50 ∨ j = 51 ∨ j = 52 ∨ j = 53 ∨ j = 54 ∨ j = 55 ∨ j = 56 ∨ j = 57 ∨ j = 58 ∨ j = 59 ∨ j = 60 ∨ j = 61 ∨ j = 62 by omega) with rfl | rfl | rfl | rfl | rfl | rfl | rfl | rfl | rfl | rfl | rfl | rfl | rfl | rfl | rfl | rfl | rfl | rfl | rfl | rfl | rfl | rfl | rfl <;> decide)
  simp only [List.mem_cons, List.not_mem_nil, or_false, not_or] at ho
  have hb39 : fx_Op_takes_b39 o st = some (-1, st) := by
    unfold fx_Op_takes_b39
    simp only [List.mem_cons, List.not_mem_nil, or_false, ho, or_self, if_false]
  have hb25 : fx_Op_takes_b25 o st = some (-1, st) := by
    unfold fx_Op_takes_b25
    by_cases e1 : o < 54
    · rw [if_pos e1]; exact hb39
    · rw [if_neg e1]
      by_cases e2 : (62 : Int32) < o
      · rw [if_pos e2]; exact hb39
      · obtain ⟨j, j1, j2, ej⟩ := op_in (a := 54) (b := 62) (by omega) (by omega) e1 e2
        exact absurd ej (h40 j (by omega) (by omega))
  unfold fx_Op_takes
  by_cases e : o < 69
  · rw [if_pos e]
    by_cases e1 : o < 40
    · rw [if_pos e1]; exact hb25
    · rw [if_neg e1]
      by_cases e2 : (53 : Int32) < o
      · rw [if_pos e2]; exact hb25
      · obtain ⟨j, j1, j2, ej⟩ := op_in (a := 40) (b := 53) (by omega) (by omega) e1 e2
        exact absurd ej (h40 j (by omega) (by omega))
  · rw [if_neg e]
    unfold fx_Op_operatorTakes
    simp only [List.mem_cons, List.not_mem_nil, or_false, ho, or_self, if_false, bn_s]
theorem ar_U {o : Int32} {n k : Nat} (h : t_ar o = some (n, k)) : o ∈ ([1, 26, 27, 32, 33, 34, 35, 36, 40, 41, 42, 43, 44, 45, 46, 47, 48, 49, 50, 51, 52, 53, 54, 55, 56, 57, 58, 59, 60, 61, 62, 63, 64, 65, 66, 69, 70, 71, 72, 73, 80, 81, 83, 106, 107, 108, 110, 113, 116, 124, 125, 126, 167, 173] : List Int32) := by
  rcases ar_mem o with e | e
  · rw [e] at h; cases h
  · exact e
-- plain operations
theorem c_b82 {c : rs_T} {V : vw_T} {f t ms : Nat} {o a b : Int32} {T : ts_T} (h : cw_T c V f t T) (hb : tb_ok t T) (hel : T.2.2.2.1 = 0) (hm : rA c 3 f = nI ms) (hms : ms < 100000) (ho2 : ¬ o ∈ ([0, 2, 3, 4, 5, 6, 11, 12, 13, 14, 15, 16, 17] : List Int32)) (hlim : t_lim V f o a = true) : c_ph c V f t o a b T ms (fx_Wr_admitsPlain_b82 o c) := by
  have n11 : ¬ o = 11 := fun z => ho2 (by rw [z]; decide)
  have hno : ¬ o ∈ ([5, 6, 11, 12, 13] : List Int32) := fun z => ho2 (by
    simp only [List.mem_cons, List.not_mem_nil, or_false] at z ⊢
    rcases z with z | z | z | z | z <;> simp [z])
  have hnx : ∀ w, t_nx (v_set V t o a b w) f t T = t_plain (v_set V t o a b w) f t T := fun w => nx_pl hel ho2
  unfold fx_Wr_admitsPlain_b82
  by_cases hU : o ∈ ([1, 26, 27, 32, 33, 34, 35, 36, 40, 41, 42, 43, 44, 45, 46, 47, 48, 49, 50, 51, 52, 53, 54, 55, 56, 57, 58, 59, 60, 61, 62, 63, 64, 65, 66, 69, 70, 71, 72, 73, 80, 81, 83, 106, 107, 108, 110, 113, 116, 124, 125, 126, 167, 173] : List Int32)
  · obtain ⟨n, k, e1, e2, e3⟩ := op_yes c o hU
    have hle := ar_le e1
    rw [e2, bn_s, if_neg (fun z => (nI_m1 (by omega)).mp z), e3, bn_s]
    have hp := c_p_turn (o := o) (a := a) (b := b) h hb hel (show n ≤ 20 by omega) (show k ≤ 8 by omega) hm hms hno (fun w => by rw [hnx w]; exact pl_tu e1 hlim)
    rcases hp with ⟨e, hp⟩ | ⟨c1, T2, w, e, hp⟩ | ⟨c1, w, e, hp⟩
    · rw [e, bn_s, if_pos rfl]; exact Or.inl ⟨rfl, hp⟩
    · rw [e, bn_s, if_neg i10]; exact Or.inr (Or.inl ⟨c1, T2, w, rfl, hp⟩)
    · rw [e, bn_s, if_neg i10]; exact Or.inr (Or.inr ⟨c1, w, rfl, hp⟩)
  · rw [op_no c hU, bn_s, if_pos rfl]
    refine Or.inl ⟨rfl, fun w => ⟨?_, nf_op n11⟩⟩
    rw [hnx w]
    refine pl_no (Or.inl ?_)
    cases har : t_ar o with
    | none => rfl
    | some q => exact absurd (ar_U (n := q.1) (k := q.2) har) hU
theorem c_loc {c : rs_T} {P : Nat} (hP : P ≤ 16) (a : Int32) : (fx_Ma_isWithin a (nI P - 1) c = some (1, c) ∧ (bif Nat.ble P 0 then false else (t_n a (P - 1)).isSome) = true) ∨ (fx_Ma_isWithin a (nI P - 1) c = some (0, c) ∧ (bif Nat.ble P 0 then false else (t_n a (P - 1)).isSome) = false) := by
  have := m_loc (m := c) hP a
  exact this
theorem c_p_plain {c : rs_T} {V : vw_T} {f t ms : Nat} {o a b : Int32} {T : ts_T} (h : cw_T c V f t T) (hb : tb_ok t T) (hel : T.2.2.2.1 = 0) (hm : rA c 3 f = nI ms) (hms : ms < 100000) (ho2 : ¬ o ∈ ([0, 2, 3, 4, 5, 6, 11, 12, 13, 14, 15, 16, 17] : List Int32)) (hp : rA c 0 f = nI (v_p V f)) (hc : rA c 2 f = nI (v_c V f)) (hp8 : v_p V f ≤ 8) (hc8 : v_c V f ≤ 8) : c_ph c V f t o a b T ms (fx_Wr_admitsPlain o a c) := by
  have n11 : ¬ o = 11 := fun z => ho2 (by rw [z]; decide)
  have hnx : ∀ w, t_nx (v_set V t o a b w) f t T = t_plain (v_set V t o a b w) f t T := fun w => nx_pl hel ho2
  have no : t_lim V f o a = false → c_ph c V f t o a b T ms (some (0, c)) := fun hl => Or.inl ⟨rfl, fun w => ⟨by rw [hnx w]; exact pl_no (Or.inr hl), nf_op n11⟩⟩
  have h3 := h.2.1
  have hf := h.2.2.2.2.2.2.2.2.2.1
  by_cases g1 : o ∈ ([32, 33, 34] : List Int32)
  · have e0 : fx_Wr_admitsPlain o a c = fx_Wr_admitsPlain_b35 o a 1 0 c := by
      simp only [List.mem_cons, List.not_mem_nil, or_false] at g1
      rcases g1 with rfl | rfl | rfl <;> (unfold fx_Wr_admitsPlain fx_Wr_admitsPlain_b17; simp (decide := true) only [if_true, if_false])
    have hll := lim_l (V := V) (f := f) (a := a) g1
    rw [e0]
    unfold fx_Wr_admitsPlain_b35 fx_Wr_admitsPlain_b66 fx_Pr_allLocals
    rw [if_neg i10, h3, gd_k (by omega) (by omega), gd_k (by omega) (by omega), nI_clamp (by omega), hp, hc, nI_add, bn_s]
    rcases c_loc (c := c) (show v_p V f + v_c V f ≤ 16 by omega) a with ⟨e1, e2⟩ | ⟨e1, e2⟩
    · rw [e1, bn_s, if_neg i10, if_pos rfl]
      exact c_b82 h hb hel hm hms ho2 (hll.trans e2)
    · rw [e1, bn_s, if_pos rfl]
      exact no (hll.trans e2)
  · by_cases g2 : o ∈ ([35, 36] : List Int32)
    · have e0 : fx_Wr_admitsPlain o a c = fx_Wr_admitsPlain_b35 o a 0 1 c := by
        simp only [List.mem_cons, List.not_mem_nil, or_false] at g2
        rcases g2 with rfl | rfl <;> (unfold fx_Wr_admitsPlain fx_Wr_admitsPlain_b16 fx_Wr_admitsPlain_b17 fx_Wr_admitsPlain_b30; simp (decide := true) only [if_true, if_false])
      have hll := lim_g (V := V) (f := f) (a := a) g2
      rw [e0]
      unfold fx_Wr_admitsPlain_b35 fx_Wr_admitsPlain_b66
      rw [if_pos rfl, if_neg i10]
      rcases wi_C a 7 (by omega) c with ⟨j, hj, ej, e2⟩ | ⟨ej, e2⟩
      · have e3 : fx_Ma_isWithin a 7 c = some (1, c) := e2
        rw [e3, bn_s, if_neg i10]
        exact c_b82 h hb hel hm hms ho2 (hll.trans (by rw [ej, t_n_nI (by omega) hj]; rfl))
      · have e3 : fx_Ma_isWithin a 7 c = some (0, c) := e2
        rw [e3, bn_s, if_pos rfl]
        exact no (hll.trans (by rw [t_n_none ej (by omega)]; rfl))
    · have hlim : t_lim V f o a = true := by
        unfold t_lim
        rw [if_neg g1, if_neg g2]
      have e0 : fx_Wr_admitsPlain o a c = fx_Wr_admitsPlain_b82 o c := by
        have k35 : ¬ o = 35 := fun z => g2 (by rw [z]; decide)
        have k36 : ¬ o = 36 := fun z => g2 (by rw [z]; decide)
        have e17 : fx_Wr_admitsPlain_b17 o a 0 c = fx_Wr_admitsPlain_b82 o c := by
          unfold fx_Wr_admitsPlain_b17 fx_Wr_admitsPlain_b35 fx_Wr_admitsPlain_b66
          rw [if_neg k35, if_neg k36, if_pos rfl, if_pos rfl]
        unfold fx_Wr_admitsPlain fx_Wr_admitsPlain_b16
        by_cases e1 : o < 32
        · rw [if_pos e1, e17]
        · rw [if_neg e1]
          by_cases e2 : (34 : Int32) < o
          · rw [if_pos e2, e17]
          · obtain ⟨j, j1, j2, ej⟩ := op_in (a := 32) (b := 34) (by omega) (by omega) e1 e2
            refine absurd ?_ g1
            rw [ej]
            rcases (show j = 32 ∨ j = 33 ∨ j = 34 by omega) with rfl | rfl | rfl <;> decide
      rw [e0]
      exact c_b82 h hb hel hm hms ho2 hlim
