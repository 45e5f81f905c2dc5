-- ===== the reference's code() =====
def m_cd (m : rs_T) (f t : Nat) (o a b : Int32) (T : ts_T) (s ms : Nat) (r : Option (Int32 × rs_T)) : Prop :=
  (r = some (-1, m) ∧ ∀ w, t_nx (v_set (vm m) t o a b w) f t T = none ∧ ¬ t_fin (v_set (vm m) t o a b w) f t T) ∨
  (∃ (m1 : rs_T) (T2 : ts_T) (w : Nat), r = some (nI (t + 1), mz_m m1 f t o a b s (max ms T2.2.2.1)) ∧ t_nx (v_set (vm m) t o a b w) f t T = some T2 ∧ m1_ok m m1 t w ∧ m1_T m1 (v_set (vm m) t o a b w) f t T2) ∨
  (∃ (m1 : rs_T) (w : Nat), r = some (nI (t + 1), mz_e m1 f t o a b s) ∧ t_fin (v_set (vm m) t o a b w) f t T ∧ m1_ok m m1 t w ∧ rI m1 3 = 0)
-- operands and labels grow by little
theorem tu_b {V : vw_T} {T T2 : ts_T} {n k t : Nat} (h : t_tu V T n k = some T2) (hl : lw_L V t T.1 T.2.2.1) : T2.1 = T.1 ∧ T2.2.2.1 ≤ T.2.2.1 + k ∧ T2.2.2.2.1 = 0 := by
  unfold t_tu at h
  cases hh : t_has V T n
  · rw [hh] at h; cases h
  · rw [hh] at h
    cases h
    have := lw_ht hl
    refine ⟨rfl, ?_, rfl⟩
    show t_tk V T n + k ≤ _
    rw [t_tk_eq hl]; omega
theorem nx_cases {V : vw_T} {f t : Nat} {T T2 : ts_T} (h : t_nx V f t T = some T2) :
    (v_o V t = 6 ∧ ¬ T.2.2.2.1 = 0 ∧ t_entry V f t T = some T2) ∨ (T.2.2.2.1 = 0 ∧ (
      (v_o V t = 0 ∧ T2 = t_die V T) ∨
      ((v_o V t = 2 ∨ v_o V t = 3) ∧ t_begin V t T 0 = some T2) ∨
      (v_o V t = 4 ∧ t_begin V t T 1 = some T2) ∨
      (v_o V t = 5 ∧ t_else V f T = some T2) ∨
      (v_o V t = 11 ∧ t_end V f T = some T2) ∨
      (v_o V t = 12 ∧ ∃ k, t_n (v_a V t) T.1.length = some k ∧ t_has V T (t_want V f T.1 k) = true ∧ T2 = t_die V T) ∨
      (v_o V t = 13 ∧ ∃ k, t_n (v_a V t) T.1.length = some k ∧ t_tu V T (t_want V f T.1 k + 1) (t_want V f T.1 k) = some T2) ∨
      (v_o V t = 14 ∧ ∃ k, t_n (v_a V t) 20 = some k ∧ t_has V T 1 = true ∧ T2 = (T.1, T.2.1, t_tk V T 1, k + 1, none)) ∨
      (v_o V t = 15 ∧ t_has V T (v_r V f) = true ∧ T2 = t_die V T) ∨
      (v_o V t = 16 ∧ ∃ g, t_n (v_a V t) f = some g ∧ t_tu V T (v_p V g) (v_r V g) = some T2) ∨
      (v_o V t = 17 ∧ ∃ x y, t_n (v_a V t) 8 = some x ∧ t_n (v_b V t) 8 = some y ∧ t_tu V T (x + 1) y = some T2) ∨
      (¬ v_o V t ∈ ([0, 2, 3, 4, 5, 6, 11, 12, 13, 14, 15, 16, 17] : List Int32) ∧ t_plain V f t T = some T2))) := by
  unfold t_nx at h
  by_cases o6 : v_o V t = 6
  · replace h := if_p h o6
    by_cases hel : T.2.2.2.1 = 0
    · replace h := if_p h hel; cases h
    · exact Or.inl ⟨o6, hel, if_n h hel⟩
  replace h := if_n h o6
  by_cases hel : ¬ T.2.2.2.1 = 0
  · replace h := if_p h hel; cases h
  replace h := if_n h hel
  refine Or.inr ⟨Classical.byContradiction hel, ?_⟩
  by_cases o0 : v_o V t = 0
  · replace h := if_p h o0; cases h; exact Or.inl ⟨o0, rfl⟩
  replace h := if_n h o0
  refine Or.inr ?_
  by_cases o2 : v_o V t = 2 ∨ v_o V t = 3
  · exact Or.inl ⟨o2, if_p h o2⟩
  replace h := if_n h o2
  refine Or.inr ?_
  by_cases o4 : v_o V t = 4
  · exact Or.inl ⟨o4, if_p h o4⟩
  replace h := if_n h o4
  refine Or.inr ?_
  by_cases o5 : v_o V t = 5
  · exact Or.inl ⟨o5, if_p h o5⟩
  replace h := if_n h o5
  refine Or.inr ?_
  by_cases o11 : v_o V t = 11
  · exact Or.inl ⟨o11, if_p h o11⟩
  replace h := if_n h o11
  refine Or.inr ?_
  by_cases o12 : v_o V t = 12
  · replace h := if_p h o12
    refine Or.inl ⟨o12, ?_⟩
    cases hk : t_n (v_a V t) T.1.length with
    | none => rw [hk] at h; cases h
    | some k =>
      rw [hk] at h
      simp only [] at h
      cases hh : t_has V T (t_want V f T.1 k)
      · rw [hh] at h; cases h
      · rw [hh, cond_true] at h; cases h; exact ⟨k, rfl, hh, rfl⟩
  replace h := if_n h o12
  refine Or.inr ?_
  by_cases o13 : v_o V t = 13
  · replace h := if_p h o13
    refine Or.inl ⟨o13, ?_⟩
    cases hk : t_n (v_a V t) T.1.length with
    | none => rw [hk] at h; cases h
    | some k => rw [hk] at h; exact ⟨k, rfl, h⟩
  replace h := if_n h o13
  refine Or.inr ?_
  by_cases o14 : v_o V t = 14
  · replace h := if_p h o14
    refine Or.inl ⟨o14, ?_⟩
    cases hk : t_n (v_a V t) 20 with
    | none => rw [hk] at h; cases h
    | some k =>
      rw [hk] at h
      simp only [] at h
      cases hh : t_has V T 1
      · rw [hh] at h; cases h
      · rw [hh, cond_true] at h; cases h; exact ⟨k, rfl, rfl, rfl⟩
  replace h := if_n h o14
  refine Or.inr ?_
  by_cases o15 : v_o V t = 15
  · replace h := if_p h o15
    refine Or.inl ⟨o15, ?_⟩
    cases hh : t_has V T (v_r V f)
    · rw [hh] at h; cases h
    · rw [hh, cond_true] at h; cases h; exact ⟨rfl, rfl⟩
  replace h := if_n h o15
  refine Or.inr ?_
  by_cases o16 : v_o V t = 16
  · replace h := if_p h o16
    refine Or.inl ⟨o16, ?_⟩
    cases hk : t_n (v_a V t) f with
    | none => rw [hk] at h; cases h
    | some k => rw [hk] at h; exact ⟨k, rfl, h⟩
  replace h := if_n h o16
  refine Or.inr ?_
  by_cases o17 : v_o V t = 17
  · replace h := if_p h o17
    refine Or.inl ⟨o17, ?_⟩
    cases hx : t_n (v_a V t) 8 with
    | none => rw [hx] at h; cases h
    | some x =>
      cases hy : t_n (v_b V t) 8 with
      | none => rw [hx, hy] at h; cases h
      | some y => rw [hx, hy] at h; exact ⟨x, y, rfl, rfl, h⟩
  replace h := if_n h o17
  refine Or.inr ⟨fun z => ?_, h⟩
  simp only [List.mem_cons, List.not_mem_nil, or_false] at z
  rcases z with z | z | z | z | z | z | z | z | z | z | z | z | z
  · exact o0 z
  · exact o2 (Or.inl z)
  · exact o2 (Or.inr z)
  · exact o4 z
  · exact o5 z
  · exact o6 z
  · exact o11 z
  · exact o12 z
  · exact o13 z
  · exact o14 z
  · exact o15 z
  · exact o16 z
  · exact o17 z
theorem begin_some {V : vw_T} {t more : Nat} {T T2 : ts_T} (h : t_begin V t T more = some T2) : ∃ x y : Nat, x ≤ 4 ∧ y ≤ 4 ∧ v_a V t = nI x ∧ v_b V t = nI y ∧ t_has V T (x + more) = true ∧ v_w V t = t_tk V T (x + more) ∧ T2 = ((t, false, false) :: T.1, T.2.1, t_tk V T (x + more) + x, 0, none) := by
  unfold t_begin at h
  cases hx : t_n (v_a V t) 4 with
  | none => rw [hx] at h; cases h
  | some x =>
    cases hy : t_n (v_b V t) 4 with
    | none => rw [hx, hy] at h; cases h
    | some y =>
      rw [hx, hy] at h
      simp only [] at h
      obtain ⟨x1, x2⟩ := t_n_some (by omega) hx
      obtain ⟨y1, y2⟩ := t_n_some (by omega) hy
      cases hh : t_has V T (x + more)
      · rw [hh] at h; cases h
      · rw [hh, cond_true] at h
        by_cases e : v_w V t = t_tk V T (x + more)
        · replace h := if_p h e; cases h; exact ⟨x, y, x1, y1, x2, y2, hh, e, rfl⟩
        · replace h := if_n h e; cases h
theorem else_some {V : vw_T} {f : Nat} {T T2 : ts_T} (h : t_else V f T = some T2) : ∃ (q : lb_T) (L : List lb_T), T.1 = q :: L ∧ v_o V q.1 = 4 ∧ q.2.1 = false ∧ t_done V f T = true ∧ T2 = ((q.1, true, false) :: L, T.2.1, v_w V q.1 + (v_a V q.1).toNatClampNeg, 0, none) := by
  unfold t_else at h
  cases hL : T.1 with
  | nil => rw [hL] at h; cases h
  | cons q L =>
    rw [hL] at h
    simp only [] at h
    cases hc : ((decide (v_o V q.1 = 4) && !q.2.1) && t_done V f T)
    · rw [hc] at h; cases h
    · rw [hc, cond_true] at h
      cases h
      rw [Bool.and_eq_true, Bool.and_eq_true] at hc
      exact ⟨q, L, rfl, of_decide_eq_true hc.1.1, by simpa using hc.1.2, hc.2, rfl⟩
theorem end_some {V : vw_T} {f : Nat} {T T2 : ts_T} (h : t_end V f T = some T2) : ∃ (q : lb_T) (L : List lb_T), T.1 = q :: L ∧ t_done V f T = true ∧ (v_o V q.1 = 4 → q.2.1 = false → v_a V q.1 = v_b V q.1) ∧ T2 = (L, T.2.1, v_w V q.1 + (v_b V q.1).toNatClampNeg, 0, none) := by
  unfold t_end at h
  cases hL : T.1 with
  | nil => rw [hL] at h; cases h
  | cons q L =>
    rw [hL] at h
    simp only [] at h
    cases hc : (t_done V f T && !((decide (v_o V q.1 = 4) && !q.2.1) && !decide (v_a V q.1 = v_b V q.1)))
    · rw [hc] at h; cases h
    · rw [hc, cond_true] at h
      cases h
      rw [Bool.and_eq_true] at hc
      refine ⟨q, L, rfl, hc.1, fun z1 z2 => ?_, rfl⟩
      have := hc.2
      rw [z1, z2] at this
      simpa using this
theorem entry_some {V : vw_T} {f t : Nat} {T T2 : ts_T} (h : t_entry V f t T = some T2) : ∃ k : Nat, t_n (v_a V t) T.1.length = some k ∧ (T.2.2.2.2 = none → t_has V T (t_want V f T.1 k) = true) ∧ (∀ x, T.2.2.2.2 = some x → t_want V f T.1 k = x) ∧ ((T.2.2.2.1 = 1 ∧ T2 = t_die V T) ∨ (¬ T.2.2.2.1 = 1 ∧ T2 = (T.1, T.2.1, T.2.2.1, T.2.2.2.1 - 1, some (t_want V f T.1 k)))) := by
  unfold t_entry at h
  cases hk : t_n (v_a V t) T.1.length with
  | none => rw [hk] at h; cases h
  | some k =>
    rw [hk] at h
    simp only [] at h
    cases hw : T.2.2.2.2 with
    | none =>
      rw [hw] at h
      simp only [] at h
      cases hh : t_has V T (t_want V f T.1 k)
      · rw [hh] at h; cases h
      · rw [hh, cond_true] at h
        refine ⟨k, rfl, fun _ => hh, fun x hx => (by cases hx), ?_⟩
        by_cases e : T.2.2.2.1 = 1
        · replace h := if_p h e; cases h; exact Or.inl ⟨e, rfl⟩
        · replace h := if_n h e; cases h; exact Or.inr ⟨e, rfl⟩
    | some x =>
      rw [hw] at h
      simp only [] at h
      by_cases hh : t_want V f T.1 k = x
      · rw [decide_eq_true hh, cond_true] at h
        refine ⟨k, rfl, fun z => (by cases z), fun y hy => (by cases hy; exact hh), ?_⟩
        by_cases e : T.2.2.2.1 = 1
        · replace h := if_p h e; cases h; exact Or.inl ⟨e, rfl⟩
        · replace h := if_n h e; cases h; exact Or.inr ⟨e, rfl⟩
      · rw [decide_eq_false hh] at h; cases h
theorem plain_some {V : vw_T} {f t : Nat} {T T2 : ts_T} (h : t_plain V f t T = some T2) : ∃ n k : Nat, t_ar (v_o V t) = some (n, k) ∧ t_lim V f (v_o V t) (v_a V t) = true ∧ t_tu V T n k = some T2 := by
  unfold t_plain at h
  cases hq : t_ar (v_o V t) with
  | none => rw [hq] at h; cases h
  | some q =>
    rw [hq] at h
    simp only [] at h
    cases hl : t_lim V f (v_o V t) (v_a V t)
    · rw [hl] at h; cases h
    · rw [hl, cond_true] at h; exact ⟨q.1, q.2, rfl, rfl, h⟩
theorem ar_le {o : Int32} {n k : Nat} (h : t_ar o = some (n, k)) : n ≤ 3 ∧ k ≤ 1 := by
  rcases ar_mem o with e | e
  · rw [e] at h; cases h
  · simp only [List.mem_cons, List.not_mem_nil, or_false] at e
    rcases e with rfl | rfl | rfl | rfl | rfl | rfl | rfl | rfl | rfl | rfl | rfl | rfl | rfl | rfl | rfl | rfl | rfl | rfl | rfl | rfl | rfl | rfl | rfl | rfl | rfl | rfl | rfl | rfl | rfl | rfl | rfl | rfl | rfl | rfl | rfl | rfl | rfl | rfl | rfl | rfl | rfl | rfl | rfl | rfl | rfl | rfl | rfl | rfl | rfl | rfl | rfl | rfl | rfl | rfl <;> (cases h; decide)
theorem nx_b {V : vw_T} {f t : Nat} {T T2 : ts_T} (h : t_nx V f t T = some T2) (hl : lw_L V t T.1 T.2.2.1) (hb : tb_ok t T) (ht : t < 512) (hf : f < 40) (hr : ∀ g, g ≤ f → v_r V g ≤ 8) : tb_ok (t + 1) T2 := by
  obtain ⟨c1, c2, c3, c4⟩ := hb
  have hth := lw_ht hl
  have hdie : tb_ok (t + 1) (t_die V T) := by
    unfold t_die
    rw [t_in_eq]
    refine ⟨by omega, ?_, ?_, by show 0 ≤ 21; omega⟩
    · show (l_in _ _).length ≤ _
      rw [l_in_len]; omega
    · show t_ht V T.1 ≤ _; omega
  have htu : ∀ n k : Nat, k ≤ 8 → t_tu V T n k = some T2 → tb_ok (t + 1) T2 := fun n k hk h => by
    obtain ⟨e1, e2, e3⟩ := tu_b h hl
    exact ⟨by omega, by rw [e1]; omega, by omega, by omega⟩
  have hbeg : ∀ more : Nat, t_begin V t T more = some T2 → tb_ok (t + 1) T2 := fun more h => by
    obtain ⟨x, y, hx, hy, -, -, -, -, rfl⟩ := begin_some h
    refine ⟨by omega, by show (_ :: T.1).length ≤ _; rw [List.length_cons]; omega, ?_, by show 0 ≤ 21; omega⟩
    show t_tk V T (x + more) + x ≤ _
    rw [t_tk_eq hl]; omega
  rcases nx_cases h with ⟨-, -, h⟩ | ⟨-, h⟩
  · obtain ⟨k, hk, -, -, ⟨-, rfl⟩ | ⟨-, rfl⟩⟩ := entry_some h
    · exact hdie
    · exact ⟨by omega, by show T.1.length ≤ _; omega, by show T.2.2.1 ≤ _; omega, by show T.2.2.2.1 - 1 ≤ 21; omega⟩
  · rcases h with ⟨-, rfl⟩ | ⟨-, h⟩ | ⟨-, h⟩ | ⟨-, h⟩ | ⟨-, h⟩ | ⟨-, k, -, -, rfl⟩ | ⟨-, k, -, h⟩ | ⟨-, k, hk, -, rfl⟩ | ⟨-, -, rfl⟩ | ⟨-, g, hg, h⟩ | ⟨-, x, y, hx, hy, h⟩ | ⟨-, h⟩
    · exact hdie
    · exact hbeg 0 h
    · exact hbeg 1 h
    · obtain ⟨q, L, hL, -, -, -, rfl⟩ := else_some h
      rw [hL] at hl c2
      obtain ⟨x, y, hx, hy, e1, e2⟩ := hl.2.1
      have hw4 := hl.2.2.2.1
      rw [e1, nI_clamp (by omega)]
      rw [List.length_cons] at c2
      exact ⟨by omega, by show (_ :: L).length ≤ _; rw [List.length_cons]; omega, by show v_w V q.1 + x ≤ _; omega, by show 0 ≤ 21; omega⟩
    · obtain ⟨q, L, hL, -, -, rfl⟩ := end_some h
      rw [hL] at hl c2
      obtain ⟨x, y, hx, hy, e1, e2⟩ := hl.2.1
      have hw4 := hl.2.2.2.1
      rw [e2, nI_clamp (by omega)]
      rw [List.length_cons] at c2
      exact ⟨by omega, by show L.length ≤ _; omega, by show v_w V q.1 + y ≤ _; omega, by show 0 ≤ 21; omega⟩
    · exact hdie
    · exact htu _ _ (want_le hl (hr f (Nat.le_refl _))) h
    · have hk2 := (t_n_some (by omega) hk).1
      refine ⟨by omega, by show T.1.length ≤ _; omega, ?_, by show k + 1 ≤ 21; omega⟩
      show t_tk V T 1 ≤ _
      rw [t_tk_eq hl]; omega
    · exact hdie
    · exact htu _ _ (hr g (t_n_some (by omega) hg).1) h
    · exact htu _ _ (t_n_some (by omega) hy).1 h
    · obtain ⟨n, k, e1, -, h⟩ := plain_some h
      have := ar_le e1
      exact htu _ _ (by omega) h
