-- ===== what one step does to the labels =====
theorem nx_lab {V : vw_T} {f t : Nat} {T T2 : ts_T} (h : t_nx V f t T = some T2) :
    (v_o V t ∈ ([2, 3, 4] : List Int32) ∧ T2.1 = (t, false, false) :: T.1) ∨
    (v_o V t = 5 ∧ ∃ (q : lb_T) (L : List lb_T), T.1 = q :: L ∧ v_o V q.1 = 4 ∧ q.2.1 = false ∧ T2.1 = (q.1, true, false) :: L) ∨
    (v_o V t = 11 ∧ ∃ (q : lb_T) (L : List lb_T), T.1 = q :: L ∧ T2.1 = L) ∨
    (¬ v_o V t ∈ ([2, 3, 4, 5, 11] : List Int32) ∧ (T2.1 = T.1 ∨ T2.1 = l_in T.1 true)) := by
  have htu : ∀ n k : Nat, t_tu V T n k = some T2 → T2.1 = T.1 := fun n k h => by
    unfold t_tu at h
    cases hh : t_has V T n
    · rw [hh] at h; cases h
    · rw [hh] at h; cases h; rfl
  have hdie : (t_die V T).1 = l_in T.1 true := by unfold t_die; rw [t_in_eq]
  rcases nx_cases h with ⟨o, -, h⟩ | ⟨-, h⟩
  · refine Or.inr (Or.inr (Or.inr ⟨by rw [o]; decide, ?_⟩))
    obtain ⟨k, hk, -, -, ⟨-, rfl⟩ | ⟨-, rfl⟩⟩ := entry_some h
    · exact Or.inr hdie
    · exact Or.inl rfl
  · rcases h with ⟨o, rfl⟩ | ⟨o, h⟩ | ⟨o, h⟩ | ⟨o, h⟩ | ⟨o, h⟩ | ⟨o, k, -, -, rfl⟩ | ⟨o, k, -, h⟩ | ⟨o, k, hk, -, rfl⟩ | ⟨o, -, rfl⟩ | ⟨o, g, hg, h⟩ | ⟨o, x, y, hx, hy, h⟩ | ⟨o, h⟩
    · exact Or.inr (Or.inr (Or.inr ⟨by rw [o]; decide, Or.inr hdie⟩))
    · obtain ⟨x, y, -, -, -, -, -, -, rfl⟩ := begin_some h
      refine Or.inl ⟨?_, rfl⟩
      rcases o with o | o <;> (rw [o]; decide)
    · obtain ⟨x, y, -, -, -, -, -, -, rfl⟩ := begin_some h
      exact Or.inl ⟨by rw [o]; decide, rfl⟩
    · obtain ⟨q, L, hL, h4, h5, -, rfl⟩ := else_some h
      exact Or.inr (Or.inl ⟨o, q, L, hL, h4, h5, rfl⟩)
    · obtain ⟨q, L, hL, -, -, rfl⟩ := end_some h
      exact Or.inr (Or.inr (Or.inl ⟨o, q, L, hL, rfl⟩))
    · exact Or.inr (Or.inr (Or.inr ⟨by rw [o]; decide, Or.inr hdie⟩))
    · exact Or.inr (Or.inr (Or.inr ⟨by rw [o]; decide, Or.inl (htu _ _ h)⟩))
    · exact Or.inr (Or.inr (Or.inr ⟨by rw [o]; decide, Or.inl rfl⟩))
    · exact Or.inr (Or.inr (Or.inr ⟨by rw [o]; decide, Or.inr hdie⟩))
    · exact Or.inr (Or.inr (Or.inr ⟨by rw [o]; decide, Or.inl (htu _ _ h)⟩))
    · exact Or.inr (Or.inr (Or.inr ⟨by rw [o]; decide, Or.inl (htu _ _ h)⟩))
    · obtain ⟨n, k, e1, -, h⟩ := plain_some h
      refine Or.inr (Or.inr (Or.inr ⟨fun z => o ?_, Or.inl (htu _ _ h)⟩))
      simp only [List.mem_cons, List.not_mem_nil, or_false] at z ⊢
      rcases z with z | z | z | z | z <;> simp [z]
-- labels of l_in have the same beginnings and ELSE flags
theorem in_mem {L : List lb_T} {d : Bool} {q : lb_T} (h : q ∈ l_in L d) : ∃ r ∈ L, r.1 = q.1 ∧ r.2.1 = q.2.1 := by
  cases L with
  | nil => cases h
  | cons r L =>
    rcases List.mem_cons.mp h with e | e
    · exact ⟨r, List.mem_cons_self, by rw [e], by rw [e]⟩
    · exact ⟨q, List.mem_cons_of_mem _ e, rfl, rfl⟩
theorem ls_in {L : List lb_T} {d : Bool} (h : ls_L L) : ls_L (l_in L d) := by
  cases L with
  | nil => exact h
  | cons r L => exact h
theorem ls_nx {V : vw_T} {f t : Nat} {T T2 : ts_T} (h : t_nx V f t T = some T2) (hl : lw_L V t T.1 T.2.2.1) (hs : ls_L T.1) : ls_L T2.1 := by
  rcases nx_lab h with ⟨-, e⟩ | ⟨-, q, L, e1, -, -, e⟩ | ⟨-, q, L, e1, e⟩ | ⟨-, e | e⟩
  · rw [e]; exact ⟨fun r hr => (lw_get hl r hr).1, hs⟩
  · rw [e]; rw [e1] at hs; exact hs
  · rw [e]; rw [e1] at hs; exact hs.2
  · rw [e]; exact hs
  · rw [e]; exact ls_in hs
-- a table's entries have what the first wanted
theorem first_nx {V : vw_T} {f t : Nat} {T T2 : ts_T} (h : t_nx V f t T = some T2) (hf : ∀ x, T.2.2.2.2 = some x → t_has V T x = true) : ∀ x, T2.2.2.2.2 = some x → t_has V T2 x = true := by
  have htu : ∀ n k : Nat, t_tu V T n k = some T2 → T2.2.2.2.2 = none := fun n k h => by
    unfold t_tu at h
    cases hh : t_has V T n
    · rw [hh] at h; cases h
    · rw [hh] at h; cases h; rfl
  have hdie : (t_die V T).2.2.2.2 = none := by unfold t_die; rw [t_in_eq]
  intro x hx
  rcases nx_cases h with ⟨o, -, h⟩ | ⟨-, h⟩
  · obtain ⟨k, hk, g1, g2, ⟨-, rfl⟩ | ⟨-, rfl⟩⟩ := entry_some h
    · rw [hdie] at hx; cases hx
    · have e : t_want V f T.1 k = x := by cases hx; rfl
      rw [← e]
      cases hw : T.2.2.2.2 with
      | none => exact g1 hw
      | some y => rw [g2 y hw]; exact hf y hw
  · have hno : T2.2.2.2.2 = none := by
      rcases h with ⟨o, rfl⟩ | ⟨o, h⟩ | ⟨o, h⟩ | ⟨o, h⟩ | ⟨o, h⟩ | ⟨o, k, -, -, rfl⟩ | ⟨o, k, -, h⟩ | ⟨o, k, hk, -, rfl⟩ | ⟨o, -, rfl⟩ | ⟨o, g, hg, h⟩ | ⟨o, x, y, hx, hy, h⟩ | ⟨o, h⟩
      · exact hdie
      · obtain ⟨x, y, -, -, -, -, -, -, rfl⟩ := begin_some h; rfl
      · obtain ⟨x, y, -, -, -, -, -, -, rfl⟩ := begin_some h; rfl
      · obtain ⟨q, L, hL, h4, h5, -, rfl⟩ := else_some h; rfl
      · obtain ⟨q, L, hL, -, -, rfl⟩ := end_some h; rfl
      · exact hdie
      · exact htu _ _ h
      · rfl
      · exact hdie
      · exact htu _ _ h
      · exact htu _ _ h
      · obtain ⟨n, k, e1, -, h⟩ := plain_some h
        exact htu _ _ h
    rw [hno] at hx
    cases hx
-- what was written under an open label: not its END; its ELSE only if it is marked
def hs_L (V : vw_T) (T : Nat → ts_T) (s t : Nat) : Prop := ∀ q ∈ (T t).1, s ≤ q.1 ∧ (∀ i, s ≤ i → i < t → v_o V i = 11 → ∀ r L, (T i).1 = r :: L → ¬ r.1 = q.1) ∧ (∀ i, s ≤ i → i < t → v_o V i = 5 → ∀ r L, (T i).1 = r :: L → r.1 = q.1 → q.2.1 = true)
theorem hs_nx {V : vw_T} {f s t : Nat} {T : Nat → ts_T} (h : t_nx V f t (T t) = some (T (t + 1))) (hst : s ≤ t) (hl : ∀ i, s ≤ i → i ≤ t → lw_L V i (T i).1 (T i).2.2.1) (hs : ls_L (T t).1) (hh : hs_L V T s t) : hs_L V T s (t + 1) := by
  -- labels that stay
  have keep : ∀ q ∈ (T t).1, (v_o V t = 11 → ∀ r L, (T t).1 = r :: L → ¬ r.1 = q.1) → ∀ q2 : lb_T, q2.1 = q.1 → (q.2.1 = true → q2.2.1 = true) → (v_o V t = 5 → ∀ r L, (T t).1 = r :: L → r.1 = q.1 → q2.2.1 = true) → s ≤ q2.1 ∧ (∀ i, s ≤ i → i < t + 1 → v_o V i = 11 → ∀ r L, (T i).1 = r :: L → ¬ r.1 = q2.1) ∧ (∀ i, s ≤ i → i < t + 1 → v_o V i = 5 → ∀ r L, (T i).1 = r :: L → r.1 = q2.1 → q2.2.1 = true) := by
    intro q hq h11 q2 e1 e2 h5
    obtain ⟨a1, a2, a3⟩ := hh q hq
    refine ⟨by rw [e1]; exact a1, fun i hi1 hi2 ho r L hr => ?_, fun i hi1 hi2 ho r L hr e => ?_⟩
    · rw [e1]
      rcases Nat.lt_or_ge i t with z | z
      · exact a2 i hi1 z ho r L hr
      · have : i = t := by omega
        subst this; exact h11 ho r L hr
    · rw [e1] at e
      rcases Nat.lt_or_ge i t with z | z
      · exact e2 (a3 i hi1 z ho r L hr e)
      · have : i = t := by omega
        subst this; exact h5 ho r L hr e
  intro q hq
  rcases nx_lab h with ⟨o, e⟩ | ⟨o, r, L, e1, -, -, e⟩ | ⟨o, r, L, e1, e⟩ | ⟨o, e⟩
  · simp only [List.mem_cons, List.not_mem_nil, or_false] at o
    rw [e] at hq
    rcases List.mem_cons.mp hq with z | z
    · subst z
      refine ⟨hst, fun i hi1 hi2 ho r L hr => ?_, fun i hi1 hi2 ho r L hr e2 => ?_⟩
      · have := hl i hi1 (by omega)
        rw [hr] at this
        have := this.1
        show ¬ r.1 = t
        omega
      · have := hl i hi1 (by omega)
        rw [hr] at this
        have := this.1
        have e3 : r.1 = t := e2
        omega
    · refine keep q z (fun z2 => ?_) q rfl id (fun z2 => ?_)
      · rw [z2] at o; rcases o with o | o | o <;> exact absurd o (by decide)
      · rw [z2] at o; rcases o with o | o | o <;> exact absurd o (by decide)
  · rw [e] at hq
    rw [e1] at hs
    have n11 : ¬ v_o V t = 11 := by rw [o]; decide
    rcases List.mem_cons.mp hq with z | z
    · subst z
      exact keep r (by rw [e1]; exact List.mem_cons_self) (fun z2 => absurd z2 n11) _ rfl (fun _ => rfl) (fun _ _ _ _ _ => rfl)
    · refine keep q (by rw [e1]; exact List.mem_cons_of_mem _ z) (fun z2 => absurd z2 n11) q rfl id (fun _ r2 L2 hr2 e3 => ?_)
      rw [e1] at hr2
      cases hr2
      have := hs.1 q z
      omega
  · rw [e] at hq
    rw [e1] at hs
    refine keep q (by rw [e1]; exact List.mem_cons_of_mem _ hq) (fun _ r2 L2 hr2 => ?_) q rfl id (fun z2 => ?_)
    · rw [e1] at hr2
      cases hr2
      have := hs.1 q hq
      omega
    · rw [o] at z2; exact absurd z2 (by decide)
  · simp only [List.mem_cons, List.not_mem_nil, or_false, not_or] at o
    rcases e with e | e
    · rw [e] at hq
      exact keep q hq (fun z => absurd z o.2.2.2.2) q rfl id (fun z => absurd z o.2.2.2.1)
    · rw [e] at hq
      obtain ⟨r, hr, e1, e2⟩ := in_mem hq
      exact keep r hr (fun z => absurd z o.2.2.2.2) q e1.symm (fun z => by rw [← e2]; exact z) (fun z => absurd z o.2.2.2.1)
