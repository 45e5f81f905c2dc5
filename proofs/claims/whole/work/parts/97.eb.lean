-- ===== the reference looks for a label's end =====
theorem eo_scan {m : rs_T} {T : Nat → ts_T} {f s e : Nat} (N : Nat) (x2 : Int32) (hx : ∀ i, s ≤ i → i < e → t_nx (vm m) f i (T i) = some (T (i + 1))) (hfin : t_fin (vm m) f e (T e)) (he : e < 512) : ∀ (n i : Nat) (X R : List Nat), e - i < n → s ≤ i → i ≤ e → bg_L (T i) = X ++ R → X.length + (e - i) ≤ 2000 → ∃ j, i ≤ j ∧ j ≤ e ∧ bg_L (T j) = R ∧ (v_o (vm m) j = 11 ∨ (¬ x2 = 0 ∧ v_o (vm m) j = 5)) ∧ (∀ j', i ≤ j' → j' < j → (∃ (b : Nat) (Y : List Nat), bg_L (T j') = b :: Y ++ R) ∨ (bg_L (T j') = R ∧ ¬ v_o (vm m) j' = 11 ∧ (¬ x2 = 0 → ¬ v_o (vm m) j' = 5))) ∧ fx_Md_endOf_b5 N n x2 (nI X.length) (nI i) m = some (nI j, m) := by
  intro n
  induction n with
  | zero => intro i X R h; omega
  | succ n ih =>
    intro i X R hn hsi hie hbg hX
    have ho : rA m 6 i = v_o (vm m) i := rfl
    rw [fx_Md_endOf_b5]
    -- one step further
    have step : i < e → ∀ (X' : List Nat) (y0 : Int32), bg_L (T (i + 1)) = X' ++ R → X'.length ≤ X.length + 1 → nI X.length + y0 = nI X'.length → ((∃ (b : Nat) (Y : List Nat), bg_L (T i) = b :: Y ++ R) ∨ (bg_L (T i) = R ∧ ¬ v_o (vm m) i = 11 ∧ (¬ x2 = 0 → ¬ v_o (vm m) i = 5))) → ∃ j, i ≤ j ∧ j ≤ e ∧ bg_L (T j) = R ∧ (v_o (vm m) j = 11 ∨ (¬ x2 = 0 ∧ v_o (vm m) j = 5)) ∧ (∀ j', i ≤ j' → j' < j → (∃ (b : Nat) (Y : List Nat), bg_L (T j') = b :: Y ++ R) ∨ (bg_L (T j') = R ∧ ¬ v_o (vm m) j' = 11 ∧ (¬ x2 = 0 → ¬ v_o (vm m) j' = 5))) ∧ fx_Md_endOf_b71 N (fx_Md_endOf_b5 N n) x2 (nI i) y0 (nI X.length) m = some (nI j, m) := fun hi X' y0 g1 g2 g3 g4 => by
      obtain ⟨j, j1, j2, j3, j4, j5, j6⟩ := ih (i + 1) X' R (by omega) (by omega) (by omega) g1 (by omega)
      refine ⟨j, by omega, j2, j3, j4, fun j' q1 q2 => ?_, ?_⟩
      · rcases Nat.lt_or_ge i j' with z | z
        · exact j5 j' (by omega) q2
        · have : j' = i := by omega
          subst this; exact g4
      · unfold fx_Md_endOf_b71
        rw [bd_s, bd_s, g3, nI_1]
        exact j6
    -- the middle of the loop
    have mid : i < e → ((∃ (b : Nat) (Y : List Nat), bg_L (T i) = b :: Y ++ R) ∨ (bg_L (T i) = R ∧ ¬ v_o (vm m) i = 11 ∧ (¬ x2 = 0 → ¬ v_o (vm m) i = 5))) → (v_o (vm m) i = 11 → ¬ X = []) → ∃ j, i ≤ j ∧ j ≤ e ∧ bg_L (T j) = R ∧ (v_o (vm m) j = 11 ∨ (¬ x2 = 0 ∧ v_o (vm m) j = 5)) ∧ (∀ j', i ≤ j' → j' < j → (∃ (b : Nat) (Y : List Nat), bg_L (T j') = b :: Y ++ R) ∨ (bg_L (T j') = R ∧ ¬ v_o (vm m) j' = 11 ∧ (¬ x2 = 0 → ¬ v_o (vm m) j' = 5))) ∧ fx_Md_endOf_b36 N (fx_Md_endOf_b5 N n) x2 (nI X.length) (nI i) m = some (nI j, m) := fun hi g4 g5 => by
      unfold fx_Md_endOf_b36
      rw [gd_k (by omega) (by omega), nI_clamp (by omega), ho]
      rcases nx_beg (hx i hsi hi) with ⟨o, e1⟩ | ⟨o, b, e1⟩ | ⟨o, e1⟩
      · rw [mb_yes o, bn_s, if_neg i10]
        exact step hi (i :: X) 1 (by rw [e1, hbg]; rfl) (by rw [List.length_cons]; omega) (by rw [List.length_cons]; exact nI_1 _) g4
      · have nb : ¬ v_o (vm m) i ∈ ([2, 3, 4] : List Int32) := by rw [o]; decide
        rw [mb_no nb, bn_s, if_pos rfl, gd_k (by omega) (by omega), ho, if_pos o]
        cases hXc : X with
        | nil => exact absurd hXc (g5 o)
        | cons x X' =>
          rw [hXc] at hbg
          rw [hbg] at e1
          have e2 : X' ++ R = bg_L (T (i + 1)) := by
            have := (List.cons.inj e1).2
            exact this
          have := step hi X' (-1) e2.symm (by rw [hXc, List.length_cons]; omega) (by rw [hXc, List.length_cons]; exact pk_m1 _) g4
          rw [hXc] at this
          exact this
      · have nb : ¬ v_o (vm m) i ∈ ([2, 3, 4] : List Int32) := fun z => o (by
          simp only [List.mem_cons, List.not_mem_nil, or_false] at z ⊢
          rcases z with z | z | z <;> simp [z])
        have n11 : ¬ v_o (vm m) i = 11 := fun z => o (by rw [z]; decide)
        rw [mb_no nb, bn_s, if_pos rfl, gd_k (by omega) (by omega), ho, if_neg n11]
        exact step hi X 0 (by rw [e1]; exact hbg) (by omega) (Int32.add_zero _) g4
    cases hXc : X with
    | cons x X' =>
      have h0 : (0 : Int32) < nI (x :: X').length := (lit_lt (k := 0) (by rw [hXc] at hX; omega) (by omega)).mpr (by rw [List.length_cons]; exact Nat.succ_pos _)
      rw [if_pos h0]
      have hne : i < e := by
        rcases Nat.lt_or_ge i e with z | z
        · exact z
        · have : i = e := by omega
          subst this
          have : bg_L (T i) = [] := by unfold bg_L; rw [hfin.2.2.1]; rfl
          rw [hbg, hXc] at this
          cases this
      have := mid hne (Or.inl ⟨x, X', by rw [hbg, hXc]⟩) (fun _ => by rw [hXc]; exact List.cons_ne_nil _ _)
      rw [hXc] at this
      exact this
    | nil =>
      rw [hXc] at hbg
      have h0 : ¬ (0 : Int32) < nI ([] : List Nat).length := by decide
      rw [if_neg h0, gd_k (by omega) (by omega), nI_clamp (by omega), ho]
      by_cases o11 : v_o (vm m) i = 11
      · rw [if_pos o11]
        exact ⟨i, Nat.le_refl _, hie, hbg, Or.inl o11, fun j' q1 q2 => by omega, rfl⟩
      · rw [if_neg o11]
        have hne : i < e := by
          rcases Nat.lt_or_ge i e with z | z
          · exact z
          · have : i = e := by omega
            subst this
            exact absurd hfin.1 o11
        by_cases hz : x2 = 0
        · rw [if_pos hz]
          have := mid hne (Or.inr ⟨hbg, o11, fun z => absurd hz z⟩) (fun z => absurd z o11)
          rw [hXc] at this
          exact this
        · rw [if_neg hz, gd_k (by omega) (by omega)]
          by_cases o5 : v_o (vm m) i = 5
          · rw [if_pos o5]
            exact ⟨i, Nat.le_refl _, hie, hbg, Or.inr ⟨hz, o5⟩, fun j' q1 q2 => by omega, rfl⟩
          · rw [if_neg o5]
            have := mid hne (Or.inr ⟨hbg, o11, fun _ => o5⟩) (fun z => absurd z o11)
            rw [hXc] at this
            exact this
