theorem cl_else {c m : rs_T} {T : Nat → ts_T} {f s e ms N i : Nat} (h : pb_W c m T f s e ms) (he : e ≤ 512) (hN : 600 ≤ N) (hi : s ≤ i) (hi2 : i + 1 < e) (ho : v_o (vm m) i = 5) : ∃ j, i < j ∧ j < e ∧ v_o (vm m) j = 11 ∧ bg_L (T j) = bg_L (T i) ∧ rA c 10 i = nI j ∧ fx_Md_endOf N (nI (i + 1)) 0 m = some (nI j, m) := by
  obtain ⟨h0, h1, h2, h3, h4, h5⟩ := h
  have hx := h2.2.1
  have hbg : bg_L (T (i + 1)) = bg_L (T i) := by
    rcases nx_beg (hx i hi (by omega)) with ⟨o, -⟩ | ⟨o, -⟩ | ⟨-, e1⟩
    · rw [ho] at o; exact absurd o (by decide)
    · rw [ho] at o; exact absurd o (by decide)
    · exact e1
  obtain ⟨j, j1, j2, j3, j4, -, j6⟩ := eo_scan N 0 hx h3 (by omega) N (i + 1) [] (bg_L (T i)) (by omega) (by omega) (by omega) (by rw [hbg]; rfl) (by show 0 + _ ≤ 2000; omega)
  have j11 : v_o (vm m) j = 11 := by
    rcases j4 with z | z
    · exact z
    · exact absurd rfl z.1
  refine ⟨j, by omega, by omega, j11, j3, ?_, ?_⟩
  · -- the ELSE's label
    obtain ⟨q, L, e1⟩ : ∃ (q : lb_T) (L : List lb_T), (T i).1 = q :: L := by
      rcases nx_lab (hx i hi (by omega)) with ⟨o, -⟩ | ⟨-, q, L, e1, -⟩ | ⟨o, -⟩ | ⟨o, -⟩
      · rw [ho] at o; exact absurd o (by decide)
      · exact ⟨q, L, e1⟩
      · rw [ho] at o; exact absurd o (by decide)
      · exact absurd (by rw [ho]; decide) o
    have hbi : bg_L (T i) = q.1 :: L.map (·.1) := by unfold bg_L; rw [e1]; rfl
    rw [hbi] at j3
    obtain ⟨q', L', q1, q2, -⟩ := bg_cons j3
    have hmem : q' ∈ (T j).1 := by rw [q1]; exact List.mem_cons_self
    have hse : q'.2.1 = true := ((h2.2.2 j (by omega) (by omega)).2.2.1 q' hmem).2.2 i hi (by omega) ho q L e1 q2.symm
    have g1 := (h4 j (by omega) (by omega)).2.1 j11
    unfold lk_e2 at g1
    rw [q1] at g1
    obtain ⟨x, x1, x2, x3, x4, x5, x6⟩ := g1.2.2.2.2 hse
    have g2 := (h4 i hi (by omega)).2.2 ho
    unfold lk_else at g2
    rw [e1] at g2
    rw [q2, g2.1] at x5
    have := (nI_eq (by omega) (by omega)).mp x5
    subst this
    exact x6
  · unfold fx_Md_endOf
    have := j6
    rw [List.length_nil, nI_0] at this
    exact this
-- the beginning of the k-th label around a place
theorem cl_beg {c m : rs_T} {T : Nat → ts_T} {f s e ms N i k : Nat} (h : pb_W c m T f s e ms) (hm : in_F m f s) (he : e ≤ 512) (hN : 600 ≤ N) (hi : s ≤ i) (hi2 : i < e) (hk : k ≤ 2000) : fx_Md_beginOf N (nI i) (nI k) m = some ((match (bg_L (T i))[k]? with | none => -1 | some b => nI b), m) := by
  obtain ⟨h0, h1, h2, h3, h4, h5⟩ := h
  unfold fx_Md_beginOf
  rw [bd_s]
  have := bo_scan N hm h2.2.1 h2.1 (by omega) N i 0 k (by omega) hi (by omega) (by omega) hk
  rw [nI_0, List.drop_zero] at this
  exact this
-- and the class's link of a branch is that beginning
theorem cl_br {c m : rs_T} {T : Nat → ts_T} {f s e ms i k : Nat} (h : pb_W c m T f s e ms) (hi : s ≤ i) (hi2 : i < e) (ho : v_o (vm m) i = 12 ∨ v_o (vm m) i = 13 ∨ v_o (vm m) i = 6) (hk : t_n (v_a (vm m) i) (T i).1.length = some k) : rA c 10 i = (match (bg_L (T i))[k]? with | none => -1 | some b => nI b) := by
  have := (h.2.2.2.2.1 i hi hi2).1 ho k hk
  unfold lk_br at this
  rw [this]
  unfold bg_L
  rw [List.getElem?_map]
  cases (T i).1[k]? <;> rfl
