-- ===== class's links are the reference's places =====
theorem bg_cons {T : ts_T} {b : Nat} {R : List Nat} (h : bg_L T = b :: R) : ∃ (q : lb_T) (L : List lb_T), T.1 = q :: L ∧ q.1 = b ∧ L.map (·.1) = R := by
  unfold bg_L at h
  cases hL : T.1 with
  | nil => rw [hL] at h; cases h
  | cons q L =>
    rw [hL] at h
    have := List.cons.inj h
    exact ⟨q, L, rfl, this.1, this.2⟩
theorem cl_end {c m : rs_T} {T : Nat → ts_T} {f s e ms N b : Nat} (h : pb_W c m T f s e ms) (he : e ≤ 512) (hN : 600 ≤ N) (hb : s ≤ b) (hb2 : b + 1 < e) (ho : v_o (vm m) b ∈ ([2, 3, 4] : List Int32)) : ∃ j, b < j ∧ j < e ∧ v_o (vm m) j = 11 ∧ bg_L (T j) = b :: bg_L (T b) ∧ rA c 10 b = nI j ∧ fx_Md_endOf N (nI (b + 1)) 0 m = some (nI j, m) := by
  obtain ⟨h0, h1, h2, h3, h4, h5⟩ := h
  have hx := h2.2.1
  have hbg : bg_L (T (b + 1)) = b :: bg_L (T b) := by
    rcases nx_beg (hx b hb (by omega)) with ⟨-, e1⟩ | ⟨o, -⟩ | ⟨o, -⟩
    · exact e1
    · rw [o] at ho; exact absurd ho (by decide)
    · refine absurd ?_ o
      simp only [List.mem_cons, List.not_mem_nil, or_false] at ho ⊢
      rcases ho with z | z | z <;> simp [z]
  obtain ⟨j, j1, j2, j3, j4, -, j6⟩ := eo_scan N 0 hx h3 (by omega) N (b + 1) [] (b :: bg_L (T b)) (by omega) (by omega) (by omega) (by rw [hbg]; rfl) (by show 0 + _ ≤ 2000; omega)
  have j11 : v_o (vm m) j = 11 := by
    rcases j4 with z | z
    · exact z
    · exact absurd rfl z.1
  refine ⟨j, by omega, by omega, j11, j3, ?_, ?_⟩
  · obtain ⟨q, L, q1, q2, -⟩ := bg_cons j3
    have := (h4 j (by omega) (by omega)).2.1 j11
    unfold lk_e2 at this
    rw [q1] at this
    rw [← q2]
    exact this.2.1
  · unfold fx_Md_endOf
    have := j6
    rw [List.length_nil, nI_0] at this
    exact this
theorem cl_if {c m : rs_T} {T : Nat → ts_T} {f s e ms N b : Nat} (h : pb_W c m T f s e ms) (he : e ≤ 512) (hN : 600 ≤ N) (hb : s ≤ b) (hb2 : b + 1 < e) (ho : v_o (vm m) b = 4) : ∃ j, b < j ∧ j < e ∧ bg_L (T j) = b :: bg_L (T b) ∧ ((v_o (vm m) j = 5 ∧ rA c 11 b = nI j) ∨ (v_o (vm m) j = 11 ∧ rA c 11 b = -1 ∧ rA c 10 b = nI j)) ∧ fx_Md_endOf N (nI (b + 1)) 1 m = some (nI j, m) := by
  obtain ⟨h0, h1, h2, h3, h4, h5⟩ := h
  have hx := h2.2.1
  have hbg : bg_L (T (b + 1)) = b :: bg_L (T b) := by
    rcases nx_beg (hx b hb (by omega)) with ⟨-, e1⟩ | ⟨o, -⟩ | ⟨o, -⟩
    · exact e1
    · rw [ho] at o; exact absurd o (by decide)
    · exact absurd (by rw [ho]; decide) o
  obtain ⟨j, j1, j2, j3, j4, j5, j6⟩ := eo_scan N 1 hx h3 (by omega) N (b + 1) [] (b :: bg_L (T b)) (by omega) (by omega) (by omega) (by rw [hbg]; rfl) (by show 0 + _ ≤ 2000; omega)
  refine ⟨j, by omega, by omega, j3, ?_, ?_⟩
  · obtain ⟨q, L, q1, q2, -⟩ := bg_cons j3
    rcases j4 with z | z
    · refine Or.inr ⟨z, ?_⟩
      have := (h4 j (by omega) (by omega)).2.1 z
      unfold lk_e2 at this
      rw [q1] at this
      obtain ⟨b1, b2, b3, b4, b5⟩ := this
      rw [← q2]
      refine ⟨b4 ?_, b2⟩
      cases hq : q.2.1
      · rfl
      · obtain ⟨x, x1, x2, x3, ⟨r, M', x4, x5⟩, -, -⟩ := b5 hq
        exfalso
        have hlw := (h2.2.2 x x1 (by omega)).1
        have hls := (h2.2.2 x x1 (by omega)).2.1
        rw [x4] at hlw hls
        have hrx := hlw.1
        have hbx : bg_L (T x) = r.1 :: M'.map (·.1) := by unfold bg_L; rw [x4]; rfl
        rcases j5 x (by omega) x2 with ⟨b', Y, y1⟩ | ⟨-, -, y2⟩
        · rw [hbx] at y1
          have y3 := (List.cons.inj y1).2
          have : b ∈ M'.map (·.1) := by rw [y3]; exact List.mem_append_right _ List.mem_cons_self
          obtain ⟨r2, r3, r4⟩ := List.mem_map.mp this
          have := hls.1 r2 r3
          have : r2.1 = b := r4
          omega
        · exact y2 (by decide) x3
    · refine Or.inl ⟨z.2, ?_⟩
      have := (h4 j (by omega) (by omega)).2.2 z.2
      unfold lk_else at this
      rw [q1] at this
      rw [← q2]
      exact this.1
  · unfold fx_Md_endOf
    have := j6
    rw [List.length_nil, nI_0] at this
    exact this
