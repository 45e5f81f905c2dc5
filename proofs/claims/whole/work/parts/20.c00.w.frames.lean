theorem if_pn {α : Type} {q : Prop} {d : Decidable q} {a b r : α} (h : @ite α q d a b = r) : (q ∧ a = r) ∨ (¬ q ∧ b = r) := by
  by_cases hq : q
  · rw [if_pos hq] at h; exact Or.inl ⟨hq, h⟩
  · rw [if_neg hq] at h; exact Or.inr ⟨hq, h⟩
set_option maxRecDepth 100000 in
theorem nf_Ma_isWithin {p0 : Int32} {p1 : Int32} {st : rs_T} {r : Int32} {s' : rs_T} (hf : fx_Ma_isWithin p0 p1 st = some (r, s')) : s'.2.2.2 = st.2.2.2 := by
  unfold fx_Ma_isWithin at hf
  rcases if_pn hf with ⟨-, hf⟩ | ⟨-, hf⟩
  · cases hf
    exact rfl
  · rcases if_pn hf with ⟨-, hf⟩ | ⟨-, hf⟩
    · cases hf
      exact rfl
    · cases hf
      exact rfl
set_option maxRecDepth 100000 in
theorem nf_Wr_start {p1 : Int32} {p2 : Int32} {p3 : Int32} {st : rs_T} {r : Int32} {s' : rs_T} (hf : fx_Wr_start p1 p2 p3 st = some (r, s')) : s'.2.2.2 = st.2.2.2 := by
  unfold fx_Wr_start at hf
  replace hf := bd_some hf _ rfl
  rcases if_pn hf with ⟨-, hf⟩ | ⟨-, hf⟩
  · rcases if_pn hf with ⟨-, hf⟩ | ⟨-, hf⟩
    · cases hf
      exact rfl
    · obtain ⟨r5, st4, hst4, hf⟩ := bn_some hf
      rcases if_pn hf with ⟨-, hf⟩ | ⟨-, hf⟩
      · cases hf
        exact ((nf_Ma_isWithin hst4).trans rfl)
      · obtain ⟨r8, st7, hst7, hf⟩ := bn_some hf
        rcases if_pn hf with ⟨-, hf⟩ | ⟨-, hf⟩
        · cases hf
          exact ((nf_Ma_isWithin hst7).trans ((nf_Ma_isWithin hst4).trans rfl))
        · obtain ⟨r11, st10, hst10, hf⟩ := bn_some hf
          rcases if_pn hf with ⟨-, hf⟩ | ⟨-, hf⟩
          · cases hf
            exact ((nf_Ma_isWithin hst10).trans ((nf_Ma_isWithin hst7).trans ((nf_Ma_isWithin hst4).trans rfl)))
          · obtain ⟨-, hf⟩ := gd_some hf
            obtain ⟨-, hf⟩ := gd_some hf
            obtain ⟨-, hf⟩ := gd_some hf
            obtain ⟨-, hf⟩ := gd_some hf
            obtain ⟨-, hf⟩ := gd_some hf
            obtain ⟨-, hf⟩ := gd_some hf
            obtain ⟨-, hf⟩ := gd_some hf
            obtain ⟨-, hf⟩ := gd_some hf
            cases hf
            exact ((nf_Ma_isWithin hst10).trans ((nf_Ma_isWithin hst7).trans ((nf_Ma_isWithin hst4).trans rfl)))
  · cases hf
    exact rfl
set_option maxRecDepth 100000 in
theorem nf_Ma_function {p1 : Int32} {p2 : Int32} {p3 : Int32} {st : rs_T} {r : Int32} {s' : rs_T} (hf : fx_Ma_function p1 p2 p3 st = some (r, s')) : s'.2.2.2 = st.2.2.2 := by
  unfold fx_Ma_function at hf
  obtain ⟨r2, st1, hst1, hf⟩ := bn_some hf
  cases hf
  exact ((nf_Wr_start hst1).trans rfl)
set_option maxRecDepth 100000 in
theorem nf_Pr_wantedBy {p1 : Int32} {p2 : Int32} {st : rs_T} {r : Int32} {s' : rs_T} (hf : fx_Pr_wantedBy p1 p2 st = some (r, s')) : s'.2.2.2 = st.2.2.2 := by
  unfold fx_Pr_wantedBy at hf
  rcases if_pn hf with ⟨-, hf⟩ | ⟨-, hf⟩
  · obtain ⟨-, hf⟩ := gd_some hf
    cases hf
    exact rfl
  · obtain ⟨-, hf⟩ := gd_some hf
    rcases if_pn hf with ⟨-, hf⟩ | ⟨-, hf⟩
    · obtain ⟨-, hf⟩ := gd_some hf
      cases hf
      exact rfl
    · obtain ⟨-, hf⟩ := gd_some hf
      cases hf
      exact rfl
set_option maxRecDepth 100000 in
theorem nf_Wr_wantedBy {p1 : Int32} {st : rs_T} {r : Int32} {s' : rs_T} (hf : fx_Wr_wantedBy p1 st = some (r, s')) : s'.2.2.2 = st.2.2.2 := by
  unfold fx_Wr_wantedBy at hf
  obtain ⟨-, hf⟩ := gd_some hf
  obtain ⟨r3, st2, hst2, hf⟩ := bn_some hf
  cases hf
  exact ((nf_Pr_wantedBy hst2).trans rfl)
set_option maxRecDepth 100000 in
theorem nf_Wr_height {st : rs_T} {r : Int32} {s' : rs_T} (hf : fx_Wr_height st = some (r, s')) : s'.2.2.2 = st.2.2.2 := by
  unfold fx_Wr_height at hf
  obtain ⟨-, hf⟩ := gd_some hf
  replace hf := bd_some hf _ rfl
  rcases if_pn hf with ⟨-, hf⟩ | ⟨-, hf⟩
  · cases hf
    exact rfl
  · obtain ⟨-, hf⟩ := gd_some hf
    cases hf
    exact rfl
set_option maxRecDepth 100000 in
theorem nf_Wr_has_b27 (st : rs_T) (r : Int32) (s' : rs_T) (hf : fx_Wr_has_b27 st = some (r, s')) : s'.2.2.2 = st.2.2.2 := by
  unfold fx_Wr_has_b27 at hf
  cases hf
  exact rfl
set_option maxRecDepth 100000 in
theorem nf_Wr_has {p1 : Int32} {st : rs_T} {r : Int32} {s' : rs_T} (hf : fx_Wr_has p1 st = some (r, s')) : s'.2.2.2 = st.2.2.2 := by
  unfold fx_Wr_has at hf
  obtain ⟨-, hf⟩ := gd_some hf
  rcases if_pn hf with ⟨-, hf⟩ | ⟨-, hf⟩
  · obtain ⟨r4, st3, hst3, hf⟩ := bn_some hf
    rcases if_pn hf with ⟨-, hf⟩ | ⟨-, hf⟩
    · cases hf
      exact ((nf_Wr_height hst3).trans rfl)
    · exact (nf_Wr_has_b27 _ _ _ hf).trans ((nf_Wr_height hst3).trans rfl)
  · exact (nf_Wr_has_b27 _ _ _ hf).trans rfl
set_option maxRecDepth 100000 in
theorem nf_Wr_die {st : rs_T} {s' : rs_T} (hf : fx_Wr_die st = some s') : s'.2.2.2 = st.2.2.2 := by
  unfold fx_Wr_die at hf
  obtain ⟨r2, st1, hst1, hf⟩ := bn_some hf
  obtain ⟨-, hf⟩ := gd_some hf
  cases hf
  exact ((nf_Wr_height hst1).trans rfl)
set_option maxRecDepth 100000 in
theorem nf_Wr_admitsTableEntry_b47 (x1 : Int32) (x2 : Int32) (st : rs_T) (r : Int32) (s' : rs_T) (hf : fx_Wr_admitsTableEntry_b47 x1 x2 st = some (r, s')) : s'.2.2.2 = st.2.2.2 := by
  unfold fx_Wr_admitsTableEntry_b47 at hf
  obtain ⟨-, hf⟩ := gd_some hf
  obtain ⟨-, hf⟩ := gd_some hf
  rcases if_pn hf with ⟨-, hf⟩ | ⟨-, hf⟩
  · obtain ⟨st13, hst13, hf⟩ := bv_some hf
    cases hf
    exact ((nf_Wr_die hst13).trans rfl)
  · cases hf
    exact rfl
set_option maxRecDepth 100000 in
theorem nf_Wr_admitsTableEntry {p1 : Int32} {st : rs_T} {r : Int32} {s' : rs_T} (hf : fx_Wr_admitsTableEntry p1 st = some (r, s')) : s'.2.2.2 = st.2.2.2 := by
  unfold fx_Wr_admitsTableEntry at hf
  obtain ⟨r2, st1, hst1, hf⟩ := bn_some hf
  rcases if_pn hf with ⟨-, hf⟩ | ⟨-, hf⟩
  · cases hf
    exact ((nf_Ma_isWithin hst1).trans rfl)
  · obtain ⟨r5, st4, hst4, hf⟩ := bn_some hf
    obtain ⟨r7, st6, hst6, hf⟩ := bn_some hf
    rcases if_pn hf with ⟨-, hf⟩ | ⟨-, hf⟩
    · cases hf
      exact ((nf_Wr_has hst6).trans ((nf_Wr_wantedBy hst4).trans ((nf_Ma_isWithin hst1).trans rfl)))
    · rcases if_pn hf with ⟨-, hf⟩ | ⟨-, hf⟩
      · exact (nf_Wr_admitsTableEntry_b47 _ _ _ _ _ hf).trans ((nf_Wr_has hst6).trans ((nf_Wr_wantedBy hst4).trans ((nf_Ma_isWithin hst1).trans rfl)))
      · rcases if_pn hf with ⟨-, hf⟩ | ⟨-, hf⟩
        · exact (nf_Wr_admitsTableEntry_b47 _ _ _ _ _ hf).trans ((nf_Wr_has hst6).trans ((nf_Wr_wantedBy hst4).trans ((nf_Ma_isWithin hst1).trans rfl)))
        · cases hf
          exact ((nf_Wr_has hst6).trans ((nf_Wr_wantedBy hst4).trans ((nf_Ma_isWithin hst1).trans rfl)))
set_option maxRecDepth 100000 in
theorem nf_Wr_take {p1 : Int32} {st : rs_T} {s' : rs_T} (hf : fx_Wr_take p1 st = some s') : s'.2.2.2 = st.2.2.2 := by
  unfold fx_Wr_take at hf
  obtain ⟨r2, st1, hst1, hf⟩ := bn_some hf
  cases hf
  exact ((nf_Wr_height hst1).trans rfl)
set_option maxRecDepth 100000 in
theorem nf_Wr_put {p1 : Int32} {st : rs_T} {s' : rs_T} (hf : fx_Wr_put p1 st = some s') : s'.2.2.2 = st.2.2.2 := by
  unfold fx_Wr_put at hf
  obtain ⟨-, hf⟩ := gd_some hf
  obtain ⟨-, hf⟩ := gd_some hf
  cases hf
  exact rfl
set_option maxRecDepth 100000 in
theorem nf_Wr_isIfWithoutElse {p1 : Int32} {st : rs_T} {r : Int32} {s' : rs_T} (hf : fx_Wr_isIfWithoutElse p1 st = some (r, s')) : s'.2.2.2 = st.2.2.2 := by
  unfold fx_Wr_isIfWithoutElse at hf
  rcases if_pn hf with ⟨-, hf⟩ | ⟨-, hf⟩
  · cases hf
    exact rfl
  · obtain ⟨-, hf⟩ := gd_some hf
    rcases if_pn hf with ⟨-, hf⟩ | ⟨-, hf⟩
    · obtain ⟨-, hf⟩ := gd_some hf
      rcases if_pn hf with ⟨-, hf⟩ | ⟨-, hf⟩
      · cases hf
        exact rfl
      · cases hf
        exact rfl
    · cases hf
      exact rfl
set_option maxRecDepth 100000 in
theorem nf_Pr_resultsOf {p1 : Int32} {p2 : Int32} {st : rs_T} {r : Int32} {s' : rs_T} (hf : fx_Pr_resultsOf p1 p2 st = some (r, s')) : s'.2.2.2 = st.2.2.2 := by
  unfold fx_Pr_resultsOf at hf
  rcases if_pn hf with ⟨-, hf⟩ | ⟨-, hf⟩
  · obtain ⟨-, hf⟩ := gd_some hf
    cases hf
    exact rfl
  · obtain ⟨-, hf⟩ := gd_some hf
    cases hf
    exact rfl
set_option maxRecDepth 100000 in
theorem nf_Wr_isReadyToEnd {st : rs_T} {r : Int32} {s' : rs_T} (hf : fx_Wr_isReadyToEnd st = some (r, s')) : s'.2.2.2 = st.2.2.2 := by
  unfold fx_Wr_isReadyToEnd at hf
  obtain ⟨-, hf⟩ := gd_some hf
  obtain ⟨r3, st2, hst2, hf⟩ := bn_some hf
  obtain ⟨r5, st4, hst4, hf⟩ := bn_some hf
  replace hf := bd_some hf _ rfl
  obtain ⟨-, hf⟩ := gd_some hf
  rcases if_pn hf with ⟨-, hf⟩ | ⟨-, hf⟩
  · rcases if_pn hf with ⟨-, hf⟩ | ⟨-, hf⟩
    · cases hf
      exact ((nf_Wr_height hst4).trans ((nf_Pr_resultsOf hst2).trans rfl))
    · cases hf
      exact ((nf_Wr_height hst4).trans ((nf_Pr_resultsOf hst2).trans rfl))
  · rcases if_pn hf with ⟨-, hf⟩ | ⟨-, hf⟩
    · cases hf
      exact ((nf_Wr_height hst4).trans ((nf_Pr_resultsOf hst2).trans rfl))
    · cases hf
      exact ((nf_Wr_height hst4).trans ((nf_Pr_resultsOf hst2).trans rfl))
set_option maxRecDepth 100000 in
theorem nf_Wr_admitsElse {st : rs_T} {r : Int32} {s' : rs_T} (hf : fx_Wr_admitsElse st = some (r, s')) : s'.2.2.2 = st.2.2.2 := by
  unfold fx_Wr_admitsElse at hf
  obtain ⟨-, hf⟩ := gd_some hf
  replace hf := bd_some hf _ rfl
  obtain ⟨r4, st3, hst3, hf⟩ := bn_some hf
  rcases if_pn hf with ⟨-, hf⟩ | ⟨-, hf⟩
  · cases hf
    exact ((nf_Wr_isIfWithoutElse hst3).trans rfl)
  · obtain ⟨r7, st6, hst6, hf⟩ := bn_some hf
    rcases if_pn hf with ⟨-, hf⟩ | ⟨-, hf⟩
    · cases hf
      exact ((nf_Wr_isReadyToEnd hst6).trans ((nf_Wr_isIfWithoutElse hst3).trans rfl))
    · replace hf := bd_some hf _ rfl
      obtain ⟨-, hf⟩ := gd_some hf
      obtain ⟨-, hf⟩ := gd_some hf
      obtain ⟨-, hf⟩ := gd_some hf
      obtain ⟨-, hf⟩ := gd_some hf
      obtain ⟨-, hf⟩ := gd_some hf
      obtain ⟨-, hf⟩ := gd_some hf
      obtain ⟨st16, hst16, hf⟩ := bv_some hf
      cases hf
      exact ((nf_Wr_put hst16).trans ((nf_Wr_isReadyToEnd hst6).trans ((nf_Wr_isIfWithoutElse hst3).trans rfl)))
set_option maxRecDepth 100000 in
theorem nf_Wr_stop {st : rs_T} {s' : rs_T} (hf : fx_Wr_stop st = some s') : s'.2.2.2 = st.2.2.2 := by
  unfold fx_Wr_stop at hf
  cases hf
  exact rfl
set_option maxRecDepth 100000 in
theorem nf_Wr_admitsEnd_b146 (x1 : Int32) (st : rs_T) (r : Int32) (s' : rs_T) (hf : fx_Wr_admitsEnd_b146 x1 st = some (r, s')) : s'.2.2.2 = st.2.2.2 := by
  unfold fx_Wr_admitsEnd_b146 at hf
  obtain ⟨r17, st16, hst16, hf⟩ := bn_some hf
  obtain ⟨-, hf⟩ := gd_some hf
  obtain ⟨st19, hst19, hf⟩ := bv_some hf
  cases hf
  exact ((nf_Wr_put hst19).trans ((nf_Wr_height hst16).trans rfl))
set_option maxRecDepth 100000 in
theorem nf_Wr_admitsEnd_b46 (x1 : Int32) (y0 : Int32) (st : rs_T) (r : Int32) (s' : rs_T) (hf : fx_Wr_admitsEnd_b46 x1 y0 st = some (r, s')) : s'.2.2.2 = st.2.2.2 := by
  unfold fx_Wr_admitsEnd_b46 at hf
  rcases if_pn hf with ⟨-, hf⟩ | ⟨-, hf⟩
  · obtain ⟨r8, st7, hst7, hf⟩ := bn_some hf
    rcases if_pn hf with ⟨-, hf⟩ | ⟨-, hf⟩
    · cases hf
      exact ((nf_Wr_isReadyToEnd hst7).trans rfl)
    · replace hf := bd_some hf _ rfl
      obtain ⟨-, hf⟩ := gd_some hf
      rcases if_pn hf with ⟨-, hf⟩ | ⟨-, hf⟩
      · obtain ⟨-, hf⟩ := gd_some hf
        obtain ⟨st23, hst23, hf⟩ := bv_some hf
        cases hf
        exact ((nf_Wr_stop hst23).trans ((nf_Wr_isReadyToEnd hst7).trans rfl))
      · obtain ⟨-, hf⟩ := gd_some hf
        obtain ⟨-, hf⟩ := gd_some hf
        rcases if_pn hf with ⟨-, hf⟩ | ⟨-, hf⟩
        · exact (nf_Wr_admitsEnd_b146 _ _ _ _ hf).trans ((nf_Wr_isReadyToEnd hst7).trans rfl)
        · obtain ⟨-, hf⟩ := gd_some hf
          obtain ⟨-, hf⟩ := gd_some hf
          exact (nf_Wr_admitsEnd_b146 _ _ _ _ hf).trans ((nf_Wr_isReadyToEnd hst7).trans rfl)
  · cases hf
    exact rfl
set_option maxRecDepth 100000 in
theorem nf_Wr_admitsEnd_b45 (x1 : Int32) (st : rs_T) (r : Int32) (s' : rs_T) (hf : fx_Wr_admitsEnd_b45 x1 st = some (r, s')) : s'.2.2.2 = st.2.2.2 := by
  unfold fx_Wr_admitsEnd_b45 at hf
  exact (nf_Wr_admitsEnd_b46 _ _ _ _ _ hf).trans rfl
set_option maxRecDepth 100000 in
theorem nf_Wr_admitsEnd {st : rs_T} {r : Int32} {s' : rs_T} (hf : fx_Wr_admitsEnd st = some (r, s')) : s'.2.2.2 = st.2.2.2 := by
  unfold fx_Wr_admitsEnd at hf
  obtain ⟨-, hf⟩ := gd_some hf
  replace hf := bd_some hf _ rfl
  obtain ⟨r4, st3, hst3, hf⟩ := bn_some hf
  rcases if_pn hf with ⟨-, hf⟩ | ⟨-, hf⟩
  · exact (nf_Wr_admitsEnd_b45 _ _ _ _ hf).trans ((nf_Wr_isIfWithoutElse hst3).trans rfl)
  · obtain ⟨-, hf⟩ := gd_some hf
    obtain ⟨-, hf⟩ := gd_some hf
    rcases if_pn hf with ⟨-, hf⟩ | ⟨-, hf⟩
    · exact (nf_Wr_admitsEnd_b45 _ _ _ _ hf).trans ((nf_Wr_isIfWithoutElse hst3).trans rfl)
    · exact (nf_Wr_admitsEnd_b46 _ _ _ _ _ hf).trans ((nf_Wr_isIfWithoutElse hst3).trans rfl)
set_option maxRecDepth 100000 in
theorem nf_Wr_admitsBranch {p1 : Int32} {st : rs_T} {r : Int32} {s' : rs_T} (hf : fx_Wr_admitsBranch p1 st = some (r, s')) : s'.2.2.2 = st.2.2.2 := by
  unfold fx_Wr_admitsBranch at hf
  obtain ⟨r2, st1, hst1, hf⟩ := bn_some hf
  rcases if_pn hf with ⟨-, hf⟩ | ⟨-, hf⟩
  · cases hf
    exact ((nf_Ma_isWithin hst1).trans rfl)
  · obtain ⟨r5, st4, hst4, hf⟩ := bn_some hf
    obtain ⟨r7, st6, hst6, hf⟩ := bn_some hf
    rcases if_pn hf with ⟨-, hf⟩ | ⟨-, hf⟩
    · cases hf
      exact ((nf_Wr_has hst6).trans ((nf_Wr_wantedBy hst4).trans ((nf_Ma_isWithin hst1).trans rfl)))
    · obtain ⟨-, hf⟩ := gd_some hf
      obtain ⟨-, hf⟩ := gd_some hf
      obtain ⟨st11, hst11, hf⟩ := bv_some hf
      cases hf
      exact ((nf_Wr_die hst11).trans ((nf_Wr_has hst6).trans ((nf_Wr_wantedBy hst4).trans ((nf_Ma_isWithin hst1).trans rfl))))
set_option maxRecDepth 100000 in
theorem nf_Wr_exchanges {p1 : Int32} {p2 : Int32} {st : rs_T} {r : Int32} {s' : rs_T} (hf : fx_Wr_exchanges p1 p2 st = some (r, s')) : s'.2.2.2 = st.2.2.2 := by
  unfold fx_Wr_exchanges at hf
  obtain ⟨r2, st1, hst1, hf⟩ := bn_some hf
  rcases if_pn hf with ⟨-, hf⟩ | ⟨-, hf⟩
  · cases hf
    exact ((nf_Wr_has hst1).trans rfl)
  · obtain ⟨st4, hst4, hf⟩ := bv_some hf
    obtain ⟨st5, hst5, hf⟩ := bv_some hf
    cases hf
    exact ((nf_Wr_put hst5).trans ((nf_Wr_take hst4).trans ((nf_Wr_has hst1).trans rfl)))
set_option maxRecDepth 100000 in
theorem nf_Wr_admitsBranchIf {p1 : Int32} {st : rs_T} {r : Int32} {s' : rs_T} (hf : fx_Wr_admitsBranchIf p1 st = some (r, s')) : s'.2.2.2 = st.2.2.2 := by
  unfold fx_Wr_admitsBranchIf at hf
  obtain ⟨r2, st1, hst1, hf⟩ := bn_some hf
  rcases if_pn hf with ⟨-, hf⟩ | ⟨-, hf⟩
  · cases hf
    exact ((nf_Ma_isWithin hst1).trans rfl)
  · obtain ⟨r5, st4, hst4, hf⟩ := bn_some hf
    obtain ⟨r7, st6, hst6, hf⟩ := bn_some hf
    obtain ⟨r9, st8, hst8, hf⟩ := bn_some hf
    rcases if_pn hf with ⟨-, hf⟩ | ⟨-, hf⟩
    · cases hf
      exact ((nf_Wr_exchanges hst8).trans ((nf_Wr_wantedBy hst6).trans ((nf_Wr_wantedBy hst4).trans ((nf_Ma_isWithin hst1).trans rfl))))
    · obtain ⟨-, hf⟩ := gd_some hf
      obtain ⟨-, hf⟩ := gd_some hf
      cases hf
      exact ((nf_Wr_exchanges hst8).trans ((nf_Wr_wantedBy hst6).trans ((nf_Wr_wantedBy hst4).trans ((nf_Ma_isWithin hst1).trans rfl))))
set_option maxRecDepth 100000 in
theorem nf_Wr_admitsTable {p1 : Int32} {st : rs_T} {r : Int32} {s' : rs_T} (hf : fx_Wr_admitsTable p1 st = some (r, s')) : s'.2.2.2 = st.2.2.2 := by
  unfold fx_Wr_admitsTable at hf
  obtain ⟨r2, st1, hst1, hf⟩ := bn_some hf
  rcases if_pn hf with ⟨-, hf⟩ | ⟨-, hf⟩
  · cases hf
    exact ((nf_Ma_isWithin hst1).trans rfl)
  · obtain ⟨r5, st4, hst4, hf⟩ := bn_some hf
    rcases if_pn hf with ⟨-, hf⟩ | ⟨-, hf⟩
    · cases hf
      exact ((nf_Wr_exchanges hst4).trans ((nf_Ma_isWithin hst1).trans rfl))
    · cases hf
      exact ((nf_Wr_exchanges hst4).trans ((nf_Ma_isWithin hst1).trans rfl))
set_option maxRecDepth 100000 in
theorem nf_Wr_admitsReturn {st : rs_T} {r : Int32} {s' : rs_T} (hf : fx_Wr_admitsReturn st = some (r, s')) : s'.2.2.2 = st.2.2.2 := by
  unfold fx_Wr_admitsReturn at hf
  obtain ⟨-, hf⟩ := gd_some hf
  obtain ⟨r3, st2, hst2, hf⟩ := bn_some hf
  rcases if_pn hf with ⟨-, hf⟩ | ⟨-, hf⟩
  · cases hf
    exact ((nf_Wr_has hst2).trans rfl)
  · obtain ⟨st5, hst5, hf⟩ := bv_some hf
    cases hf
    exact ((nf_Wr_die hst5).trans ((nf_Wr_has hst2).trans rfl))
set_option maxRecDepth 100000 in
theorem nf_Op_operatorTakes {p0 : Int32} {st : rs_T} {r : Int32} {s' : rs_T} (hf : fx_Op_operatorTakes p0 st = some (r, s')) : s'.2.2.2 = st.2.2.2 := by
  unfold fx_Op_operatorTakes at hf
  rcases if_pn hf with ⟨-, hf⟩ | ⟨-, hf⟩
  · cases hf
    exact rfl
  rcases if_pn hf with ⟨-, hf⟩ | ⟨-, hf⟩
  · cases hf
    exact rfl
  cases hf
  exact rfl
set_option maxRecDepth 100000 in
theorem nf_Op_takes_b39 (x0 : Int32) (st : rs_T) (r : Int32) (s' : rs_T) (hf : fx_Op_takes_b39 x0 st = some (r, s')) : s'.2.2.2 = st.2.2.2 := by
  unfold fx_Op_takes_b39 at hf
  rcases if_pn hf with ⟨-, hf⟩ | ⟨-, hf⟩
  · cases hf
    exact rfl
  rcases if_pn hf with ⟨-, hf⟩ | ⟨-, hf⟩
  · cases hf
    exact rfl
  rcases if_pn hf with ⟨-, hf⟩ | ⟨-, hf⟩
  · cases hf
    exact rfl
  cases hf
  exact rfl
set_option maxRecDepth 100000 in
theorem nf_Op_takes_b25 (x0 : Int32) (st : rs_T) (r : Int32) (s' : rs_T) (hf : fx_Op_takes_b25 x0 st = some (r, s')) : s'.2.2.2 = st.2.2.2 := by
  unfold fx_Op_takes_b25 at hf
  rcases if_pn hf with ⟨-, hf⟩ | ⟨-, hf⟩
  · exact (nf_Op_takes_b39 _ _ _ _ hf).trans rfl
  · rcases if_pn hf with ⟨-, hf⟩ | ⟨-, hf⟩
    · exact (nf_Op_takes_b39 _ _ _ _ hf).trans rfl
    · cases hf
      exact rfl
set_option maxRecDepth 100000 in
theorem nf_Op_takes {p0 : Int32} {st : rs_T} {r : Int32} {s' : rs_T} (hf : fx_Op_takes p0 st = some (r, s')) : s'.2.2.2 = st.2.2.2 := by
  unfold fx_Op_takes at hf
  rcases if_pn hf with ⟨-, hf⟩ | ⟨-, hf⟩
  · rcases if_pn hf with ⟨-, hf⟩ | ⟨-, hf⟩
    · exact (nf_Op_takes_b25 _ _ _ _ hf).trans rfl
    · rcases if_pn hf with ⟨-, hf⟩ | ⟨-, hf⟩
      · exact (nf_Op_takes_b25 _ _ _ _ hf).trans rfl
      · cases hf
        exact rfl
  · obtain ⟨r8, st7, hst7, hf⟩ := bn_some hf
    cases hf
    exact ((nf_Op_operatorTakes hst7).trans rfl)
set_option maxRecDepth 100000 in
theorem nf_Op_puts_b55 (st : rs_T) (r : Int32) (s' : rs_T) (hf : fx_Op_puts_b55 st = some (r, s')) : s'.2.2.2 = st.2.2.2 := by
  unfold fx_Op_puts_b55 at hf
  cases hf
  exact rfl
set_option maxRecDepth 100000 in
theorem nf_Op_puts_b41 (x0 : Int32) (x1 : Int32) (y0 : Int32) (st : rs_T) (r : Int32) (s' : rs_T) (hf : fx_Op_puts_b41 x0 x1 y0 st = some (r, s')) : s'.2.2.2 = st.2.2.2 := by
  unfold fx_Op_puts_b41 at hf
  rcases if_pn hf with ⟨-, hf⟩ | ⟨-, hf⟩
  · rcases if_pn hf with ⟨-, hf⟩ | ⟨-, hf⟩
    · rcases if_pn hf with ⟨-, hf⟩ | ⟨-, hf⟩
      · exact (nf_Op_puts_b55 _ _ _ hf).trans rfl
      · cases hf
        exact rfl
    · exact (nf_Op_puts_b55 _ _ _ hf).trans rfl
  · exact (nf_Op_puts_b55 _ _ _ hf).trans rfl
set_option maxRecDepth 100000 in
theorem nf_Op_puts_b36 (x0 : Int32) (x1 : Int32) (st : rs_T) (r : Int32) (s' : rs_T) (hf : fx_Op_puts_b36 x0 x1 st = some (r, s')) : s'.2.2.2 = st.2.2.2 := by
  unfold fx_Op_puts_b36 at hf
  exact (nf_Op_puts_b41 _ _ _ _ _ _ hf).trans rfl
set_option maxRecDepth 100000 in
theorem nf_Op_puts_b17 (x0 : Int32) (y0 : Int32) (st : rs_T) (r : Int32) (s' : rs_T) (hf : fx_Op_puts_b17 x0 y0 st = some (r, s')) : s'.2.2.2 = st.2.2.2 := by
  unfold fx_Op_puts_b17 at hf
  rcases if_pn hf with ⟨-, hf⟩ | ⟨-, hf⟩
  · exact (nf_Op_puts_b36 _ _ _ _ _ hf).trans rfl
  · rcases if_pn hf with ⟨-, hf⟩ | ⟨-, hf⟩
    · exact (nf_Op_puts_b36 _ _ _ _ _ hf).trans rfl
    · rcases if_pn hf with ⟨-, hf⟩ | ⟨-, hf⟩
      · exact (nf_Op_puts_b36 _ _ _ _ _ hf).trans rfl
      · exact (nf_Op_puts_b41 _ _ _ _ _ _ hf).trans rfl
set_option maxRecDepth 100000 in
theorem nf_Op_puts_b16 (x0 : Int32) (st : rs_T) (r : Int32) (s' : rs_T) (hf : fx_Op_puts_b16 x0 st = some (r, s')) : s'.2.2.2 = st.2.2.2 := by
  unfold fx_Op_puts_b16 at hf
  exact (nf_Op_puts_b17 _ _ _ _ _ hf).trans rfl
set_option maxRecDepth 100000 in
theorem nf_Op_puts {p0 : Int32} {st : rs_T} {r : Int32} {s' : rs_T} (hf : fx_Op_puts p0 st = some (r, s')) : s'.2.2.2 = st.2.2.2 := by
  unfold fx_Op_puts at hf
  rcases if_pn hf with ⟨-, hf⟩ | ⟨-, hf⟩
  · exact (nf_Op_puts_b16 _ _ _ _ hf).trans rfl
  · rcases if_pn hf with ⟨-, hf⟩ | ⟨-, hf⟩
    · exact (nf_Op_puts_b16 _ _ _ _ hf).trans rfl
    · exact (nf_Op_puts_b17 _ _ _ _ _ hf).trans rfl
set_option maxRecDepth 100000 in
theorem nf_Pr_allLocals {p1 : Int32} {st : rs_T} {r : Int32} {s' : rs_T} (hf : fx_Pr_allLocals p1 st = some (r, s')) : s'.2.2.2 = st.2.2.2 := by
  unfold fx_Pr_allLocals at hf
  obtain ⟨-, hf⟩ := gd_some hf
  obtain ⟨-, hf⟩ := gd_some hf
  cases hf
  exact rfl
set_option maxRecDepth 100000 in
theorem nf_Wr_admitsPlain_b82 (x1 : Int32) (st : rs_T) (r : Int32) (s' : rs_T) (hf : fx_Wr_admitsPlain_b82 x1 st = some (r, s')) : s'.2.2.2 = st.2.2.2 := by
  unfold fx_Wr_admitsPlain_b82 at hf
  obtain ⟨r6, st5, hst5, hf⟩ := bn_some hf
  rcases if_pn hf with ⟨-, hf⟩ | ⟨-, hf⟩
  · cases hf
    exact ((nf_Op_takes hst5).trans rfl)
  · obtain ⟨r9, st8, hst8, hf⟩ := bn_some hf
    obtain ⟨r11, st10, hst10, hf⟩ := bn_some hf
    rcases if_pn hf with ⟨-, hf⟩ | ⟨-, hf⟩
    · cases hf
      exact ((nf_Wr_exchanges hst10).trans ((nf_Op_puts hst8).trans ((nf_Op_takes hst5).trans rfl)))
    · cases hf
      exact ((nf_Wr_exchanges hst10).trans ((nf_Op_puts hst8).trans ((nf_Op_takes hst5).trans rfl)))
set_option maxRecDepth 100000 in
theorem nf_Wr_admitsPlain_b66 (x1 : Int32) (x2 : Int32) (x4 : Int32) (st : rs_T) (r : Int32) (s' : rs_T) (hf : fx_Wr_admitsPlain_b66 x1 x2 x4 st = some (r, s')) : s'.2.2.2 = st.2.2.2 := by
  unfold fx_Wr_admitsPlain_b66 at hf
  rcases if_pn hf with ⟨-, hf⟩ | ⟨-, hf⟩
  · exact (nf_Wr_admitsPlain_b82 _ _ _ _ hf).trans rfl
  · obtain ⟨r14, st13, hst13, hf⟩ := bn_some hf
    rcases if_pn hf with ⟨-, hf⟩ | ⟨-, hf⟩
    · cases hf
      exact ((nf_Ma_isWithin hst13).trans rfl)
    · exact (nf_Wr_admitsPlain_b82 _ _ _ _ hf).trans ((nf_Ma_isWithin hst13).trans rfl)
set_option maxRecDepth 100000 in
theorem nf_Wr_admitsPlain_b35 (x1 : Int32) (x2 : Int32) (x3 : Int32) (y0 : Int32) (st : rs_T) (r : Int32) (s' : rs_T) (hf : fx_Wr_admitsPlain_b35 x1 x2 x3 y0 st = some (r, s')) : s'.2.2.2 = st.2.2.2 := by
  unfold fx_Wr_admitsPlain_b35 at hf
  rcases if_pn hf with ⟨-, hf⟩ | ⟨-, hf⟩
  · exact (nf_Wr_admitsPlain_b66 _ _ _ _ _ _ hf).trans rfl
  · obtain ⟨r17, st16, hst16, hf⟩ := bn_some hf
    obtain ⟨r19, st18, hst18, hf⟩ := bn_some hf
    rcases if_pn hf with ⟨-, hf⟩ | ⟨-, hf⟩
    · cases hf
      exact ((nf_Ma_isWithin hst18).trans ((nf_Pr_allLocals hst16).trans rfl))
    · exact (nf_Wr_admitsPlain_b66 _ _ _ _ _ _ hf).trans ((nf_Ma_isWithin hst18).trans ((nf_Pr_allLocals hst16).trans rfl))
set_option maxRecDepth 100000 in
theorem nf_Wr_admitsPlain_b30 (x1 : Int32) (x2 : Int32) (x3 : Int32) (st : rs_T) (r : Int32) (s' : rs_T) (hf : fx_Wr_admitsPlain_b30 x1 x2 x3 st = some (r, s')) : s'.2.2.2 = st.2.2.2 := by
  unfold fx_Wr_admitsPlain_b30 at hf
  exact (nf_Wr_admitsPlain_b35 _ _ _ _ _ _ _ hf).trans rfl
set_option maxRecDepth 100000 in
theorem nf_Wr_admitsPlain_b17 (x1 : Int32) (x2 : Int32) (y0 : Int32) (st : rs_T) (r : Int32) (s' : rs_T) (hf : fx_Wr_admitsPlain_b17 x1 x2 y0 st = some (r, s')) : s'.2.2.2 = st.2.2.2 := by
  unfold fx_Wr_admitsPlain_b17 at hf
  rcases if_pn hf with ⟨-, hf⟩ | ⟨-, hf⟩
  · exact (nf_Wr_admitsPlain_b30 _ _ _ _ _ _ hf).trans rfl
  · rcases if_pn hf with ⟨-, hf⟩ | ⟨-, hf⟩
    · exact (nf_Wr_admitsPlain_b30 _ _ _ _ _ _ hf).trans rfl
    · exact (nf_Wr_admitsPlain_b35 _ _ _ _ _ _ _ hf).trans rfl
set_option maxRecDepth 100000 in
theorem nf_Wr_admitsPlain_b16 (x1 : Int32) (x2 : Int32) (st : rs_T) (r : Int32) (s' : rs_T) (hf : fx_Wr_admitsPlain_b16 x1 x2 st = some (r, s')) : s'.2.2.2 = st.2.2.2 := by
  unfold fx_Wr_admitsPlain_b16 at hf
  exact (nf_Wr_admitsPlain_b17 _ _ _ _ _ _ hf).trans rfl
set_option maxRecDepth 100000 in
theorem nf_Wr_admitsPlain {p1 : Int32} {p2 : Int32} {st : rs_T} {r : Int32} {s' : rs_T} (hf : fx_Wr_admitsPlain p1 p2 st = some (r, s')) : s'.2.2.2 = st.2.2.2 := by
  unfold fx_Wr_admitsPlain at hf
  rcases if_pn hf with ⟨-, hf⟩ | ⟨-, hf⟩
  · exact (nf_Wr_admitsPlain_b16 _ _ _ _ _ hf).trans rfl
  · rcases if_pn hf with ⟨-, hf⟩ | ⟨-, hf⟩
    · exact (nf_Wr_admitsPlain_b16 _ _ _ _ _ hf).trans rfl
    · exact (nf_Wr_admitsPlain_b17 _ _ _ _ _ _ hf).trans rfl
set_option maxRecDepth 100000 in
theorem nf_Wr_abandon {st : rs_T} {r : Int32} {s' : rs_T} (hf : fx_Wr_abandon st = some (r, s')) : s'.2.2.2 = st.2.2.2 := by
  unfold fx_Wr_abandon at hf
  rcases if_pn hf with ⟨-, hf⟩ | ⟨-, hf⟩
  · cases hf
    exact rfl
  · obtain ⟨-, hf⟩ := gd_some hf
    obtain ⟨st3, hst3, hf⟩ := bv_some hf
    cases hf
    exact ((nf_Wr_stop hst3).trans rfl)
set_option maxRecDepth 100000 in
theorem nf_Ma_drop {st : rs_T} {r : Int32} {s' : rs_T} (hf : fx_Ma_drop st = some (r, s')) : s'.2.2.2 = st.2.2.2 := by
  unfold fx_Ma_drop at hf
  obtain ⟨r2, st1, hst1, hf⟩ := bn_some hf
  obtain ⟨-, hf⟩ := gb_some hf
  cases hf
  exact ((nf_Wr_abandon hst1).trans rfl)
set_option maxRecDepth 100000 in
theorem nf_Pr_isWhole {p1 : Int32} {st : rs_T} {r : Int32} {s' : rs_T} (hf : fx_Pr_isWhole p1 st = some (r, s')) : s'.2.2.2 = st.2.2.2 := by
  unfold fx_Pr_isWhole at hf
  rcases if_pn hf with ⟨-, hf⟩ | ⟨-, hf⟩
  · cases hf
    exact rfl
  · rcases if_pn hf with ⟨-, hf⟩ | ⟨-, hf⟩
    · cases hf
      exact rfl
    · rcases if_pn hf with ⟨-, hf⟩ | ⟨-, hf⟩
      · cases hf
        exact rfl
      · cases hf
        exact rfl
set_option maxRecDepth 100000 in
theorem nf_Ma_entry_b28 (x1 : Int32) (x2 : Int32) (st : rs_T) (r : Int32) (s' : rs_T) (hf : fx_Ma_entry_b28 x1 x2 st = some (r, s')) : s'.2.2.2 = st.2.2.2 := by
  unfold fx_Ma_entry_b28 at hf
  obtain ⟨-, hf⟩ := gd_some hf
  cases hf
  exact rfl
set_option maxRecDepth 100000 in
theorem nf_Ma_entry {p1 : Int32} {p2 : Int32} {st : rs_T} {r : Int32} {s' : rs_T} (hf : fx_Ma_entry p1 p2 st = some (r, s')) : s'.2.2.2 = st.2.2.2 := by
  unfold fx_Ma_entry at hf
  rcases if_pn hf with ⟨-, hf⟩ | ⟨-, hf⟩
  · cases hf
    exact rfl
  · rcases if_pn hf with ⟨-, hf⟩ | ⟨-, hf⟩
    · cases hf
      exact rfl
    · rcases if_pn hf with ⟨-, hf⟩ | ⟨-, hf⟩
      · exact (nf_Ma_entry_b28 _ _ _ _ _ hf).trans rfl
      · obtain ⟨r6, st5, hst5, hf⟩ := bn_some hf
        rcases if_pn hf with ⟨-, hf⟩ | ⟨-, hf⟩
        · cases hf
          exact ((nf_Pr_isWhole hst5).trans rfl)
        · exact (nf_Ma_entry_b28 _ _ _ _ _ hf).trans ((nf_Pr_isWhole hst5).trans rfl)
set_option maxRecDepth 100000 in
theorem nf_Ma_argument {p1 : Int64} {st : rs_T} {r : Int32} {s' : rs_T} (hf : fx_Ma_argument p1 st = some (r, s')) : s'.2.2.2 = st.2.2.2 := by
  unfold fx_Ma_argument at hf
  rcases if_pn hf with ⟨-, hf⟩ | ⟨-, hf⟩
  · obtain ⟨-, hf⟩ := gd_some hf
    cases hf
    exact rfl
  · cases hf
    exact rfl
set_option maxRecDepth 100000 in
theorem nf_Ac_enter_a_b57 (N : Nat) (st : rs_T) (s' : rs_T) (hf : fx_Ac_enter_a_b57 N st = some s') : s'.2.2.2 = st.2.2.2 := by
  unfold fx_Ac_enter_a_b57 at hf
  cases hf
  exact rfl
set_option maxRecDepth 100000 in
theorem nf_Ac_enter_a_b148 (N : Nat) (rec85 : Int32 → Int32 → Int32 → Int32 → Int32 → Int32 → rs_T → Option (rs_T)) (ih85 : ∀ (x1 : Int32) (x3 : Int32) (x4 : Int32) (x5 : Int32) (x6 : Int32) (x7 : Int32) (st : rs_T) (s' : rs_T), rec85 x1 x3 x4 x5 x6 x7 st = some s' → s'.2.2.2 = st.2.2.2) (x1 : Int32) (x3 : Int32) (x4 : Int32) (x5 : Int32) (x6 : Int32) (x7 : Int32) (y0 : Int64) (y1 : Int32) (st : rs_T) (s' : rs_T) (hf : fx_Ac_enter_a_b148 N rec85 x1 x3 x4 x5 x6 x7 y0 y1 st = some s') : s'.2.2.2 = st.2.2.2 := by
  unfold fx_Ac_enter_a_b148 at hf
  obtain ⟨-, hf⟩ := gd_some hf
  replace hf := bd_some hf _ rfl
  exact (ih85 _ _ _ _ _ _ _ _ hf).trans rfl
set_option maxRecDepth 100000 in
theorem nf_Ac_enter_a_b120 (N : Nat) (rec85 : Int32 → Int32 → Int32 → Int32 → Int32 → Int32 → rs_T → Option (rs_T)) (ih85 : ∀ (x1 : Int32) (x3 : Int32) (x4 : Int32) (x5 : Int32) (x6 : Int32) (x7 : Int32) (st : rs_T) (s' : rs_T), rec85 x1 x3 x4 x5 x6 x7 st = some s' → s'.2.2.2 = st.2.2.2) (x1 : Int32) (x3 : Int32) (x4 : Int32) (x5 : Int32) (x6 : Int32) (x7 : Int32) (y0 : Int32) (st : rs_T) (s' : rs_T) (hf : fx_Ac_enter_a_b120 N rec85 x1 x3 x4 x5 x6 x7 y0 st = some s') : s'.2.2.2 = st.2.2.2 := by
  unfold fx_Ac_enter_a_b120 at hf
  rcases if_pn hf with ⟨-, hf⟩ | ⟨-, hf⟩
  · exact (nf_Ac_enter_a_b148 N rec85 ih85 _ _ _ _ _ _ _ _ _ _ hf).trans rfl
  · obtain ⟨-, hf⟩ := gd_some hf
    exact (nf_Ac_enter_a_b148 N rec85 ih85 _ _ _ _ _ _ _ _ _ _ hf).trans rfl
set_option maxRecDepth 100000 in
theorem nf_Ac_enter_a_b119 (N : Nat) (rec85 : Int32 → Int32 → Int32 → Int32 → Int32 → Int32 → rs_T → Option (rs_T)) (ih85 : ∀ (x1 : Int32) (x3 : Int32) (x4 : Int32) (x5 : Int32) (x6 : Int32) (x7 : Int32) (st : rs_T) (s' : rs_T), rec85 x1 x3 x4 x5 x6 x7 st = some s' → s'.2.2.2 = st.2.2.2) (x1 : Int32) (x3 : Int32) (x4 : Int32) (x5 : Int32) (x6 : Int32) (x7 : Int32) (st : rs_T) (s' : rs_T) (hf : fx_Ac_enter_a_b119 N rec85 x1 x3 x4 x5 x6 x7 st = some s') : s'.2.2.2 = st.2.2.2 := by
  unfold fx_Ac_enter_a_b119 at hf
  exact (nf_Ac_enter_a_b120 N rec85 ih85 _ _ _ _ _ _ _ _ _ hf).trans rfl
set_option maxRecDepth 100000 in
theorem nf_Ac_enter_a_b85 (N : Nat) : ∀ (n : Nat) (x1 : Int32) (x3 : Int32) (x4 : Int32) (x5 : Int32) (x6 : Int32) (x7 : Int32) (st : rs_T) (s' : rs_T), fx_Ac_enter_a_b85 N n x1 x3 x4 x5 x6 x7 st = some s' → s'.2.2.2 = st.2.2.2 := by
  intro n
  induction n with
  | zero => intro x1 x3 x4 x5 x6 x7 st s' hf; cases hf
  | succ n ih =>
    intro x1 x3 x4 x5 x6 x7 st s' hf
    rw [fx_Ac_enter_a_b85] at hf
    rcases if_pn hf with ⟨-, hf⟩ | ⟨-, hf⟩
    · obtain ⟨-, hf⟩ := gd_some hf
      obtain ⟨-, hf⟩ := gd_some hf
      obtain ⟨-, hf⟩ := gd_some hf
      obtain ⟨-, hf⟩ := gd_some hf
      obtain ⟨-, hf⟩ := gd_some hf
      obtain ⟨-, hf⟩ := gd_some hf
      cases hf
      exact rfl
    · rcases if_pn hf with ⟨-, hf⟩ | ⟨-, hf⟩
      · exact (nf_Ac_enter_a_b119 N (fx_Ac_enter_a_b85 N n) ih _ _ _ _ _ _ _ _ hf).trans rfl
      · rcases if_pn hf with ⟨-, hf⟩ | ⟨-, hf⟩
        · exact (nf_Ac_enter_a_b119 N (fx_Ac_enter_a_b85 N n) ih _ _ _ _ _ _ _ _ hf).trans rfl
        · rcases if_pn hf with ⟨-, hf⟩ | ⟨-, hf⟩
          · exact (nf_Ac_enter_a_b119 N (fx_Ac_enter_a_b85 N n) ih _ _ _ _ _ _ _ _ hf).trans rfl
          · exact (nf_Ac_enter_a_b120 N (fx_Ac_enter_a_b85 N n) ih _ _ _ _ _ _ _ _ _ hf).trans rfl
set_option maxRecDepth 100000 in
theorem nf_Ac_enter_a_b82 (N : Nat) (x1 : Int32) (x3 : Int32) (x4 : Int32) (x5 : Int32) (x6 : Int32) (st : rs_T) (s' : rs_T) (hf : fx_Ac_enter_a_b82 N x1 x3 x4 x5 x6 st = some s') : s'.2.2.2 = st.2.2.2 := by
  unfold fx_Ac_enter_a_b82 at hf
  exact (nf_Ac_enter_a_b85 N N _ _ _ _ _ _ _ _ hf).trans rfl
set_option maxRecDepth 100000 in
theorem nf_Ac_enter_a {N : Nat} {p1 : Int32} {p3 : Int32} {st : rs_T} {s' : rs_T} (hf : fx_Ac_enter_a N p1 p3 st = some s') : s'.2.2.2 = st.2.2.2 := by
  unfold fx_Ac_enter_a at hf
  obtain ⟨r2, st1, hst1, hf⟩ := bn_some hf
  obtain ⟨-, hf⟩ := gd_some hf
  replace hf := bd_some hf _ rfl
  obtain ⟨-, hf⟩ := gd_some hf
  replace hf := bd_some hf _ rfl
  rcases if_pn hf with ⟨-, hf⟩ | ⟨-, hf⟩
  · exact (nf_Ac_enter_a_b57 N _ _ hf).trans ((nf_Pr_allLocals hst1).trans rfl)
  · rcases if_pn hf with ⟨-, hf⟩ | ⟨-, hf⟩
    · rcases if_pn hf with ⟨-, hf⟩ | ⟨-, hf⟩
      · exact (nf_Ac_enter_a_b82 N _ _ _ _ _ _ _ hf).trans ((nf_Pr_allLocals hst1).trans rfl)
      · obtain ⟨-, hf⟩ := gd_some hf
        exact (nf_Ac_enter_a_b82 N _ _ _ _ _ _ _ hf).trans ((nf_Pr_allLocals hst1).trans rfl)
    · exact (nf_Ac_enter_a_b57 N _ _ hf).trans ((nf_Pr_allLocals hst1).trans rfl)
set_option maxRecDepth 100000 in
theorem nf_Ac_restart {N : Nat} {p1 : Int32} {st : rs_T} {s' : rs_T} (hf : fx_Ac_restart N p1 st = some s') : s'.2.2.2 = st.2.2.2 := by
  unfold fx_Ac_restart at hf
  obtain ⟨st1, hst1, hf⟩ := bv_some hf
  cases hf
  exact ((nf_Ac_enter_a hst1).trans rfl)
set_option maxRecDepth 100000 in
theorem nf_Ac_isInRegisters {st : rs_T} {r : Int32} {s' : rs_T} (hf : fx_Ac_isInRegisters st = some (r, s')) : s'.2.2.2 = st.2.2.2 := by
  unfold fx_Ac_isInRegisters at hf
  rcases if_pn hf with ⟨-, hf⟩ | ⟨-, hf⟩
  · cases hf
    exact rfl
  · obtain ⟨-, hf⟩ := gd_some hf
    rcases if_pn hf with ⟨-, hf⟩ | ⟨-, hf⟩
    · cases hf
      exact rfl
    · cases hf
      exact rfl
set_option maxRecDepth 100000 in
theorem nf_Ac_nextWithin {p1 : Int32} {st : rs_T} {r : Int32} {s' : rs_T} (hf : fx_Ac_nextWithin p1 st = some (r, s')) : s'.2.2.2 = st.2.2.2 := by
  unfold fx_Ac_nextWithin at hf
  rcases if_pn hf with ⟨-, hf⟩ | ⟨-, hf⟩
  · cases hf
    exact rfl
  · obtain ⟨-, hf⟩ := gd_some hf
    rcases if_pn hf with ⟨-, hf⟩ | ⟨-, hf⟩
    · cases hf
      exact rfl
    · obtain ⟨-, hf⟩ := gd_some hf
      rcases if_pn hf with ⟨-, hf⟩ | ⟨-, hf⟩
      · cases hf
        exact rfl
      · obtain ⟨-, hf⟩ := gd_some hf
        cases hf
        exact rfl
set_option maxRecDepth 100000 in
theorem nf_Ac_move_b22 (N : Nat) : ∀ (n : Nat) (x1 : Int32) (x2 : Int32) (x3 : Int32) (x4 : Int32) (st : rs_T) (s' : rs_T), fx_Ac_move_b22 N n x1 x2 x3 x4 st = some s' → s'.2.2.2 = st.2.2.2 := by
  intro n
  induction n with
  | zero => intro x1 x2 x3 x4 st s' hf; cases hf
  | succ n ih =>
    intro x1 x2 x3 x4 st s' hf
    rw [fx_Ac_move_b22] at hf
    rcases if_pn hf with ⟨-, hf⟩ | ⟨-, hf⟩
    · cases hf
      exact rfl
    · obtain ⟨-, hf⟩ := gd_some hf
      obtain ⟨-, hf⟩ := gd_some hf
      replace hf := bd_some hf _ rfl
      exact (ih _ _ _ _ _ _ hf).trans rfl
set_option maxRecDepth 100000 in
theorem nf_Ac_move {N : Nat} {p1 : Int32} {p2 : Int32} {p3 : Int32} {st : rs_T} {s' : rs_T} (hf : fx_Ac_move N p1 p2 p3 st = some s') : s'.2.2.2 = st.2.2.2 := by
  unfold fx_Ac_move at hf
  rcases if_pn hf with ⟨-, hf⟩ | ⟨-, hf⟩
  · cases hf
    exact rfl
  · rcases if_pn hf with ⟨-, hf⟩ | ⟨-, hf⟩
    · cases hf
      exact rfl
    · rcases if_pn hf with ⟨-, hf⟩ | ⟨-, hf⟩
      · exact (nf_Ac_move_b22 N N _ _ _ _ _ _ hf).trans rfl
      · cases hf
        exact rfl
set_option maxRecDepth 100000 in
theorem nf_Ac_value {p1 : Int32} {st : rs_T} {r : Int64} {s' : rs_T} (hf : fx_Ac_value p1 st = some (r, s')) : s'.2.2.2 = st.2.2.2 := by
  unfold fx_Ac_value at hf
  rcases if_pn hf with ⟨-, hf⟩ | ⟨-, hf⟩
  · cases hf
    exact rfl
  · rcases if_pn hf with ⟨-, hf⟩ | ⟨-, hf⟩
    · cases hf
      exact rfl
    · obtain ⟨-, hf⟩ := gd_some hf
      cases hf
      exact rfl
set_option maxRecDepth 100000 in
theorem nf_Ac_leave_b58 (N : Nat) : ∀ (n : Nat) (x1 : Int32) (x2 : Int32) (x3 : Int32) (st : rs_T) (s' : rs_T), fx_Ac_leave_b58 N n x1 x2 x3 st = some s' → s'.2.2.2 = st.2.2.2 := by
  intro n
  induction n with
  | zero => intro x1 x2 x3 st s' hf; cases hf
  | succ n ih =>
    intro x1 x2 x3 st s' hf
    rw [fx_Ac_leave_b58] at hf
    rcases if_pn hf with ⟨-, hf⟩ | ⟨-, hf⟩
    · cases hf
      exact rfl
    · obtain ⟨r13, st12, hst12, hf⟩ := bn_some hf
      obtain ⟨-, hf⟩ := gd_some hf
      replace hf := bd_some hf _ rfl
      exact (ih _ _ _ _ _ hf).trans ((nf_Ac_value hst12).trans rfl)
set_option maxRecDepth 100000 in
theorem nf_Ac_leave {N : Nat} {p1 : Int32} {st : rs_T} {s' : rs_T} (hf : fx_Ac_leave N p1 st = some s') : s'.2.2.2 = st.2.2.2 := by
  unfold fx_Ac_leave at hf
  rcases if_pn hf with ⟨-, hf⟩ | ⟨-, hf⟩
  · obtain ⟨-, hf⟩ := gd_some hf
    obtain ⟨-, hf⟩ := gd_some hf
    obtain ⟨-, hf⟩ := gd_some hf
    replace hf := bd_some hf _ rfl
    rcases if_pn hf with ⟨-, hf⟩ | ⟨-, hf⟩
    · exact (nf_Ac_leave_b58 N N _ _ _ _ _ hf).trans rfl
    · obtain ⟨-, hf⟩ := gd_some hf
      obtain ⟨st8, hst8, hf⟩ := bv_some hf
      obtain ⟨-, hf⟩ := gd_some hf
      obtain ⟨-, hf⟩ := gd_some hf
      cases hf
      exact ((nf_Ac_move hst8).trans rfl)
  · cases hf
    exact rfl
set_option maxRecDepth 100000 in
theorem nf_Sr_giveBack {N : Nat} {p1 : Int32} {st : rs_T} {s' : rs_T} (hf : fx_Sr_giveBack N p1 st = some s') : s'.2.2.2 = st.2.2.2 := by
  unfold fx_Sr_giveBack at hf
  obtain ⟨-, hf⟩ := gd_some hf
  obtain ⟨-, hf⟩ := gd_some hf
  obtain ⟨-, hf⟩ := gd_some hf
  obtain ⟨st4, hst4, hf⟩ := bv_some hf
  cases hf
  exact ((nf_Ac_leave hst4).trans rfl)
set_option maxRecDepth 100000 in
theorem nf_Sr_performFree {N : Nat} {st : rs_T} {r : Int32} {s' : rs_T} (hf : fx_Sr_performFree N st = some (r, s')) : s'.2.2.2 = st.2.2.2 := by
  unfold fx_Sr_performFree at hf
  obtain ⟨r2, st1, hst1, hf⟩ := bn_some hf
  rcases if_pn hf with ⟨-, hf⟩ | ⟨-, hf⟩
  · cases hf
    exact ((nf_Ac_nextWithin hst1).trans rfl)
  · replace hf := bd_some hf _ rfl
    obtain ⟨-, hf⟩ := gd_some hf
    replace hf := bd_some hf _ rfl
    rcases if_pn hf with ⟨-, hf⟩ | ⟨-, hf⟩
    · obtain ⟨-, hf⟩ := gd_some hf
      cases hf
      exact ((nf_Ac_nextWithin hst1).trans rfl)
    rcases if_pn hf with ⟨-, hf⟩ | ⟨-, hf⟩
    · obtain ⟨-, hf⟩ := gd_some hf
      obtain ⟨-, hf⟩ := gd_some hf
      cases hf
      exact ((nf_Ac_nextWithin hst1).trans rfl)
    rcases if_pn hf with ⟨-, hf⟩ | ⟨-, hf⟩
    · obtain ⟨-, hf⟩ := gd_some hf
      obtain ⟨-, hf⟩ := gd_some hf
      rcases if_pn hf with ⟨-, hf⟩ | ⟨-, hf⟩
      · obtain ⟨st14, hst14, hf⟩ := bv_some hf
        cases hf
        exact ((nf_Sr_giveBack hst14).trans ((nf_Ac_nextWithin hst1).trans rfl))
      · cases hf
        exact ((nf_Ac_nextWithin hst1).trans rfl)
    cases hf
    exact ((nf_Ac_nextWithin hst1).trans rfl)
set_option maxRecDepth 100000 in
theorem nf_Ac_fail {p1 : Int32} {st : rs_T} {s' : rs_T} (hf : fx_Ac_fail p1 st = some s') : s'.2.2.2 = st.2.2.2 := by
  unfold fx_Ac_fail at hf
  cases hf
  exact rfl
set_option maxRecDepth 100000 in
theorem nf_Pr_constant {p1 : Int32} {st : rs_T} {r : Int64} {s' : rs_T} (hf : fx_Pr_constant p1 st = some (r, s')) : s'.2.2.2 = st.2.2.2 := by
  unfold fx_Pr_constant at hf
  obtain ⟨-, hf⟩ := gd_some hf
  replace hf := bd_some hf _ rfl
  obtain ⟨-, hf⟩ := gd_some hf
  rcases if_pn hf with ⟨-, hf⟩ | ⟨-, hf⟩
  · obtain ⟨-, hf⟩ := gd_some hf
    cases hf
    exact rfl
  · cases hf
    exact rfl
set_option maxRecDepth 100000 in
theorem nf_Rr_read {p1 : Int32} {p2 : Int32} {st : rs_T} {r : Int64} {s' : rs_T} (hf : fx_Rr_read p1 p2 st = some (r, s')) : s'.2.2.2 = st.2.2.2 := by
  unfold fx_Rr_read at hf
  rcases if_pn hf with ⟨-, hf⟩ | ⟨-, hf⟩
  · obtain ⟨-, hf⟩ := gd_some hf
    obtain ⟨r4, st3, hst3, hf⟩ := bn_some hf
    cases hf
    exact ((nf_Ac_value hst3).trans rfl)
  · obtain ⟨r6, st5, hst5, hf⟩ := bn_some hf
    cases hf
    exact ((nf_Pr_constant hst5).trans rfl)
set_option maxRecDepth 100000 in
theorem nf_Rr_isZero {p1 : Int32} {p2 : Int32} {st : rs_T} {r : Int32} {s' : rs_T} (hf : fx_Rr_isZero p1 p2 st = some (r, s')) : s'.2.2.2 = st.2.2.2 := by
  unfold fx_Rr_isZero at hf
  obtain ⟨-, hf⟩ := gd_some hf
  obtain ⟨r3, st2, hst2, hf⟩ := bn_some hf
  rcases if_pn hf with ⟨-, hf⟩ | ⟨-, hf⟩
  · cases hf
    exact ((nf_Rr_read hst2).trans rfl)
  · cases hf
    exact ((nf_Rr_read hst2).trans rfl)
set_option maxRecDepth 100000 in
theorem nf_Rr_branch {N : Nat} {p1 : Int32} {p2 : Int32} {st : rs_T} {s' : rs_T} (hf : fx_Rr_branch N p1 p2 st = some s') : s'.2.2.2 = st.2.2.2 := by
  unfold fx_Rr_branch at hf
  obtain ⟨-, hf⟩ := gd_some hf
  replace hf := bd_some hf _ rfl
  obtain ⟨-, hf⟩ := gd_some hf
  obtain ⟨-, hf⟩ := gd_some hf
  obtain ⟨-, hf⟩ := gd_some hf
  obtain ⟨st6, hst6, hf⟩ := bv_some hf
  obtain ⟨-, hf⟩ := gd_some hf
  obtain ⟨-, hf⟩ := gd_some hf
  cases hf
  exact ((nf_Ac_move hst6).trans rfl)
set_option maxRecDepth 100000 in
theorem nf_Rr_tableEntry {p1 : Int32} {p2 : Int32} {st : rs_T} {r : Int32} {s' : rs_T} (hf : fx_Rr_tableEntry p1 p2 st = some (r, s')) : s'.2.2.2 = st.2.2.2 := by
  unfold fx_Rr_tableEntry at hf
  obtain ⟨-, hf⟩ := gd_some hf
  obtain ⟨r3, st2, hst2, hf⟩ := bn_some hf
  obtain ⟨-, hf⟩ := gd_some hf
  cases hf
  exact ((nf_Rr_read hst2).trans rfl)
set_option maxRecDepth 100000 in
theorem nf_Ac_enter_v_b57 (N : Nat) (st : rs_T) (s' : rs_T) (hf : fx_Ac_enter_v_b57 N st = some s') : s'.2.2.2 = st.2.2.2 := by
  unfold fx_Ac_enter_v_b57 at hf
  cases hf
  exact rfl
set_option maxRecDepth 100000 in
theorem nf_Ac_enter_v_b148 (N : Nat) (rec85 : Int32 → Int32 → Int32 → Int32 → Int32 → Int32 → rs_T → Option (rs_T)) (ih85 : ∀ (x1 : Int32) (x3 : Int32) (x4 : Int32) (x5 : Int32) (x6 : Int32) (x7 : Int32) (st : rs_T) (s' : rs_T), rec85 x1 x3 x4 x5 x6 x7 st = some s' → s'.2.2.2 = st.2.2.2) (x1 : Int32) (x3 : Int32) (x4 : Int32) (x5 : Int32) (x6 : Int32) (x7 : Int32) (y0 : Int64) (y1 : Int32) (st : rs_T) (s' : rs_T) (hf : fx_Ac_enter_v_b148 N rec85 x1 x3 x4 x5 x6 x7 y0 y1 st = some s') : s'.2.2.2 = st.2.2.2 := by
  unfold fx_Ac_enter_v_b148 at hf
  obtain ⟨-, hf⟩ := gd_some hf
  replace hf := bd_some hf _ rfl
  exact (ih85 _ _ _ _ _ _ _ _ hf).trans rfl
set_option maxRecDepth 100000 in
theorem nf_Ac_enter_v_b120 (N : Nat) (rec85 : Int32 → Int32 → Int32 → Int32 → Int32 → Int32 → rs_T → Option (rs_T)) (ih85 : ∀ (x1 : Int32) (x3 : Int32) (x4 : Int32) (x5 : Int32) (x6 : Int32) (x7 : Int32) (st : rs_T) (s' : rs_T), rec85 x1 x3 x4 x5 x6 x7 st = some s' → s'.2.2.2 = st.2.2.2) (x1 : Int32) (x3 : Int32) (x4 : Int32) (x5 : Int32) (x6 : Int32) (x7 : Int32) (y0 : Int32) (st : rs_T) (s' : rs_T) (hf : fx_Ac_enter_v_b120 N rec85 x1 x3 x4 x5 x6 x7 y0 st = some s') : s'.2.2.2 = st.2.2.2 := by
  unfold fx_Ac_enter_v_b120 at hf
  rcases if_pn hf with ⟨-, hf⟩ | ⟨-, hf⟩
  · exact (nf_Ac_enter_v_b148 N rec85 ih85 _ _ _ _ _ _ _ _ _ _ hf).trans rfl
  · obtain ⟨-, hf⟩ := gd_some hf
    exact (nf_Ac_enter_v_b148 N rec85 ih85 _ _ _ _ _ _ _ _ _ _ hf).trans rfl
set_option maxRecDepth 100000 in
theorem nf_Ac_enter_v_b119 (N : Nat) (rec85 : Int32 → Int32 → Int32 → Int32 → Int32 → Int32 → rs_T → Option (rs_T)) (ih85 : ∀ (x1 : Int32) (x3 : Int32) (x4 : Int32) (x5 : Int32) (x6 : Int32) (x7 : Int32) (st : rs_T) (s' : rs_T), rec85 x1 x3 x4 x5 x6 x7 st = some s' → s'.2.2.2 = st.2.2.2) (x1 : Int32) (x3 : Int32) (x4 : Int32) (x5 : Int32) (x6 : Int32) (x7 : Int32) (st : rs_T) (s' : rs_T) (hf : fx_Ac_enter_v_b119 N rec85 x1 x3 x4 x5 x6 x7 st = some s') : s'.2.2.2 = st.2.2.2 := by
  unfold fx_Ac_enter_v_b119 at hf
  exact (nf_Ac_enter_v_b120 N rec85 ih85 _ _ _ _ _ _ _ _ _ hf).trans rfl
set_option maxRecDepth 100000 in
theorem nf_Ac_enter_v_b85 (N : Nat) : ∀ (n : Nat) (x1 : Int32) (x3 : Int32) (x4 : Int32) (x5 : Int32) (x6 : Int32) (x7 : Int32) (st : rs_T) (s' : rs_T), fx_Ac_enter_v_b85 N n x1 x3 x4 x5 x6 x7 st = some s' → s'.2.2.2 = st.2.2.2 := by
  intro n
  induction n with
  | zero => intro x1 x3 x4 x5 x6 x7 st s' hf; cases hf
  | succ n ih =>
    intro x1 x3 x4 x5 x6 x7 st s' hf
    rw [fx_Ac_enter_v_b85] at hf
    rcases if_pn hf with ⟨-, hf⟩ | ⟨-, hf⟩
    · obtain ⟨-, hf⟩ := gd_some hf
      obtain ⟨-, hf⟩ := gd_some hf
      obtain ⟨-, hf⟩ := gd_some hf
      obtain ⟨-, hf⟩ := gd_some hf
      obtain ⟨-, hf⟩ := gd_some hf
      obtain ⟨-, hf⟩ := gd_some hf
      cases hf
      exact rfl
    · rcases if_pn hf with ⟨-, hf⟩ | ⟨-, hf⟩
      · exact (nf_Ac_enter_v_b119 N (fx_Ac_enter_v_b85 N n) ih _ _ _ _ _ _ _ _ hf).trans rfl
      · rcases if_pn hf with ⟨-, hf⟩ | ⟨-, hf⟩
        · exact (nf_Ac_enter_v_b119 N (fx_Ac_enter_v_b85 N n) ih _ _ _ _ _ _ _ _ hf).trans rfl
        · rcases if_pn hf with ⟨-, hf⟩ | ⟨-, hf⟩
          · exact (nf_Ac_enter_v_b119 N (fx_Ac_enter_v_b85 N n) ih _ _ _ _ _ _ _ _ hf).trans rfl
          · exact (nf_Ac_enter_v_b120 N (fx_Ac_enter_v_b85 N n) ih _ _ _ _ _ _ _ _ _ hf).trans rfl
set_option maxRecDepth 100000 in
theorem nf_Ac_enter_v_b82 (N : Nat) (x1 : Int32) (x3 : Int32) (x4 : Int32) (x5 : Int32) (x6 : Int32) (st : rs_T) (s' : rs_T) (hf : fx_Ac_enter_v_b82 N x1 x3 x4 x5 x6 st = some s') : s'.2.2.2 = st.2.2.2 := by
  unfold fx_Ac_enter_v_b82 at hf
  exact (nf_Ac_enter_v_b85 N N _ _ _ _ _ _ _ _ hf).trans rfl
set_option maxRecDepth 100000 in
theorem nf_Ac_enter_v {N : Nat} {p1 : Int32} {p3 : Int32} {st : rs_T} {s' : rs_T} (hf : fx_Ac_enter_v N p1 p3 st = some s') : s'.2.2.2 = st.2.2.2 := by
  unfold fx_Ac_enter_v at hf
  obtain ⟨r2, st1, hst1, hf⟩ := bn_some hf
  obtain ⟨-, hf⟩ := gd_some hf
  replace hf := bd_some hf _ rfl
  obtain ⟨-, hf⟩ := gd_some hf
  replace hf := bd_some hf _ rfl
  rcases if_pn hf with ⟨-, hf⟩ | ⟨-, hf⟩
  · exact (nf_Ac_enter_v_b57 N _ _ hf).trans ((nf_Pr_allLocals hst1).trans rfl)
  · rcases if_pn hf with ⟨-, hf⟩ | ⟨-, hf⟩
    · rcases if_pn hf with ⟨-, hf⟩ | ⟨-, hf⟩
      · exact (nf_Ac_enter_v_b82 N _ _ _ _ _ _ _ hf).trans ((nf_Pr_allLocals hst1).trans rfl)
      · obtain ⟨-, hf⟩ := gd_some hf
        exact (nf_Ac_enter_v_b82 N _ _ _ _ _ _ _ hf).trans ((nf_Pr_allLocals hst1).trans rfl)
    · exact (nf_Ac_enter_v_b57 N _ _ hf).trans ((nf_Pr_allLocals hst1).trans rfl)
set_option maxRecDepth 100000 in
theorem nf_Wo_find_b72 (x8 : Int32) (y0 : Int32) (st : rs_T) (r : Int32) (s' : rs_T) (hf : fx_Wo_find_b72 x8 y0 st = some (r, s')) : s'.2.2.2 = st.2.2.2 := by
  unfold fx_Wo_find_b72 at hf
  rcases if_pn hf with ⟨-, hf⟩ | ⟨-, hf⟩
  · cases hf
    exact rfl
  · cases hf
    exact rfl
set_option maxRecDepth 100000 in
theorem nf_Wo_find_b71 (x8 : Int32) (st : rs_T) (r : Int32) (s' : rs_T) (hf : fx_Wo_find_b71 x8 st = some (r, s')) : s'.2.2.2 = st.2.2.2 := by
  unfold fx_Wo_find_b71 at hf
  exact (nf_Wo_find_b72 _ _ _ _ _ hf).trans rfl
set_option maxRecDepth 100000 in
theorem nf_Wo_find {p1 : Int64} {p3 : Int32} {p4 : Int32} {st : rs_T} {r : Int32} {s' : rs_T} (hf : fx_Wo_find p1 p3 p4 st = some (r, s')) : s'.2.2.2 = st.2.2.2 := by
  unfold fx_Wo_find at hf
  replace hf := bd_some hf _ rfl
  rcases if_pn hf with ⟨-, hf⟩ | ⟨-, hf⟩
  · obtain ⟨-, hf⟩ := gd_some hf
    replace hf := bd_some hf _ rfl
    obtain ⟨r6, st5, hst5, hf⟩ := bn_some hf
    rcases if_pn hf with ⟨-, hf⟩ | ⟨-, hf⟩
    · cases hf
      exact ((nf_Pr_isWhole hst5).trans rfl)
    · obtain ⟨-, hf⟩ := gd_some hf
      rcases if_pn hf with ⟨-, hf⟩ | ⟨-, hf⟩
      · obtain ⟨-, hf⟩ := gd_some hf
        rcases if_pn hf with ⟨-, hf⟩ | ⟨-, hf⟩
        · exact (nf_Wo_find_b72 _ _ _ _ _ hf).trans ((nf_Pr_isWhole hst5).trans rfl)
        · exact (nf_Wo_find_b71 _ _ _ _ hf).trans ((nf_Pr_isWhole hst5).trans rfl)
      · exact (nf_Wo_find_b71 _ _ _ _ hf).trans ((nf_Pr_isWhole hst5).trans rfl)
  · cases hf
    exact rfl
set_option maxRecDepth 100000 in
theorem nf_Rr_invokeEntry {N : Nat} {p1 : Int32} {p2 : Int32} {st : rs_T} {s' : rs_T} (hf : fx_Rr_invokeEntry N p1 p2 st = some s') : s'.2.2.2 = st.2.2.2 := by
  unfold fx_Rr_invokeEntry at hf
  obtain ⟨-, hf⟩ := gd_some hf
  obtain ⟨r3, st2, hst2, hf⟩ := bn_some hf
  obtain ⟨-, hf⟩ := gd_some hf
  obtain ⟨-, hf⟩ := gd_some hf
  obtain ⟨r7, st6, hst6, hf⟩ := bn_some hf
  rcases if_pn hf with ⟨-, hf⟩ | ⟨-, hf⟩
  · obtain ⟨-, hf⟩ := gd_some hf
    obtain ⟨-, hf⟩ := gd_some hf
    obtain ⟨st11, hst11, hf⟩ := bv_some hf
    cases hf
    exact ((nf_Ac_enter_v hst11).trans ((nf_Wo_find hst6).trans ((nf_Rr_read hst2).trans rfl)))
  · obtain ⟨st12, hst12, hf⟩ := bv_some hf
    cases hf
    exact ((nf_Ac_fail hst12).trans ((nf_Wo_find hst6).trans ((nf_Rr_read hst2).trans rfl)))
set_option maxRecDepth 100000 in
theorem nf_Rr_control {N : Nat} {p1 : Int32} {p2 : Int32} {p3 : Int32} {st : rs_T} {s' : rs_T} (hf : fx_Rr_control N p1 p2 p3 st = some s') : s'.2.2.2 = st.2.2.2 := by
  unfold fx_Rr_control at hf
  rcases if_pn hf with ⟨-, hf⟩ | ⟨-, hf⟩
  · obtain ⟨st2, hst2, hf⟩ := bv_some hf
    cases hf
    exact ((nf_Ac_fail hst2).trans rfl)
  rcases if_pn hf with ⟨-, hf⟩ | ⟨-, hf⟩
  · obtain ⟨r4, st3, hst3, hf⟩ := bn_some hf
    rcases if_pn hf with ⟨-, hf⟩ | ⟨-, hf⟩
    · cases hf
      exact ((nf_Rr_isZero hst3).trans rfl)
    · obtain ⟨-, hf⟩ := gd_some hf
      obtain ⟨-, hf⟩ := gd_some hf
      cases hf
      exact ((nf_Rr_isZero hst3).trans rfl)
  rcases if_pn hf with ⟨-, hf⟩ | ⟨-, hf⟩
  · obtain ⟨st8, hst8, hf⟩ := bv_some hf
    cases hf
    exact ((nf_Rr_branch hst8).trans rfl)
  rcases if_pn hf with ⟨-, hf⟩ | ⟨-, hf⟩
  · obtain ⟨r10, st9, hst9, hf⟩ := bn_some hf
    rcases if_pn hf with ⟨-, hf⟩ | ⟨-, hf⟩
    · cases hf
      exact ((nf_Rr_isZero hst9).trans rfl)
    · obtain ⟨-, hf⟩ := gd_some hf
      cases hf
      exact ((nf_Rr_isZero hst9).trans rfl)
  rcases if_pn hf with ⟨-, hf⟩ | ⟨-, hf⟩
  · obtain ⟨r14, st13, hst13, hf⟩ := bn_some hf
    obtain ⟨-, hf⟩ := gd_some hf
    cases hf
    exact ((nf_Rr_tableEntry hst13).trans rfl)
  rcases if_pn hf with ⟨-, hf⟩ | ⟨-, hf⟩
  · obtain ⟨-, hf⟩ := gd_some hf
    obtain ⟨-, hf⟩ := gd_some hf
    obtain ⟨st18, hst18, hf⟩ := bv_some hf
    cases hf
    exact ((nf_Ac_leave hst18).trans rfl)
  rcases if_pn hf with ⟨-, hf⟩ | ⟨-, hf⟩
  · obtain ⟨-, hf⟩ := gd_some hf
    obtain ⟨-, hf⟩ := gd_some hf
    obtain ⟨-, hf⟩ := gd_some hf
    obtain ⟨st22, hst22, hf⟩ := bv_some hf
    cases hf
    exact ((nf_Ac_enter_v hst22).trans rfl)
  rcases if_pn hf with ⟨-, hf⟩ | ⟨-, hf⟩
  · obtain ⟨st23, hst23, hf⟩ := bv_some hf
    cases hf
    exact ((nf_Rr_invokeEntry hst23).trans rfl)
  cases hf
  exact rfl
set_option maxRecDepth 100000 in
theorem nf_Ac_setValue {p1 : Int32} {p2 : Int64} {st : rs_T} {s' : rs_T} (hf : fx_Ac_setValue p1 p2 st = some s') : s'.2.2.2 = st.2.2.2 := by
  unfold fx_Ac_setValue at hf
  rcases if_pn hf with ⟨-, hf⟩ | ⟨-, hf⟩
  · cases hf
    exact rfl
  · rcases if_pn hf with ⟨-, hf⟩ | ⟨-, hf⟩
    · cases hf
      exact rfl
    · obtain ⟨-, hf⟩ := gd_some hf
      cases hf
      exact rfl
set_option maxRecDepth 100000 in
theorem nf_Rr_setRegister {p1 : Int32} {p2 : Int32} {p3 : Int64} {st : rs_T} {s' : rs_T} (hf : fx_Rr_setRegister p1 p2 p3 st = some s') : s'.2.2.2 = st.2.2.2 := by
  unfold fx_Rr_setRegister at hf
  obtain ⟨-, hf⟩ := gd_some hf
  obtain ⟨st2, hst2, hf⟩ := bv_some hf
  cases hf
  exact ((nf_Ac_setValue hst2).trans rfl)
set_option maxRecDepth 100000 in
theorem nf_Rr_useVariable_b75 (x1 : Int32) (x3 : Int32) (y0 : Int32) (st : rs_T) (s' : rs_T) (hf : fx_Rr_useVariable_b75 x1 x3 y0 st = some s') : s'.2.2.2 = st.2.2.2 := by
  unfold fx_Rr_useVariable_b75 at hf
  obtain ⟨-, hf⟩ := gd_some hf
  obtain ⟨r9, st8, hst8, hf⟩ := bn_some hf
  obtain ⟨st10, hst10, hf⟩ := bv_some hf
  cases hf
  exact ((nf_Rr_setRegister hst10).trans ((nf_Rr_read hst8).trans rfl))
set_option maxRecDepth 100000 in
theorem nf_Rr_useVariable {p1 : Int32} {p2 : Int32} {p3 : Int32} {st : rs_T} {s' : rs_T} (hf : fx_Rr_useVariable p1 p2 p3 st = some s') : s'.2.2.2 = st.2.2.2 := by
  unfold fx_Rr_useVariable at hf
  rcases if_pn hf with ⟨-, hf⟩ | ⟨-, hf⟩
  · obtain ⟨-, hf⟩ := gd_some hf
    obtain ⟨r4, st3, hst3, hf⟩ := bn_some hf
    rcases if_pn hf with ⟨-, hf⟩ | ⟨-, hf⟩
    · obtain ⟨-, hf⟩ := gd_some hf
      exact (nf_Rr_useVariable_b75 _ _ _ _ _ hf).trans ((nf_Rr_read hst3).trans rfl)
    · obtain ⟨-, hf⟩ := gd_some hf
      exact (nf_Rr_useVariable_b75 _ _ _ _ _ hf).trans ((nf_Rr_read hst3).trans rfl)
  rcases if_pn hf with ⟨-, hf⟩ | ⟨-, hf⟩
  · obtain ⟨-, hf⟩ := gd_some hf
    obtain ⟨-, hf⟩ := gd_some hf
    obtain ⟨-, hf⟩ := gd_some hf
    obtain ⟨st15, hst15, hf⟩ := bv_some hf
    cases hf
    exact ((nf_Rr_setRegister hst15).trans rfl)
  rcases if_pn hf with ⟨-, hf⟩ | ⟨-, hf⟩
  · obtain ⟨-, hf⟩ := gd_some hf
    obtain ⟨-, hf⟩ := gd_some hf
    obtain ⟨r19, st18, hst18, hf⟩ := bn_some hf
    obtain ⟨-, hf⟩ := gd_some hf
    cases hf
    exact ((nf_Rr_read hst18).trans rfl)
  cases hf
  exact rfl
set_option maxRecDepth 100000 in
theorem nf_Wo_place {p0 : Int64} {p2 : Int32} {st : rs_T} {r : Int64} {s' : rs_T} (hf : fx_Wo_place p0 p2 st = some (r, s')) : s'.2.2.2 = st.2.2.2 := by
  unfold fx_Wo_place at hf
  cases hf
  exact rfl
set_option maxRecDepth 100000 in
theorem nf_Wo_width {p0 : Int32} {st : rs_T} {r : Int32} {s' : rs_T} (hf : fx_Wo_width p0 st = some (r, s')) : s'.2.2.2 = st.2.2.2 := by
  unfold fx_Wo_width at hf
  rcases if_pn hf with ⟨-, hf⟩ | ⟨-, hf⟩
  · cases hf
    exact rfl
  rcases if_pn hf with ⟨-, hf⟩ | ⟨-, hf⟩
  · cases hf
    exact rfl
  rcases if_pn hf with ⟨-, hf⟩ | ⟨-, hf⟩
  · cases hf
    exact rfl
  cases hf
  exact rfl
set_option maxRecDepth 100000 in
theorem nf_Wo_holds {p1 : Int64} {p3 : Int32} {st : rs_T} {r : Int32} {s' : rs_T} (hf : fx_Wo_holds p1 p3 st = some (r, s')) : s'.2.2.2 = st.2.2.2 := by
  unfold fx_Wo_holds at hf
  rcases if_pn hf with ⟨-, hf⟩ | ⟨-, hf⟩
  · cases hf
    exact rfl
  · cases hf
    exact rfl
set_option maxRecDepth 100000 in
theorem nf_Wo_load_b10 (N : Nat) : ∀ (n : Nat) (x1 : Int32) (x2 : Int32) (x3 : Int64) (x5 : Int32) (st : rs_T) (r : Int64) (s' : rs_T), fx_Wo_load_b10 N n x1 x2 x3 x5 st = some (r, s') → s'.2.2.2 = st.2.2.2 := by
  intro n
  induction n with
  | zero => intro x1 x2 x3 x5 st r s' hf; cases hf
  | succ n ih =>
    intro x1 x2 x3 x5 st r s' hf
    rw [fx_Wo_load_b10] at hf
    rcases if_pn hf with ⟨-, hf⟩ | ⟨-, hf⟩
    · rcases if_pn hf with ⟨-, hf⟩ | ⟨-, hf⟩
      · cases hf
        exact rfl
      rcases if_pn hf with ⟨-, hf⟩ | ⟨-, hf⟩
      · cases hf
        exact rfl
      rcases if_pn hf with ⟨-, hf⟩ | ⟨-, hf⟩
      · cases hf
        exact rfl
      rcases if_pn hf with ⟨-, hf⟩ | ⟨-, hf⟩
      · cases hf
        exact rfl
      rcases if_pn hf with ⟨-, hf⟩ | ⟨-, hf⟩
      · cases hf
        exact rfl
      cases hf
      exact rfl
    · obtain ⟨-, hf⟩ := gd_some hf
      replace hf := bd_some hf _ rfl
      replace hf := bd_some hf _ rfl
      exact (ih _ _ _ _ _ _ _ hf).trans rfl
set_option maxRecDepth 100000 in
theorem nf_Wo_load {N : Nat} {p1 : Int32} {p2 : Int32} {st : rs_T} {r : Int64} {s' : rs_T} (hf : fx_Wo_load N p1 p2 st = some (r, s')) : s'.2.2.2 = st.2.2.2 := by
  unfold fx_Wo_load at hf
  obtain ⟨r2, st1, hst1, hf⟩ := bn_some hf
  replace hf := bd_some hf _ rfl
  exact (nf_Wo_load_b10 N N _ _ _ _ _ _ _ hf).trans ((nf_Wo_width hst1).trans rfl)
set_option maxRecDepth 100000 in
theorem nf_Wo_store_b3 (N : Nat) : ∀ (n : Nat) (x1 : Int32) (x2 : Int32) (x3 : Int64) (x5 : Int32) (st : rs_T) (s' : rs_T), fx_Wo_store_b3 N n x1 x2 x3 x5 st = some s' → s'.2.2.2 = st.2.2.2 := by
  intro n
  induction n with
  | zero => intro x1 x2 x3 x5 st s' hf; cases hf
  | succ n ih =>
    intro x1 x2 x3 x5 st s' hf
    rw [fx_Wo_store_b3] at hf
    obtain ⟨r2, st1, hst1, hf⟩ := bn_some hf
    rcases if_pn hf with ⟨-, hf⟩ | ⟨-, hf⟩
    · cases hf
      exact ((nf_Wo_width hst1).trans rfl)
    · obtain ⟨-, hf⟩ := gd_some hf
      replace hf := bd_some hf _ rfl
      exact (ih _ _ _ _ _ _ hf).trans ((nf_Wo_width hst1).trans rfl)
set_option maxRecDepth 100000 in
theorem nf_Wo_store {N : Nat} {p1 : Int32} {p2 : Int32} {p3 : Int64} {st : rs_T} {s' : rs_T} (hf : fx_Wo_store N p1 p2 p3 st = some s') : s'.2.2.2 = st.2.2.2 := by
  unfold fx_Wo_store at hf
  exact (nf_Wo_store_b3 N N _ _ _ _ _ _ hf).trans rfl
set_option maxRecDepth 100000 in
theorem nf_Wo_grow {p1 : Int64} {st : rs_T} {r : Int64} {s' : rs_T} (hf : fx_Wo_grow p1 st = some (r, s')) : s'.2.2.2 = st.2.2.2 := by
  unfold fx_Wo_grow at hf
  replace hf := bd_some hf _ rfl
  replace hf := bd_some hf _ rfl
  rcases if_pn hf with ⟨-, hf⟩ | ⟨-, hf⟩
  · cases hf
    exact rfl
  · cases hf
    exact rfl
set_option maxRecDepth 100000 in
theorem nf_Rr_useMemory {N : Nat} {p1 : Int32} {p2 : Int32} {p3 : Int32} {st : rs_T} {s' : rs_T} (hf : fx_Rr_useMemory N p1 p2 p3 st = some s') : s'.2.2.2 = st.2.2.2 := by
  unfold fx_Rr_useMemory at hf
  rcases if_pn hf with ⟨-, hf⟩ | ⟨-, hf⟩
  · obtain ⟨-, hf⟩ := gd_some hf
    obtain ⟨st29, hst29, hf⟩ := bv_some hf
    cases hf
    exact ((nf_Rr_setRegister hst29).trans rfl)
  · obtain ⟨-, hf⟩ := gd_some hf
    obtain ⟨r4, st3, hst3, hf⟩ := bn_some hf
    rcases if_pn hf with ⟨-, hf⟩ | ⟨-, hf⟩
    · obtain ⟨-, hf⟩ := gd_some hf
      obtain ⟨r26, st25, hst25, hf⟩ := bn_some hf
      obtain ⟨st27, hst27, hf⟩ := bv_some hf
      cases hf
      exact ((nf_Rr_setRegister hst27).trans ((nf_Wo_grow hst25).trans ((nf_Rr_read hst3).trans rfl)))
    · obtain ⟨-, hf⟩ := gd_some hf
      obtain ⟨r8, st7, hst7, hf⟩ := bn_some hf
      obtain ⟨r10, st9, hst9, hf⟩ := bn_some hf
      obtain ⟨r12, st11, hst11, hf⟩ := bn_some hf
      rcases if_pn hf with ⟨-, hf⟩ | ⟨-, hf⟩
      · obtain ⟨st23, hst23, hf⟩ := bv_some hf
        cases hf
        exact ((nf_Ac_fail hst23).trans ((nf_Wo_holds hst11).trans ((nf_Wo_width hst9).trans ((nf_Wo_place hst7).trans ((nf_Rr_read hst3).trans rfl)))))
      · rcases if_pn hf with ⟨-, hf⟩ | ⟨-, hf⟩
        · obtain ⟨-, hf⟩ := gd_some hf
          obtain ⟨r17, st16, hst16, hf⟩ := bn_some hf
          obtain ⟨st18, hst18, hf⟩ := bv_some hf
          cases hf
          exact ((nf_Rr_setRegister hst18).trans ((nf_Wo_load hst16).trans ((nf_Wo_holds hst11).trans ((nf_Wo_width hst9).trans ((nf_Wo_place hst7).trans ((nf_Rr_read hst3).trans rfl))))))
        · obtain ⟨-, hf⟩ := gd_some hf
          obtain ⟨r21, st20, hst20, hf⟩ := bn_some hf
          obtain ⟨st22, hst22, hf⟩ := bv_some hf
          cases hf
          exact ((nf_Wo_store hst22).trans ((nf_Rr_read hst20).trans ((nf_Wo_holds hst11).trans ((nf_Wo_width hst9).trans ((nf_Wo_place hst7).trans ((nf_Rr_read hst3).trans rfl))))))
set_option maxRecDepth 100000 in
theorem nf_Op_dividesByZero {p0 : Int32} {p1 : Int64} {st : rs_T} {r : Int32} {s' : rs_T} (hf : fx_Op_dividesByZero p0 p1 st = some (r, s')) : s'.2.2.2 = st.2.2.2 := by
  unfold fx_Op_dividesByZero at hf
  rcases if_pn hf with ⟨-, hf⟩ | ⟨-, hf⟩
  · rcases if_pn hf with ⟨-, hf⟩ | ⟨-, hf⟩
    · cases hf
      exact rfl
    · cases hf
      exact rfl
  · cases hf
    exact rfl
set_option maxRecDepth 100000 in
theorem nf_Op_bit {p0 : Int32} {st : rs_T} {r : Int64} {s' : rs_T} (hf : fx_Op_bit p0 st = some (r, s')) : s'.2.2.2 = st.2.2.2 := by
  unfold fx_Op_bit at hf
  rcases if_pn hf with ⟨-, hf⟩ | ⟨-, hf⟩
  · cases hf
    exact rfl
  · cases hf
    exact rfl
set_option maxRecDepth 100000 in
theorem nf_Op_compute_b174 (y0 : Int32) (st : rs_T) (r : Int64) (s' : rs_T) (hf : fx_Op_compute_b174 y0 st = some (r, s')) : s'.2.2.2 = st.2.2.2 := by
  unfold fx_Op_compute_b174 at hf
  obtain ⟨r4, st3, hst3, hf⟩ := bn_some hf
  cases hf
  exact ((nf_Op_bit hst3).trans rfl)
set_option maxRecDepth 100000 in
theorem nf_Op_compute_b190 (y0 : Int32) (st : rs_T) (r : Int64) (s' : rs_T) (hf : fx_Op_compute_b190 y0 st = some (r, s')) : s'.2.2.2 = st.2.2.2 := by
  unfold fx_Op_compute_b190 at hf
  obtain ⟨r7, st6, hst6, hf⟩ := bn_some hf
  cases hf
  exact ((nf_Op_bit hst6).trans rfl)
set_option maxRecDepth 100000 in
theorem nf_Op_compute_b206 (y0 : Int32) (st : rs_T) (r : Int64) (s' : rs_T) (hf : fx_Op_compute_b206 y0 st = some (r, s')) : s'.2.2.2 = st.2.2.2 := by
  unfold fx_Op_compute_b206 at hf
  obtain ⟨r10, st9, hst9, hf⟩ := bn_some hf
  cases hf
  exact ((nf_Op_bit hst9).trans rfl)
set_option maxRecDepth 100000 in
theorem nf_Op_compute_b222 (y0 : Int32) (st : rs_T) (r : Int64) (s' : rs_T) (hf : fx_Op_compute_b222 y0 st = some (r, s')) : s'.2.2.2 = st.2.2.2 := by
  unfold fx_Op_compute_b222 at hf
  obtain ⟨r13, st12, hst12, hf⟩ := bn_some hf
  cases hf
  exact ((nf_Op_bit hst12).trans rfl)
set_option maxRecDepth 100000 in
theorem nf_Op_compute_b245 (y0 : Int32) (st : rs_T) (r : Int64) (s' : rs_T) (hf : fx_Op_compute_b245 y0 st = some (r, s')) : s'.2.2.2 = st.2.2.2 := by
  unfold fx_Op_compute_b245 at hf
  obtain ⟨r16, st15, hst15, hf⟩ := bn_some hf
  cases hf
  exact ((nf_Op_bit hst15).trans rfl)
set_option maxRecDepth 100000 in
theorem nf_Op_compute_b260 (y0 : Int32) (st : rs_T) (r : Int64) (s' : rs_T) (hf : fx_Op_compute_b260 y0 st = some (r, s')) : s'.2.2.2 = st.2.2.2 := by
  unfold fx_Op_compute_b260 at hf
  obtain ⟨r19, st18, hst18, hf⟩ := bn_some hf
  cases hf
  exact ((nf_Op_bit hst18).trans rfl)
set_option maxRecDepth 100000 in
theorem nf_Op_compute_b275 (y0 : Int32) (st : rs_T) (r : Int64) (s' : rs_T) (hf : fx_Op_compute_b275 y0 st = some (r, s')) : s'.2.2.2 = st.2.2.2 := by
  unfold fx_Op_compute_b275 at hf
  obtain ⟨r22, st21, hst21, hf⟩ := bn_some hf
  cases hf
  exact ((nf_Op_bit hst21).trans rfl)
set_option maxRecDepth 100000 in
theorem nf_Op_compute_b290 (y0 : Int32) (st : rs_T) (r : Int64) (s' : rs_T) (hf : fx_Op_compute_b290 y0 st = some (r, s')) : s'.2.2.2 = st.2.2.2 := by
  unfold fx_Op_compute_b290 at hf
  obtain ⟨r25, st24, hst24, hf⟩ := bn_some hf
  cases hf
  exact ((nf_Op_bit hst24).trans rfl)
set_option maxRecDepth 100000 in
theorem nf_Op_compute {p0 : Int32} {p1 : Int64} {p3 : Int64} {st : rs_T} {r : Int64} {s' : rs_T} (hf : fx_Op_compute p0 p1 p3 st = some (r, s')) : s'.2.2.2 = st.2.2.2 := by
  unfold fx_Op_compute at hf
  rcases if_pn hf with ⟨-, hf⟩ | ⟨-, hf⟩
  · rcases if_pn hf with ⟨-, hf⟩ | ⟨-, hf⟩
    · exact (nf_Op_compute_b174 _ _ _ _ hf).trans rfl
    · exact (nf_Op_compute_b174 _ _ _ _ hf).trans rfl
  rcases if_pn hf with ⟨-, hf⟩ | ⟨-, hf⟩
  · rcases if_pn hf with ⟨-, hf⟩ | ⟨-, hf⟩
    · exact (nf_Op_compute_b190 _ _ _ _ hf).trans rfl
    · exact (nf_Op_compute_b190 _ _ _ _ hf).trans rfl
  rcases if_pn hf with ⟨-, hf⟩ | ⟨-, hf⟩
  · rcases if_pn hf with ⟨-, hf⟩ | ⟨-, hf⟩
    · exact (nf_Op_compute_b206 _ _ _ _ hf).trans rfl
    · exact (nf_Op_compute_b206 _ _ _ _ hf).trans rfl
  rcases if_pn hf with ⟨-, hf⟩ | ⟨-, hf⟩
  · rcases if_pn hf with ⟨-, hf⟩ | ⟨-, hf⟩
    · exact (nf_Op_compute_b222 _ _ _ _ hf).trans rfl
    · exact (nf_Op_compute_b222 _ _ _ _ hf).trans rfl
  rcases if_pn hf with ⟨-, hf⟩ | ⟨-, hf⟩
  · rcases if_pn hf with ⟨-, hf⟩ | ⟨-, hf⟩
    · exact (nf_Op_compute_b245 _ _ _ _ hf).trans rfl
    · exact (nf_Op_compute_b245 _ _ _ _ hf).trans rfl
  rcases if_pn hf with ⟨-, hf⟩ | ⟨-, hf⟩
  · rcases if_pn hf with ⟨-, hf⟩ | ⟨-, hf⟩
    · exact (nf_Op_compute_b260 _ _ _ _ hf).trans rfl
    · exact (nf_Op_compute_b260 _ _ _ _ hf).trans rfl
  rcases if_pn hf with ⟨-, hf⟩ | ⟨-, hf⟩
  · rcases if_pn hf with ⟨-, hf⟩ | ⟨-, hf⟩
    · exact (nf_Op_compute_b275 _ _ _ _ hf).trans rfl
    · exact (nf_Op_compute_b275 _ _ _ _ hf).trans rfl
  rcases if_pn hf with ⟨-, hf⟩ | ⟨-, hf⟩
  · rcases if_pn hf with ⟨-, hf⟩ | ⟨-, hf⟩
    · exact (nf_Op_compute_b290 _ _ _ _ hf).trans rfl
    · exact (nf_Op_compute_b290 _ _ _ _ hf).trans rfl
  rcases if_pn hf with ⟨-, hf⟩ | ⟨-, hf⟩
  · cases hf
    exact rfl
  rcases if_pn hf with ⟨-, hf⟩ | ⟨-, hf⟩
  · cases hf
    exact rfl
  rcases if_pn hf with ⟨-, hf⟩ | ⟨-, hf⟩
  · cases hf
    exact rfl
  rcases if_pn hf with ⟨-, hf⟩ | ⟨-, hf⟩
  · rcases if_pn hf with ⟨-, hf⟩ | ⟨-, hf⟩
    · cases hf
      exact rfl
    · obtain ⟨-, hf⟩ := gzl_some hf
      cases hf
      exact rfl
  rcases if_pn hf with ⟨-, hf⟩ | ⟨-, hf⟩
  · cases hf
    exact rfl
  rcases if_pn hf with ⟨-, hf⟩ | ⟨-, hf⟩
  · cases hf
    exact rfl
  rcases if_pn hf with ⟨-, hf⟩ | ⟨-, hf⟩
  · cases hf
    exact rfl
  rcases if_pn hf with ⟨-, hf⟩ | ⟨-, hf⟩
  · cases hf
    exact rfl
  rcases if_pn hf with ⟨-, hf⟩ | ⟨-, hf⟩
  · cases hf
    exact rfl
  rcases if_pn hf with ⟨-, hf⟩ | ⟨-, hf⟩
  · cases hf
    exact rfl
  cases hf
  exact rfl
set_option maxRecDepth 100000 in
theorem nf_Rr_operate {p1 : Int32} {p2 : Int32} {p3 : Int32} {st : rs_T} {s' : rs_T} (hf : fx_Rr_operate p1 p2 p3 st = some s') : s'.2.2.2 = st.2.2.2 := by
  unfold fx_Rr_operate at hf
  obtain ⟨-, hf⟩ := gd_some hf
  obtain ⟨r3, st2, hst2, hf⟩ := bn_some hf
  obtain ⟨-, hf⟩ := gd_some hf
  obtain ⟨r6, st5, hst5, hf⟩ := bn_some hf
  obtain ⟨r8, st7, hst7, hf⟩ := bn_some hf
  rcases if_pn hf with ⟨-, hf⟩ | ⟨-, hf⟩
  · obtain ⟨-, hf⟩ := gd_some hf
    obtain ⟨r12, st11, hst11, hf⟩ := bn_some hf
    obtain ⟨st13, hst13, hf⟩ := bv_some hf
    cases hf
    exact ((nf_Rr_setRegister hst13).trans ((nf_Op_compute hst11).trans ((nf_Op_dividesByZero hst7).trans ((nf_Rr_read hst5).trans ((nf_Rr_read hst2).trans rfl)))))
  · obtain ⟨st14, hst14, hf⟩ := bv_some hf
    cases hf
    exact ((nf_Ac_fail hst14).trans ((nf_Op_dividesByZero hst7).trans ((nf_Rr_read hst5).trans ((nf_Rr_read hst2).trans rfl))))
set_option maxRecDepth 100000 in
theorem nf_Rr_perform {N : Nat} {p1 : Int32} {st : rs_T} {s' : rs_T} (hf : fx_Rr_perform N p1 st = some s') : s'.2.2.2 = st.2.2.2 := by
  unfold fx_Rr_perform at hf
  replace hf := bd_some hf _ rfl
  obtain ⟨-, hf⟩ := gd_some hf
  replace hf := bd_some hf _ rfl
  obtain ⟨-, hf⟩ := gd_some hf
  rcases if_pn hf with ⟨-, hf⟩ | ⟨-, hf⟩
  · obtain ⟨-, hf⟩ := gd_some hf
    obtain ⟨-, hf⟩ := gd_some hf
    obtain ⟨r16, st15, hst15, hf⟩ := bn_some hf
    obtain ⟨st17, hst17, hf⟩ := bv_some hf
    cases hf
    exact ((nf_Rr_setRegister hst17).trans ((nf_Rr_read hst15).trans rfl))
  · rcases if_pn hf with ⟨-, hf⟩ | ⟨-, hf⟩
    · rcases if_pn hf with ⟨-, hf⟩ | ⟨-, hf⟩
      · rcases if_pn hf with ⟨-, hf⟩ | ⟨-, hf⟩
        · obtain ⟨st9, hst9, hf⟩ := bv_some hf
          cases hf
          exact ((nf_Rr_control hst9).trans rfl)
        · obtain ⟨st10, hst10, hf⟩ := bv_some hf
          cases hf
          exact ((nf_Rr_useVariable hst10).trans rfl)
      · obtain ⟨st11, hst11, hf⟩ := bv_some hf
        cases hf
        exact ((nf_Rr_useMemory hst11).trans rfl)
    · obtain ⟨st12, hst12, hf⟩ := bv_some hf
      cases hf
      exact ((nf_Rr_operate hst12).trans rfl)
set_option maxRecDepth 100000 in
theorem nf_Rr_performFree_b37 (N : Nat) (x1 : Int32) (y0 : Int32) (st : rs_T) (r : Int32) (s' : rs_T) (hf : fx_Rr_performFree_b37 N x1 y0 st = some (r, s')) : s'.2.2.2 = st.2.2.2 := by
  unfold fx_Rr_performFree_b37 at hf
  rcases if_pn hf with ⟨-, hf⟩ | ⟨-, hf⟩
  · obtain ⟨-, hf⟩ := gb_some hf
    cases hf
    exact rfl
  · obtain ⟨st5, hst5, hf⟩ := bv_some hf
    obtain ⟨-, hf⟩ := gb_some hf
    cases hf
    exact ((nf_Rr_perform hst5).trans rfl)
set_option maxRecDepth 100000 in
theorem nf_Rr_performFree_b36 (N : Nat) (x1 : Int32) (st : rs_T) (r : Int32) (s' : rs_T) (hf : fx_Rr_performFree_b36 N x1 st = some (r, s')) : s'.2.2.2 = st.2.2.2 := by
  unfold fx_Rr_performFree_b36 at hf
  exact (nf_Rr_performFree_b37 N _ _ _ _ _ hf).trans rfl
set_option maxRecDepth 100000 in
theorem nf_Rr_performFree {N : Nat} {st : rs_T} {r : Int32} {s' : rs_T} (hf : fx_Rr_performFree N st = some (r, s')) : s'.2.2.2 = st.2.2.2 := by
  unfold fx_Rr_performFree at hf
  obtain ⟨r2, st1, hst1, hf⟩ := bn_some hf
  rcases if_pn hf with ⟨-, hf⟩ | ⟨-, hf⟩
  · exact (nf_Rr_performFree_b36 N _ _ _ _ hf).trans ((nf_Ac_nextWithin hst1).trans rfl)
  · obtain ⟨-, hf⟩ := gd_some hf
    rcases if_pn hf with ⟨-, hf⟩ | ⟨-, hf⟩
    · exact (nf_Rr_performFree_b37 N _ _ _ _ _ hf).trans ((nf_Ac_nextWithin hst1).trans rfl)
    · exact (nf_Rr_performFree_b36 N _ _ _ _ hf).trans ((nf_Ac_nextWithin hst1).trans rfl)
set_option maxRecDepth 100000 in
theorem nf_Ac_currentFunction {st : rs_T} {r : Int32} {s' : rs_T} (hf : fx_Ac_currentFunction st = some (r, s')) : s'.2.2.2 = st.2.2.2 := by
  unfold fx_Ac_currentFunction at hf
  rcases if_pn hf with ⟨-, hf⟩ | ⟨-, hf⟩
  · cases hf
    exact rfl
  · obtain ⟨-, hf⟩ := gd_some hf
    cases hf
    exact rfl
set_option maxRecDepth 100000 in
theorem nf_Ma_isDueWhenCounted {p1 : Int32} {st : rs_T} {r : Int32} {s' : rs_T} (hf : fx_Ma_isDueWhenCounted p1 st = some (r, s')) : s'.2.2.2 = st.2.2.2 := by
  unfold fx_Ma_isDueWhenCounted at hf
  obtain ⟨-, hf⟩ := gd_some hf
  obtain ⟨-, hf⟩ := gd_some hf
  rcases if_pn hf with ⟨-, hf⟩ | ⟨-, hf⟩
  · cases hf
    exact rfl
  · obtain ⟨-, hf⟩ := gd_some hf
    rcases if_pn hf with ⟨-, hf⟩ | ⟨-, hf⟩
    · cases hf
      exact rfl
    · obtain ⟨-, hf⟩ := gd_some hf
      rcases if_pn hf with ⟨-, hf⟩ | ⟨-, hf⟩
      · cases hf
        exact rfl
      · cases hf
        exact rfl
set_option maxRecDepth 100000 in
theorem nf_Ac_settleFrame {p1 : Int32} {st : rs_T} {s' : rs_T} (hf : fx_Ac_settleFrame p1 st = some s') : s'.2.2.2 = st.2.2.2 := by
  unfold fx_Ac_settleFrame at hf
  rcases if_pn hf with ⟨-, hf⟩ | ⟨-, hf⟩
  · cases hf
    exact rfl
  · rcases if_pn hf with ⟨-, hf⟩ | ⟨-, hf⟩
    · cases hf
      exact rfl
    · obtain ⟨-, hf⟩ := gd_some hf
      obtain ⟨-, hf⟩ := gd_some hf
      cases hf
      exact rfl
set_option maxRecDepth 100000 in
theorem nf_Co_emit {p1 : Int32} {p2 : Int32} {p3 : Int32} {p4 : Int32} {p5 : Int32} {st : rs_T} {s' : rs_T} (hf : fx_Co_emit p1 p2 p3 p4 p5 st = some s') : s'.2.2.2 = st.2.2.2 := by
  unfold fx_Co_emit at hf
  replace hf := bd_some hf _ rfl
  rcases if_pn hf with ⟨-, hf⟩ | ⟨-, hf⟩
  · obtain ⟨-, hf⟩ := gd_some hf
    obtain ⟨-, hf⟩ := gd_some hf
    obtain ⟨-, hf⟩ := gd_some hf
    obtain ⟨-, hf⟩ := gd_some hf
    obtain ⟨-, hf⟩ := gd_some hf
    obtain ⟨-, hf⟩ := gd_some hf
    cases hf
    exact rfl
  · cases hf
    exact rfl
set_option maxRecDepth 100000 in
theorem nf_Co_fillSlots_b62 (N : Nat) (rec6 : Int32 → rs_T → Option (rs_T)) (ih6 : ∀ (x2 : Int32) (st : rs_T) (s' : rs_T), rec6 x2 st = some s' → s'.2.2.2 = st.2.2.2) (x2 : Int32) (st : rs_T) (s' : rs_T) (hf : fx_Co_fillSlots_b62 N rec6 x2 st = some s') : s'.2.2.2 = st.2.2.2 := by
  unfold fx_Co_fillSlots_b62 at hf
  replace hf := bd_some hf _ rfl
  exact (ih6 _ _ _ hf).trans rfl
set_option maxRecDepth 100000 in
theorem nf_Co_fillSlots_b6 (N : Nat) : ∀ (n : Nat) (x2 : Int32) (st : rs_T) (s' : rs_T), fx_Co_fillSlots_b6 N n x2 st = some s' → s'.2.2.2 = st.2.2.2 := by
  intro n
  induction n with
  | zero => intro x2 st s' hf; cases hf
  | succ n ih =>
    intro x2 st s' hf
    rw [fx_Co_fillSlots_b6] at hf
    rcases if_pn hf with ⟨-, hf⟩ | ⟨-, hf⟩
    · cases hf
      exact rfl
    · obtain ⟨-, hf⟩ := gd_some hf
      rcases if_pn hf with ⟨-, hf⟩ | ⟨-, hf⟩
      · exact (nf_Co_fillSlots_b62 N (fx_Co_fillSlots_b6 N n) ih _ _ _ hf).trans rfl
      · obtain ⟨-, hf⟩ := gd_some hf
        obtain ⟨st7, hst7, hf⟩ := bv_some hf
        obtain ⟨-, hf⟩ := gd_some hf
        exact (nf_Co_fillSlots_b62 N (fx_Co_fillSlots_b6 N n) ih _ _ _ hf).trans ((nf_Co_emit hst7).trans rfl)
set_option maxRecDepth 100000 in
theorem nf_Co_fillSlots {N : Nat} {p1 : Int32} {st : rs_T} {s' : rs_T} (hf : fx_Co_fillSlots N p1 st = some s') : s'.2.2.2 = st.2.2.2 := by
  unfold fx_Co_fillSlots at hf
  replace hf := bd_some hf _ rfl
  exact (nf_Co_fillSlots_b6 N N _ _ _ hf).trans rfl
set_option maxRecDepth 100000 in
theorem nf_Pr_isLoop {p1 : Int32} {st : rs_T} {r : Int32} {s' : rs_T} (hf : fx_Pr_isLoop p1 st = some (r, s')) : s'.2.2.2 = st.2.2.2 := by
  unfold fx_Pr_isLoop at hf
  rcases if_pn hf with ⟨-, hf⟩ | ⟨-, hf⟩
  · cases hf
    exact rfl
  · obtain ⟨-, hf⟩ := gd_some hf
    rcases if_pn hf with ⟨-, hf⟩ | ⟨-, hf⟩
    · cases hf
      exact rfl
    · cases hf
      exact rfl
set_option maxRecDepth 100000 in
theorem nf_Co_emitBranch_b79 (x2 : Int32) (x3 : Int32) (x4 : Int32) (y0 : Int32) (st : rs_T) (s' : rs_T) (hf : fx_Co_emitBranch_b79 x2 x3 x4 y0 st = some s') : s'.2.2.2 = st.2.2.2 := by
  unfold fx_Co_emitBranch_b79 at hf
  obtain ⟨-, hf⟩ := gd_some hf
  obtain ⟨st12, hst12, hf⟩ := bv_some hf
  cases hf
  exact ((nf_Co_emit hst12).trans rfl)
set_option maxRecDepth 100000 in
theorem nf_Co_emitBranch {p1 : Int32} {st : rs_T} {s' : rs_T} (hf : fx_Co_emitBranch p1 st = some s') : s'.2.2.2 = st.2.2.2 := by
  unfold fx_Co_emitBranch at hf
  obtain ⟨-, hf⟩ := gd_some hf
  replace hf := bd_some hf _ rfl
  obtain ⟨r4, st3, hst3, hf⟩ := bn_some hf
  replace hf := bd_some hf _ rfl
  rcases if_pn hf with ⟨-, hf⟩ | ⟨-, hf⟩
  · obtain ⟨st13, hst13, hf⟩ := bv_some hf
    cases hf
    exact ((nf_Co_emit hst13).trans ((nf_Pr_wantedBy hst3).trans rfl))
  · obtain ⟨r8, st7, hst7, hf⟩ := bn_some hf
    rcases if_pn hf with ⟨-, hf⟩ | ⟨-, hf⟩
    · obtain ⟨-, hf⟩ := gd_some hf
      exact (nf_Co_emitBranch_b79 _ _ _ _ _ _ hf).trans ((nf_Pr_isLoop hst7).trans ((nf_Pr_wantedBy hst3).trans rfl))
    · exact (nf_Co_emitBranch_b79 _ _ _ _ _ _ hf).trans ((nf_Pr_isLoop hst7).trans ((nf_Pr_wantedBy hst3).trans rfl))
set_option maxRecDepth 100000 in
theorem nf_Co_pop {st : rs_T} {r : Int32} {s' : rs_T} (hf : fx_Co_pop st = some (r, s')) : s'.2.2.2 = st.2.2.2 := by
  unfold fx_Co_pop at hf
  rcases if_pn hf with ⟨-, hf⟩ | ⟨-, hf⟩
  · obtain ⟨-, hf⟩ := gd_some hf
    cases hf
    exact rfl
  · cases hf
    exact rfl
set_option maxRecDepth 100000 in
theorem nf_Co_branchIf {N : Nat} {p1 : Int32} {st : rs_T} {s' : rs_T} (hf : fx_Co_branchIf N p1 st = some s') : s'.2.2.2 = st.2.2.2 := by
  unfold fx_Co_branchIf at hf
  obtain ⟨r2, st1, hst1, hf⟩ := bn_some hf
  obtain ⟨-, hf⟩ := gd_some hf
  obtain ⟨r5, st4, hst4, hf⟩ := bn_some hf
  obtain ⟨st6, hst6, hf⟩ := bv_some hf
  obtain ⟨st7, hst7, hf⟩ := bv_some hf
  obtain ⟨st8, hst8, hf⟩ := bv_some hf
  cases hf
  exact ((nf_Co_emitBranch hst8).trans ((nf_Co_emit hst7).trans ((nf_Co_fillSlots hst6).trans ((nf_Pr_wantedBy hst4).trans ((nf_Co_pop hst1).trans rfl)))))
set_option maxRecDepth 100000 in
theorem nf_Co_table_b56 (N : Nat) : ∀ (n : Nat) (x1 : Int32) (x3 : Int32) (st : rs_T) (s' : rs_T), fx_Co_table_b56 N n x1 x3 st = some s' → s'.2.2.2 = st.2.2.2 := by
  intro n
  induction n with
  | zero => intro x1 x3 st s' hf; cases hf
  | succ n ih =>
    intro x1 x3 st s' hf
    rw [fx_Co_table_b56] at hf
    obtain ⟨-, hf⟩ := gd_some hf
    rcases if_pn hf with ⟨-, hf⟩ | ⟨-, hf⟩
    · cases hf
      exact rfl
    · obtain ⟨st11, hst11, hf⟩ := bv_some hf
      replace hf := bd_some hf _ rfl
      exact (ih _ _ _ _ hf).trans ((nf_Co_emitBranch hst11).trans rfl)
set_option maxRecDepth 100000 in
theorem nf_Co_table {N : Nat} {p1 : Int32} {st : rs_T} {s' : rs_T} (hf : fx_Co_table N p1 st = some s') : s'.2.2.2 = st.2.2.2 := by
  unfold fx_Co_table at hf
  obtain ⟨r2, st1, hst1, hf⟩ := bn_some hf
  obtain ⟨-, hf⟩ := gd_some hf
  obtain ⟨r5, st4, hst4, hf⟩ := bn_some hf
  obtain ⟨st6, hst6, hf⟩ := bv_some hf
  obtain ⟨-, hf⟩ := gd_some hf
  obtain ⟨st8, hst8, hf⟩ := bv_some hf
  exact (nf_Co_table_b56 N N _ _ _ _ hf).trans ((nf_Co_emit hst8).trans ((nf_Co_fillSlots hst6).trans ((nf_Pr_wantedBy hst4).trans ((nf_Co_pop hst1).trans rfl))))
set_option maxRecDepth 100000 in
theorem nf_Co_putSlots_b2 (N : Nat) : ∀ (n : Nat) (x1 : Int32) (x2 : Int32) (st : rs_T) (s' : rs_T), fx_Co_putSlots_b2 N n x1 x2 st = some s' → s'.2.2.2 = st.2.2.2 := by
  intro n
  induction n with
  | zero => intro x1 x2 st s' hf; cases hf
  | succ n ih =>
    intro x1 x2 st s' hf
    rw [fx_Co_putSlots_b2] at hf
    rcases if_pn hf with ⟨-, hf⟩ | ⟨-, hf⟩
    · cases hf
      exact rfl
    · rcases if_pn hf with ⟨-, hf⟩ | ⟨-, hf⟩
      · cases hf
        exact rfl
      · obtain ⟨-, hf⟩ := gd_some hf
        replace hf := bd_some hf _ rfl
        exact (ih _ _ _ _ hf).trans rfl
set_option maxRecDepth 100000 in
theorem nf_Co_putSlots {N : Nat} {p1 : Int32} {st : rs_T} {s' : rs_T} (hf : fx_Co_putSlots N p1 st = some s') : s'.2.2.2 = st.2.2.2 := by
  unfold fx_Co_putSlots at hf
  exact (nf_Co_putSlots_b2 N N _ _ _ _ hf).trans rfl
set_option maxRecDepth 100000 in
theorem nf_Co_callEntry {N : Nat} {p1 : Int32} {p2 : Int32} {st : rs_T} {s' : rs_T} (hf : fx_Co_callEntry N p1 p2 st = some s') : s'.2.2.2 = st.2.2.2 := by
  unfold fx_Co_callEntry at hf
  obtain ⟨r2, st1, hst1, hf⟩ := bn_some hf
  obtain ⟨st3, hst3, hf⟩ := bv_some hf
  obtain ⟨st4, hst4, hf⟩ := bv_some hf
  obtain ⟨st5, hst5, hf⟩ := bv_some hf
  cases hf
  exact ((nf_Co_putSlots hst5).trans ((nf_Co_emit hst4).trans ((nf_Co_fillSlots hst3).trans ((nf_Co_pop hst1).trans rfl))))
set_option maxRecDepth 100000 in
theorem nf_Co_control {N : Nat} {p1 : Int32} {p2 : Int32} {st : rs_T} {s' : rs_T} (hf : fx_Co_control N p1 p2 st = some s') : s'.2.2.2 = st.2.2.2 := by
  unfold fx_Co_control at hf
  rcases if_pn hf with ⟨-, hf⟩ | ⟨-, hf⟩
  · obtain ⟨st2, hst2, hf⟩ := bv_some hf
    cases hf
    exact ((nf_Co_emit hst2).trans rfl)
  rcases if_pn hf with ⟨-, hf⟩ | ⟨-, hf⟩
  · obtain ⟨-, hf⟩ := gd_some hf
    obtain ⟨r5, st4, hst4, hf⟩ := bn_some hf
    obtain ⟨st6, hst6, hf⟩ := bv_some hf
    obtain ⟨st7, hst7, hf⟩ := bv_some hf
    cases hf
    exact ((nf_Co_emitBranch hst7).trans ((nf_Co_fillSlots hst6).trans ((nf_Pr_wantedBy hst4).trans rfl)))
  rcases if_pn hf with ⟨-, hf⟩ | ⟨-, hf⟩
  · obtain ⟨st8, hst8, hf⟩ := bv_some hf
    cases hf
    exact ((nf_Co_branchIf hst8).trans rfl)
  rcases if_pn hf with ⟨-, hf⟩ | ⟨-, hf⟩
  · obtain ⟨st9, hst9, hf⟩ := bv_some hf
    cases hf
    exact ((nf_Co_table hst9).trans rfl)
  rcases if_pn hf with ⟨-, hf⟩ | ⟨-, hf⟩
  · obtain ⟨-, hf⟩ := gd_some hf
    obtain ⟨st11, hst11, hf⟩ := bv_some hf
    obtain ⟨-, hf⟩ := gd_some hf
    obtain ⟨st13, hst13, hf⟩ := bv_some hf
    cases hf
    exact ((nf_Co_emit hst13).trans ((nf_Co_fillSlots hst11).trans rfl))
  rcases if_pn hf with ⟨-, hf⟩ | ⟨-, hf⟩
  · obtain ⟨-, hf⟩ := gd_some hf
    obtain ⟨-, hf⟩ := gd_some hf
    obtain ⟨st16, hst16, hf⟩ := bv_some hf
    obtain ⟨-, hf⟩ := gd_some hf
    obtain ⟨-, hf⟩ := gd_some hf
    obtain ⟨-, hf⟩ := gd_some hf
    obtain ⟨st20, hst20, hf⟩ := bv_some hf
    obtain ⟨-, hf⟩ := gd_some hf
    obtain ⟨-, hf⟩ := gd_some hf
    obtain ⟨st23, hst23, hf⟩ := bv_some hf
    cases hf
    exact ((nf_Co_putSlots hst23).trans ((nf_Co_emit hst20).trans ((nf_Co_fillSlots hst16).trans rfl)))
  rcases if_pn hf with ⟨-, hf⟩ | ⟨-, hf⟩
  · obtain ⟨-, hf⟩ := gd_some hf
    obtain ⟨-, hf⟩ := gd_some hf
    obtain ⟨st26, hst26, hf⟩ := bv_some hf
    cases hf
    exact ((nf_Co_callEntry hst26).trans rfl)
  cases hf
  exact rfl
set_option maxRecDepth 100000 in
theorem nf_Co_select {N : Nat} {st : rs_T} {s' : rs_T} (hf : fx_Co_select N st = some s') : s'.2.2.2 = st.2.2.2 := by
  unfold fx_Co_select at hf
  obtain ⟨r2, st1, hst1, hf⟩ := bn_some hf
  obtain ⟨r4, st3, hst3, hf⟩ := bn_some hf
  obtain ⟨r6, st5, hst5, hf⟩ := bn_some hf
  obtain ⟨st7, hst7, hf⟩ := bv_some hf
  obtain ⟨st8, hst8, hf⟩ := bv_some hf
  cases hf
  exact ((nf_Co_putSlots hst8).trans ((nf_Co_emit hst7).trans ((nf_Co_pop hst5).trans ((nf_Co_pop hst3).trans ((nf_Co_pop hst1).trans rfl)))))
set_option maxRecDepth 100000 in
theorem nf_Co_push {p1 : Int32} {st : rs_T} {s' : rs_T} (hf : fx_Co_push p1 st = some s') : s'.2.2.2 = st.2.2.2 := by
  unfold fx_Co_push at hf
  rcases if_pn hf with ⟨-, hf⟩ | ⟨-, hf⟩
  · cases hf
    exact rfl
  · obtain ⟨-, hf⟩ := gd_some hf
    cases hf
    exact rfl
set_option maxRecDepth 100000 in
theorem nf_Co_setLocal_b54 (N : Nat) (rec8 : Int32 → Int32 → Int32 → rs_T → Option (rs_T)) (ih8 : ∀ (x1 : Int32) (x2 : Int32) (x3 : Int32) (st : rs_T) (s' : rs_T), rec8 x1 x2 x3 st = some s' → s'.2.2.2 = st.2.2.2) (x1 : Int32) (x2 : Int32) (x3 : Int32) (st : rs_T) (s' : rs_T) (hf : fx_Co_setLocal_b54 N rec8 x1 x2 x3 st = some s') : s'.2.2.2 = st.2.2.2 := by
  unfold fx_Co_setLocal_b54 at hf
  replace hf := bd_some hf _ rfl
  exact (ih8 _ _ _ _ _ hf).trans rfl
set_option maxRecDepth 100000 in
theorem nf_Co_setLocal_b8 (N : Nat) : ∀ (n : Nat) (x1 : Int32) (x2 : Int32) (x3 : Int32) (st : rs_T) (s' : rs_T), fx_Co_setLocal_b8 N n x1 x2 x3 st = some s' → s'.2.2.2 = st.2.2.2 := by
  intro n
  induction n with
  | zero => intro x1 x2 x3 st s' hf; cases hf
  | succ n ih =>
    intro x1 x2 x3 st s' hf
    rw [fx_Co_setLocal_b8] at hf
    rcases if_pn hf with ⟨-, hf⟩ | ⟨-, hf⟩
    · obtain ⟨st3, hst3, hf⟩ := bv_some hf
      cases hf
      exact ((nf_Co_emit hst3).trans rfl)
    · obtain ⟨-, hf⟩ := gd_some hf
      rcases if_pn hf with ⟨-, hf⟩ | ⟨-, hf⟩
      · obtain ⟨st7, hst7, hf⟩ := bv_some hf
        obtain ⟨-, hf⟩ := gd_some hf
        exact (nf_Co_setLocal_b54 N (fx_Co_setLocal_b8 N n) ih _ _ _ _ _ hf).trans ((nf_Co_emit hst7).trans rfl)
      · exact (nf_Co_setLocal_b54 N (fx_Co_setLocal_b8 N n) ih _ _ _ _ _ hf).trans rfl
set_option maxRecDepth 100000 in
theorem nf_Co_setLocal {N : Nat} {p1 : Int32} {p2 : Int32} {st : rs_T} {s' : rs_T} (hf : fx_Co_setLocal N p1 p2 st = some s') : s'.2.2.2 = st.2.2.2 := by
  unfold fx_Co_setLocal at hf
  rcases if_pn hf with ⟨-, hf⟩ | ⟨-, hf⟩
  · cases hf
    exact rfl
  · exact (nf_Co_setLocal_b8 N N _ _ _ _ _ hf).trans rfl
set_option maxRecDepth 100000 in
theorem nf_Co_useVariable {N : Nat} {p1 : Int32} {p2 : Int32} {st : rs_T} {s' : rs_T} (hf : fx_Co_useVariable N p1 p2 st = some s') : s'.2.2.2 = st.2.2.2 := by
  unfold fx_Co_useVariable at hf
  rcases if_pn hf with ⟨-, hf⟩ | ⟨-, hf⟩
  · obtain ⟨r3, st2, hst2, hf⟩ := bn_some hf
    cases hf
    exact ((nf_Co_pop hst2).trans rfl)
  rcases if_pn hf with ⟨-, hf⟩ | ⟨-, hf⟩
  · obtain ⟨st4, hst4, hf⟩ := bv_some hf
    cases hf
    exact ((nf_Co_select hst4).trans rfl)
  rcases if_pn hf with ⟨-, hf⟩ | ⟨-, hf⟩
  · obtain ⟨st5, hst5, hf⟩ := bv_some hf
    cases hf
    exact ((nf_Co_push hst5).trans rfl)
  rcases if_pn hf with ⟨-, hf⟩ | ⟨-, hf⟩
  · obtain ⟨r7, st6, hst6, hf⟩ := bn_some hf
    obtain ⟨st8, hst8, hf⟩ := bv_some hf
    cases hf
    exact ((nf_Co_setLocal hst8).trans ((nf_Co_pop hst6).trans rfl))
  rcases if_pn hf with ⟨-, hf⟩ | ⟨-, hf⟩
  · obtain ⟨r10, st9, hst9, hf⟩ := bn_some hf
    obtain ⟨st11, hst11, hf⟩ := bv_some hf
    obtain ⟨st12, hst12, hf⟩ := bv_some hf
    cases hf
    exact ((nf_Co_push hst12).trans ((nf_Co_setLocal hst11).trans ((nf_Co_pop hst9).trans rfl)))
  rcases if_pn hf with ⟨-, hf⟩ | ⟨-, hf⟩
  · obtain ⟨st13, hst13, hf⟩ := bv_some hf
    obtain ⟨st14, hst14, hf⟩ := bv_some hf
    cases hf
    exact ((nf_Co_putSlots hst14).trans ((nf_Co_emit hst13).trans rfl))
  rcases if_pn hf with ⟨-, hf⟩ | ⟨-, hf⟩
  · obtain ⟨r16, st15, hst15, hf⟩ := bn_some hf
    obtain ⟨st17, hst17, hf⟩ := bv_some hf
    cases hf
    exact ((nf_Co_emit hst17).trans ((nf_Co_pop hst15).trans rfl))
  cases hf
  exact rfl
set_option maxRecDepth 100000 in
theorem nf_Co_useMemory_b48 (N : Nat) (x1 : Int32) (x2 : Int32) (y0 : Int32) (st : rs_T) (s' : rs_T) (hf : fx_Co_useMemory_b48 N x1 x2 y0 st = some s') : s'.2.2.2 = st.2.2.2 := by
  unfold fx_Co_useMemory_b48 at hf
  obtain ⟨st5, hst5, hf⟩ := bv_some hf
  obtain ⟨st6, hst6, hf⟩ := bv_some hf
  cases hf
  exact ((nf_Co_putSlots hst6).trans ((nf_Co_emit hst5).trans rfl))
set_option maxRecDepth 100000 in
theorem nf_Co_useMemory_b34 (N : Nat) (x1 : Int32) (x2 : Int32) (st : rs_T) (s' : rs_T) (hf : fx_Co_useMemory_b34 N x1 x2 st = some s') : s'.2.2.2 = st.2.2.2 := by
  unfold fx_Co_useMemory_b34 at hf
  rcases if_pn hf with ⟨-, hf⟩ | ⟨-, hf⟩
  · exact (nf_Co_useMemory_b48 N _ _ _ _ _ hf).trans rfl
  · obtain ⟨r4, st3, hst3, hf⟩ := bn_some hf
    exact (nf_Co_useMemory_b48 N _ _ _ _ _ hf).trans ((nf_Co_pop hst3).trans rfl)
set_option maxRecDepth 100000 in
theorem nf_Co_useMemory {N : Nat} {p1 : Int32} {p2 : Int32} {st : rs_T} {s' : rs_T} (hf : fx_Co_useMemory N p1 p2 st = some s') : s'.2.2.2 = st.2.2.2 := by
  unfold fx_Co_useMemory at hf
  rcases if_pn hf with ⟨-, hf⟩ | ⟨-, hf⟩
  · exact (nf_Co_useMemory_b34 N _ _ _ _ hf).trans rfl
  · rcases if_pn hf with ⟨-, hf⟩ | ⟨-, hf⟩
    · exact (nf_Co_useMemory_b34 N _ _ _ _ hf).trans rfl
    · obtain ⟨r9, st8, hst8, hf⟩ := bn_some hf
      obtain ⟨r11, st10, hst10, hf⟩ := bn_some hf
      obtain ⟨st12, hst12, hf⟩ := bv_some hf
      cases hf
      exact ((nf_Co_emit hst12).trans ((nf_Co_pop hst10).trans ((nf_Co_pop hst8).trans rfl)))
set_option maxRecDepth 100000 in
theorem nf_Co_operate_b16 (N : Nat) (x1 : Int32) (y0 : Int32) (st : rs_T) (s' : rs_T) (hf : fx_Co_operate_b16 N x1 y0 st = some s') : s'.2.2.2 = st.2.2.2 := by
  unfold fx_Co_operate_b16 at hf
  obtain ⟨r5, st4, hst4, hf⟩ := bn_some hf
  obtain ⟨st6, hst6, hf⟩ := bv_some hf
  obtain ⟨st7, hst7, hf⟩ := bv_some hf
  cases hf
  exact ((nf_Co_putSlots hst7).trans ((nf_Co_emit hst6).trans ((nf_Co_pop hst4).trans rfl)))
set_option maxRecDepth 100000 in
theorem nf_Co_operate {N : Nat} {p1 : Int32} {st : rs_T} {s' : rs_T} (hf : fx_Co_operate N p1 st = some s') : s'.2.2.2 = st.2.2.2 := by
  unfold fx_Co_operate at hf
  obtain ⟨r2, st1, hst1, hf⟩ := bn_some hf
  rcases if_pn hf with ⟨-, hf⟩ | ⟨-, hf⟩
  · obtain ⟨r9, st8, hst8, hf⟩ := bn_some hf
    exact (nf_Co_operate_b16 N _ _ _ _ hf).trans ((nf_Co_pop hst8).trans ((nf_Op_operatorTakes hst1).trans rfl))
  · exact (nf_Co_operate_b16 N _ _ _ _ hf).trans ((nf_Op_operatorTakes hst1).trans rfl)
set_option maxRecDepth 100000 in
theorem nf_Co_emitPending {st : rs_T} {s' : rs_T} (hf : fx_Co_emitPending st = some s') : s'.2.2.2 = st.2.2.2 := by
  unfold fx_Co_emitPending at hf
  rcases if_pn hf with ⟨-, hf⟩ | ⟨-, hf⟩
  · cases hf
    exact rfl
  · obtain ⟨st2, hst2, hf⟩ := bv_some hf
    cases hf
    exact ((nf_Co_emit hst2).trans rfl)
set_option maxRecDepth 100000 in
theorem nf_Co_begin_b82 (N : Nat) (y0 : Int32) (y1 : Int32) (y2 : Int32) (y3 : Int32) (y4 : Int32) (st : rs_T) (s' : rs_T) (hf : fx_Co_begin_b82 N y0 y1 y2 y3 y4 st = some s') : s'.2.2.2 = st.2.2.2 := by
  unfold fx_Co_begin_b82 at hf
  obtain ⟨st13, hst13, hf⟩ := bv_some hf
  cases hf
  exact ((nf_Co_emit hst13).trans rfl)
set_option maxRecDepth 100000 in
theorem nf_Co_begin {N : Nat} {p1 : Int32} {p2 : Int32} {st : rs_T} {s' : rs_T} (hf : fx_Co_begin N p1 p2 st = some s') : s'.2.2.2 = st.2.2.2 := by
  unfold fx_Co_begin at hf
  rcases if_pn hf with ⟨-, hf⟩ | ⟨-, hf⟩
  · cases hf
    exact rfl
  · rcases if_pn hf with ⟨-, hf⟩ | ⟨-, hf⟩
    · obtain ⟨r8, st7, hst7, hf⟩ := bn_some hf
      obtain ⟨st9, hst9, hf⟩ := bv_some hf
      obtain ⟨-, hf⟩ := gd_some hf
      rcases if_pn hf with ⟨-, hf⟩ | ⟨-, hf⟩
      · obtain ⟨-, hf⟩ := gd_some hf
        exact (nf_Co_begin_b82 N _ _ _ _ _ _ _ hf).trans ((nf_Co_fillSlots hst9).trans ((nf_Co_pop hst7).trans rfl))
      · obtain ⟨-, hf⟩ := gd_some hf
        exact (nf_Co_begin_b82 N _ _ _ _ _ _ _ hf).trans ((nf_Co_fillSlots hst9).trans ((nf_Co_pop hst7).trans rfl))
    · obtain ⟨st3, hst3, hf⟩ := bv_some hf
      rcases if_pn hf with ⟨-, hf⟩ | ⟨-, hf⟩
      · obtain ⟨st5, hst5, hf⟩ := bv_some hf
        obtain ⟨-, hf⟩ := gd_some hf
        cases hf
        exact ((nf_Co_emitPending hst5).trans ((nf_Co_fillSlots hst3).trans rfl))
      · cases hf
        exact ((nf_Co_fillSlots hst3).trans rfl)
set_option maxRecDepth 100000 in
theorem nf_Co_comeToLife {N : Nat} {p1 : Int32} {p2 : Int32} {st : rs_T} {s' : rs_T} (hf : fx_Co_comeToLife N p1 p2 st = some s') : s'.2.2.2 = st.2.2.2 := by
  unfold fx_Co_comeToLife at hf
  obtain ⟨-, hf⟩ := gd_some hf
  obtain ⟨st2, hst2, hf⟩ := bv_some hf
  cases hf
  exact ((nf_Co_putSlots hst2).trans rfl)
set_option maxRecDepth 100000 in
theorem nf_Co_turn_b48 (N : Nat) (x1 : Int32) (x2 : Int32) (st : rs_T) (s' : rs_T) (hf : fx_Co_turn_b48 N x1 x2 st = some s') : s'.2.2.2 = st.2.2.2 := by
  unfold fx_Co_turn_b48 at hf
  obtain ⟨-, hf⟩ := gd_some hf
  obtain ⟨-, hf⟩ := gd_some hf
  obtain ⟨st7, hst7, hf⟩ := bv_some hf
  cases hf
  exact ((nf_Co_comeToLife hst7).trans rfl)
set_option maxRecDepth 100000 in
theorem nf_Co_turn {N : Nat} {p1 : Int32} {st : rs_T} {s' : rs_T} (hf : fx_Co_turn N p1 st = some s') : s'.2.2.2 = st.2.2.2 := by
  unfold fx_Co_turn at hf
  rcases if_pn hf with ⟨-, hf⟩ | ⟨-, hf⟩
  · obtain ⟨-, hf⟩ := gd_some hf
    replace hf := bd_some hf _ rfl
    rcases if_pn hf with ⟨-, hf⟩ | ⟨-, hf⟩
    · exact (nf_Co_turn_b48 N _ _ _ _ hf).trans rfl
    · obtain ⟨st8, hst8, hf⟩ := bv_some hf
      obtain ⟨-, hf⟩ := gd_some hf
      obtain ⟨st10, hst10, hf⟩ := bv_some hf
      exact (nf_Co_turn_b48 N _ _ _ _ hf).trans ((nf_Co_emit hst10).trans ((nf_Co_fillSlots hst8).trans rfl))
  · cases hf
    exact rfl
set_option maxRecDepth 100000 in
theorem nf_Co_end_b63 (N : Nat) (x1 : Int32) (x2 : Int32) (st : rs_T) (s' : rs_T) (hf : fx_Co_end_b63 N x1 x2 st = some s') : s'.2.2.2 = st.2.2.2 := by
  unfold fx_Co_end_b63 at hf
  rcases if_pn hf with ⟨-, hf⟩ | ⟨-, hf⟩
  · cases hf
    exact rfl
  · obtain ⟨-, hf⟩ := gd_some hf
    obtain ⟨-, hf⟩ := gd_some hf
    obtain ⟨st8, hst8, hf⟩ := bv_some hf
    cases hf
    exact ((nf_Co_comeToLife hst8).trans rfl)
set_option maxRecDepth 100000 in
theorem nf_Co_end {N : Nat} {p1 : Int32} {st : rs_T} {s' : rs_T} (hf : fx_Co_end N p1 st = some s') : s'.2.2.2 = st.2.2.2 := by
  unfold fx_Co_end at hf
  rcases if_pn hf with ⟨-, hf⟩ | ⟨-, hf⟩
  · obtain ⟨-, hf⟩ := gd_some hf
    replace hf := bd_some hf _ rfl
    rcases if_pn hf with ⟨-, hf⟩ | ⟨-, hf⟩
    · exact (nf_Co_end_b63 N _ _ _ _ hf).trans rfl
    · obtain ⟨st9, hst9, hf⟩ := bv_some hf
      rcases if_pn hf with ⟨-, hf⟩ | ⟨-, hf⟩
      · obtain ⟨st12, hst12, hf⟩ := bv_some hf
        cases hf
        exact ((nf_Co_emit hst12).trans ((nf_Co_fillSlots hst9).trans rfl))
      · obtain ⟨st11, hst11, hf⟩ := bv_some hf
        exact (nf_Co_end_b63 N _ _ _ _ hf).trans ((nf_Co_emitPending hst11).trans ((nf_Co_fillSlots hst9).trans rfl))
  · cases hf
    exact rfl
set_option maxRecDepth 100000 in
theorem nf_Co_structure {N : Nat} {p1 : Int32} {p2 : Int32} {st : rs_T} {s' : rs_T} (hf : fx_Co_structure N p1 p2 st = some s') : s'.2.2.2 = st.2.2.2 := by
  unfold fx_Co_structure at hf
  rcases if_pn hf with ⟨-, hf⟩ | ⟨-, hf⟩
  · obtain ⟨st2, hst2, hf⟩ := bv_some hf
    cases hf
    exact ((nf_Co_begin hst2).trans rfl)
  rcases if_pn hf with ⟨-, hf⟩ | ⟨-, hf⟩
  · obtain ⟨st3, hst3, hf⟩ := bv_some hf
    cases hf
    exact ((nf_Co_turn hst3).trans rfl)
  rcases if_pn hf with ⟨-, hf⟩ | ⟨-, hf⟩
  · obtain ⟨st4, hst4, hf⟩ := bv_some hf
    cases hf
    exact ((nf_Co_end hst4).trans rfl)
  cases hf
  exact rfl
set_option maxRecDepth 100000 in
theorem nf_Co_translate_b28 (N : Nat) (x1 : Int32) (x2 : Int32) (st : rs_T) (s' : rs_T) (hf : fx_Co_translate_b28 N x1 x2 st = some s') : s'.2.2.2 = st.2.2.2 := by
  unfold fx_Co_translate_b28 at hf
  rcases if_pn hf with ⟨-, hf⟩ | ⟨-, hf⟩
  · cases hf
    exact rfl
  · rcases if_pn hf with ⟨-, hf⟩ | ⟨-, hf⟩
    · rcases if_pn hf with ⟨-, hf⟩ | ⟨-, hf⟩
      · rcases if_pn hf with ⟨-, hf⟩ | ⟨-, hf⟩
        · rcases if_pn hf with ⟨-, hf⟩ | ⟨-, hf⟩
          · obtain ⟨st9, hst9, hf⟩ := bv_some hf
            cases hf
            exact ((nf_Co_control hst9).trans rfl)
          · obtain ⟨-, hf⟩ := gd_some hf
            obtain ⟨st11, hst11, hf⟩ := bv_some hf
            cases hf
            exact ((nf_Co_useVariable hst11).trans rfl)
        · obtain ⟨-, hf⟩ := gd_some hf
          obtain ⟨st13, hst13, hf⟩ := bv_some hf
          cases hf
          exact ((nf_Co_useMemory hst13).trans rfl)
      · obtain ⟨st14, hst14, hf⟩ := bv_some hf
        cases hf
        exact ((nf_Co_push hst14).trans rfl)
    · obtain ⟨st15, hst15, hf⟩ := bv_some hf
      cases hf
      exact ((nf_Co_operate hst15).trans rfl)
set_option maxRecDepth 100000 in
theorem nf_Co_translate {N : Nat} {p1 : Int32} {st : rs_T} {s' : rs_T} (hf : fx_Co_translate N p1 st = some s') : s'.2.2.2 = st.2.2.2 := by
  unfold fx_Co_translate at hf
  obtain ⟨-, hf⟩ := gd_some hf
  replace hf := bd_some hf _ rfl
  rcases if_pn hf with ⟨-, hf⟩ | ⟨-, hf⟩
  · exact (nf_Co_translate_b28 N _ _ _ _ hf).trans rfl
  · rcases if_pn hf with ⟨-, hf⟩ | ⟨-, hf⟩
    · exact (nf_Co_translate_b28 N _ _ _ _ hf).trans rfl
    · obtain ⟨st17, hst17, hf⟩ := bv_some hf
      cases hf
      exact ((nf_Co_structure hst17).trans rfl)
set_option maxRecDepth 100000 in
theorem nf_Sr_pop {p1 : Int32} {st : rs_T} {r : Int64} {s' : rs_T} (hf : fx_Sr_pop p1 st = some (r, s')) : s'.2.2.2 = st.2.2.2 := by
  unfold fx_Sr_pop at hf
  obtain ⟨-, hf⟩ := gd_some hf
  obtain ⟨-, hf⟩ := gd_some hf
  obtain ⟨-, hf⟩ := gd_some hf
  obtain ⟨r5, st4, hst4, hf⟩ := bn_some hf
  cases hf
  exact ((nf_Ac_value hst4).trans rfl)
set_option maxRecDepth 100000 in
theorem nf_Sr_beginIf_b45 (y0 : Int32) (y1 : Int32) (st : rs_T) (s' : rs_T) (hf : fx_Sr_beginIf_b45 y0 y1 st = some s') : s'.2.2.2 = st.2.2.2 := by
  unfold fx_Sr_beginIf_b45 at hf
  obtain ⟨-, hf⟩ := gd_some hf
  cases hf
  exact rfl
set_option maxRecDepth 100000 in
theorem nf_Sr_beginIf {p1 : Int32} {p2 : Int32} {st : rs_T} {s' : rs_T} (hf : fx_Sr_beginIf p1 p2 st = some s') : s'.2.2.2 = st.2.2.2 := by
  unfold fx_Sr_beginIf at hf
  obtain ⟨r2, st1, hst1, hf⟩ := bn_some hf
  rcases if_pn hf with ⟨-, hf⟩ | ⟨-, hf⟩
  · obtain ⟨-, hf⟩ := gd_some hf
    replace hf := bd_some hf _ rfl
    rcases if_pn hf with ⟨-, hf⟩ | ⟨-, hf⟩
    · obtain ⟨-, hf⟩ := gd_some hf
      exact (nf_Sr_beginIf_b45 _ _ _ _ hf).trans ((nf_Sr_pop hst1).trans rfl)
    · exact (nf_Sr_beginIf_b45 _ _ _ _ hf).trans ((nf_Sr_pop hst1).trans rfl)
  · cases hf
    exact ((nf_Sr_pop hst1).trans rfl)
set_option maxRecDepth 100000 in
theorem nf_Sr_branch_b144 (N : Nat) (y0 : Int32) (y1 : Int32) (st : rs_T) (s' : rs_T) (hf : fx_Sr_branch_b144 N y0 y1 st = some s') : s'.2.2.2 = st.2.2.2 := by
  unfold fx_Sr_branch_b144 at hf
  obtain ⟨-, hf⟩ := gd_some hf
  cases hf
  exact rfl
set_option maxRecDepth 100000 in
theorem nf_Sr_branch {N : Nat} {p1 : Int32} {p2 : Int32} {st : rs_T} {s' : rs_T} (hf : fx_Sr_branch N p1 p2 st = some s') : s'.2.2.2 = st.2.2.2 := by
  unfold fx_Sr_branch at hf
  obtain ⟨-, hf⟩ := gd_some hf
  replace hf := bd_some hf _ rfl
  rcases if_pn hf with ⟨-, hf⟩ | ⟨-, hf⟩
  · obtain ⟨st21, hst21, hf⟩ := bv_some hf
    cases hf
    exact ((nf_Sr_giveBack hst21).trans rfl)
  · obtain ⟨-, hf⟩ := gd_some hf
    replace hf := bd_some hf _ rfl
    obtain ⟨r7, st6, hst6, hf⟩ := bn_some hf
    obtain ⟨-, hf⟩ := gd_some hf
    obtain ⟨r10, st9, hst9, hf⟩ := bn_some hf
    obtain ⟨-, hf⟩ := gd_some hf
    replace hf := bd_some hf _ rfl
    obtain ⟨-, hf⟩ := gd_some hf
    obtain ⟨st14, hst14, hf⟩ := bv_some hf
    obtain ⟨-, hf⟩ := gd_some hf
    obtain ⟨r17, st16, hst16, hf⟩ := bn_some hf
    rcases if_pn hf with ⟨-, hf⟩ | ⟨-, hf⟩
    · obtain ⟨-, hf⟩ := gd_some hf
      exact (nf_Sr_branch_b144 N _ _ _ _ hf).trans ((nf_Pr_isLoop hst16).trans ((nf_Ac_move hst14).trans ((nf_Pr_allLocals hst9).trans ((nf_Pr_wantedBy hst6).trans rfl))))
    · exact (nf_Sr_branch_b144 N _ _ _ _ hf).trans ((nf_Pr_isLoop hst16).trans ((nf_Ac_move hst14).trans ((nf_Pr_allLocals hst9).trans ((nf_Pr_wantedBy hst6).trans rfl))))
set_option maxRecDepth 100000 in
theorem nf_Sr_invoke {N : Nat} {p1 : Int32} {p2 : Int32} {st : rs_T} {s' : rs_T} (hf : fx_Sr_invoke N p1 p2 st = some s') : s'.2.2.2 = st.2.2.2 := by
  unfold fx_Sr_invoke at hf
  obtain ⟨-, hf⟩ := gd_some hf
  obtain ⟨-, hf⟩ := gd_some hf
  obtain ⟨st3, hst3, hf⟩ := bv_some hf
  cases hf
  exact ((nf_Ac_enter_v hst3).trans rfl)
set_option maxRecDepth 100000 in
theorem nf_Sr_invokeEntry {N : Nat} {p1 : Int32} {p2 : Int32} {st : rs_T} {s' : rs_T} (hf : fx_Sr_invokeEntry N p1 p2 st = some s') : s'.2.2.2 = st.2.2.2 := by
  unfold fx_Sr_invokeEntry at hf
  obtain ⟨r2, st1, hst1, hf⟩ := bn_some hf
  obtain ⟨-, hf⟩ := gd_some hf
  obtain ⟨-, hf⟩ := gd_some hf
  obtain ⟨r6, st5, hst5, hf⟩ := bn_some hf
  rcases if_pn hf with ⟨-, hf⟩ | ⟨-, hf⟩
  · obtain ⟨st8, hst8, hf⟩ := bv_some hf
    cases hf
    exact ((nf_Sr_invoke hst8).trans ((nf_Wo_find hst5).trans ((nf_Sr_pop hst1).trans rfl)))
  · obtain ⟨st9, hst9, hf⟩ := bv_some hf
    cases hf
    exact ((nf_Ac_fail hst9).trans ((nf_Wo_find hst5).trans ((nf_Sr_pop hst1).trans rfl)))
set_option maxRecDepth 100000 in
theorem nf_Sr_control {N : Nat} {p1 : Int32} {p2 : Int32} {p3 : Int32} {st : rs_T} {s' : rs_T} (hf : fx_Sr_control N p1 p2 p3 st = some s') : s'.2.2.2 = st.2.2.2 := by
  unfold fx_Sr_control at hf
  rcases if_pn hf with ⟨-, hf⟩ | ⟨-, hf⟩
  · obtain ⟨st2, hst2, hf⟩ := bv_some hf
    cases hf
    exact ((nf_Ac_fail hst2).trans rfl)
  rcases if_pn hf with ⟨-, hf⟩ | ⟨-, hf⟩
  · obtain ⟨st3, hst3, hf⟩ := bv_some hf
    cases hf
    exact ((nf_Sr_beginIf hst3).trans rfl)
  rcases if_pn hf with ⟨-, hf⟩ | ⟨-, hf⟩
  · obtain ⟨st4, hst4, hf⟩ := bv_some hf
    cases hf
    exact ((nf_Sr_branch hst4).trans rfl)
  rcases if_pn hf with ⟨-, hf⟩ | ⟨-, hf⟩
  · obtain ⟨r6, st5, hst5, hf⟩ := bn_some hf
    rcases if_pn hf with ⟨-, hf⟩ | ⟨-, hf⟩
    · cases hf
      exact ((nf_Sr_pop hst5).trans rfl)
    · obtain ⟨st8, hst8, hf⟩ := bv_some hf
      cases hf
      exact ((nf_Sr_branch hst8).trans ((nf_Sr_pop hst5).trans rfl))
  rcases if_pn hf with ⟨-, hf⟩ | ⟨-, hf⟩
  · obtain ⟨r10, st9, hst9, hf⟩ := bn_some hf
    obtain ⟨-, hf⟩ := gd_some hf
    obtain ⟨st12, hst12, hf⟩ := bv_some hf
    cases hf
    exact ((nf_Sr_branch hst12).trans ((nf_Sr_pop hst9).trans rfl))
  rcases if_pn hf with ⟨-, hf⟩ | ⟨-, hf⟩
  · obtain ⟨st13, hst13, hf⟩ := bv_some hf
    cases hf
    exact ((nf_Sr_giveBack hst13).trans rfl)
  rcases if_pn hf with ⟨-, hf⟩ | ⟨-, hf⟩
  · obtain ⟨-, hf⟩ := gd_some hf
    obtain ⟨st15, hst15, hf⟩ := bv_some hf
    cases hf
    exact ((nf_Sr_invoke hst15).trans rfl)
  rcases if_pn hf with ⟨-, hf⟩ | ⟨-, hf⟩
  · obtain ⟨st16, hst16, hf⟩ := bv_some hf
    cases hf
    exact ((nf_Sr_invokeEntry hst16).trans rfl)
  cases hf
  exact rfl
set_option maxRecDepth 100000 in
theorem nf_Sr_push {p1 : Int32} {p2 : Int64} {st : rs_T} {s' : rs_T} (hf : fx_Sr_push p1 p2 st = some s') : s'.2.2.2 = st.2.2.2 := by
  unfold fx_Sr_push at hf
  obtain ⟨-, hf⟩ := gd_some hf
  obtain ⟨st2, hst2, hf⟩ := bv_some hf
  obtain ⟨-, hf⟩ := gd_some hf
  obtain ⟨-, hf⟩ := gd_some hf
  cases hf
  exact ((nf_Ac_setValue hst2).trans rfl)
set_option maxRecDepth 100000 in
theorem nf_Sr_select_b40 (y0 : Int64) (y1 : Int32) (st : rs_T) (s' : rs_T) (hf : fx_Sr_select_b40 y0 y1 st = some s') : s'.2.2.2 = st.2.2.2 := by
  unfold fx_Sr_select_b40 at hf
  obtain ⟨st9, hst9, hf⟩ := bv_some hf
  cases hf
  exact ((nf_Sr_push hst9).trans rfl)
set_option maxRecDepth 100000 in
theorem nf_Sr_select_b14 (x1 : Int32) (y0 : Int32) (st : rs_T) (s' : rs_T) (hf : fx_Sr_select_b14 x1 y0 st = some s') : s'.2.2.2 = st.2.2.2 := by
  unfold fx_Sr_select_b14 at hf
  obtain ⟨r5, st4, hst4, hf⟩ := bn_some hf
  obtain ⟨r7, st6, hst6, hf⟩ := bn_some hf
  rcases if_pn hf with ⟨-, hf⟩ | ⟨-, hf⟩
  · exact (nf_Sr_select_b40 _ _ _ _ hf).trans ((nf_Sr_pop hst6).trans ((nf_Sr_pop hst4).trans rfl))
  · exact (nf_Sr_select_b40 _ _ _ _ hf).trans ((nf_Sr_pop hst6).trans ((nf_Sr_pop hst4).trans rfl))
set_option maxRecDepth 100000 in
theorem nf_Sr_select {p1 : Int32} {st : rs_T} {s' : rs_T} (hf : fx_Sr_select p1 st = some s') : s'.2.2.2 = st.2.2.2 := by
  unfold fx_Sr_select at hf
  obtain ⟨r2, st1, hst1, hf⟩ := bn_some hf
  rcases if_pn hf with ⟨-, hf⟩ | ⟨-, hf⟩
  · exact (nf_Sr_select_b14 _ _ _ _ hf).trans ((nf_Sr_pop hst1).trans rfl)
  · exact (nf_Sr_select_b14 _ _ _ _ hf).trans ((nf_Sr_pop hst1).trans rfl)
set_option maxRecDepth 100000 in
theorem nf_Sr_useVariable {p1 : Int32} {p2 : Int32} {p3 : Int32} {st : rs_T} {s' : rs_T} (hf : fx_Sr_useVariable p1 p2 p3 st = some s') : s'.2.2.2 = st.2.2.2 := by
  unfold fx_Sr_useVariable at hf
  obtain ⟨-, hf⟩ := gd_some hf
  replace hf := bd_some hf _ rfl
  rcases if_pn hf with ⟨-, hf⟩ | ⟨-, hf⟩
  · obtain ⟨r5, st4, hst4, hf⟩ := bn_some hf
    cases hf
    exact ((nf_Sr_pop hst4).trans rfl)
  rcases if_pn hf with ⟨-, hf⟩ | ⟨-, hf⟩
  · obtain ⟨st6, hst6, hf⟩ := bv_some hf
    cases hf
    exact ((nf_Sr_select hst6).trans rfl)
  rcases if_pn hf with ⟨-, hf⟩ | ⟨-, hf⟩
  · obtain ⟨r8, st7, hst7, hf⟩ := bn_some hf
    obtain ⟨st9, hst9, hf⟩ := bv_some hf
    cases hf
    exact ((nf_Sr_push hst9).trans ((nf_Ac_value hst7).trans rfl))
  rcases if_pn hf with ⟨-, hf⟩ | ⟨-, hf⟩
  · obtain ⟨r11, st10, hst10, hf⟩ := bn_some hf
    obtain ⟨st12, hst12, hf⟩ := bv_some hf
    cases hf
    exact ((nf_Ac_setValue hst12).trans ((nf_Sr_pop hst10).trans rfl))
  rcases if_pn hf with ⟨-, hf⟩ | ⟨-, hf⟩
  · obtain ⟨-, hf⟩ := gd_some hf
    obtain ⟨r15, st14, hst14, hf⟩ := bn_some hf
    obtain ⟨st16, hst16, hf⟩ := bv_some hf
    cases hf
    exact ((nf_Ac_setValue hst16).trans ((nf_Ac_value hst14).trans rfl))
  rcases if_pn hf with ⟨-, hf⟩ | ⟨-, hf⟩
  · obtain ⟨-, hf⟩ := gd_some hf
    obtain ⟨st18, hst18, hf⟩ := bv_some hf
    cases hf
    exact ((nf_Sr_push hst18).trans rfl)
  rcases if_pn hf with ⟨-, hf⟩ | ⟨-, hf⟩
  · obtain ⟨r20, st19, hst19, hf⟩ := bn_some hf
    obtain ⟨-, hf⟩ := gd_some hf
    cases hf
    exact ((nf_Sr_pop hst19).trans rfl)
  cases hf
  exact rfl
set_option maxRecDepth 100000 in
theorem nf_Sr_useMemory_b59 (N : Nat) (x1 : Int32) (x2 : Int32) (x3 : Int32) (y0 : Int64) (st : rs_T) (s' : rs_T) (hf : fx_Sr_useMemory_b59 N x1 x2 x3 y0 st = some s') : s'.2.2.2 = st.2.2.2 := by
  unfold fx_Sr_useMemory_b59 at hf
  obtain ⟨r5, st4, hst4, hf⟩ := bn_some hf
  obtain ⟨r7, st6, hst6, hf⟩ := bn_some hf
  obtain ⟨r9, st8, hst8, hf⟩ := bn_some hf
  obtain ⟨r11, st10, hst10, hf⟩ := bn_some hf
  rcases if_pn hf with ⟨-, hf⟩ | ⟨-, hf⟩
  · obtain ⟨st18, hst18, hf⟩ := bv_some hf
    cases hf
    exact ((nf_Ac_fail hst18).trans ((nf_Wo_holds hst10).trans ((nf_Wo_width hst8).trans ((nf_Wo_place hst6).trans ((nf_Sr_pop hst4).trans rfl)))))
  · rcases if_pn hf with ⟨-, hf⟩ | ⟨-, hf⟩
    · obtain ⟨r15, st14, hst14, hf⟩ := bn_some hf
      obtain ⟨st16, hst16, hf⟩ := bv_some hf
      cases hf
      exact ((nf_Sr_push hst16).trans ((nf_Wo_load hst14).trans ((nf_Wo_holds hst10).trans ((nf_Wo_width hst8).trans ((nf_Wo_place hst6).trans ((nf_Sr_pop hst4).trans rfl))))))
    · obtain ⟨st17, hst17, hf⟩ := bv_some hf
      cases hf
      exact ((nf_Wo_store hst17).trans ((nf_Wo_holds hst10).trans ((nf_Wo_width hst8).trans ((nf_Wo_place hst6).trans ((nf_Sr_pop hst4).trans rfl)))))
set_option maxRecDepth 100000 in
theorem nf_Sr_useMemory {N : Nat} {p1 : Int32} {p2 : Int32} {p3 : Int32} {st : rs_T} {s' : rs_T} (hf : fx_Sr_useMemory N p1 p2 p3 st = some s') : s'.2.2.2 = st.2.2.2 := by
  unfold fx_Sr_useMemory at hf
  rcases if_pn hf with ⟨-, hf⟩ | ⟨-, hf⟩
  · obtain ⟨st26, hst26, hf⟩ := bv_some hf
    cases hf
    exact ((nf_Sr_push hst26).trans rfl)
  · rcases if_pn hf with ⟨-, hf⟩ | ⟨-, hf⟩
    · obtain ⟨r22, st21, hst21, hf⟩ := bn_some hf
      obtain ⟨r24, st23, hst23, hf⟩ := bn_some hf
      obtain ⟨st25, hst25, hf⟩ := bv_some hf
      cases hf
      exact ((nf_Sr_push hst25).trans ((nf_Wo_grow hst23).trans ((nf_Sr_pop hst21).trans rfl)))
    · rcases if_pn hf with ⟨-, hf⟩ | ⟨-, hf⟩
      · exact (nf_Sr_useMemory_b59 N _ _ _ _ _ _ hf).trans rfl
      · obtain ⟨r20, st19, hst19, hf⟩ := bn_some hf
        exact (nf_Sr_useMemory_b59 N _ _ _ _ _ _ hf).trans ((nf_Sr_pop hst19).trans rfl)
set_option maxRecDepth 100000 in
theorem nf_Sr_operate_b17 (x1 : Int32) (x2 : Int32) (y0 : Int64) (st : rs_T) (s' : rs_T) (hf : fx_Sr_operate_b17 x1 x2 y0 st = some s') : s'.2.2.2 = st.2.2.2 := by
  unfold fx_Sr_operate_b17 at hf
  obtain ⟨r5, st4, hst4, hf⟩ := bn_some hf
  obtain ⟨r7, st6, hst6, hf⟩ := bn_some hf
  rcases if_pn hf with ⟨-, hf⟩ | ⟨-, hf⟩
  · obtain ⟨r10, st9, hst9, hf⟩ := bn_some hf
    obtain ⟨st11, hst11, hf⟩ := bv_some hf
    cases hf
    exact ((nf_Sr_push hst11).trans ((nf_Op_compute hst9).trans ((nf_Op_dividesByZero hst6).trans ((nf_Sr_pop hst4).trans rfl))))
  · obtain ⟨st12, hst12, hf⟩ := bv_some hf
    cases hf
    exact ((nf_Ac_fail hst12).trans ((nf_Op_dividesByZero hst6).trans ((nf_Sr_pop hst4).trans rfl)))
set_option maxRecDepth 100000 in
theorem nf_Sr_operate {p1 : Int32} {p2 : Int32} {st : rs_T} {s' : rs_T} (hf : fx_Sr_operate p1 p2 st = some s') : s'.2.2.2 = st.2.2.2 := by
  unfold fx_Sr_operate at hf
  obtain ⟨r2, st1, hst1, hf⟩ := bn_some hf
  rcases if_pn hf with ⟨-, hf⟩ | ⟨-, hf⟩
  · obtain ⟨r14, st13, hst13, hf⟩ := bn_some hf
    exact (nf_Sr_operate_b17 _ _ _ _ _ hf).trans ((nf_Sr_pop hst13).trans ((nf_Op_operatorTakes hst1).trans rfl))
  · exact (nf_Sr_operate_b17 _ _ _ _ _ hf).trans ((nf_Op_operatorTakes hst1).trans rfl)
set_option maxRecDepth 100000 in
theorem nf_Sr_perform {N : Nat} {st : rs_T} {s' : rs_T} (hf : fx_Sr_perform N st = some s') : s'.2.2.2 = st.2.2.2 := by
  unfold fx_Sr_perform at hf
  obtain ⟨r2, st1, hst1, hf⟩ := bn_some hf
  rcases if_pn hf with ⟨-, hf⟩ | ⟨-, hf⟩
  · cases hf
    exact ((nf_Ac_nextWithin hst1).trans rfl)
  · replace hf := bd_some hf _ rfl
    obtain ⟨-, hf⟩ := gd_some hf
    replace hf := bd_some hf _ rfl
    obtain ⟨-, hf⟩ := gd_some hf
    rcases if_pn hf with ⟨-, hf⟩ | ⟨-, hf⟩
    · rcases if_pn hf with ⟨-, hf⟩ | ⟨-, hf⟩
      · rcases if_pn hf with ⟨-, hf⟩ | ⟨-, hf⟩
        · rcases if_pn hf with ⟨-, hf⟩ | ⟨-, hf⟩
          · obtain ⟨st12, hst12, hf⟩ := bv_some hf
            cases hf
            exact ((nf_Sr_control hst12).trans ((nf_Ac_nextWithin hst1).trans rfl))
          · obtain ⟨-, hf⟩ := gd_some hf
            obtain ⟨st14, hst14, hf⟩ := bv_some hf
            cases hf
            exact ((nf_Sr_useVariable hst14).trans ((nf_Ac_nextWithin hst1).trans rfl))
        · obtain ⟨-, hf⟩ := gd_some hf
          obtain ⟨st16, hst16, hf⟩ := bv_some hf
          cases hf
          exact ((nf_Sr_useMemory hst16).trans ((nf_Ac_nextWithin hst1).trans rfl))
      · obtain ⟨r18, st17, hst17, hf⟩ := bn_some hf
        obtain ⟨st19, hst19, hf⟩ := bv_some hf
        cases hf
        exact ((nf_Sr_push hst19).trans ((nf_Pr_constant hst17).trans ((nf_Ac_nextWithin hst1).trans rfl)))
    · obtain ⟨st20, hst20, hf⟩ := bv_some hf
      cases hf
      exact ((nf_Sr_operate hst20).trans ((nf_Ac_nextWithin hst1).trans rfl))
set_option maxRecDepth 100000 in
theorem nf_Rr_payStep {N : Nat} {st : rs_T} {s' : rs_T} (hf : fx_Rr_payStep N st = some s') : s'.2.2.2 = st.2.2.2 := by
  unfold fx_Rr_payStep at hf
  obtain ⟨r2, st1, hst1, hf⟩ := bn_some hf
  rcases if_pn hf with ⟨-, hf⟩ | ⟨-, hf⟩
  · cases hf
    exact ((nf_Ac_nextWithin hst1).trans rfl)
  · obtain ⟨-, hf⟩ := gd_some hf
    rcases if_pn hf with ⟨-, hf⟩ | ⟨-, hf⟩
    · cases hf
      exact ((nf_Ac_nextWithin hst1).trans rfl)
    · obtain ⟨st6, hst6, hf⟩ := bv_some hf
      cases hf
      exact ((nf_Rr_perform hst6).trans ((nf_Ac_nextWithin hst1).trans rfl))
set_option maxRecDepth 100000 in
theorem nf_Wr_ownOperands {st : rs_T} {r : Int32} {s' : rs_T} (hf : fx_Wr_ownOperands st = some (r, s')) : s'.2.2.2 = st.2.2.2 := by
  unfold fx_Wr_ownOperands at hf
  rcases if_pn hf with ⟨-, hf⟩ | ⟨-, hf⟩
  · cases hf
    exact rfl
  · obtain ⟨r3, st2, hst2, hf⟩ := bn_some hf
    cases hf
    exact ((nf_Wr_height hst2).trans rfl)
set_option maxRecDepth 100000 in
theorem nf_Wr_isDead {st : rs_T} {r : Int32} {s' : rs_T} (hf : fx_Wr_isDead st = some (r, s')) : s'.2.2.2 = st.2.2.2 := by
  unfold fx_Wr_isDead at hf
  rcases if_pn hf with ⟨-, hf⟩ | ⟨-, hf⟩
  · cases hf
    exact rfl
  · obtain ⟨-, hf⟩ := gd_some hf
    rcases if_pn hf with ⟨-, hf⟩ | ⟨-, hf⟩
    · cases hf
      exact rfl
    · cases hf
      exact rfl
set_option maxRecDepth 100000 in
theorem nf_Ma_state {p1 : Int32} {st : rs_T} {r : Int32} {s' : rs_T} (hf : fx_Ma_state p1 st = some (r, s')) : s'.2.2.2 = st.2.2.2 := by
  unfold fx_Ma_state at hf
  rcases if_pn hf with ⟨-, hf⟩ | ⟨-, hf⟩
  · cases hf
    exact rfl
  rcases if_pn hf with ⟨-, hf⟩ | ⟨-, hf⟩
  · cases hf
    exact rfl
  rcases if_pn hf with ⟨-, hf⟩ | ⟨-, hf⟩
  · rcases if_pn hf with ⟨-, hf⟩ | ⟨-, hf⟩
    · cases hf
      exact rfl
    · cases hf
      exact rfl
  rcases if_pn hf with ⟨-, hf⟩ | ⟨-, hf⟩
  · rcases if_pn hf with ⟨-, hf⟩ | ⟨-, hf⟩
    · cases hf
      exact rfl
    · obtain ⟨-, hf⟩ := gd_some hf
      cases hf
      exact rfl
  rcases if_pn hf with ⟨-, hf⟩ | ⟨-, hf⟩
  · cases hf
    exact rfl
  rcases if_pn hf with ⟨-, hf⟩ | ⟨-, hf⟩
  · cases hf
    exact rfl
  rcases if_pn hf with ⟨-, hf⟩ | ⟨-, hf⟩
  · cases hf
    exact rfl
  rcases if_pn hf with ⟨-, hf⟩ | ⟨-, hf⟩
  · cases hf
    exact rfl
  rcases if_pn hf with ⟨-, hf⟩ | ⟨-, hf⟩
  · obtain ⟨r6, st5, hst5, hf⟩ := bn_some hf
    cases hf
    exact ((nf_Wr_ownOperands hst5).trans rfl)
  rcases if_pn hf with ⟨-, hf⟩ | ⟨-, hf⟩
  · obtain ⟨r8, st7, hst7, hf⟩ := bn_some hf
    rcases if_pn hf with ⟨-, hf⟩ | ⟨-, hf⟩
    · cases hf
      exact ((nf_Wr_isDead hst7).trans rfl)
    · cases hf
      exact ((nf_Wr_isDead hst7).trans rfl)
  rcases if_pn hf with ⟨-, hf⟩ | ⟨-, hf⟩
  · cases hf
    exact rfl
  rcases if_pn hf with ⟨-, hf⟩ | ⟨-, hf⟩
  · cases hf
    exact rfl
  cases hf
  exact rfl
set_option maxRecDepth 100000 in
theorem nf_Ma_tier {p1 : Int32} {st : rs_T} {r : Int32} {s' : rs_T} (hf : fx_Ma_tier p1 st = some (r, s')) : s'.2.2.2 = st.2.2.2 := by
  unfold fx_Ma_tier at hf
  rcases if_pn hf with ⟨-, hf⟩ | ⟨-, hf⟩
  · replace hf := bd_some hf _ rfl
    cases hf
    exact rfl
  · cases hf
    exact rfl
set_option maxRecDepth 100000 in
theorem nf_Ma_result {p1 : Int32} {st : rs_T} {r : Int64} {s' : rs_T} (hf : fx_Ma_result p1 st = some (r, s')) : s'.2.2.2 = st.2.2.2 := by
  unfold fx_Ma_result at hf
  rcases if_pn hf with ⟨-, hf⟩ | ⟨-, hf⟩
  · cases hf
    exact rfl
  · rcases if_pn hf with ⟨-, hf⟩ | ⟨-, hf⟩
    · cases hf
      exact rfl
    · obtain ⟨-, hf⟩ := gd_some hf
      cases hf
      exact rfl
set_option maxRecDepth 100000 in
theorem nf_Ma_global {p1 : Int32} {st : rs_T} {r : Int64} {s' : rs_T} (hf : fx_Ma_global p1 st = some (r, s')) : s'.2.2.2 = st.2.2.2 := by
  unfold fx_Ma_global at hf
  rcases if_pn hf with ⟨-, hf⟩ | ⟨-, hf⟩
  · cases hf
    exact rfl
  · rcases if_pn hf with ⟨-, hf⟩ | ⟨-, hf⟩
    · cases hf
      exact rfl
    · obtain ⟨-, hf⟩ := gd_some hf
      cases hf
      exact rfl
set_option maxRecDepth 100000 in
theorem nf_Ma_memory {p1 : Int32} {st : rs_T} {r : Int32} {s' : rs_T} (hf : fx_Ma_memory p1 st = some (r, s')) : s'.2.2.2 = st.2.2.2 := by
  unfold fx_Ma_memory at hf
  rcases if_pn hf with ⟨-, hf⟩ | ⟨-, hf⟩
  · cases hf
    exact rfl
  · obtain ⟨r3, st2, hst2, hf⟩ := bn_some hf
    rcases if_pn hf with ⟨-, hf⟩ | ⟨-, hf⟩
    · cases hf
      exact ((nf_Wo_holds hst2).trans rfl)
    · obtain ⟨-, hf⟩ := gd_some hf
      cases hf
      exact ((nf_Wo_holds hst2).trans rfl)
set_option maxRecDepth 100000 in
theorem nf_Ma_look {p1 : Int32} {p2 : Int32} {st : rs_T} {r : Int32} {s' : rs_T} (hf : fx_Ma_look p1 p2 st = some (r, s')) : s'.2.2.2 = st.2.2.2 := by
  unfold fx_Ma_look at hf
  obtain ⟨r2, st1, hst1, hf⟩ := bn_some hf
  rcases if_pn hf with ⟨-, hf⟩ | ⟨-, hf⟩
  · cases hf
    exact ((nf_Pr_isWhole hst1).trans rfl)
  · rcases if_pn hf with ⟨-, hf⟩ | ⟨-, hf⟩
    · obtain ⟨-, hf⟩ := gd_some hf
      cases hf
      exact ((nf_Pr_isWhole hst1).trans rfl)
    rcases if_pn hf with ⟨-, hf⟩ | ⟨-, hf⟩
    · obtain ⟨-, hf⟩ := gd_some hf
      cases hf
      exact ((nf_Pr_isWhole hst1).trans rfl)
    rcases if_pn hf with ⟨-, hf⟩ | ⟨-, hf⟩
    · obtain ⟨-, hf⟩ := gd_some hf
      cases hf
      exact ((nf_Pr_isWhole hst1).trans rfl)
    rcases if_pn hf with ⟨-, hf⟩ | ⟨-, hf⟩
    · obtain ⟨-, hf⟩ := gd_some hf
      cases hf
      exact ((nf_Pr_isWhole hst1).trans rfl)
    cases hf
    exact ((nf_Pr_isWhole hst1).trans rfl)
