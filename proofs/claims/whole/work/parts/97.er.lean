-- ===== the compiler from place to place: dead code, the end, the loop =====
theorem dlp_in {T : Nat → ts_T} {L : List lb_T} {d : Nat} {x : Bool} (h : dlp T L d) : dlp T (l_in L x) d := by
  obtain ⟨D, R, e, e2, e3, e4⟩ := h
  cases D with
  | nil =>
    cases R with
    | nil => rw [e]; exact ⟨[], [], rfl, e2, e3, e4⟩
    | cons q R =>
      rw [e]
      refine ⟨[], (q.1, q.2.1, x) :: R, rfl, e2, e3, fun y hy => ?_⟩
      rcases List.mem_cons.mp hy with z | z
      · rw [z]; exact e4 q List.mem_cons_self
      · exact e4 y (List.mem_cons_of_mem _ z)
  | cons q D =>
    rw [e]
    refine ⟨(q.1, q.2.1, x) :: D, R, rfl, e2, fun y hy => ?_, e4⟩
    rcases List.mem_cons.mp hy with z | z
    · rw [z]; exact e3 q List.mem_cons_self
    · exact e3 y (List.mem_cons_of_mem _ z)
theorem k_dl {c : rs_T} {n f q p h s : Nat} {W : Nat → Int32} (v : Int32) (i : Nat) (hk : kst c n f q p h W) (hz : zk c s q) : kst (wI c 26 v) n f q p h W ∧ zk (wI c 26 v) s q ∧ kf c (wI c 26 v) q i ∧ rI (wI c 26 v) 25 = rI c 25 ∧ rI (wI c 26 v) 26 = v := by
  obtain ⟨k1, k2, k3, k4, k5, k6⟩ := hk
  refine ⟨⟨?_, ?_, ?_, ?_, ?_, fun j hj => ?_⟩, fun x h1 h2 => ?_, ⟨fun k hk => ?_, fun j x' hj => ?_, fun j x' h1 h2 h3 => ?_, fun x' _ => ?_, fun j x' => ?_, rfl⟩, ?_, ?_⟩
  · simp (disch := omega) only [bn_s, bv_s, bd_s, gb_0, gb_1, rI_ws, rI_wn, rI_wA, rI_wL, rA_wI, rA_wL, rL_wI, rL_wA, rA_wss, rA_wn, rA_wsn, rL_wss, rL_wn, rL_wsn, rN_wI, rN_wA, rN_wL]; exact k1
  · simp (disch := omega) only [bn_s, bv_s, bd_s, gb_0, gb_1, rI_ws, rI_wn, rI_wA, rI_wL, rA_wI, rA_wL, rL_wI, rL_wA, rA_wss, rA_wn, rA_wsn, rL_wss, rL_wn, rL_wsn, rN_wI, rN_wA, rN_wL]; exact k2
  · simp (disch := omega) only [bn_s, bv_s, bd_s, gb_0, gb_1, rI_ws, rI_wn, rI_wA, rI_wL, rA_wI, rA_wL, rL_wI, rL_wA, rA_wss, rA_wn, rA_wsn, rL_wss, rL_wn, rL_wsn, rN_wI, rN_wA, rN_wL]; exact k3
  · simp (disch := omega) only [bn_s, bv_s, bd_s, gb_0, gb_1, rI_ws, rI_wn, rI_wA, rI_wL, rA_wI, rA_wL, rL_wI, rL_wA, rA_wss, rA_wn, rA_wsn, rL_wss, rL_wn, rL_wsn, rN_wI, rN_wA, rN_wL]; exact k4
  · simp (disch := omega) only [bn_s, bv_s, bd_s, gb_0, gb_1, rI_ws, rI_wn, rI_wA, rI_wL, rA_wI, rA_wL, rL_wI, rL_wA, rA_wss, rA_wn, rA_wsn, rL_wss, rL_wn, rL_wsn, rN_wI, rN_wA, rN_wL]; exact k5
  · simp (disch := omega) only [bn_s, bv_s, bd_s, gb_0, gb_1, rI_ws, rI_wn, rI_wA, rI_wL, rA_wI, rA_wL, rL_wI, rL_wA, rA_wss, rA_wn, rA_wsn, rL_wss, rL_wn, rL_wsn, rN_wI, rN_wA, rN_wL]; exact k6 j hj
  · simp (disch := omega) only [bn_s, bv_s, bd_s, gb_0, gb_1, rI_ws, rI_wn, rI_wA, rI_wL, rA_wI, rA_wL, rL_wI, rL_wA, rA_wss, rA_wn, rA_wsn, rL_wss, rL_wn, rL_wsn, rN_wI, rN_wA, rN_wL]; exact hz x h1 h2
  all_goals simp (disch := omega) only [bn_s, bv_s, bd_s, gb_0, gb_1, rI_ws, rI_wn, rI_wA, rI_wL, rA_wI, rA_wL, rL_wI, rL_wA, rA_wss, rA_wn, rA_wsn, rL_wss, rL_wn, rL_wsn, rN_wI, rN_wA, rN_wL]
theorem kf_rfl (c : rs_T) (q i : Nat) : kf c c q i := ⟨fun _ _ => rfl, fun _ _ _ => rfl, fun _ _ _ _ _ => rfl, fun _ _ => rfl, fun _ _ => rfl, rfl⟩
theorem nx_lo {V : vw_T} {f i : Nat} {T T2 : ts_T} (h : t_nx V f i T = some T2) (h2 : ¬ v_o V i ∈ ([2, 3, 4] : List Int32)) (h5 : ¬ v_o V i = 5) (h6 : ¬ v_o V i = 6) (h11 : ¬ v_o V i = 11) : (v_o V i < 2 ∨ 11 < v_o V i) ∧ ¬ (v_o V i < 2 ∧ 11 < v_o V i) ∧ T.2.2.2.1 = 0 ∧ T2.2.2.2.1 ≤ 21 := by
  have htu : ∀ n k : Nat, t_tu V T n k = some T2 → T2.2.2.2.1 ≤ 21 := fun n k h => by
    unfold t_tu at h
    cases hh : t_has V T n
    · rw [hh] at h; cases h
    · rw [hh] at h; cases h; exact Nat.zero_le _
  have hdie : (t_die V T).2.2.2.1 ≤ 21 := by unfold t_die; rw [t_in_eq]; exact Nat.zero_le _
  rcases nx_cases h with ⟨o, -, -⟩ | ⟨hel, hc⟩
  · exact absurd o h6
  rcases hc with ⟨ho, e⟩ | ⟨ho, hb⟩ | ⟨ho, hb⟩ | ⟨ho, hb⟩ | ⟨ho, hb⟩ | ⟨ho, k, hk, hhas, e⟩ | ⟨ho, k, hk, hu⟩ | ⟨ho, k, hk, hhas, e⟩ | ⟨ho, hhas, e⟩ | ⟨ho, g, hg, hu⟩ | ⟨ho, x, y, hx1, hy1, hu⟩ | ⟨ho, hp⟩
  · rw [ho]; exact ⟨by decide, by decide, hel, by rw [e]; exact hdie⟩
  · exact absurd (by rcases ho with z | z <;> (rw [z]; decide)) h2
  · exact absurd (by rw [ho]; decide) h2
  · exact absurd ho h5
  · exact absurd ho h11
  · rw [ho]; exact ⟨by decide, by decide, hel, by rw [e]; exact hdie⟩
  · rw [ho]; exact ⟨by decide, by decide, hel, htu _ _ hu⟩
  · rw [ho]
    refine ⟨by decide, by decide, hel, ?_⟩
    rw [e]
    have := (t_n_some (by omega) hk).1
    show k + 1 ≤ 21
    omega
  · rw [ho]; exact ⟨by decide, by decide, hel, by rw [e]; exact hdie⟩
  · rw [ho]; exact ⟨by decide, by decide, hel, htu _ _ hu⟩
  · rw [ho]; exact ⟨by decide, by decide, hel, htu _ _ hu⟩
  · obtain ⟨n0, k0, har, -, hu⟩ := plain_some hp
    have hx : (v_o V i < 2 ∨ 11 < v_o V i) ∧ ¬ (v_o V i < 2 ∧ 11 < v_o V i) := by
      rcases ar_cases har with ⟨ho, -, -⟩ | ⟨ho, -, -⟩ | ⟨ho, -, -⟩ | ⟨ho, -, -⟩ | ⟨ho, -, -⟩ | ⟨ho, -, -⟩ | ⟨ho, -, -⟩ | ⟨ho, -, -⟩
      · simp only [List.mem_cons, List.not_mem_nil, or_false] at ho
        rw [ho]; decide
      · simp only [List.mem_cons, List.not_mem_nil, or_false] at ho
        rcases ho with ho | ho | ho <;> (rw [ho]; decide)
      · simp only [List.mem_cons, List.not_mem_nil, or_false] at ho
        rw [ho]; decide
      · simp only [List.mem_cons, List.not_mem_nil, or_false] at ho
        rcases ho with ho | ho | ho | ho | ho <;> (rw [ho]; decide)
      · simp only [List.mem_cons, List.not_mem_nil, or_false] at ho
        rcases ho with ho | ho | ho | ho | ho | ho <;> (rw [ho]; decide)
      · simp only [List.mem_cons, List.not_mem_nil, or_false] at ho
        rcases ho with ho | ho | ho | ho | ho | ho | ho | ho | ho | ho | ho | ho | ho | ho | ho <;> (rw [ho]; decide)
      · simp only [List.mem_cons, List.not_mem_nil, or_false] at ho
        rcases ho with ho | ho | ho | ho | ho | ho | ho | ho | ho | ho | ho | ho | ho | ho <;> (rw [ho]; decide)
      · simp only [List.mem_cons, List.not_mem_nil, or_false] at ho
        rcases ho with ho | ho | ho | ho | ho | ho | ho | ho | ho <;> (rw [ho]; decide)
    exact ⟨hx.1, hx.2, hel, htu _ _ hu⟩
theorem kn_dead {c m : rs_T} {T : Nat → ts_T} {f s E ms F n i N qs q p : Nat} {W : Nat → Int32} (hH : kH c m T f s E ms F n i N qs) (hi1 : i + 1 < E) (hC : kC c n f s qs T i (q, p, W)) (hnl : ¬ tl (T i)) : ∃ c1 K1, fx_Co_translate N (nI i) c = some c1 ∧ kC c1 n f s qs T (i + 1) K1 ∧ kN c c1 (vm m) T f n (E - 1) i (q, p, W) K1 := by
  obtain ⟨hW, hA, hF, hf, hE, hi, hi2, hn, hms, hN, hqs⟩ := hH
  obtain ⟨h, d, k1, k2, -, k4, k5, k6, k7, k8, k9⟩ := hC
  obtain ⟨h25, hp0⟩ := k4 hnl
  have hp0 : p = 0 := hp0
  subst hp0
  have k7 : q + pt n W h ≤ qs + 2 * (i - s) + (T i).2.2.2.1 := k7
  have hx := hW.2.2.1.2.1 i hi (by omega)
  have hds := ds_all hW.2.2.1 i hi (by omega)
  have h7 : rA c 7 i = v_o (vm m) i := (hA.1 i).1
  obtain ⟨-, -, -, hh1, -, -⟩ := hW.2.2.1.2.2 (i + 1) (by omega) (by omega)
  obtain ⟨-, -, -, f1, -, f2⟩ := hF.2 f hf
  have hn16 : n ≤ 16 := by omega
  have hd512 : d ≤ 512 := by
    obtain ⟨D, R, e, e2, -, -⟩ := k6
    obtain ⟨tb1, tb2, -, -⟩ := (hW.2.2.1.2.2 i hi (by omega)).2.2.2.2.1
    rw [e, List.length_append] at tb2
    omega
  by_cases o2 : v_o (vm m) i ∈ ([2, 3, 4] : List Int32)
  · obtain ⟨d1, d2, d3, d4, d5⟩ := k_dl (nI (d + 1)) i k1 k2
    have hel : (T i).2.2.2.1 = 0 := by
      rcases nx_cases hx with ⟨o, -, -⟩ | ⟨hel, -⟩
      · rw [o] at o2; exact absurd o2 (by decide)
      · exact hel
    have hnl1 := tl_dead hnl hx (fun z => by rw [z] at o2; exact absurd o2 (by decide)) (fun z => by rw [z] at o2; exact absurd o2 (by decide))
    have hL1 : (T (i + 1)).1 = (i, false, false) :: (T i).1 := by
      rcases nx_lab hx with ⟨-, e⟩ | ⟨o, -⟩ | ⟨o, -⟩ | ⟨o, -⟩
      · exact e
      · rw [o] at o2; exact absurd o2 (by decide)
      · rw [o] at o2; exact absurd o2 (by decide)
      · refine absurd ?_ o
        simp only [List.mem_cons, List.not_mem_nil, or_false] at o2 ⊢
        rcases o2 with z | z | z <;> simp [z]
    refine ⟨_, (q, 0, W), kd_2 (by omega) h7 h25 k5 o2, ⟨h, d + 1, d1, d2, fun z => absurd z hnl1, fun _ => ⟨by rw [d4]; exact h25, rfl⟩, d5, ?_, by show q + pt n W h ≤ _; omega, Nat.zero_le _, k9⟩, d3, Nat.le_refl _, fun z => absurd z hnl, fun z => ?_⟩
    · obtain ⟨D, R, e, e2, e3, e4⟩ := k6
      rw [hL1, e]
      refine ⟨(i, false, false) :: D, R, rfl, by rw [List.length_cons, e2], fun y hy => ?_, e4⟩
      rcases List.mem_cons.mp hy with z | z
      · rw [z]; exact hnl
      · exact e3 y z
    · rcases z with ⟨-, z⟩ | ⟨-, z⟩
      · exact absurd z hnl
      · exact absurd z hnl1
  by_cases o5 : v_o (vm m) i = 5
  · rcases nx_lab hx with ⟨o, -⟩ | ⟨-, b, L, hL, -, -, hL1⟩ | ⟨o, -⟩ | ⟨o, -⟩
    · exact absurd o o2
    · have hel : (T i).2.2.2.1 = 0 := by
        rcases nx_cases hx with ⟨o, -, -⟩ | ⟨hel, -⟩
        · rw [o] at o5; exact absurd o5 (by decide)
        · exact hel
      have hmem : b ∈ (T i).1 := by rw [hL]; exact List.mem_cons_self
      obtain ⟨m1, m2, ⟨x, y, hx4, hy4, ea, eb⟩, m5, m6⟩ := ty_mem hW.2.2.1 hi (by omega) hmem
      obtain ⟨t1, t2⟩ := tl_else hx hds o5 hL rfl
      rw [o5] at h7
      obtain ⟨D, R, e, e2, e3, e4⟩ := k6
      cases D with
      | nil =>
        have hd0 : d = 0 := e2.symm
        subst hd0
        have hR : (T i).1 = R := e
        have hb := e4 b (by rw [← hR]; exact hmem)
        have hl1 := t2.mpr hb
        have hlk := (hW.2.2.2.2.1 i hi hi2).2.2 o5
        unfold lk_else at hlk
        rw [hL] at hlk
        have hT : (T (i + 1)).2.2.1 = v_w (vm m) b.1 + x := by
          rw [t1]
          show v_w (vm m) b.1 + (v_a (vm m) b.1).toNatClampNeg = _
          rw [ea, nI_clamp (by omega)]
        obtain ⟨c1, e1, g2, g3⟩ := kd_5l k1 k2 hn16 hN (by omega) h7 h25 k5 (show b.1 < 512 ∧ b.1 < rN c 0 by omega) hlk.2 (hW.2.2.2.2.2 b.1 m1 (by omega) m5) ((hA.1 b.1).2.1.trans ea) (by omega)
        refine ⟨c1, _, e1, kC_live g2 hl1 hT.symm k5 (by omega) (Nat.zero_le _) (ds_tl (ds_all hW.2.2.1 (i + 1) (by omega) (by omega)) hl1.1 hl1.2.1) k9, g2.2.2.1, g2.2.2.2.1, fun z => absurd z hnl, fun _ => ⟨g3, rfl, rfl⟩⟩
      | cons r D =>
        rw [hL] at e
        obtain ⟨rfl, eT⟩ := List.cons.inj e
        have hb := e3 b List.mem_cons_self
        have hnl1 : ¬ tl (T (i + 1)) := fun z => hb (t2.mp z)
        obtain ⟨d', rfl⟩ : ∃ d', d = d' + 1 := ⟨d - 1, by rw [List.length_cons] at e2; omega⟩
        refine ⟨c, (q, 0, W), kd_5 (by omega) h7 k5 (by omega), ⟨h, d' + 1, k1, k2, fun z => absurd z hnl1, fun _ => ⟨h25, rfl⟩, k5, ?_, by show q + pt n W h ≤ _; omega, Nat.zero_le _, k9⟩, kf_rfl _ _ _, Nat.le_refl _, fun z => absurd z hnl, fun z => ?_⟩
        · rw [hL1, eT]
          refine ⟨(b.1, true, false) :: D, R, rfl, e2, fun y hy => ?_, e4⟩
          rcases List.mem_cons.mp hy with z | z
          · rw [z]; exact hb
          · exact e3 y (List.mem_cons_of_mem _ z)
        · rcases z with ⟨-, z⟩ | ⟨-, z⟩
          · exact absurd z hnl
          · exact absurd z hnl1
    · rw [o5] at o; exact absurd o (by decide)
    · exact absurd (by rw [o5]; decide) o
  by_cases o11 : v_o (vm m) i = 11
  · rcases nx_lab hx with ⟨o, -⟩ | ⟨o, -⟩ | ⟨-, b, L, hL, hL1⟩ | ⟨o, -⟩
    · exact absurd o o2
    · exact absurd o o5
    · have hel : (T i).2.2.2.1 = 0 := by
        rcases nx_cases hx with ⟨o, -, -⟩ | ⟨hel, -⟩
        · rw [o] at o11; exact absurd o11 (by decide)
        · exact hel
      have hmem : b ∈ (T i).1 := by rw [hL]; exact List.mem_cons_self
      obtain ⟨m1, m2, ⟨x, y, hx4, hy4, ea, eb⟩, m5, m6⟩ := ty_mem hW.2.2.1 hi (by omega) hmem
      obtain ⟨t1, t2⟩ := tl_end hx hds o11 hL rfl
      rw [o11] at h7
      obtain ⟨D, R, e, e2, e3, e4⟩ := k6
      cases D with
      | nil =>
        have hd0 : d = 0 := e2.symm
        subst hd0
        have hR : (T i).1 = R := e
        have hb := e4 b (by rw [← hR]; exact hmem)
        have hl1 := t2.mpr hb
        have hlk := (hW.2.2.2.2.1 i hi hi2).2.1 o11
        unfold lk_e2 at hlk
        rw [hL] at hlk
        have hT : (T (i + 1)).2.2.1 = v_w (vm m) b.1 + y := by
          rw [t1]
          show v_w (vm m) b.1 + (v_b (vm m) b.1).toNatClampNeg = _
          rw [eb, nI_clamp (by omega)]
        obtain ⟨c1, e1, g2, g3⟩ := kd_11l k1 k2 hn16 hN (by omega) h7 h25 k5 (show b.1 < 512 ∧ b.1 < rN c 0 by omega) hlk.1 (hW.2.2.2.2.2 b.1 m1 (by omega) m5) ((hA.1 b.1).2.2.trans eb) (by omega)
        refine ⟨c1, _, e1, kC_live g2 hl1 hT.symm k5 (by omega) (Nat.zero_le _) (ds_tl (ds_all hW.2.2.1 (i + 1) (by omega) (by omega)) hl1.1 hl1.2.1) k9, g2.2.2.1, g2.2.2.2.1, fun z => absurd z hnl, fun _ => ⟨g3, rfl, rfl⟩⟩
      | cons r D =>
        rw [hL] at e
        obtain ⟨rfl, eT⟩ := List.cons.inj e
        have hb := e3 b List.mem_cons_self
        have hnl1 : ¬ tl (T (i + 1)) := fun z => hb (t2.mp z)
        obtain ⟨d', rfl⟩ : ∃ d', d = d' + 1 := ⟨d - 1, by rw [List.length_cons] at e2; omega⟩
        obtain ⟨d1, d2, d3, d4, d5⟩ := k_dl (nI d') i k1 k2
        refine ⟨_, (q, 0, W), kd_11 (by omega) h7 k5 (by omega), ⟨h, d', d1, d2, fun z => absurd z hnl1, fun _ => ⟨by rw [d4]; exact h25, rfl⟩, d5, ?_, by show q + pt n W h ≤ _; omega, Nat.zero_le _, k9⟩, d3, Nat.le_refl _, fun z => absurd z hnl, fun z => ?_⟩
        · rw [hL1, eT]
          exact ⟨D, R, rfl, by rw [List.length_cons] at e2; omega, fun y hy => e3 y (List.mem_cons_of_mem _ hy), e4⟩
        · rcases z with ⟨-, z⟩ | ⟨-, z⟩
          · exact absurd z hnl
          · exact absurd z hnl1
    · exact absurd (by rw [o11]; decide) o
  have hnl1 := tl_dead hnl hx o5 o11
  have hdl : dlp T (T (i + 1)).1 d := by
    rcases nx_lab hx with ⟨o, -⟩ | ⟨o, -⟩ | ⟨o, -⟩ | ⟨-, e | e⟩
    · exact absurd o o2
    · exact absurd o o5
    · exact absurd o o11
    · rw [e]; exact k6
    · rw [e]; exact dlp_in k6
  have hlno : ¬ lnp (vm m) T i := by
    rintro (⟨-, z⟩ | ⟨-, z⟩)
    · exact hnl z
    · exact hnl1 z
  by_cases o6 : v_o (vm m) i = 6
  · rw [o6] at h7
    have hel : (T i).2.2.2.1 ≤ (T (i + 1)).2.2.2.1 + 1 := by
      rcases nx_cases hx with ⟨-, -, hc⟩ | ⟨-, hc⟩
      · obtain ⟨k, -, -, -, ⟨z1, z2⟩ | ⟨z1, z2⟩⟩ := entry_some hc
        · omega
        · rw [z2]; show _ ≤ (T i).2.2.2.1 - 1 + 1; omega
      · exfalso
        rcases hc with ⟨ho, -⟩ | ⟨ho, -⟩ | ⟨ho, -⟩ | ⟨ho, -⟩ | ⟨ho, -⟩ | ⟨ho, -⟩ | ⟨ho, -⟩ | ⟨ho, -⟩ | ⟨ho, -⟩ | ⟨ho, -⟩ | ⟨ho, -⟩ | ⟨ho, -⟩
        · rw [o6] at ho; exact absurd ho (by decide)
        · rw [o6] at ho; exact absurd ho (by decide)
        · rw [o6] at ho; exact absurd ho (by decide)
        · rw [o6] at ho; exact absurd ho (by decide)
        · rw [o6] at ho; exact absurd ho (by decide)
        · rw [o6] at ho; exact absurd ho (by decide)
        · rw [o6] at ho; exact absurd ho (by decide)
        · rw [o6] at ho; exact absurd ho (by decide)
        · rw [o6] at ho; exact absurd ho (by decide)
        · rw [o6] at ho; exact absurd ho (by decide)
        · rw [o6] at ho; exact absurd ho (by decide)
        · rw [o6] at ho; exact absurd ho (by decide)
    exact ⟨c, (q, 0, W), kd_6 (by omega) h7, ⟨h, d, k1, k2, fun z => absurd z hnl1, fun _ => ⟨h25, rfl⟩, k5, hdl, by show q + pt n W h ≤ _; omega, Nat.zero_le _, k9⟩, kf_rfl _ _ _, Nat.le_refl _, fun z => absurd z hnl, fun z => absurd z hlno⟩
  · obtain ⟨a1, a2, a3, -⟩ := nx_lo hx o2 o5 o6 o11
    exact ⟨c, (q, 0, W), kd_1 (by omega) h7 h25 a1 a2, ⟨h, d, k1, k2, fun z => absurd z hnl1, fun _ => ⟨h25, rfl⟩, k5, hdl, by show q + pt n W h ≤ _; omega, Nat.zero_le _, k9⟩, kf_rfl _ _ _, Nat.le_refl _, fun z => absurd z hnl, fun z => absurd z hlno⟩
