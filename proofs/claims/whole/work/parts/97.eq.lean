-- ===== the compiler from place to place: control =====
theorem kn_ctl {c m : rs_T} {T : Nat → ts_T} {f s E ms F n i N qs q p : Nat} {W : Nat → Int32} (hH : kH c m T f s E ms F n i N qs) (hi1 : i + 1 < E) (hC : kC c n f s qs T i (q, p, W)) (hl : tl (T i)) : ∃ c1 K1, fx_Co_translate N (nI i) c = some c1 ∧ kC c1 n f s qs T (i + 1) K1 ∧ kN c c1 (vm m) T f n (E - 1) i (q, p, W) K1 := by
  have hH0 := hH
  obtain ⟨hkin, h26, hsz, hpp, hq, hall, hhm, hn16⟩ := kH_live hH hC hl
  obtain ⟨hW, hA, hF, hf, hE, hi, hi2, hn, hms, hN, hqs⟩ := hH
  have hx := hW.2.2.1.2.1 i hi (by omega)
  have hF40 := hF.1
  have hds := ds_all hW.2.2.1 i hi (by omega)
  have hall1 : tl (T (i + 1)) → ∀ x ∈ (T (i + 1)).1, tl (T x.1) := fun z => ds_tl (ds_all hW.2.2.1 (i + 1) (by omega) (by omega)) z.1 z.2.1
  obtain ⟨-, -, -, hh1, -, -⟩ := hW.2.2.1.2.2 (i + 1) (by omega) (by omega)
  have h8 : rA c 8 i = v_a (vm m) i := (hA.1 i).2.1
  have h9 : rA c 9 i = v_b (vm m) i := (hA.1 i).2.2
  have hr1 : rA c 1 f = nI (v_r (vm m) f) := (hF.2 f hf).2.1
  obtain ⟨h, hh⟩ : ∃ h, (T i).2.2.1 = h := ⟨_, rfl⟩
  rcases nx_cases hx with ⟨o, hne, -⟩ | ⟨hel, hc⟩
  · exact absurd hl.2.2 hne
  rcases hc with ⟨ho, e⟩ | ⟨ho, hb⟩ | ⟨ho, hb⟩ | ⟨ho, hb⟩ | ⟨ho, hb⟩ | ⟨ho, k, hk, hhas, e⟩ | ⟨ho, k, hk, htu⟩ | ⟨ho, k, hk, hhas, e⟩ | ⟨ho, hhas, e⟩ | ⟨ho, g, hg, htu⟩ | ⟨ho, x, y, hx1, hy1, htu⟩ | ⟨ho, hp⟩
  · -- 0
    obtain ⟨d1, d2, d3⟩ := die_tl hall e
    rw [ho] at hkin
    obtain ⟨c1, e1, e2, j0⟩ := kt_0 hkin
    refine ⟨c1, _, e1, kC_dead e2 d2 h26 (by omega) rfl d1 hq, e2.2.2.1, e2.2.2.2.1, fun _ => ?_, fun z => absurd z (lnp_n (by rw [ho]; decide))⟩
    unfold kcV
    rw [ho]
    exact ⟨fun z => absurd z (by decide), fun z => absurd z (by decide), fun z => absurd z (by decide), fun z => absurd z (by decide), fun z => absurd z (by decide), fun z => absurd z (by decide), fun z => absurd z (by decide), fun z => absurd z (by decide), fun z => absurd z (by decide), fun z => absurd z (by decide), fun z => absurd z (by decide), fun z => absurd z (by decide), fun z => absurd z (by decide), fun z => absurd z (by decide), fun _ => ⟨j0, rfl⟩, fun z => absurd z (by decide), fun z => absurd z (by decide), fun z => absurd z (by decide), fun z => absurd z (by decide), fun z => absurd z (by decide), fun z => absurd z (by decide), fun z => absurd z (by decide), fun z => absurd z (by decide), fun z => absurd z (by decide), fun z => absurd z (by decide), fun z _ => absurd z (by decide), fun z _ => absurd z (by decide)⟩
  · -- 2, 3
    obtain ⟨x, y, hx4, hy4, ea, eb, hhas, hw, hT1⟩ := begin_some hb
    have hhx := tl_has hl hhas
    rw [tl_tk hl hhas] at hT1
    have hl1 : tl (T (i + 1)) := by
      rw [hT1]
      refine ⟨fun r hr => ?_, hl.2.1, rfl⟩
      rcases List.mem_cons.mp hr with z | z
      · rw [z]
      · exact hl.1 r z
    have hT : (T (i + 1)).2.2.1 = (T i).2.2.1 := by rw [hT1]; show (T i).2.2.1 - (x + 0) + x = _; omega
    rcases ho with ho | ho
    · rw [ho] at hkin
      obtain ⟨c1, q1, p1, e1, e2, j0⟩ := kt_2 hkin
      have hp1 := (mv_q j0).2.1
      refine ⟨c1, _, e1, kC_live e2 hl1 hT.symm h26 (by omega) (by show p1 ≤ _; omega) (hall1 hl1) hq, e2.2.2.1, e2.2.2.2.1, fun _ => ?_, fun z => absurd z (lnp_n (by rw [ho]; decide))⟩
      unfold kcV
      rw [ho]
      exact ⟨fun z => absurd z (by decide), fun z => absurd z (by decide), fun z => absurd z (by decide), fun z => absurd z (by decide), fun z => absurd z (by decide), fun z => absurd z (by decide), fun z => absurd z (by decide), fun z => absurd z (by decide), fun z => absurd z (by decide), fun z => absurd z (by decide), fun z => absurd z (by decide), fun z => absurd z (by decide), fun z => absurd z (by decide), fun z => absurd z (by decide), fun z => absurd z (by decide), fun z => absurd z (by decide), fun z => absurd z (by decide), fun z => absurd z (by decide), fun z => absurd z (by decide), fun z => absurd z (by decide), fun z => absurd z (by decide), fun _ => ⟨q1, p1, j0, rfl⟩, fun z => absurd z (by decide), fun z => absurd z (by decide), fun z => absurd z (by decide), fun z _ => absurd z (by decide), fun z _ => absurd z (by decide)⟩
    · rw [ho] at hkin
      obtain ⟨c1, q1, p1, q2, e1, e2, j0, j1, j2⟩ := kt_3 hkin (by omega)
      refine ⟨c1, _, e1, kC_live e2 hl1 hT.symm h26 (by omega) (Nat.zero_le _) (hall1 hl1) hq, e2.2.2.1, e2.2.2.2.1, fun _ => ?_, fun _ => ⟨j2, rfl, rfl⟩⟩
      unfold kcV
      rw [ho]
      refine ⟨fun z => absurd z (by decide), fun z => absurd z (by decide), fun z => absurd z (by decide), fun z => absurd z (by decide), fun z => absurd z (by decide), fun z => absurd z (by decide), fun z => absurd z (by decide), fun z => absurd z (by decide), fun z => absurd z (by decide), fun z => absurd z (by decide), fun z => absurd z (by decide), fun z => absurd z (by decide), fun z => absurd z (by decide), fun z => absurd z (by decide), fun z => absurd z (by decide), fun z => absurd z (by decide), fun z => absurd z (by decide), fun z => absurd z (by decide), fun z => absurd z (by decide), fun z => absurd z (by decide), fun z => absurd z (by decide), fun z => absurd z (by decide), fun _ => ⟨q1, p1, j0, ?_⟩, fun z => absurd z (by decide), fun z => absurd z (by decide), fun z _ => absurd z (by decide), fun z _ => absurd z (by decide)⟩
      rcases j1 with ⟨a1, a2⟩ | ⟨a1, a2, a3⟩
      · exact Or.inl ⟨a1, by rw [a2]⟩
      · exact Or.inr ⟨a1, a2, by rw [a3]⟩
  · -- 4
    obtain ⟨x, y, hx4, hy4, ea, eb, hhas, hw, hT1⟩ := begin_some hb
    have hhx := tl_has hl hhas
    rw [tl_tk hl hhas] at hT1
    have hl1 : tl (T (i + 1)) := by
      rw [hT1]
      refine ⟨fun r hr => ?_, hl.2.1, rfl⟩
      rcases List.mem_cons.mp hr with z | z
      · rw [z]
      · exact hl.1 r z
    have hT : (T (i + 1)).2.2.1 = (T i).2.2.1 - 1 := by rw [hT1]; show (T i).2.2.1 - (x + 1) + x = _; omega
    obtain ⟨j, g1, g2, g3, g4, -⟩ := cl_if (N := 600) hW hE (by omega) hi hi1 ho
    rw [hh] at hkin hT hhx hsz
    obtain ⟨h, rfl⟩ : ∃ h', h = h' + 1 := ⟨h - 1, by omega⟩
    rw [ho] at hkin
    have hlk : (rA c 11 i = -1 ∧ rA c 10 i = nI j) ∨ rA c 11 i = nI j := by
      rcases g4 with ⟨-, z⟩ | ⟨-, z⟩
      · exact Or.inr z
      · exact Or.inl z
    obtain ⟨c1, q1, p1, e1, e2, j0, j1⟩ := kt_4 hkin (show j < 512 ∧ j < rN c 0 by omega) hlk
    refine ⟨c1, _, e1, kC_live e2 hl1 hT.symm h26 (by omega) (Nat.zero_le _) (hall1 hl1) hq, e2.2.2.1, e2.2.2.2.1, fun _ => ?_, fun z => absurd z (lnp_n (by rw [ho]; decide))⟩
    unfold kcV
    rw [ho, hh]
    exact ⟨fun z => absurd z (by decide), fun z => absurd z (by decide), fun z => absurd z (by decide), fun z => absurd z (by decide), fun z => absurd z (by decide), fun z => absurd z (by decide), fun z => absurd z (by decide), fun z => absurd z (by decide), fun z => absurd z (by decide), fun z => absurd z (by decide), fun z => absurd z (by decide), fun z => absurd z (by decide), fun z => absurd z (by decide), fun z => absurd z (by decide), fun z => absurd z (by decide), fun z => absurd z (by decide), fun z => absurd z (by decide), fun z => absurd z (by decide), fun z => absurd z (by decide), fun z => absurd z (by decide), fun z => absurd z (by decide), fun z => absurd z (by decide), fun z => absurd z (by decide), fun _ => ⟨q1, p1, j, by omega, by rw [e2.2.2.1.2.1 11 i (by decide), e2.2.2.1.2.1 10 i (by decide)]; exact hlk, j0, j1, rfl⟩, fun z => absurd z (by decide), fun z _ => absurd z (by decide), fun z _ => absurd z (by decide)⟩
  · -- 5
    obtain ⟨b, L, hL, ho4, -, -, -⟩ := else_some hb
    have hmem : b ∈ (T i).1 := by rw [hL]; exact List.mem_cons_self
    obtain ⟨m1, m2, ⟨x, y, hx4, hy4, ea, eb⟩, m5, m6⟩ := ty_mem hW.2.2.1 hi (by omega) hmem
    obtain ⟨t1, t2⟩ := tl_else hx hds ho hL rfl
    have hl1 : tl (T (i + 1)) := t2.mpr (hall b hmem)
    obtain ⟨j, g1, g2, g3, g4, g5, -⟩ := cl_else (N := 600) hW hE (by omega) hi hi1 ho
    have hlk := (hW.2.2.2.2.1 i hi hi2).2.2 ho
    unfold lk_else at hlk
    rw [hL] at hlk
    have hT : (T (i + 1)).2.2.1 = v_w (vm m) b.1 + x := by
      rw [t1]
      show v_w (vm m) b.1 + (v_a (vm m) b.1).toNatClampNeg = _
      rw [ea, nI_clamp (by omega)]
    rw [ho] at hkin
    obtain ⟨c1, q1, p1, e1, e2, j0, j1, j2⟩ := kt_5 hkin h26 (show j < 512 ∧ j < rN c 0 by omega) (show b.1 < 512 ∧ b.1 < rN c 0 by omega) g5 hlk.2 (hW.2.2.2.2.2 b.1 m1 (by omega) m5) ((hA.1 b.1).2.1.trans ea) (by omega)
    refine ⟨c1, _, e1, kC_live e2 hl1 hT.symm h26 (by omega) (Nat.zero_le _) (hall1 hl1) hq, e2.2.2.1, e2.2.2.2.1, fun _ => ?_, fun _ => ⟨j2, rfl, rfl⟩⟩
    unfold kcV
    rw [ho]
    exact ⟨fun z => absurd z (by decide), fun z => absurd z (by decide), fun z => absurd z (by decide), fun z => absurd z (by decide), fun z => absurd z (by decide), fun z => absurd z (by decide), fun z => absurd z (by decide), fun z => absurd z (by decide), fun z => absurd z (by decide), fun z => absurd z (by decide), fun z => absurd z (by decide), fun z => absurd z (by decide), fun z => absurd z (by decide), fun z => absurd z (by decide), fun z => absurd z (by decide), fun z => absurd z (by decide), fun z => absurd z (by decide), fun z => absurd z (by decide), fun z => absurd z (by decide), fun z => absurd z (by decide), fun z => absurd z (by decide), fun z => absurd z (by decide), fun z => absurd z (by decide), fun z => absurd z (by decide), fun _ => ⟨q1, p1, j, by omega, by rw [e2.2.2.1.2.1 10 i (by decide)]; exact g5, j0, j1, rfl⟩, fun z _ => absurd z (by decide), fun z _ => absurd z (by decide)⟩
  · -- 11
    obtain ⟨b, L, hL, -, -, -⟩ := end_some hb
    have hmem : b ∈ (T i).1 := by rw [hL]; exact List.mem_cons_self
    obtain ⟨m1, m2, ⟨x, y, hx4, hy4, ea, eb⟩, m5, m6⟩ := ty_mem hW.2.2.1 hi (by omega) hmem
    obtain ⟨t1, t2⟩ := tl_end hx hds ho hL rfl
    have hl1 : tl (T (i + 1)) := t2.mpr (hall b hmem)
    have hlk := (hW.2.2.2.2.1 i hi hi2).2.1 ho
    unfold lk_e2 at hlk
    rw [hL] at hlk
    have hT : (T (i + 1)).2.2.1 = v_w (vm m) b.1 + y := by
      rw [t1]
      show v_w (vm m) b.1 + (v_b (vm m) b.1).toNatClampNeg = _
      rw [eb, nI_clamp (by omega)]
    rw [ho] at hkin
    obtain ⟨c1, q1, p1, q2, e1, e2, j0, j1, j2⟩ := kt_11 hkin (by omega) h26 (show b.1 < 512 ∧ b.1 < rN c 0 by omega) hlk.1 (hW.2.2.2.2.2 b.1 m1 (by omega) m5) ((hA.1 b.1).2.2.trans eb) (by omega)
    refine ⟨c1, _, e1, kC_live e2 hl1 hT.symm h26 (by omega) (Nat.zero_le _) (hall1 hl1) hq, e2.2.2.1, e2.2.2.2.1, fun _ => ?_, fun _ => ⟨j2, rfl, rfl⟩⟩
    unfold kcV
    have hne : decide (i = E - 1) = false := decide_eq_false (by omega)
    rw [ho, hne]
    refine ⟨fun z => absurd z (by decide), fun z => absurd z (by decide), fun z => absurd z (by decide), fun z => absurd z (by decide), fun z => absurd z (by decide), fun z => absurd z (by decide), fun z => absurd z (by decide), fun z => absurd z (by decide), fun z => absurd z (by decide), fun z => absurd z (by decide), fun z => absurd z (by decide), fun z => absurd z (by decide), fun z => absurd z (by decide), fun z => absurd z (by decide), fun z => absurd z (by decide), fun z => absurd z (by decide), fun z => absurd z (by decide), fun z => absurd z (by decide), fun z => absurd z (by decide), fun z => absurd z (by decide), fun z => absurd z (by decide), fun z => absurd z (by decide), fun z => absurd z (by decide), fun z => absurd z (by decide), fun z => absurd z (by decide), fun _ _ => ⟨q1, p1, j0, ?_⟩, fun _ z => (by cases z)⟩
    rcases j1 with ⟨a1, a2⟩ | ⟨a1, a2, a3⟩
    · exact Or.inl ⟨a1, by rw [a2]⟩
    · exact Or.inr ⟨a1, a2, by rw [a3]⟩
  · -- 12
    obtain ⟨d1, d2, d3⟩ := die_tl hall e
    have hlb := lkb_of hW hA hF hf ⟨hE, by omega, by omega⟩ hi hi2 (Or.inl ho) hk
    obtain ⟨tb1, tb2, tb3, tb4⟩ := (hW.2.2.1.2.2 i hi (by omega)).2.2.2.2.1
    have hka := (t_n_some (by omega) hk).2
    have hka1 := (t_n_some (by omega) hk).1
    have hwant : lw (v_r (vm m) f) (lr (vm m) f (T i).1 k) ≤ (T i).2.2.1 := by
      rw [lw_lr]
      have := tl_has hl hhas
      omega
    rw [ho] at hkin
    obtain ⟨c1, q1, p1, e1, e2, j0, j1⟩ := kt_12 hkin hlb hwant
    refine ⟨c1, _, e1, kC_dead e2 d2 h26 (by omega) rfl d1 hq, e2.2.2.1, e2.2.2.2.1, fun _ => ?_, fun z => absurd z (lnp_n (by rw [ho]; decide))⟩
    unfold kcV
    rw [ho, hka, nI_clamp (by omega)]
    exact ⟨fun z => absurd z (by decide), fun z => absurd z (by decide), fun z => absurd z (by decide), fun z => absurd z (by decide), fun z => absurd z (by decide), fun z => absurd z (by decide), fun z => absurd z (by decide), fun z => absurd z (by decide), fun z => absurd z (by decide), fun z => absurd z (by decide), fun z => absurd z (by decide), fun z => absurd z (by decide), fun z => absurd z (by decide), fun z => absurd z (by decide), fun z => absurd z (by decide), fun _ => ⟨q1, p1, j0, j1, rfl⟩, fun z => absurd z (by decide), fun z => absurd z (by decide), fun z => absurd z (by decide), fun z => absurd z (by decide), fun z => absurd z (by decide), fun z => absurd z (by decide), fun z => absurd z (by decide), fun z => absurd z (by decide), fun z => absurd z (by decide), fun z _ => absurd z (by decide), fun z _ => absurd z (by decide)⟩
  · -- 13
    obtain ⟨hn0, hT1, hl1⟩ := tl_tu hl htu
    have hlb := lkb_of hW hA hF hf ⟨hE, by omega, by omega⟩ hi hi2 (Or.inr (Or.inl ho)) hk
    obtain ⟨tb1, tb2, tb3, tb4⟩ := (hW.2.2.1.2.2 i hi (by omega)).2.2.2.2.1
    have hka := (t_n_some (by omega) hk).2
    have hka1 := (t_n_some (by omega) hk).1
    have hT : (T (i + 1)).2.2.1 = (T i).2.2.1 - 1 := by rw [hT1]; show (T i).2.2.1 - (t_want (vm m) f (T i).1 k + 1) + t_want (vm m) f (T i).1 k = _; omega
    rw [hh] at hkin hT hn0 hsz
    obtain ⟨h, rfl⟩ : ∃ h', h = h' + 1 := ⟨h - 1, by omega⟩
    have hwant : lw (v_r (vm m) f) (lr (vm m) f (T i).1 k) ≤ h := by
      rw [lw_lr]
      omega
    rw [ho] at hkin
    obtain ⟨c1, q1, p1, e1, e2, j0, j1, j2⟩ := kt_13 hkin hlb hwant
    refine ⟨c1, _, e1, kC_live e2 hl1 hT.symm h26 (by omega) (Nat.zero_le _) (hall1 hl1) hq, e2.2.2.1, e2.2.2.2.1, fun _ => ?_, fun z => absurd z (lnp_n (by rw [ho]; decide))⟩
    unfold kcV
    rw [ho, hh, hka, nI_clamp (by omega)]
    exact ⟨fun z => absurd z (by decide), fun z => absurd z (by decide), fun z => absurd z (by decide), fun z => absurd z (by decide), fun z => absurd z (by decide), fun z => absurd z (by decide), fun z => absurd z (by decide), fun z => absurd z (by decide), fun z => absurd z (by decide), fun z => absurd z (by decide), fun z => absurd z (by decide), fun z => absurd z (by decide), fun z => absurd z (by decide), fun z => absurd z (by decide), fun z => absurd z (by decide), fun z => absurd z (by decide), fun _ => ⟨q1, p1, j0, j1, j2, rfl⟩, fun z => absurd z (by decide), fun z => absurd z (by decide), fun z => absurd z (by decide), fun z => absurd z (by decide), fun z => absurd z (by decide), fun z => absurd z (by decide), fun z => absurd z (by decide), fun z => absurd z (by decide), fun z _ => absurd z (by decide), fun z _ => absurd z (by decide)⟩
  · -- 14
    obtain ⟨g1, g2⟩ := tab_ty hW.2.2.1 hi hk ho hl (by omega) hW.2.2.2.1.2.1
    have hk20 := (t_n_some (by omega) hk).1
    have hka := (t_n_some (by omega) hk).2
    obtain ⟨tb1, tb2, tb3, tb4⟩ := (hW.2.2.1.2.2 i hi (by omega)).2.2.2.2.1
    have hlb : ∀ j, j ≤ k → lkb c f (v_r (vm m) f) (lr (vm m) f (T i).1 (v_a (vm m) (i + 1 + j)).toNatClampNeg) (i + 1 + j) ∧ lw (v_r (vm m) f) (lr (vm m) f (T i).1 (v_a (vm m) (i + 1 + j)).toNatClampNeg) ≤ (T i).2.2.1 - 1 := by
      intro j hj
      obtain ⟨a1, a2, a3, a4, a5, a6, kk, a7, a8, -, -⟩ := g2 j hj
      have hkk := t_n_some (by omega) a7
      have := lkb_of hW hA hF hf ⟨hE, by omega, by omega⟩ (show s ≤ i + 1 + j by omega) (show i + 1 + j < E by omega) (Or.inr (Or.inr a2)) (by rw [a3]; exact a7)
      rw [a3] at this
      rw [hkk.2, nI_clamp (by omega)]
      exact ⟨this, by rw [lw_lr]; exact a8⟩
    have hn1 : ¬ tl (T (i + 1)) := fun z => by
      have z3 := z.2.2
      rw [e] at z3
      have z3 : k + 1 = 0 := z3
      omega
    have hel1 : (T (i + 1)).2.2.2.1 = k + 1 := by rw [e]
    have hall2 : ∀ x ∈ (T (i + 1)).1, tl (T x.1) := by rw [e]; exact hall
    rw [hh] at hkin hlb hsz g1
    obtain ⟨h, rfl⟩ : ∃ h', h = h' + 1 := ⟨h - 1, by omega⟩
    rw [ho] at hkin
    rw [hka] at h8
    obtain ⟨c1, q1, p1, e1, e2, j0, j1, j2⟩ := kt_14 (tb := fun j => lr (vm m) f (T i).1 (v_a (vm m) (i + 1 + j)).toNatClampNeg) hkin h8 hk20 (by have hga := (g2 _ (Nat.le_refl _)).1; omega) (fun j hj => (hlb j hj).1) (fun j hj => (hlb j hj).2)
    refine ⟨c1, _, e1, kC_dead e2 hn1 h26 (by omega) rfl hall2 hq, e2.2.2.1, e2.2.2.2.1, fun _ => ?_, fun z => absurd z (lnp_n (by rw [ho]; decide))⟩
    unfold kcV
    rw [ho, hh, hka, nI_clamp (by omega)]
    refine ⟨fun z => absurd z (by decide), fun z => absurd z (by decide), fun z => absurd z (by decide), fun z => absurd z (by decide), fun z => absurd z (by decide), fun z => absurd z (by decide), fun z => absurd z (by decide), fun z => absurd z (by decide), fun z => absurd z (by decide), fun z => absurd z (by decide), fun z => absurd z (by decide), fun z => absurd z (by decide), fun z => absurd z (by decide), fun z => absurd z (by decide), fun z => absurd z (by decide), fun z => absurd z (by decide), fun z => absurd z (by decide), fun _ => ⟨q1, p1, j0, j1, fun j hj => j2 j ?_, ?_⟩, fun z => absurd z (by decide), fun z => absurd z (by decide), fun z => absurd z (by decide), fun z => absurd z (by decide), fun z => absurd z (by decide), fun z => absurd z (by decide), fun z => absurd z (by decide), fun z _ => absurd z (by decide), fun z _ => absurd z (by decide)⟩
    · rw [nI_clamp (by omega)] at hj; exact hj
    · rw [nI_clamp (by omega)]
  · -- 15
    obtain ⟨d1, d2, d3⟩ := die_tl hall e
    have hwant := tl_has hl hhas
    rw [ho] at hkin
    obtain ⟨c1, q1, p1, e1, e2, j0, j1⟩ := kt_15 hkin (by omega) hr1 (by omega)
    refine ⟨c1, _, e1, kC_dead e2 d2 h26 (by omega) rfl d1 hq, e2.2.2.1, e2.2.2.2.1, fun _ => ?_, fun z => absurd z (lnp_n (by rw [ho]; decide))⟩
    unfold kcV
    rw [ho]
    exact ⟨fun z => absurd z (by decide), fun z => absurd z (by decide), fun z => absurd z (by decide), fun z => absurd z (by decide), fun z => absurd z (by decide), fun z => absurd z (by decide), fun z => absurd z (by decide), fun z => absurd z (by decide), fun z => absurd z (by decide), fun z => absurd z (by decide), fun z => absurd z (by decide), fun z => absurd z (by decide), fun z => absurd z (by decide), fun z => absurd z (by decide), fun z => absurd z (by decide), fun z => absurd z (by decide), fun z => absurd z (by decide), fun z => absurd z (by decide), fun _ => ⟨q1, p1, j0, j1, rfl⟩, fun z => absurd z (by decide), fun z => absurd z (by decide), fun z => absurd z (by decide), fun z => absurd z (by decide), fun z => absurd z (by decide), fun z => absurd z (by decide), fun z _ => absurd z (by decide), fun z _ => absurd z (by decide)⟩
  · -- 16
    obtain ⟨hn0, hT1, hl1⟩ := tl_tu hl htu
    obtain ⟨hg1, hg2⟩ := t_n_some (by omega) hg
    have hT : (T (i + 1)).2.2.1 = (T i).2.2.1 - v_p (vm m) g + v_r (vm m) g := by rw [hT1]
    rw [ho] at hkin
    rw [hg2] at h8
    obtain ⟨c1, q1, p1, e1, e2, j0, j1⟩ := kt_16 hkin (show g < 40 by omega) h8 (hF.2 g (by omega)).1 (hF.2 g (by omega)).2.1 hn0 (by omega)
    refine ⟨c1, _, e1, kC_live e2 hl1 hT.symm h26 (by omega) (Nat.zero_le _) (hall1 hl1) hq, e2.2.2.1, e2.2.2.2.1, fun _ => ?_, fun z => absurd z (lnp_n (by rw [ho]; decide))⟩
    unfold kcV
    rw [ho, hg2, nI_clamp (by omega)]
    exact ⟨fun z => absurd z (by decide), fun z => absurd z (by decide), fun z => absurd z (by decide), fun z => absurd z (by decide), fun z => absurd z (by decide), fun z => absurd z (by decide), fun z => absurd z (by decide), fun z => absurd z (by decide), fun z => absurd z (by decide), fun z => absurd z (by decide), fun z => absurd z (by decide), fun z => absurd z (by decide), fun z => absurd z (by decide), fun z => absurd z (by decide), fun z => absurd z (by decide), fun z => absurd z (by decide), fun z => absurd z (by decide), fun z => absurd z (by decide), fun z => absurd z (by decide), fun _ => ⟨q1, p1, j0, j1, rfl⟩, fun z => absurd z (by decide), fun z => absurd z (by decide), fun z => absurd z (by decide), fun z => absurd z (by decide), fun z => absurd z (by decide), fun z _ => absurd z (by decide), fun z _ => absurd z (by decide)⟩
  · -- 17
    obtain ⟨hn0, hT1, hl1⟩ := tl_tu hl htu
    obtain ⟨hg1, hg2⟩ := t_n_some (by omega) hx1
    obtain ⟨hg3, hg4⟩ := t_n_some (by omega) hy1
    have hT : (T (i + 1)).2.2.1 = (T i).2.2.1 - (x + 1) + y := by rw [hT1]
    rw [hh] at hkin hT hn0 hsz
    obtain ⟨h, rfl⟩ : ∃ h', h = h' + 1 := ⟨h - 1, by omega⟩
    rw [ho] at hkin
    rw [hg2] at h8
    rw [hg4] at h9
    obtain ⟨c1, q1, p1, e1, e2, j0, j1⟩ := kt_17 hkin h8 h9 (by omega) (by omega)
    refine ⟨c1, _, e1, kC_live e2 hl1 (by rw [hT]; omega) h26 (by omega) (Nat.zero_le _) (hall1 hl1) hq, e2.2.2.1, e2.2.2.2.1, fun _ => ?_, fun z => absurd z (lnp_n (by rw [ho]; decide))⟩
    unfold kcV
    rw [ho, hh, hg2, hg4]
    refine ⟨fun z => absurd z (by decide), fun z => absurd z (by decide), fun z => absurd z (by decide), fun z => absurd z (by decide), fun z => absurd z (by decide), fun z => absurd z (by decide), fun z => absurd z (by decide), fun z => absurd z (by decide), fun z => absurd z (by decide), fun z => absurd z (by decide), fun z => absurd z (by decide), fun z => absurd z (by decide), fun z => absurd z (by decide), fun z => absurd z (by decide), fun z => absurd z (by decide), fun z => absurd z (by decide), fun z => absurd z (by decide), fun z => absurd z (by decide), fun z => absurd z (by decide), fun z => absurd z (by decide), fun _ => ⟨q1, p1, ?_, ?_, ?_⟩, fun z => absurd z (by decide), fun z => absurd z (by decide), fun z => absurd z (by decide), fun z => absurd z (by decide), fun z _ => absurd z (by decide), fun z _ => absurd z (by decide)⟩
    · rw [nI_clamp (by omega)]; exact j0
    · rw [nI_clamp (by omega)]; exact j1
    · rw [nI_clamp (by omega)]; rfl
  · exact kn_plain hH0 hi1 hC hl hp
