-- ===== between two steps: ELSE, the END of the function =====
theorem PC_5 {N : Nat} {c m : rs_T} {T : Nat → ts_T} {S E M : Nat → Nat} {F t : Nat} {w : Bool} {KK : Nat → Nat → kT} {ZZ : Nat → Nat → Int32} {QS QE : Nat → Nat} {G : List fr_T} {f at_ b s : Nat} {r : Bool} (h : IB c m T S E M F t w KK ZZ QS QE) (hR : R0 c m (vm m) T S E M F w KK G f at_ r b s) (hs1 : rI m 9 = 1) (hN : 1000 ≤ N) (ho : v_o (vm m) at_ = 5) : PC N c m T S E M F t w KK ZZ QS QE (muT M G f at_) := by
  obtain ⟨x1, x2, x3, x4, x5, x6, x7, x8, x9, x10, x11, x12, x13, x14, x15, x16, x17, -⟩ := cx h hR
  obtain ⟨p1, p2, p3, p4, p5, p6, p7, p8, p9, p10, p11, p12, p13⟩ := pctx h hR (by rw [ho]; decide)
  obtain ⟨q, L, hL, hq4, hq5, hdn, -⟩ := else_some (nx_5 p5 ho)
  have hlen := (pb_Wf h.1 (show wh_F F w f from hR.2.1.1.2.2.1)).2.2.2.2.2.1
  obtain ⟨j, j1, j2, j3, j4, j5, j6⟩ := cl_else (N := N) p1 p2 (by omega) p3 p4 ho
  obtain ⟨q', L', hq1, hq2, -⟩ := bg_cons (show bg_L (T j) = q.1 :: L.map (·.1) by rw [j4]; unfold bg_L; rw [hL]; rfl)
  have hjE : j + 1 < E f := by
    by_cases z : j = E f - 1
    · have hfin := p1.2.2.2.1
      rw [← z] at hfin
      have := hfin.2.2.1
      rw [hq1] at this
      cases this
    · omega
  have hxj := p1.2.2.1.2.1 j (by omega) (by omega)
  have hdj := ds_all p1.2.2.1 j (by omega) (by omega)
  have hds := ds_all p1.2.2.1 at_ p3 (by omega)
  obtain ⟨t1, t2⟩ := tl_end hxj hdj j3 hq1 hq2
  have hlq : tl (T q.1) := ds_tl hds p6.1 p6.2.1 q (by rw [hL]; exact List.mem_cons_self)
  have hl2 := t2.mpr hlq
  have hT : (T (j + 1)).2.2.1 = (T at_).2.2.1 := by
    have := live_done (f := f) p6 (p1.2.2.1.2.2 at_ p3 (by omega)).1 hdn
    rw [this, t1, hL]
    rfl
  have hm1 : mp N 1 m (wI m 15 (nI j)) := mp_5 hs1 x14 (by omega) x7 x5 p7 ho j6
  have hm2 : mp N 1 (wI m 15 (nI j)) (wI (wI m 15 (nI j)) 15 (nI (j + 1))) := mp_1 (e := E f) (f := f) (s := S f) (j := G.length) (by rw [rI_wn (by decide)]; exact hs1) (by rw [rI_ws]) (by omega) (by rw [rI_wn (by decide)]; exact x7) x5 p7 p8 p9 hlen (by omega) (by omega) (by show v_o (vm m) j ∈ _; rw [j3]; decide) (fun _ => by omega)
  rw [wI_wI] at hm2
  refine PC_of (kp := 2) h hR hs1 (by omega) (mp_tr hm1 hm2) (by omega) hjE hl2 hT (fun hr => ?_) (fun hr => ?_)
  · subst hr
    obtain ⟨r1, ⟨-, -, -, -, -, -, -, -, b9, -⟩, -⟩ := hR
    exact sf_5 x6 x5 x2 (b9 rfl).1 x3 x4 ((x1.1 at_).1.trans ho) j5
  · subst hr
    have hR1 := hR
    obtain ⟨r1, ⟨hfC, -⟩, -⟩ := hR1
    obtain ⟨sz0, z1, z2, z3, z4, z5, z6, z7, z8⟩ := rg_ctx h hfC
    obtain ⟨sz, y1', y2', y3', y4'⟩ := R0_tR h hR hs1
    unfold kcV at z5
    rw [ho] at z5
    obtain ⟨q1, p1', e0, he0, hlk0, m1, m2, m3⟩ := z5.2.2.2.2.2.2.2.2.2.2.2.2.2.2.2.2.2.2.2.2.2.2.2.2.1 rfl
    have hej : e0 = j := by
      rw [j5] at hlk0; exact ((nI_eq (by omega) (by omega)).mp hlk0).symm
    subst hej
    have hqe : q1 + 1 ≤ QE f := by rw [m3] at z6; exact z6
    obtain ⟨c1, k, e1, e2, e3, e4, e5⟩ := fill_bl (N := N) (V := vm m) (m := m) (s := s) (by omega) x1 y4' (by omega) m1 x15
    obtain ⟨c2, v1, v2, v3, v4, v5⟩ := g_br (N := N) (e := 0) (n := 0) (h0 := 0) (wd := 0) (wt := 0) (Ze := ZZ f e0) e4 (by omega) (cY_ci e3 m2) (by omega) (by omega) hN
    obtain ⟨n1, n2, n3⟩ := z4.2.2.2 e0 (by omega) hjE (Or.inr ⟨Or.inr j3, hl2⟩)
    refine ⟨c2, k + 1, by omega, vl_tr e2 (vl_1 v1), cY_tr e3 v4, by rw [v2, n1], by rw [v3, n2]; rfl, ?_⟩
    rw [n3]
    exact fV_keep e5 (by omega) (fun y _ _ => by rw [v5]; unfold cpy; rw [if_neg (fun z => by omega)]) (fun _ _ _ => rfl)
theorem PC_fin {N : Nat} {c m : rs_T} {T : Nat → ts_T} {S E M : Nat → Nat} {F t : Nat} {w : Bool} {KK : Nat → Nat → kT} {ZZ : Nat → Nat → Int32} {QS QE : Nat → Nat} {G : List fr_T} {f at_ b s : Nat} {r : Bool} (h : IB c m T S E M F t w KK ZZ QS QE) (hR : R0 c m (vm m) T S E M F w KK G f at_ r b s) (hs1 : rI m 9 = 1) (hN : 1000 ≤ N) (ho : v_o (vm m) at_ = 11) (hE1 : at_ = E f - 1) : PC N c m T S E M F t w KK ZZ QS QE (muT M G f at_) := by
  obtain ⟨x1, x2, x3, x4, x5, x6, x7, x8, x9, x10, x11, x12, x13, x14, x15, x16, x17, -⟩ := cx h hR
  obtain ⟨-, ⟨⟨a1, a2, a3, a4, a5, a6, a7, a8, a9, a10, a11, a12⟩, -, -, -, -, -, b7, -, b9, -⟩, -⟩ := id hR
  obtain ⟨hWf, hf40, hE, -, h0s, hlen, -⟩ := pb_Wf h.1 a3
  obtain ⟨f1, f2, f3, f4, f5, f6, f7, f8, f9⟩ := pb_fn h.1 a3.1
  have hfin := hWf.2.2.2.1
  rw [← hE1] at hfin
  have hh : (T at_).2.2.1 = v_r (vm m) f := by
    have := live_done (f := f) a11 (hWf.2.2.1.2.2 at_ a9 (by omega)).1 hfin.2.2.2
    rw [this, hfin.2.2.1]
    show 0 + v_r (vm m) f = _
    omega
  have h10 : rA c 10 at_ = -1 := by
    have hlk := (hWf.2.2.2.2.1 at_ a9 a10).2.1 ho
    unfold lk_e2 at hlk
    rw [hfin.2.2.1] at hlk
    exact hlk
  have hg := h.2.2.2
  have hst : rI c 11 = 1 := by rw [hg.1]; exact hs1
  -- the frame is left: both are done, or the frame below goes on
  have key : ∃ c1 m1 k, vl N k c c1 ∧ k ≤ (T at_).2.2.1 + 1 ∧ fx_Md_back N m = some m1 ∧ IB c1 m1 T S E M F t w KK ZZ QS QE ∧ ((¬ rI m1 9 = 1 ∧ G = []) ∨ ∃ g G', G = g :: G' ∧ R0 c1 m1 (vm m1) T S E M F w KK G' g.1 g.2.1 g.2.2.1 g.2.2.2.1 g.2.2.2.2) := by
    cases r with
    | false =>
      obtain ⟨c18', c20, c17⟩ := b9 rfl
      have s1 := c18_0 c G.length at_
      obtain ⟨m1, c1, l1, l2, l3, l4, l5⟩ := lv_x (N := N) (cc := wA c 18 G.length (nI (at_ + 1))) (mm := m) (h0 := (T at_).2.2.1) h hR hs1 hN (Nat.le_refl _) (by omega) (m13_0 m) x13 rfl (fun k _ => s1.1 k) c17 (fun i x y1 y2 => s1.2.2.1 i x y1 y2) (fun i y _ => s1.2.2.2 i y) (fun i hi => by
        rw [s1.2.2.2]
        have := sv (x := (T at_).2.2.1 - v_r (vm m) f + i) x15 (by omega) (by omega)
        rw [← Nat.add_assoc, ← Nat.add_assoc] at this
        exact this)
      refine ⟨c1, m1, 1, vl_1 ⟨hst, Or.inl ⟨b7, c17, sp_reg x6 x5 a6, ?_, l3⟩⟩, by omega, l1, l4, l5⟩
      rw [sf_11 x6 x5 x2 c18' x3 x4 ((x1.1 at_).1.trans ho) h10]
      unfold fx_Sr_giveBack
      rw [gd_k (by first | omega | (simp only [rN_wI, rN_wA, rN_wL]; omega)) (by first | omega | (simp only [rN_wI, rN_wA, rN_wL]; omega)), gd_k (by first | omega | (simp only [rN_wI, rN_wA, rN_wL]; omega)) (by first | omega | (simp only [rN_wI, rN_wA, rN_wL]; omega)), nI_clamp (by omega), s1.2.2.1 17 _ (by omega) (by omega), a1, gd_k (by first | omega | (simp only [rN_wI, rN_wA, rN_wL]; omega)) (by first | omega | (simp only [rN_wI, rN_wA, rN_wL]; omega)), nI_clamp (by omega), s1.2.2.1 1 _ (by omega) (by omega), f2, rA_wn (by decide), c20, nI_sub (by omega), show b + nm (vm m) f + (T at_).2.2.1 - v_r (vm m) f = b + nm (vm m) f + ((T at_).2.2.1 - v_r (vm m) f) by omega, l2, bv_s, bv_s]
    | true =>
      have hR1 := hR
      obtain ⟨r1, ⟨hfC, -⟩, -⟩ := hR1
      obtain ⟨sz0, z1, z2, z3, z4, z5, z6, z7, z8⟩ := rg_ctx h hfC
      obtain ⟨sz, y1', y2', y3', y4'⟩ := R0_tR h hR hs1
      unfold kcV at z5
      rw [ho, decide_eq_true hE1] at z5
      obtain ⟨q1, p1', m1', m2', m3'⟩ := z5.2.2.2.2.2.2.2.2.2.2.2.2.2.2.2.2.2.2.2.2.2.2.2.2.2.2 rfl rfl
      have hqe : q1 + 1 ≤ QE f := by rw [m3'] at z6; exact z6
      obtain ⟨c2, k, e1, e2, w4, w3, w5⟩ := fill_bl (N := N) (V := vm m) (m := m) (s := s) (by omega) x1 y4' (by omega) m1' x15
      obtain ⟨t1, t2, t3, t4, t5, t6, t7, t8, t9, t10⟩ := id w3
      obtain ⟨i1, i2, i3, i4, i5, i6⟩ := cY_ci w4 m2'
      obtain ⟨m1, c1, l1, l2, l3, l4, l5⟩ := lv_x (N := N) (cc := wA (wI c2 17 0) 18 G.length (nI (q1 + 1))) (mm := m) (h0 := (T at_).2.2.1) h hR hs1 hN (Nat.le_refl _) (by omega) (m13_0 m) x13 w4.2.2.2 (fun k hk => by rw [rI_wA, rI_wn hk]; exact w4.1 k hk) (by rw [rI_wA, rI_ws]) (fun i x y1 y2 => by rw [rA_wA, if_neg y1, rA_wI]; exact w4.2.1 i x y1) (fun i y hy => by rw [rL_wA, rL_wI]; exact w4.2.2.1 i y hy) (fun i hi => by
        rw [rL_wA, rL_wI]
        have := w5.2.1 ((T at_).2.2.1 - v_r (vm m) f + i) (by omega)
        unfold sl at this
        rw [ev_n (by omega)] at this
        rw [show b + nm (vm m) f + ((T at_).2.2.1 - v_r (vm m) f) + i = b + (nm (vm m) f + ((T at_).2.2.1 - v_r (vm m) f + i)) by omega, this]
        congr 1
        omega)
      refine ⟨c1, m1, k + 1, vl_tr e2 (vl_1 (tR_vq w3 (by omega) i2 ?_ l3)), by omega, l1, l4, l5⟩
      rw [rp_eq (j := G.length) (by rw [rI_wn (by decide)]; exact t3) t4 (by first | omega | (simp only [rN_wI, rN_wA, rN_wL]; omega))]
      rw [rA_wI, rA_wI, rA_wI, i1, if_neg (by decide), if_pos (by decide), if_pos (by decide), if_pos (by decide)]
      unfold fx_Rr_control
      rw [if_neg (by decide), if_neg (by decide), if_neg (by decide), if_neg (by decide), if_neg (by decide), if_pos (by decide), gd_k (by first | omega | (simp only [rN_wI, rN_wA, rN_wL]; omega)) (by first | omega | (simp only [rN_wI, rN_wA, rN_wL]; omega)), gd_k (by first | omega | (simp only [rN_wI, rN_wA, rN_wL]; omega)) (by first | omega | (simp only [rN_wI, rN_wA, rN_wL]; omega)), nI_clamp (by omega), nI_clamp (by omega), ga _ _ _ _ _ (by decide), t9, ga _ _ _ _ _ (by decide), i4, nI_add, show b + nm (vm m) f = b + nm (vm m) f + ((T at_).2.2.1 - v_r (vm m) f) by omega, l2, bv_s]
  obtain ⟨c1, m1, k, k1, k2, k3, k4, k5⟩ := key
  have hmp : mp N 1 m m1 := fun n => by
    rw [ps_fin (e := E f) hs1 x14 (by omega) x7 x5 a2 hf40 h0s hlen (by omega) (by omega) ho hE1, k3, bv_s]
  have hmu : k + 1 ≤ (M f + 2) * (600 - at_) := by
    have : (M f + 2) * 1 ≤ (M f + 2) * (600 - at_) := Nat.mul_le_mul_left _ (by omega)
    omega
  refine ⟨c1, m1, k, 1, k1, by omega, hmp, k4, by unfold muT; omega, ?_⟩
  rcases k5 with ⟨k5, -⟩ | ⟨g, G', eG, k5⟩
  · exact Or.inl k5
  · refine Or.inr ⟨G', _, _, _, _, _, k5, ?_⟩
    rw [eG]
    unfold muT
    show k + 1 + ((M g.1 + 2) * (600 - g.2.1) + muL M G') ≤ (M f + 2) * (600 - at_) + ((M g.1 + 2) * (600 - g.2.1) + muL M G')
    omega
