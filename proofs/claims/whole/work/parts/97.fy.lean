-- ===== one step: call by table; all steps =====
theorem n_neg {z : Nat} (hz : 6 ≤ z) (hz8 : z ≤ 8) : ¬ (0 : Int32) ≤ - nI z ∧ - (- nI z) = nI z := by
  have : z = 6 ∨ z = 7 ∨ z = 8 := by omega
  rcases this with rfl | rfl | rfl <;> decide
theorem SR_17 {N : Nat} {c m : rs_T} {T : Nat → ts_T} {S E M : Nat → Nat} {F t : Nat} {w : Bool} {KK : Nat → Nat → kT} {ZZ : Nat → Nat → Int32} {QS QE : Nat → Nat} {G : List fr_T} {f at_ b s : Nat} {r : Bool} (h : IB c m T S E M F t w KK ZZ QS QE) (hR : R0 c m (vm m) T S E M F w KK G f at_ r b s) (hs1 : rI m 9 = 1) (hN : 5000 ≤ N) (ho : v_o (vm m) at_ = 17) : SR N c m T S E M F t w 17 (v_a (vm m) at_) (v_b (vm m) at_) r := by
  obtain ⟨x1, x2, x3, x4, x5, x6, x7, x8, x9, x10, x11, x12, x13, x14, x15, x16, x17, -⟩ := cx h hR
  obtain ⟨p1, p2, p3, p4, p5, p6, p7, p8, p9, p10, p11, p12, p13⟩ := pctx h hR (by rw [ho]; decide)
  obtain ⟨x, y, hx1, hy1, hxy⟩ := nx_17 p5 ho
  obtain ⟨hx2, hx3⟩ := t_n_some (by omega) hx1
  obtain ⟨hy2, hy3⟩ := t_n_some (by omega) hy1
  obtain ⟨t1, t2, t3⟩ := tl_tu p6 hxy
  have h7 : rA c 7 at_ = 17 := (x1.1 at_).1.trans ho
  have h8 : rA c 8 at_ = nI x := (x1.1 at_).2.1.trans hx3
  have h9 : rA c 9 at_ = nI y := (x1.1 at_).2.2.trans hy3
  obtain ⟨h', hh⟩ : ∃ h', (T at_).2.2.1 = h' + 1 := ⟨(T at_).2.2.1 - 1, by omega⟩
  have hT : (T (at_ + 1)).2.2.1 = h' - x + y := by rw [t2]; show (T at_).2.2.1 - (x + 1) + y = h' - x + y; omega
  rw [hh] at x13 x15 x11 t1
  have x13 : rI m 13 = nI (s + nm (vm m) f + h' + 1) := x13
  have hmm := m13_w (nI (s + nm (vm m) f + h')) (m13_0 m)
  rw [hx3, hy3]
  have hmsb : msb N 17 (nI x) (nI y) m = fx_Md_callTable N (nI x) (nI y) m := by
    unfold msb
    rw [if_neg (by decide), if_neg (by decide), if_neg (by decide), if_neg (by decide), if_neg (by decide), if_neg (by decide), if_neg (by decide), if_pos (by decide)]
  have hmX : ∀ v : Int32, mX m (wI (wI (wI m 13 (nI (s + nm (vm m) f + h'))) 9 3) 10 v) s := fun v => ⟨fun k _ k2 k3 k4 _ => by rw [rI_wn k3, rI_wn k2, rI_wn k4], fun _ _ _ => rfl, fun _ => ⟨rfl, rfl⟩, fun _ _ => rfl⟩
  have hm7 : ∀ v : Int32, rI (wI (wI (wI m 13 (nI (s + nm (vm m) f + h'))) 9 3) 10 v) 7 = rI m 7 := fun v => by rw [rI_wn (by decide), rI_wn (by decide), rI_wn (by decide)]
  cases r with
  | false =>
    have hR1 := hR
    obtain ⟨r1, ⟨-, -, -, -, -, -, -, -, b9, -⟩, -⟩ := hR1
    obtain ⟨c18', c20, c17⟩ := b9 rfl
    rw [hh] at c20
    have v0 := sv (x := h') x15 (by omega) (by omega)
    have s1 := c18_w (nI (b + nm (vm m) f + h')) (c18_0 c G.length at_)
    obtain ⟨cc, ecc⟩ : ∃ cc, cc = wA (wA c 18 G.length (nI (at_ + 1))) 20 G.length (nI (b + nm (vm m) f + h')) := ⟨_, rfl⟩
    rw [← ecc] at s1
    have hperf : fx_Sr_perform N c = bn (fx_Wo_find (rL m 2 (s + nm (vm m) f + h')) (nI x) (nI y) cc) (fun r6 st5 => if (0 : Int32) ≤ r6 then (fx_Sr_invoke N (nI G.length) r6 st5) else (fx_Ac_fail (-r6) st5)) := by
      rw [sp_eq x6 x5 x2 c18' x3 x4, h7, if_pos (by decide), if_pos (by decide), if_pos (by decide), if_pos (by decide)]
      unfold fx_Sr_control fx_Sr_invokeEntry
      rw [if_neg (by decide), if_neg (by decide), if_neg (by decide), if_neg (by decide), if_neg (by decide), if_neg (by decide), if_neg (by decide), if_pos (by decide), s_pop (P := b + nm (vm m) f + h') x5 (by rw [rA_wn (by decide)]; exact c20) (by omega), bn_s, rL_wA, v0, gd_k (by first | omega | (simp only [rN_wI, rN_wA, rN_wL]; omega)) (by first | omega | (simp only [rN_wI, rN_wA, rN_wL]; omega)), gd_k (by first | omega | (simp only [rN_wI, rN_wA, rN_wL]; omega)) (by first | omega | (simp only [rN_wI, rN_wA, rN_wL]; omega)), nI_clamp (by omega), ← ecc, s1.2.2.1 8 _ (by omega) (by omega), s1.2.2.1 9 _ (by omega) (by omega), h8, h9, bv_id]
      refine congrArg (bn _) ?_
      funext r6 st5
      by_cases z : (0 : Int32) ≤ r6
      · rw [if_pos z, if_pos z, bv_id]
      · rw [if_neg z, if_neg z, bv_id]
    rcases fd_both (N := N) (cc := cc) (x := x) (y := y) (P := s + nm (vm m) f + h') h.1 h.2.1 hx2 hy2 x13 (by omega) (fun k _ => s1.1 k) (fun i z _ => s1.2.2.1 i z (by omega) (by omega)) with ⟨z, z1, z2, z3, z4⟩ | ⟨g, g1, g2, g3, g4, g5⟩
    · obtain ⟨nn1, nn2⟩ := n_neg z2 z1
      obtain ⟨d1, d2, d3, d4, d5, d6⟩ := tc_X s1 (nI z) b
      refine SR_trap (j := G.length) (b := b) (s := s) (x := nI z) h hs1 (by rw [hmsb]; exact z4) (hmX _) (by rw [rI_wn (by decide), rI_ws]) (by rw [rI_ws]) (fun _ => ⟨_, ?_, d1, wb_X h.2.1 d1 (hmX _) d4 d5 d6 (hm7 _) (fun _ => rfl) (fun _ => rfl), d2, d3⟩) (fun q => (by cases q))
      rw [hperf, z3, bn_s, if_neg nn1, nn2]
      rfl
    · obtain ⟨f1, -⟩ := pb_fn h.1 g1.1
      have hg40 : g < 40 := by have := g1.1; have := h.1.1; omega
      refine SR_en (h0 := h') (g := g) h hR hs1 hN g1 (by omega) (by omega) p4 t3 (by rw [hT, g2, g3]) hmm (by rw [rI_ws]) (by rw [hmsb]; exact g5) (fun _ => ⟨cc, s1, by rw [ecc]; rfl, ?_⟩) (fun q => (by cases q))
      rw [hperf, g4, bn_s, if_pos (z_le (by omega))]
      unfold fx_Sr_invoke
      rw [gd_k x5 (by omega), gd_k hg40 (by omega), nI_clamp (by omega), nI_clamp (by omega), s1.2.2.1 0 _ (by omega) (by omega), f1, g2, show rA cc 20 G.length = nI (b + nm (vm m) f + h') by rw [ecc, rA_wss], nI_sub (by omega), show b + nm (vm m) f + h' - x = b + nm (vm m) f + (h' - x) by omega, bv_id]
  | true =>
    have hR1 := hR
    obtain ⟨r1, ⟨hfC, -⟩, -⟩ := hR1
    obtain ⟨sz0, z1, z2, z3, z4, z5, z6, z7, z8⟩ := rg_ctx h hfC
    obtain ⟨sz, y1', y2', y3', y4'⟩ := R0_tR h hR hs1
    unfold kcV at z5
    rw [ho, hh, hx3, hy3] at z5
    obtain ⟨q1, p1', m1, m2, m3⟩ := z5.2.2.2.2.2.2.2.2.2.2.2.2.2.2.2.2.2.2.2.2.1 rfl
    rw [nI_clamp (by omega)] at m1 m2 m3
    have m1 : mvf c (nm (vm m) f) (KK f at_).2.2 (h' - x) h' (KK f at_).1 ((KK f at_).2.1 + 1) q1 p1' := m1
    have m2 : ci c q1 17 (nI p1') (nI x) (nI (nm (vm m) f + (h' - x))) ((KK f at_).2.2 h') (nI y) := m2
    have m3 : KK f (at_ + 1) = (q1 + 1, 0, kw (nm (vm m) f) (KK f at_).2.2 (h' - x)) := m3
    have hqe : q1 + 1 ≤ QE f := by rw [m3] at z6; exact z6
    obtain ⟨c2, W2, e1, e2, e3, e4, e5, e6, e7⟩ := fill_run (N := N) (c := wI c 17 (rI c 17 + 1)) (V := vm m) (m := m) (s := s) (h := h' + 1) (by omega) x1 y3' (Nat.le_succ _) (by omega) (mv_17 _ m1) (fV_keep x15 (by omega) (fun _ _ _ => rfl) (fun _ _ _ => rfl))
    have e4' : cY c c2 G.length b := ⟨fun k hk => (e4.1 k hk).trans (rI_wn hk), fun i x hx => e4.2.1 i x hx, fun i y hy => e4.2.2.1 i y hy, e4.2.2.2⟩
    obtain ⟨i1, i2, i3, i4, i5, i6⟩ := cY_ci e4' m2
    obtain ⟨t1', t2', t3', t4', t5', t6', t7', t8', t9', t10'⟩ := id e3
    have hW2 : W2 h' = (KK f at_).2.2 h' := e7 h' (fun z => by omega)
    have hv := e5.2.1 h' (Nat.lt_succ_self _)
    have hu := e5.2.2 h' (Nat.lt_succ_self _)
    rw [hW2] at hv hu
    obtain ⟨cc, ecc⟩ : ∃ cc, cc = wA (wI c2 17 0) 18 G.length (nI (q1 + 1)) := ⟨_, rfl⟩
    have hcn2 : rN cc 2 = rN c2 2 := by rw [ecc]; rfl
    have hperf : fx_Rr_perform N (nI q1) (wI c2 17 0) = bn (fx_Wo_find (rL m 2 (s + nm (vm m) f + h')) (nI x) (nI y) cc) (fun r7 st6 => if (0 : Int32) ≤ r7 then (gd (nI G.length) 30 (gd (nI q1) (rN st6 2) (fx_Ac_enter_v N r7 ((rA st6 19 (nI G.length).toNatClampNeg) + (rA st6 26 (nI q1).toNatClampNeg)) st6))) else (fx_Ac_fail (-r7) st6)) := by
      rw [rp_eq (j := G.length) (by rw [rI_wn (by decide)]; exact t3') t4' (by first | omega | (simp only [rN_wI, rN_wA, rN_wL]; omega))]
      rw [rA_wI, rA_wI, rA_wI, i1, if_neg (by decide), if_pos (by decide), if_pos (by decide), if_pos (by decide)]
      unfold fx_Rr_control fx_Rr_invokeEntry
      rw [if_neg (by decide), if_neg (by decide), if_neg (by decide), if_neg (by decide), if_neg (by decide), if_neg (by decide), if_neg (by decide), if_pos (by decide), gd_k (by first | omega | (simp only [rN_wI, rN_wA, rN_wL]; omega)) (by first | omega | (simp only [rN_wI, rN_wA, rN_wL]; omega)), nI_clamp (by omega), ga _ _ _ _ _ (by decide), i5, gr (n := nm (vm m) f) (x := h') (cY_pv e4' x1) t4' t9' hu (by omega), bn_s, hv, gd_k (by first | omega | (simp only [rN_wI, rN_wA, rN_wL]; omega)) (by first | omega | (simp only [rN_wI, rN_wA, rN_wL]; omega)), gd_k (by first | omega | (simp only [rN_wI, rN_wA, rN_wL]; omega)) (by first | omega | (simp only [rN_wI, rN_wA, rN_wL]; omega)), ga _ _ _ _ _ (by decide), i3, ga _ _ _ _ _ (by decide), i6, ← ecc, bv_id]
      refine congrArg (bn _) ?_
      funext r6 st5
      by_cases z : (0 : Int32) ≤ r6
      · rw [if_pos z, if_pos z, bv_id]
      · rw [if_neg z, if_neg z, bv_id]
    rcases fd_both (N := N) (cc := cc) (x := x) (y := y) (P := s + nm (vm m) f + h') h.1 h.2.1 hx2 hy2 x13 (by omega) (fun k hk => by rw [ecc, rI_wA, rI_wn (by omega)]; exact e4'.1 k (by omega)) (fun i z hi => by rw [ecc, ga _ _ _ _ _ (by omega)]; exact e4'.2.1 i z (by omega)) with ⟨z, zz1, zz2, zz3, zz4⟩ | ⟨g, g1, g2, g3, g4, g5⟩
    · obtain ⟨nn1, nn2⟩ := n_neg zz2 zz1
      obtain ⟨d1, d2, d3, d4, d5, d6, d7⟩ := tg_X (c := c2) (j := G.length) (q := q1) (nI z) b
      rw [← ecc] at d1 d2 d3 d4 d5 d6 d7
      have hcX := cX_tr (cY_X e4') d1
      refine SR_trap (j := G.length) (b := b) (s := s) (x := nI z) h hs1 (by rw [hmsb]; exact zz4) (hmX _) (by rw [rI_wn (by decide), rI_ws]) (by rw [rI_ws]) (fun q => (by cases q)) (fun _ => ⟨_, _, ?_, vl_tr e1 (vl_1 (tR_vq e3 (by omega) i2 ?_ d7)), (by show cc.2.2.2 = c.2.2.2; rw [ecc]; exact e4'.2.2.2), hcX, wb_X h.2.1 hcX (hmX _) (d4.trans (e4'.1 9 (by decide))) (fun x => (d5 x).trans (e4'.2.1 16 x (by omega))) (fun x => (d6 x).trans (e4'.2.2.1 1 x (by omega))) (hm7 _) (fun _ => rfl) (fun _ => rfl), d2, d3⟩)
      · omega
      · rw [hperf, zz3, bn_s, if_neg nn1, nn2]
        rfl
    · have hg40 : g < 40 := by have := g1.1; have := h.1.1; omega
      refine SR_en (h0 := h') (g := g) h hR hs1 hN g1 (by omega) (by omega) p4 t3 (by rw [hT, g2, g3]) hmm (by rw [rI_ws]) (by rw [hmsb]; exact g5) (fun q => (by cases q)) (fun _ => ⟨sz, c2, _, q1, p1', W2, by omega, e1, e3, e4', fV_le e5 (Nat.le_succ _), fun x y1 y2 => e6 x (by omega) y2, fun x hx => e7 x (fun z => by omega), by rw [g2]; exact m3, by omega, i2, ?_⟩)
      rw [hperf, g4, bn_s, if_pos (z_le (by omega)), gd_k t4' (by omega), gd_k (by first | omega | (simp only [rN_wI, rN_wA, rN_wL]; omega)) (by first | omega | (simp only [rN_wI, rN_wA, rN_wL]; omega)), nI_clamp (by omega), nI_clamp (by omega), ecc, ga _ _ _ _ _ (by decide), t9', ga _ _ _ _ _ (by decide), i4, nI_add, ← Nat.add_assoc, g2]
-- any step
theorem SC_all {N : Nat} {c m : rs_T} {T : Nat → ts_T} {S E M : Nat → Nat} {F t : Nat} {w : Bool} {KK : Nat → Nat → kT} {ZZ : Nat → Nat → Int32} {QS QE : Nat → Nat} {G : List fr_T} {f at_ b s : Nat} {r : Bool} (h : IB c m T S E M F t w KK ZZ QS QE) (hR : R0 c m (vm m) T S E M F w KK G f at_ r b s) (hs1 : rI m 9 = 1) (hN : 5000 ≤ N) (ho : stp (v_o (vm m) at_)) : SC N c m T S E M F t w (v_o (vm m) at_) (v_a (vm m) at_) (v_b (vm m) at_) r := by
  have hno : ∀ x : Int32, x ∈ ([2, 3, 5, 11] : List Int32) → ¬ v_o (vm m) at_ = x := fun x hx e => by unfold stp at ho; rw [e] at ho; exact ho hx
  obtain ⟨p1, p2, p3, p4, p5, p6, -⟩ := pctx h hR (hno 11 (by decide))
  rcases nx_cases p5 with ⟨o, hne, -⟩ | ⟨hel, hc⟩
  · exact absurd p6.2.2 hne
  rcases hc with ⟨o, -⟩ | ⟨o, -⟩ | ⟨o, -⟩ | ⟨o, -⟩ | ⟨o, -⟩ | ⟨o, -⟩ | ⟨o, -⟩ | ⟨o, -⟩ | ⟨o, -⟩ | ⟨o, -⟩ | ⟨o, -⟩ | ⟨o, hp⟩
  · have := SR_0 (N := N) (a := v_a (vm m) at_) (b' := v_b (vm m) at_) h hR hs1 o
    rw [← o] at this; exact SR_SC this
  · rcases o with o | o
    · exact absurd o (hno 2 (by decide))
    · exact absurd o (hno 3 (by decide))
  · have := SC_4 (N := N) (a := v_a (vm m) at_) (b' := v_b (vm m) at_) h hR hs1 (by omega) o
    rw [← o] at this; exact this
  · exact absurd o (hno 5 (by decide))
  · exact absurd o (hno 11 (by decide))
  · have := SR_12 (N := N) (b' := v_b (vm m) at_) h hR hs1 (by omega) o
    rw [← o] at this; exact SR_SC this
  · have := SR_13 (N := N) (b' := v_b (vm m) at_) h hR hs1 (by omega) o
    rw [← o] at this; exact SR_SC this
  · have := SR_14 (N := N) (b' := v_b (vm m) at_) h hR hs1 (by omega) o
    rw [← o] at this; exact SR_SC this
  · have := SR_15 (N := N) (a := v_a (vm m) at_) (b' := v_b (vm m) at_) h hR hs1 (by omega) o
    rw [← o] at this; exact SR_SC this
  · have := SR_16 (N := N) (b' := v_b (vm m) at_) h hR hs1 hN o
    rw [← o] at this; exact SR_SC this
  · have := SR_17 (N := N) h hR hs1 hN o
    rw [← o] at this; exact SR_SC this
  · obtain ⟨n0, k0, har, -, -⟩ := plain_some hp
    rcases ar_cases har with ⟨ho, -, -⟩ | ⟨ho, -, -⟩ | ⟨ho, -, -⟩ | ⟨ho, -, -⟩ | ⟨ho, -, -⟩ | ⟨ho, -, -⟩ | ⟨ho, -, -⟩ | ⟨ho, -, -⟩
    · have o1 : v_o (vm m) at_ = 1 := by simpa using ho
      have := SR_1 (N := N) (a := v_a (vm m) at_) (b' := v_b (vm m) at_) h hR hs1 o1
      rw [← o1] at this; exact SR_SC this
    · simp only [List.mem_cons, List.not_mem_nil, or_false] at ho
      rcases ho with o1 | o1 | o1
      · have := SR_26 (N := N) (a := v_a (vm m) at_) (b' := v_b (vm m) at_) h hR hs1 o1
        rw [← o1] at this; exact SR_SC this
      · exact SR_SC (SR_set h hR hs1 rfl (Or.inl o1))
      · have := SR_36 (N := N) (b' := v_b (vm m) at_) h hR hs1 o1
        rw [← o1] at this; exact SR_SC this
    · have o1 : v_o (vm m) at_ = 27 := by simpa using ho
      have := SR_27 (N := N) (a := v_a (vm m) at_) (b' := v_b (vm m) at_) h hR hs1 o1
      rw [← o1] at this; exact SR_SC this
    · simp only [List.mem_cons, List.not_mem_nil, or_false] at ho
      rcases ho with o1 | o1 | o1 | o1 | o1
      · have := SR_32 (N := N) (b' := v_b (vm m) at_) h hR hs1 o1
        rw [← o1] at this; exact SR_SC this
      · have := SR_35 (N := N) (b' := v_b (vm m) at_) h hR hs1 o1
        rw [← o1] at this; exact SR_SC this
      · have := SR_63 (N := N) (a := v_a (vm m) at_) (b' := v_b (vm m) at_) h hR hs1 o1
        rw [← o1] at this; exact SR_SC this
      · exact SR_SC (SR_65 h hR hs1 rfl (Or.inl o1))
      · exact SR_SC (SR_65 h hR hs1 rfl (Or.inr o1))
    · by_cases h34 : v_o (vm m) at_ = 34
      · exact SR_SC (SR_set h hR hs1 rfl (Or.inr h34))
      · by_cases h64 : v_o (vm m) at_ = 64
        · have := SR_64 (N := N) (a := v_a (vm m) at_) (b' := v_b (vm m) at_) h hR hs1 h64
          rw [← h64] at this; exact SR_SC this
        · refine SR_SC (SR_69 h hR hs1 rfl ?_)
          simp only [List.mem_cons, List.not_mem_nil, or_false] at ho ⊢
          rcases ho with z | z | z | z | z | z
          · exact absurd z h34
          · exact absurd z h64
          · exact Or.inl z
          · exact Or.inr (Or.inl z)
          · exact Or.inr (Or.inr (Or.inl z))
          · exact Or.inr (Or.inr (Or.inr z))
    · exact SR_SC (SR_70 h hR hs1 rfl ho)
    · exact SR_SC (SR_40 h hR hs1 rfl ho (by omega))
    · exact SR_SC (SR_54 h hR hs1 rfl ho (by omega))
