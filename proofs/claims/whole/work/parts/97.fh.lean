-- ===== one step: operators of two, loads =====
theorem wb_X {c m c1 m1 : rs_T} {F : Nat} {w : Bool} {j b s : Nat} (h : wb c m F w) (hc : cX c c1 j b) (hm : mX m m1 s) (c9 : rI c1 9 = rI c 9) (c16 : ∀ x, rA c1 16 x = rA c 16 x) (cL : ∀ x, rL c1 1 x = rL c 1 x) (m7 : rI m1 7 = rI m 7) (m17 : ∀ x, rA m1 17 x = rA m 17 x) (mL : ∀ x, rL m1 0 x = rL m 0 x) : wb c1 m1 F w := by
  refine wb_congr h (fun _ z => z) (fun q hq => ?_) (fun i x hi => ?_) (fun i x hi => ?_) (fun q hq => ?_) (fun i x hi => ?_) (fun i x hi => ?_)
  · rcases hq with z | z
    · exact hc.1 q (by omega) (by omega) (by omega) (by omega)
    · subst z; exact c9
  · rcases hi with z | z
    · subst z; exact hc.2.1 15 x (by decide) (by omega) (by omega)
    · subst z; exact c16 x
  · have : i = 0 ∨ i = 1 := by omega
    rcases this with z | z
    · subst z; exact (hc.2.2.1 x).1
    · subst z; exact cL x
  · rcases hq with z | z | z
    · subst z; exact m7
    · subst z; exact hm.1 8 (by decide) (by decide) (by decide) (by decide) (by decide)
    · subst z; exact hm.1 17 (by decide) (by decide) (by decide) (by decide) (by decide)
  · rcases hi with z | z
    · subst z; exact hm.2.1 16 x (by decide)
    · subst z; exact m17 x
  · have : i = 0 ∨ i = 1 := by omega
    rcases this with z | z
    · subst z; exact mL x
    · subst z; exact (hm.2.2.1 x).1
-- a trap: the reference's state and the class's
theorem tm_X {m mm : rs_T} (h : m13 m mm) (x y : Int32) (s : Nat) : mX m (wI (wI (wI mm 9 3) 10 x) 15 y) s ∧ rI (wI (wI (wI mm 9 3) 10 x) 15 y) 9 = 3 ∧ rI (wI (wI (wI mm 9 3) 10 x) 15 y) 10 = x ∧ rI (wI (wI (wI mm 9 3) 10 x) 15 y) 7 = rI m 7 ∧ (∀ z, rA (wI (wI (wI mm 9 3) 10 x) 15 y) 17 z = rA m 17 z) ∧ ∀ z, rL (wI (wI (wI mm 9 3) 10 x) 15 y) 0 z = rL m 0 z := by
  refine ⟨⟨fun k k1 k2 k3 k4 k5 => ?_, fun i z _ => ?_, fun z => ⟨?_, ?_⟩, fun z _ => ?_⟩, ?_, ?_, ?_, fun z => ?_, fun z => ?_⟩
  · rw [rI_wn k5, rI_wn k3, rI_wn k2]; exact h.1 k k4
  · exact h.2.1 i z
  · exact h.2.2 1 z
  · exact h.2.2 3 z
  · exact h.2.2 2 z
  · rw [rI_wn (by decide), rI_wn (by decide), rI_ws]
  · rw [rI_wn (by decide), rI_ws]
  · rw [rI_wn (by decide), rI_wn (by decide), rI_wn (by decide)]; exact h.1 7 (by decide)
  · exact h.2.1 17 z
  · exact h.2.2 0 z
theorem tc_X {c cc : rs_T} {j i : Nat} (h : c18 c cc j i) (x : Int32) (b : Nat) : cX c (wI (wI cc 12 x) 11 3) j b ∧ rI (wI (wI cc 12 x) 11 3) 11 = 3 ∧ rI (wI (wI cc 12 x) 11 3) 12 = x ∧ rI (wI (wI cc 12 x) 11 3) 9 = rI c 9 ∧ (∀ z, rA (wI (wI cc 12 x) 11 3) 16 z = rA c 16 z) ∧ ∀ z, rL (wI (wI cc 12 x) 11 3) 1 z = rL c 1 z := by
  refine ⟨⟨fun k k1 k2 k3 k4 => ?_, fun i z k1 k2 k3 => ?_, fun z => ⟨?_, ?_⟩, fun z _ => ?_⟩, ?_, ?_, ?_, fun z => ?_, fun z => ?_⟩
  · rw [rI_wn k2, rI_wn k3]; exact h.1 k
  · exact h.2.2.1 i z k2 k3
  · exact h.2.2.2 0 z
  · exact h.2.2.2 3 z
  · exact h.2.2.2 2 z
  · rw [rI_ws]
  · rw [rI_wn (by decide), rI_ws]
  · rw [rI_wn (by decide), rI_wn (by decide)]; exact h.1 9
  · exact h.2.2.1 16 z (by omega) (by omega)
  · exact h.2.2.2 1 z
theorem tg_X {c : rs_T} {j q : Nat} (x : Int32) (b : Nat) : cX c (wI (wI (wA (wI c 17 0) 18 j (nI (q + 1))) 12 x) 11 3) j b ∧ rI (wI (wI (wA (wI c 17 0) 18 j (nI (q + 1))) 12 x) 11 3) 11 = 3 ∧ rI (wI (wI (wA (wI c 17 0) 18 j (nI (q + 1))) 12 x) 11 3) 12 = x ∧ rI (wI (wI (wA (wI c 17 0) 18 j (nI (q + 1))) 12 x) 11 3) 9 = rI c 9 ∧ (∀ z, rA (wI (wI (wA (wI c 17 0) 18 j (nI (q + 1))) 12 x) 11 3) 16 z = rA c 16 z) ∧ (∀ z, rL (wI (wI (wA (wI c 17 0) 18 j (nI (q + 1))) 12 x) 11 3) 1 z = rL c 1 z) ∧ rI (wI (wI (wA (wI c 17 0) 18 j (nI (q + 1))) 12 x) 11 3) 17 = 0 := by
  refine ⟨⟨fun k k1 k2 k3 k4 => ?_, fun i z k1 k2 k3 => ?_, fun z => ⟨rfl, rfl⟩, fun z _ => rfl⟩, ?_, ?_, ?_, fun z => ?_, fun z => rfl, ?_⟩
  · rw [rI_wn k2, rI_wn k3, rI_wA, rI_wn k4]
  · rw [rA_wI, rA_wI, rA_wA, if_neg k2, rA_wI]
  · rw [rI_ws]
  · rw [rI_wn (by decide), rI_ws]
  · rw [rI_wn (by decide), rI_wn (by decide), rI_wA, rI_wn (by decide)]
  · rw [rA_wI, rA_wI, rA_wn (by decide), rA_wI]
  · rw [rI_wn (by decide), rI_wn (by decide), rI_wA, rI_ws]
-- the running frame in registers, one step paid
theorem R0_tR {c m : rs_T} {T : Nat → ts_T} {S E M : Nat → Nat} {F t : Nat} {w : Bool} {KK : Nat → Nat → kT} {ZZ : Nat → Nat → Int32} {QS QE : Nat → Nat} {G : List fr_T} {f at_ b s : Nat} (h : IB c m T S E M F t w KK ZZ QS QE) (hR : R0 c m (vm m) T S E M F w KK G f at_ true b s) (hs1 : rI m 9 = 1) : ∃ sz, (sz ≤ 1100 ∧ sz ≤ rN c 2 ∧ rN c 2 ≤ 3000) ∧ QE f ≤ sz ∧ tR (wI c 17 (rI c 17 + 1)) G.length b sz (KK f at_).1 ((KK f at_).2.1 + 1) ∧ tR c G.length b sz (KK f at_).1 (KK f at_).2.1 := by
  obtain ⟨r1, ⟨hfC, hfV, b3, b4, b5, b6, b7, b8, b9, b10⟩, r3, r4, r5⟩ := hR
  obtain ⟨a1, a2, a3, a4, a5, a6, a7, a8, a9, a10, a11, a12⟩ := id hfC
  obtain ⟨sz, z1, z2, z3, z4, z5, z6, z7, z8⟩ := rg_ctx h hfC
  obtain ⟨b101, b102⟩ := b10 rfl
  have hst : rI c 11 = 1 := by rw [h.2.2.2.1]; exact hs1
  refine ⟨sz, z2, z3, ⟨?_, ?_, ?_, r3, a6, b101, ?_, (by first | omega | (simp only [rN_wI, rN_wA, rN_wL]; omega)), a4, ?_⟩, ⟨hst, b7, r4, r3, a6, b101, z1, by omega, a4, b102⟩⟩
  · rw [rI_wn (by decide)]; exact hst
  · rw [rI_wn (by decide)]; exact b7
  · rw [rI_wn (by decide)]; exact r4
  · rw [rI_wn (by decide)]; exact z1
  · rw [rI_ws, b102, nI_1]
theorem SR_70 {N : Nat} {c m : rs_T} {T : Nat → ts_T} {S E M : Nat → Nat} {F t : Nat} {w : Bool} {KK : Nat → Nat → kT} {ZZ : Nat → Nat → Int32} {QS QE : Nat → Nat} {G : List fr_T} {f at_ b s : Nat} {r : Bool} {o a b' : Int32} (h : IB c m T S E M F t w KK ZZ QS QE) (hR : R0 c m (vm m) T S E M F w KK G f at_ r b s) (hs1 : rI m 9 = 1) (ho : v_o (vm m) at_ = o) (hoo : o ∈ ([70, 71, 72, 73, 81, 83, 106, 107, 108, 110, 113, 116, 124, 125, 126] : List Int32)) : SR N c m T S E M F t w o a b' r := by
  obtain ⟨k1, k2, k3, k4, k5, k6, k7⟩ := ar_70 hoo
  obtain ⟨p1, p2, p3, p4, -⟩ := pl_ctx h hR ho k2 k1
  obtain ⟨x1, x2, x3, x4, x5, x6, x7, x8, x9, x10, x11, x12, x13, x14, x15, x16, x17, -⟩ := cx h hR
  obtain ⟨h', hh⟩ : ∃ h', (T at_).2.2.1 = h' + 2 := ⟨(T at_).2.2.1 - 2, by omega⟩
  rw [hh] at x13 x15 x11 p3
  have h7 : rA c 7 at_ = o := (x1.1 at_).1.trans ho
  have x13 : rI m 13 = nI (s + nm (vm m) f + h' + 2) := x13
  have hmm := m13_w (nI (s + nm (vm m) f + h')) (m13_w (nI (s + nm (vm m) f + h' + 1)) (m13_0 m))
  -- the class with a stack, up to the two operands
  have hst : r = false → fx_Sr_perform N c = fx_Sr_operate_b17 (nI G.length) o (rL m 2 (s + nm (vm m) f + h' + 1)) (wA (wA c 18 G.length (nI (at_ + 1))) 20 G.length (nI (b + nm (vm m) f + h' + 1))) ∧ fx_Sr_pop (nI G.length) (wA (wA c 18 G.length (nI (at_ + 1))) 20 G.length (nI (b + nm (vm m) f + h' + 1))) = some (rL m 2 (s + nm (vm m) f + h'), wA (wA (wA c 18 G.length (nI (at_ + 1))) 20 G.length (nI (b + nm (vm m) f + h' + 1))) 20 G.length (nI (b + nm (vm m) f + h'))) := by
    intro hr
    subst hr
    obtain ⟨r1, ⟨-, -, -, -, -, -, -, -, b9, -⟩, -⟩ := hR
    obtain ⟨c18', c20, c17⟩ := b9 rfl
    rw [hh] at c20
    have v0 := sv (x := h') x15 (by omega) (by omega)
    have v1 : rL c 2 (b + nm (vm m) f + h' + 1) = rL m 2 (s + nm (vm m) f + h' + 1) := sv (x := h' + 1) x15 (by omega) (by omega)
    refine ⟨?_, ?_⟩
    · rw [sp_eq x6 x5 x2 c18' x3 x4, h7, if_neg k5]
      unfold fx_Sr_operate fx_Op_operatorTakes
      rw [if_neg k7, if_pos hoo, bn_s, if_pos rfl, s_pop (P := b + nm (vm m) f + h' + 1) x5 (by rw [rA_wn (by decide)]; exact c20) (by omega), bn_s, rL_wA, v1]
    · rw [s_pop (P := b + nm (vm m) f + h') x5 (by rw [rA_wss]) (by omega), rL_wA, rL_wA, v0]
  have hgt : r = true → fx_Rr_perform N (nI (KK f at_).1) (wI c 17 0) = bn (fx_Op_dividesByZero o (rL m 2 (s + nm (vm m) f + h' + 1)) (wA (wI c 17 0) 18 G.length (nI ((KK f at_).1 + 1)))) (fun r8 st7 => if r8 = (0 : Int32) then (gd (nI (KK f at_).1) (rN st7 2) (bn (fx_Op_compute o (rL m 2 (s + nm (vm m) f + h')) (rL m 2 (s + nm (vm m) f + h' + 1)) st7) (fun r12 st11 => bv (fx_Rr_setRegister (nI G.length) (rA st7 25 (KK f at_).1) r12 st11) (fun st13 => some st13)))) else (bv (fx_Ac_fail 11 st7) (fun st14 => some st14))) ∧ rA c 24 (KK f at_).1 = nI ((KK f at_).2.1 + 1) ∧ KK f (at_ + 1) = ((KK f at_).1 + 1, 0, kw (nm (vm m) f) (KK f at_).2.2 h') ∧ rA c 25 (KK f at_).1 = nI (nm (vm m) f + h') ∧ (KK f at_).1 < rN c 2 := by
    intro hr
    subst hr
    obtain ⟨r1, ⟨hfC, -⟩, -⟩ := hR
    obtain ⟨sz, z1, z2, z3, z4, z5, z6, z7, z8⟩ := rg_ctx h hfC
    unfold kcV at z5
    rw [ho, hh] at z5
    obtain ⟨y1, y2⟩ := z5.2.2.2.2.2.2.2.2.2.2.2.2.2.1 hoo
    have y1 : ci c (KK f at_).1 o (nI ((KK f at_).2.1 + 1)) (nI (nm (vm m) f + h')) ((KK f at_).2.2 h') ((KK f at_).2.2 (h' + 1)) 0 := y1
    obtain ⟨v0, w0⟩ := gv (x := h') x15 (by omega)
    obtain ⟨v1, w1⟩ := gv (x := h' + 1) x15 (by omega)
    have v1 : ev c (vm m) b ((KK f at_).2.2 (h' + 1)) = rL m 2 (s + nm (vm m) f + h' + 1) := v1
    have hq := z8.1
    obtain ⟨i1, i2, i3, i4, i5, i6⟩ := y1
    refine ⟨?_, i2, y2, i3, by omega⟩
    rw [rp_eq (j := G.length) (by rw [rI_wn (by decide)]; exact x6) x5 (by first | omega | (simp only [rN_wI, rN_wA, rN_wL]; omega))]
    rw [rA_wI, rA_wI, rA_wI, i1, if_neg k6, if_neg k5]
    unfold fx_Rr_operate
    rw [gd_k (by first | omega | (simp only [rN_wI, rN_wA, rN_wL]; omega)) (by first | omega | (simp only [rN_wI, rN_wA, rN_wL]; omega)), nI_clamp (by omega), ga _ _ _ _ _ (by decide), i4, gr (n := nm (vm m) f) (x := h') x1 x5 x8 w0 (by omega), bn_s, gd_k (by first | omega | (simp only [rN_wI, rN_wA, rN_wL]; omega)) (by first | omega | (simp only [rN_wI, rN_wA, rN_wL]; omega)), ga _ _ _ _ _ (by decide), i5, gr (n := nm (vm m) f) (x := h' + 1) x1 x5 x8 w1 (by omega), bn_s, v0, v1]
  rcases wk2_all hoo x13 (by omega) with ⟨w1, w3⟩ | ⟨v, w1, w2, w3⟩
  · obtain ⟨e1, e2, e3, e4, e5, e6⟩ := tm_X hmm 11 (nI (at_ + 1)) s
    refine SR_trap (j := G.length) (b := b) (s := s) (x := 11) h hs1 (m1 := wI (wI (wI (wI (wI m 13 (nI (s + nm (vm m) f + h' + 1))) 13 (nI (s + nm (vm m) f + h'))) 9 3) 10 11) 15 (nI (at_ + 1))) ?_ e1 e2 e3 (fun hr => ?_) (fun hr => ?_)
    · rw [msb_s k3, sm_w k4, w3, bv_s, b155 (by simp (disch := omega) only [bn_s, bv_s, bd_s, gb_0, gb_1, rI_ws, rI_wn, rI_wA, rI_wL, rA_wI, rA_wL, rL_wI, rL_wA, rA_wss, rA_wn, rA_wsn, rL_wss, rL_wn, rL_wsn, rN_wI, rN_wA, rN_wL]; exact x14)]
    · obtain ⟨s1, s2⟩ := hst hr
      obtain ⟨d1, d2, d3, d4, d5, d6⟩ := tc_X (c18_w (nI (b + nm (vm m) f + h')) (c18_w (nI (b + nm (vm m) f + h' + 1)) (c18_0 c G.length at_))) 11 b
      refine ⟨_, ?_, d1, wb_X h.2.1 d1 e1 d4 d5 d6 e4 e5 e6, d2, d3⟩
      rw [s1]
      unfold fx_Sr_operate_b17 fx_Ac_fail
      rw [s2, bn_s, w1, bn_s, if_neg (by decide), bv_s]
    · obtain ⟨g1, g2, g3, g4, g5⟩ := hgt hr
      obtain ⟨d1, d2, d3, d4, d5, d6, d7⟩ := tg_X (c := c) (j := G.length) (q := (KK f at_).1) 11 b
      subst hr
      obtain ⟨sz, z1, z2, z3, z4⟩ := R0_tR h hR hs1
      have hq : (KK f at_).1 < sz := by
        obtain ⟨-, ⟨hfC, -⟩, -⟩ := hR
        obtain ⟨_, -, -, -, -, -, -, -, z8⟩ := rg_ctx h hfC
        have := z8.1
        omega
      refine ⟨_, 1, by omega, vl_1 (tR_vq (q := (KK f at_).1) z3 hq (by rw [rA_wI]; exact g2) ?_ d7), rfl, d1, wb_X h.2.1 d1 e1 d4 d5 d6 e4 e5 e6, d2, d3⟩
      rw [wI_wI, g1, w1, bn_s, if_neg (by decide)]
      unfold fx_Ac_fail
      rw [bv_s]
  · refine SR_p2 (h1 := h') (v := v) h hR hs1 p1 p4 (by omega) (by omega) ⟨_, hmm, ?_⟩ (fun hr => ?_) (fun hr => ?_)
    · rw [msb_s k3, sm_w k4, w3, bv_s, b155 (by simp (disch := omega) only [bn_s, bv_s, bd_s, gb_0, gb_1, rI_ws, rI_wn, rI_wA, rI_wL, rA_wI, rA_wL, rL_wI, rL_wA, rA_wss, rA_wn, rA_wsn, rL_wss, rL_wn, rL_wsn, rN_wI, rN_wA, rN_wL]; exact x14)]
    · obtain ⟨s1, s2⟩ := hst hr
      refine ⟨_, c18_w (nI (b + nm (vm m) f + h')) (c18_w (nI (b + nm (vm m) f + h' + 1)) (c18_0 c G.length at_)), ?_⟩
      rw [s1]
      unfold fx_Sr_operate_b17
      rw [s2, bn_s, w1, bn_s, if_pos rfl, w2, bn_s, s_push x5 (by rw [rA_wss]) (by omega), bv_s]
    · obtain ⟨g1, g2, g3, g4, g5⟩ := hgt hr
      refine ⟨?_, g2, g3⟩
      rw [g1, w1, bn_s, if_pos rfl, gd_k (by first | omega | (simp only [rN_wI, rN_wA, rN_wL]; omega)) (by first | omega | (simp only [rN_wI, rN_wA, rN_wL]; omega)), w2, bn_s, ga _ _ _ _ _ (by decide), g4, gp (N := N) x6 x5 x8 (by omega) (by omega), bv_s, Nat.add_assoc]
