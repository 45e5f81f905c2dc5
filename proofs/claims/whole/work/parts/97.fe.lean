-- ===== one step: plain instructions (select, globals, pages) =====
theorem nx_plain {V : vw_T} {f i : Nat} {T T2 : ts_T} (h : t_nx V f i T = some T2) (ho : ¬ v_o V i ∈ ([0, 2, 3, 4, 5, 6, 11, 12, 13, 14, 15, 16, 17] : List Int32)) : t_plain V f i T = some T2 := by
  have hh : ∀ x : Int32, v_o V i = x → x ∈ ([0, 2, 3, 4, 5, 6, 11, 12, 13, 14, 15, 16, 17] : List Int32) → False := fun x e hx => by rw [← e] at hx; exact ho hx
  rcases nx_cases h with ⟨o, -, -⟩ | ⟨-, hc⟩
  · exact absurd (by decide) (hh 6 o)
  rcases hc with ⟨o, -⟩ | ⟨o, -⟩ | ⟨o, -⟩ | ⟨o, -⟩ | ⟨o, -⟩ | ⟨o, -⟩ | ⟨o, -⟩ | ⟨o, -⟩ | ⟨o, -⟩ | ⟨o, -⟩ | ⟨o, -⟩ | ⟨-, hp⟩
  · exact absurd (by decide) (hh 0 o)
  · rcases o with o | o
    · exact absurd (by decide) (hh 2 o)
    · exact absurd (by decide) (hh 3 o)
  · exact absurd (by decide) (hh 4 o)
  · exact absurd (by decide) (hh 5 o)
  · exact absurd (by decide) (hh 11 o)
  · exact absurd (by decide) (hh 12 o)
  · exact absurd (by decide) (hh 13 o)
  · exact absurd (by decide) (hh 14 o)
  · exact absurd (by decide) (hh 15 o)
  · exact absurd (by decide) (hh 16 o)
  · exact absurd (by decide) (hh 17 o)
  · exact hp
theorem cx {c m : rs_T} {T : Nat → ts_T} {S E M : Nat → Nat} {F t : Nat} {w : Bool} {KK : Nat → Nat → kT} {ZZ : Nat → Nat → Int32} {QS QE : Nat → Nat} {G : List fr_T} {f at_ b s : Nat} {r : Bool} (h : IB c m T S E M F t w KK ZZ QS QE) (hR : R0 c m (vm m) T S E M F w KK G f at_ r b s) : pv c (vm m) ∧ rI c 4 = nI t ∧ at_ < t ∧ (t ≤ 512 ∧ t ≤ rN c 0 ∧ rN c 0 ≤ 1500 ∧ rN c 2 ≤ 3000) ∧ G.length < 30 ∧ rI c 14 = nI (G.length + 1) ∧ rI m 12 = nI (G.length + 1) ∧ rA c 19 G.length = nI b ∧ rA m 19 G.length = nI s ∧ b + nm (vm m) f + M f ≤ 220 ∧ (T at_).2.2.1 ≤ M f ∧ s ≤ b ∧ rI m 13 = nI (s + nm (vm m) f + (T at_).2.2.1) ∧ rI m 15 = nI at_ ∧ fV c m (vm m) (nm (vm m) f) (wf KK (nm (vm m) f) f at_ r) b s (T at_).2.2.1 ∧ nm (vm m) f ≤ 16 ∧ f < 40 ∧ (at_ + 1 < E f ∨ v_o (vm m) at_ = 11) := by
  obtain ⟨r1, ⟨⟨a1, a2, a3, a4, a5, a6, a7, a8, a9, a10, a11, a12⟩, b2', b3, b4, b5, b6, b7, b8, b9, b10⟩, r3, r4, r5⟩ := hR
  obtain ⟨h1, h2, h3, h4, h5, h6, h7, h8, h9, h10, h11, h12, h13, h14⟩ := id h.1
  obtain ⟨-, -, -, -, -, -, a7', a8'⟩ := h10 f a3.1
  obtain ⟨f1, f2, f3, f4, f5, f6, f7, f8, f9⟩ := pb_fn h.1 a3.1
  obtain ⟨hWf, -, -, -⟩ := pb_Wf h.1 a3
  have hln := pb_ln h.1
  refine ⟨⟨fun i => h8.1 i, hln.2.2.2, hln.2.1⟩, h5, by omega, ⟨h2, hln.1, hln.2.1, hln.2.2.1⟩, r3, r4, r5, a4, a5, a8, b8, a7, b3, b6, b2', ?_, ?_, ?_⟩
  · unfold nm; omega
  · have := a3.1; omega
  · by_cases z : at_ + 1 < E f
    · exact Or.inl z
    · refine Or.inr ?_
      have e : at_ = E f - 1 := by omega
      rw [e]; exact hWf.2.2.2.1.1
theorem pl_ctx {c m : rs_T} {T : Nat → ts_T} {S E M : Nat → Nat} {F t : Nat} {w : Bool} {KK : Nat → Nat → kT} {ZZ : Nat → Nat → Int32} {QS QE : Nat → Nat} {G : List fr_T} {f at_ b s : Nat} {r : Bool} {o : Int32} {n0 k0 : Nat} (h : IB c m T S E M F t w KK ZZ QS QE) (hR : R0 c m (vm m) T S E M F w KK G f at_ r b s) (ho : v_o (vm m) at_ = o) (hno : ¬ o ∈ ([0, 2, 3, 4, 5, 6, 11, 12, 13, 14, 15, 16, 17] : List Int32)) (har : t_ar o = some (n0, k0)) : at_ + 1 < E f ∧ n0 ≤ (T at_).2.2.1 ∧ (T (at_ + 1)).2.2.1 = (T at_).2.2.1 - n0 + k0 ∧ tl (T (at_ + 1)) ∧ t_lim (vm m) f o (v_a (vm m) at_) = true := by
  have hcx := cx h hR
  obtain ⟨r1, ⟨⟨a1, a2, a3, a4, a5, a6, a7, a8, a9, a10, a11, a12⟩, -⟩, -⟩ := hR
  obtain ⟨hWf, -, hE, -⟩ := pb_Wf h.1 a3
  have hlt : at_ + 1 < E f := by
    rcases hcx.2.2.2.2.2.2.2.2.2.2.2.2.2.2.2.2.2 with z | z
    · exact z
    · rw [ho] at z; subst z; exact absurd (by decide) hno
  have hx := hWf.2.2.1.2.1 at_ a9 (by omega)
  have hp := nx_plain hx (by rw [ho]; exact hno)
  obtain ⟨n1, k1, e1, e2, e3⟩ := plain_some hp
  rw [ho, har] at e1
  have e1 := Option.some.inj e1
  obtain ⟨rfl, rfl⟩ := Prod.mk.inj e1
  obtain ⟨t1, t2, t3⟩ := tl_tu a11 e3
  rw [ho] at e2
  exact ⟨hlt, t1, by rw [t2], t3, e2⟩
theorem sv {c m : rs_T} {V : vw_T} {KK : Nat → Nat → kT} {n f at_ b s h x : Nat} (hf : fV c m V n (wf KK n f at_ false) b s h) (hx : x < h) (hb : n + x < 1000) : rL c 2 (b + n + x) = rL m 2 (s + n + x) := by
  have := hf.2.1 x hx
  have e : wf KK n f at_ false x = nI (n + x) := rfl
  rw [e, ev_n (by omega)] at this
  rw [Nat.add_assoc]; exact this
theorem gv {c m : rs_T} {V : vw_T} {KK : Nat → Nat → kT} {n f at_ b s h x : Nat} (hf : fV c m V n (wf KK n f at_ true) b s h) (hx : x < h) : ev c V b ((KK f at_).2.2 x) = rL m 2 (s + n + x) ∧ wok V n x ((KK f at_).2.2 x) := ⟨hf.2.1 x hx, hf.2.2 x hx⟩
-- reading in the class with registers: the state where an instruction is done
theorem gr {c : rs_T} {V : vw_T} {j b q n x : Nat} {u : Int32} (hp : pv c V) (hj : j < 30) (hb : rA c 19 j = nI b) (hu : wok V n x u) (hx : b + n + x < 220) : fx_Rr_read (nI j) u (wA (wI c 17 0) 18 j (nI (q + 1))) = some (ev c V b u, wA (wI c 17 0) 18 j (nI (q + 1))) := by
  have hr := rd_ev (c := wA (wI c 17 0) 18 j (nI (q + 1))) (V := V) (b := b) (j := j) (n := n) (x := x) (w := u) ⟨fun i => by rw [rA_wn (by decide), rA_wn (by decide), rA_wn (by decide)]; exact hp.1 i, fun i hi => by rw [rA_wn (by decide)]; exact hp.2.1 i hi, hp.2.2⟩ hj (by rw [rA_wn (by decide)]; exact hb) hu hx
  rw [hr, ev_same (c := c) (fun y => by rw [rL_wA, rL_wI])]
theorem SR_27 {N : Nat} {c m : rs_T} {T : Nat → ts_T} {S E M : Nat → Nat} {F t : Nat} {w : Bool} {KK : Nat → Nat → kT} {ZZ : Nat → Nat → Int32} {QS QE : Nat → Nat} {G : List fr_T} {f at_ b s : Nat} {r : Bool} {a b' : Int32} (h : IB c m T S E M F t w KK ZZ QS QE) (hR : R0 c m (vm m) T S E M F w KK G f at_ r b s) (hs1 : rI m 9 = 1) (ho : v_o (vm m) at_ = 27) : SR N c m T S E M F t w 27 a b' r := by
  obtain ⟨p1, p2, p3, p4, -⟩ := pl_ctx (n0 := 3) (k0 := 1) h hR ho (by decide) (by decide)
  obtain ⟨x1, x2, x3, x4, x5, x6, x7, x8, x9, x10, x11, x12, x13, x14, x15, x16, x17, -⟩ := cx h hR
  obtain ⟨h', hh⟩ : ∃ h', (T at_).2.2.1 = h' + 3 := ⟨(T at_).2.2.1 - 3, by omega⟩
  rw [hh] at x13 x15 x11 p3
  obtain ⟨n, en⟩ : ∃ n, n = nm (vm m) f := ⟨_, rfl⟩
  have h7 : rA c 7 at_ = 27 := (x1.1 at_).1.trans ho
  refine SR_push (h1 := h') (v := if (rL m 2 (s + nm (vm m) f + h' + 2)).toInt32 = 0 then rL m 2 (s + nm (vm m) f + h' + 1) else rL m 2 (s + nm (vm m) f + h')) h hR hs1 p1 p4 (by omega) (by omega) ?_ (fun hr => ?_) (fun hr => ?_)
  · have q1 := m_pop (P := s + nm (vm m) f + h' + 2) x13 (by omega)
    have q2 : fx_Md_pop (wI m 13 (nI (s + nm (vm m) f + h' + 2))) = some (rL m 2 (s + nm (vm m) f + h' + 1), wI (wI m 13 (nI (s + nm (vm m) f + h' + 2))) 13 (nI (s + nm (vm m) f + h' + 1))) := m_pop (by rw [rI_ws]) (by omega)
    have q3 : fx_Md_pop (wI (wI m 13 (nI (s + nm (vm m) f + h' + 2))) 13 (nI (s + nm (vm m) f + h' + 1))) = some (rL m 2 (s + nm (vm m) f + h'), wI (wI (wI m 13 (nI (s + nm (vm m) f + h' + 2))) 13 (nI (s + nm (vm m) f + h' + 1))) 13 (nI (s + nm (vm m) f + h'))) := m_pop (by rw [rI_ws]) (by omega)
    have q4 := fun v => m_push (m := wI (wI (wI m 13 (nI (s + nm (vm m) f + h' + 2))) 13 (nI (s + nm (vm m) f + h' + 1))) 13 (nI (s + nm (vm m) f + h'))) (P := s + nm (vm m) f + h') (v := v) (by rw [rI_ws]) (by omega)
    refine ⟨wI (wI (wL (wI (wI (wI m 13 (nI (s + nm (vm m) f + h' + 2))) 13 (nI (s + nm (vm m) f + h' + 1))) 13 (nI (s + nm (vm m) f + h'))) 2 (s + nm (vm m) f + h') (if (rL m 2 (s + nm (vm m) f + h' + 2)).toInt32 = 0 then rL m 2 (s + nm (vm m) f + h' + 1) else rL m 2 (s + nm (vm m) f + h'))) 13 (nI (s + nm (vm m) f + h' + 1))) 15 (nI (at_ + 1)), ?_, fun k k1 k2 => ?_, ?_, ?_, fun i x => ?_, fun i y hy => ?_, ?_⟩
    · rw [msb_s (by decide)]
      unfold fx_Md_simple fx_Md_choose fx_Md_choose_b30 fx_Md_simple_b155
      rw [if_neg (by decide), if_pos rfl, q1, bn_s, m_true, bn_s, q2, bn_s, q3, bn_s]
      by_cases e : (rL m 2 (s + nm (vm m) f + h' + 2)).toInt32 = 0
      · rw [if_pos e, if_pos rfl, if_pos e, q4, bv_s, bv_s]
        simp (disch := omega) only [bn_s, bv_s, bd_s, gb_0, gb_1, rI_ws, rI_wn, rI_wA, rI_wL, rA_wI, rA_wL, rL_wI, rL_wA, rA_wss, rA_wn, rA_wsn, rL_wss, rL_wn, rL_wsn, rN_wI, rN_wA, rN_wL]
        rw [x14, nI_1]
      · rw [if_neg e, if_neg (by decide), if_neg e, q4, bv_s, bv_s]
        simp (disch := omega) only [bn_s, bv_s, bd_s, gb_0, gb_1, rI_ws, rI_wn, rI_wA, rI_wL, rA_wI, rA_wL, rL_wI, rL_wA, rA_wss, rA_wn, rA_wsn, rL_wss, rL_wn, rL_wsn, rN_wI, rN_wA, rN_wL]
        rw [x14, nI_1]
    · simp (disch := omega) only [bn_s, bv_s, bd_s, gb_0, gb_1, rI_ws, rI_wn, rI_wA, rI_wL, rA_wI, rA_wL, rL_wI, rL_wA, rA_wss, rA_wn, rA_wsn, rL_wss, rL_wn, rL_wsn, rN_wI, rN_wA, rN_wL]
    · simp (disch := omega) only [bn_s, bv_s, bd_s, gb_0, gb_1, rI_ws, rI_wn, rI_wA, rI_wL, rA_wI, rA_wL, rL_wI, rL_wA, rA_wss, rA_wn, rA_wsn, rL_wss, rL_wn, rL_wsn, rN_wI, rN_wA, rN_wL]
    · simp (disch := omega) only [bn_s, bv_s, bd_s, gb_0, gb_1, rI_ws, rI_wn, rI_wA, rI_wL, rA_wI, rA_wL, rL_wI, rL_wA, rA_wss, rA_wn, rA_wsn, rL_wss, rL_wn, rL_wsn, rN_wI, rN_wA, rN_wL]
    · simp (disch := omega) only [bn_s, bv_s, bd_s, gb_0, gb_1, rI_ws, rI_wn, rI_wA, rI_wL, rA_wI, rA_wL, rL_wI, rL_wA, rA_wss, rA_wn, rA_wsn, rL_wss, rL_wn, rL_wsn, rN_wI, rN_wA, rN_wL]
    · rw [rL_wI, rL_wI, rL_wL, if_neg hy, rL_wI, rL_wI, rL_wI]
    · simp (disch := omega) only [bn_s, bv_s, bd_s, gb_0, gb_1, rI_ws, rI_wn, rI_wA, rI_wL, rA_wI, rA_wL, rL_wI, rL_wA, rA_wss, rA_wn, rA_wsn, rL_wss, rL_wn, rL_wsn, rN_wI, rN_wA, rN_wL]
  · subst hr
    obtain ⟨r1, ⟨-, -, -, -, -, -, -, -, b9, -⟩, -⟩ := hR
    obtain ⟨c18, c20, c17⟩ := b9 rfl
    rw [hh] at c20
    have v0 := sv (x := h') x15 (by omega) (by omega)
    have v1 := sv (x := h' + 1) x15 (by omega) (by omega)
    have v2 := sv (x := h' + 2) x15 (by omega) (by omega)
    have q1 : fx_Sr_pop (nI G.length) (wA c 18 G.length (nI (at_ + 1))) = some (rL c 2 (b + nm (vm m) f + h' + 2), wA (wA c 18 G.length (nI (at_ + 1))) 20 G.length (nI (b + nm (vm m) f + h' + 2))) := s_pop x5 (by rw [rA_wn (by decide)]; exact c20) (by omega)
    have q2 : fx_Sr_pop (nI G.length) (wA (wA c 18 G.length (nI (at_ + 1))) 20 G.length (nI (b + nm (vm m) f + h' + 2))) = some (rL c 2 (b + nm (vm m) f + h' + 1), wA (wA (wA c 18 G.length (nI (at_ + 1))) 20 G.length (nI (b + nm (vm m) f + h' + 2))) 20 G.length (nI (b + nm (vm m) f + h' + 1))) := s_pop x5 (by rw [rA_wss]) (by omega)
    have q3 : fx_Sr_pop (nI G.length) (wA (wA (wA c 18 G.length (nI (at_ + 1))) 20 G.length (nI (b + nm (vm m) f + h' + 2))) 20 G.length (nI (b + nm (vm m) f + h' + 1))) = some (rL c 2 (b + nm (vm m) f + h'), wA (wA (wA (wA c 18 G.length (nI (at_ + 1))) 20 G.length (nI (b + nm (vm m) f + h' + 2))) 20 G.length (nI (b + nm (vm m) f + h' + 1))) 20 G.length (nI (b + nm (vm m) f + h'))) := s_pop x5 (by rw [rA_wss]) (by omega)
    have q4 := fun v => s_push (c := wA (wA (wA (wA c 18 G.length (nI (at_ + 1))) 20 G.length (nI (b + nm (vm m) f + h' + 2))) 20 G.length (nI (b + nm (vm m) f + h' + 1))) 20 G.length (nI (b + nm (vm m) f + h'))) (j := G.length) (P := b + nm (vm m) f + h') (v := v) x5 (by rw [rA_wss]) (by omega)
    refine ⟨wA (wL (wA (wA (wA (wA c 18 G.length (nI (at_ + 1))) 20 G.length (nI (b + nm (vm m) f + h' + 2))) 20 G.length (nI (b + nm (vm m) f + h' + 1))) 20 G.length (nI (b + nm (vm m) f + h'))) 2 (b + nm (vm m) f + h') (if (rL m 2 (s + nm (vm m) f + h' + 2)).toInt32 = 0 then rL m 2 (s + nm (vm m) f + h' + 1) else rL m 2 (s + nm (vm m) f + h'))) 20 G.length (nI (b + nm (vm m) f + h' + 1)), ?_, fun k => ?_, ?_, ?_, fun i x k1 k2 => ?_, fun i y hy => ?_, ?_⟩
    · rw [sp_eq x6 x5 x2 c18 x3 x4, h7, if_pos (by decide), if_pos (by decide), if_pos (by decide), if_neg (by decide)]
      unfold fx_Sr_useVariable fx_Sr_select fx_Sr_select_b14 fx_Sr_select_b40
      rw [gd_k x5 (by omega), bd_s, if_neg (by decide), if_pos (by decide), q1, bn_s]
      by_cases e : (rL m 2 (s + nm (vm m) f + h' + 2)).toInt32 = 0
      · rw [if_pos (show (rL c 2 (b + nm (vm m) f + h' + 2)).toInt32 = 0 by rw [show b + nm (vm m) f + h' + 2 = b + nm (vm m) f + (h' + 2) from rfl, v2]; exact e), q2, bn_s, q3, bn_s, if_pos rfl, if_pos e, show rL c 2 (b + nm (vm m) f + h' + 1) = rL m 2 (s + nm (vm m) f + h' + 1) from v1, q4, bv_s, bv_s]
      · rw [if_neg (show ¬ (rL c 2 (b + nm (vm m) f + h' + 2)).toInt32 = 0 by rw [show b + nm (vm m) f + h' + 2 = b + nm (vm m) f + (h' + 2) from rfl, v2]; exact e), q2, bn_s, q3, bn_s, if_neg (by decide), if_neg e, v0, q4, bv_s, bv_s]
    · simp (disch := omega) only [bn_s, bv_s, bd_s, gb_0, gb_1, rI_ws, rI_wn, rI_wA, rI_wL, rA_wI, rA_wL, rL_wI, rL_wA, rA_wss, rA_wn, rA_wsn, rL_wss, rL_wn, rL_wsn, rN_wI, rN_wA, rN_wL]
    · simp (disch := omega) only [bn_s, bv_s, bd_s, gb_0, gb_1, rI_ws, rI_wn, rI_wA, rI_wL, rA_wI, rA_wL, rL_wI, rL_wA, rA_wss, rA_wn, rA_wsn, rL_wss, rL_wn, rL_wsn, rN_wI, rN_wA, rN_wL]
    · simp (disch := omega) only [bn_s, bv_s, bd_s, gb_0, gb_1, rI_ws, rI_wn, rI_wA, rI_wL, rA_wI, rA_wL, rL_wI, rL_wA, rA_wss, rA_wn, rA_wsn, rL_wss, rL_wn, rL_wsn, rN_wI, rN_wA, rN_wL]
    · rw [rA_wA, if_neg k2, rA_wL, rA_wA, if_neg k2, rA_wA, if_neg k2, rA_wA, if_neg k2, rA_wA, if_neg k1]
    · rw [rL_wA, rL_wL, if_neg hy, rL_wA, rL_wA, rL_wA, rL_wA]
    · simp (disch := omega) only [bn_s, bv_s, bd_s, gb_0, gb_1, rI_ws, rI_wn, rI_wA, rI_wL, rA_wI, rA_wL, rL_wI, rL_wA, rA_wss, rA_wn, rA_wsn, rL_wss, rL_wn, rL_wsn, rN_wI, rN_wA, rN_wL]
  · subst hr
    obtain ⟨r1, ⟨hfC, -⟩, -⟩ := hR
    obtain ⟨sz, z1, z2, z3, z4, z5, z6, z7, z8⟩ := rg_ctx h hfC
    unfold kcV at z5
    rw [ho, hh] at z5
    obtain ⟨y1, y2⟩ := z5.2.2.2.2.2.2.1 rfl
    have y1 : ci c (KK f at_).1 27 (nI ((KK f at_).2.1 + 1)) (nI (nm (vm m) f + h')) ((KK f at_).2.2 h') ((KK f at_).2.2 (h' + 1)) ((KK f at_).2.2 (h' + 2)) := y1
    obtain ⟨v0, w0⟩ := gv (x := h') x15 (by omega)
    obtain ⟨v1, w1⟩ := gv (x := h' + 1) x15 (by omega)
    obtain ⟨v2, w2⟩ := gv (x := h' + 2) x15 (by omega)
    have v1 : ev c (vm m) b ((KK f at_).2.2 (h' + 1)) = rL m 2 (s + nm (vm m) f + h' + 1) := v1
    have v2 : ev c (vm m) b ((KK f at_).2.2 (h' + 2)) = rL m 2 (s + nm (vm m) f + h' + 2) := v2
    refine ⟨?_, y1.2.1, y2⟩
    have hq := z8.1
    obtain ⟨i1, i2, i3, i4, i5, i6⟩ := y1
    rw [rp_eq (j := G.length) (by rw [rI_wn (by decide)]; exact x6) x5 (by first | omega | (simp only [rN_wI, rN_wA, rN_wL]; omega))]
    rw [rA_wI, rA_wI, rA_wI, i1, if_neg (by decide), if_pos (by decide), if_pos (by decide), if_neg (by decide)]
    unfold fx_Rr_useVariable fx_Rr_useVariable_b75
    rw [if_pos (by decide), gd_k (by first | omega | (simp only [rN_wI, rN_wA, rN_wL]; omega)) (by first | omega | (simp only [rN_wI, rN_wA, rN_wL]; omega)), nI_clamp (by omega), rA_wn (by decide), rA_wI, i6, gr (n := nm (vm m) f) (x := h' + 2) x1 x5 x8 w2 (by omega), bn_s, v2]
    by_cases e : (rL m 2 (s + nm (vm m) f + h' + 2)).toInt32 = 0
    · rw [if_pos e, if_pos e, gd_k (by first | omega | (simp only [rN_wI, rN_wA, rN_wL]; omega)) (by first | omega | (simp only [rN_wI, rN_wA, rN_wL]; omega)), gd_k (by first | omega | (simp only [rN_wI, rN_wA, rN_wL]; omega)) (by first | omega | (simp only [rN_wI, rN_wA, rN_wL]; omega)), rA_wn (by decide), rA_wI, i5, gr (n := nm (vm m) f) (x := h' + 1) x1 x5 x8 w1 (by omega), bn_s, v1, rA_wn (by decide), rA_wI, i3]
      rw [r_set x5 (by rw [rA_wn (by decide), rA_wI]; exact x8) (by show b + (nm (vm m) f + h') < 220; omega), bv_s, show b + nm (vm m) f + h' = b + (nm (vm m) f + h') by omega]
    · rw [if_neg e, if_neg e, gd_k (by first | omega | (simp only [rN_wI, rN_wA, rN_wL]; omega)) (by first | omega | (simp only [rN_wI, rN_wA, rN_wL]; omega)), gd_k (by first | omega | (simp only [rN_wI, rN_wA, rN_wL]; omega)) (by first | omega | (simp only [rN_wI, rN_wA, rN_wL]; omega)), rA_wn (by decide), rA_wI, i4, gr (n := nm (vm m) f) (x := h') x1 x5 x8 w0 (by omega), bn_s, v0, rA_wn (by decide), rA_wI, i3]
      rw [r_set x5 (by rw [rA_wn (by decide), rA_wI]; exact x8) (by show b + (nm (vm m) f + h') < 220; omega), bv_s, show b + nm (vm m) f + h' = b + (nm (vm m) f + h') by omega]
