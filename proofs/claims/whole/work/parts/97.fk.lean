-- ===== one step: nothing, forget, trap, constants, locals =====
theorem Sf_1 {c m : rs_T} {T : Nat → ts_T} {S E M : Nat → Nat} {F : Nat} {w : Bool} {KK : Nat → Nat → kT} {V : vw_T} {G : List fr_T} {f at_ b s : Nat} {r : Bool} (hR : R0 c m V T S E M F w KK G f at_ r b s) : S f ≤ at_ := hR.2.1.1.2.2.2.2.2.2.2.2.1
theorem cX_17 (c : rs_T) (v : Int32) (j b : Nat) : cX c (wI c 17 v) j b := ⟨fun k _ _ _ a => by rw [rI_wn a], fun i x _ _ _ => rfl, fun x => ⟨rfl, rfl⟩, fun _ _ => rfl⟩
theorem c18_X {c cc : rs_T} {j i b : Nat} (h : c18 c cc j i) : cX c cc j b := ⟨fun k _ _ _ _ => h.1 k, fun i x _ a1 a2 => h.2.2.1 i x a1 a2, fun x => ⟨h.2.2.2 0 x, h.2.2.2 3 x⟩, fun y _ => h.2.2.2 2 y⟩
theorem SR_1 {N : Nat} {c m : rs_T} {T : Nat → ts_T} {S E M : Nat → Nat} {F t : Nat} {w : Bool} {KK : Nat → Nat → kT} {ZZ : Nat → Nat → Int32} {QS QE : Nat → Nat} {G : List fr_T} {f at_ b s : Nat} {r : Bool} {a b' : Int32} (h : IB c m T S E M F t w KK ZZ QS QE) (hR : R0 c m (vm m) T S E M F w KK G f at_ r b s) (hs1 : rI m 9 = 1) (ho : v_o (vm m) at_ = 1) : SR N c m T S E M F t w 1 a b' r := by
  obtain ⟨p1, p2, p3, p4, -⟩ := pl_ctx (n0 := 0) (k0 := 0) h hR ho (by decide) (by decide)
  obtain ⟨x1, x2, x3, x4, x5, x6, x7, x8, x9, x10, x11, x12, x13, x14, x15, x16, x17, -⟩ := cx h hR
  have hT : (T (at_ + 1)).2.2.1 = (T at_).2.2.1 := by omega
  have h7 : rA c 7 at_ = 1 := (x1.1 at_).1.trans ho
  have hSf := Sf_1 hR
  have e9 : ∀ k, ¬ k = 15 → rI (wI m 15 (nI (at_ + 1))) k = rI m k := fun k hk => rI_wn hk
  refine SR_of (m1 := wI m 15 (nI (at_ + 1))) (at1 := at_ + 1) h hR hs1 ?_ ⟨fun k _ _ _ _ a => e9 k a, fun _ _ _ => rfl, fun _ => ⟨rfl, rfl⟩, fun _ _ => rfl⟩ (by omega) p1 p4 (by rw [hT, e9 13 (by decide)]; exact x13) (by rw [rI_ws]) (e9 9 (by decide)) (e9 10 (by decide)) (fun hr => ?_) (fun hr => ?_)
  · rw [msb_s (by decide)]
    unfold fx_Md_simple fx_Md_simple_b48 fx_Md_simple_b69
    rw [if_neg (by decide), if_neg (by decide), if_pos (by decide), if_pos (by decide), if_neg (by decide), if_neg (by decide), if_neg (by decide), if_neg (by decide), if_pos (by decide), b155 x14]
  · subst hr
    obtain ⟨r1, ⟨-, -, -, -, -, -, -, -, b9, -⟩, -⟩ := hR
    obtain ⟨c18', c20, c17⟩ := b9 rfl
    have hcc := c18_0 c G.length at_
    refine ⟨wA c 18 G.length (nI (at_ + 1)), ?_, c18_X hcc, ?_, rfl, rfl, hcc.2.1, ?_, c17, ?_⟩
    · rw [sp_eq x6 x5 x2 c18' x3 x4, h7, if_pos (by decide), if_pos (by decide), if_pos (by decide), if_pos (by decide)]
      unfold fx_Sr_control
      rw [if_neg (by decide), if_neg (by decide), if_neg (by decide), if_neg (by decide), if_neg (by decide), if_neg (by decide), if_neg (by decide), if_neg (by decide)]
    · exact wb_X (s := s) h.2.1 (c18_X (b := b) hcc) ⟨fun k _ _ _ _ a => e9 k a, fun _ _ _ => rfl, fun _ => ⟨rfl, rfl⟩, fun _ _ => rfl⟩ rfl (fun x => hcc.2.2.1 16 x (by omega) (by omega)) (fun _ => rfl) (e9 7 (by decide)) (fun _ => rfl) (fun _ => rfl)
    · rw [hT, rA_wn (by decide)]; exact c20
    · rw [hT]; exact x15
  · subst hr
    have hR1 := hR
    obtain ⟨r1, ⟨hfC, -, -, -, -, -, -, -, -, b10⟩, -⟩ := hR1
    obtain ⟨b101, b102⟩ := b10 rfl
    obtain ⟨sz, z1, z2, z3, z4, z5, z6, z7, z8⟩ := rg_ctx h hfC
    unfold kcV at z5
    rw [ho] at z5
    have y2 := z5.1 rfl
    refine ⟨_, 0, by omega, rfl, rfl, cX_17 _ _ _ _, ?_, by rw [rI_wn (by decide)], by rw [rI_wn (by decide)], ?_, ?_, ?_⟩
    · exact wb_X (s := s) h.2.1 (cX_17 c (rI c 17 + 1) G.length b) ⟨fun k _ _ _ _ a => e9 k a, fun _ _ _ => rfl, fun _ => ⟨rfl, rfl⟩, fun _ _ => rfl⟩ (by rw [rI_wn (by decide)]) (fun x => rfl) (fun _ => rfl) (e9 7 (by decide)) (fun _ => rfl) (fun _ => rfl)
    · rw [y2]; exact b101
    · rw [y2, rI_ws, b102, nI_1]
    · rw [hT, y2]
      exact fV_keep x15 (by omega) (fun _ _ _ => rfl) (fun _ _ _ => rfl)
theorem SR_26 {N : Nat} {c m : rs_T} {T : Nat → ts_T} {S E M : Nat → Nat} {F t : Nat} {w : Bool} {KK : Nat → Nat → kT} {ZZ : Nat → Nat → Int32} {QS QE : Nat → Nat} {G : List fr_T} {f at_ b s : Nat} {r : Bool} {a b' : Int32} (h : IB c m T S E M F t w KK ZZ QS QE) (hR : R0 c m (vm m) T S E M F w KK G f at_ r b s) (hs1 : rI m 9 = 1) (ho : v_o (vm m) at_ = 26) : SR N c m T S E M F t w 26 a b' r := by
  obtain ⟨p1, p2, p3, p4, -⟩ := pl_ctx (n0 := 1) (k0 := 0) h hR ho (by decide) (by decide)
  obtain ⟨x1, x2, x3, x4, x5, x6, x7, x8, x9, x10, x11, x12, x13, x14, x15, x16, x17, -⟩ := cx h hR
  obtain ⟨h', hh⟩ : ∃ h', (T at_).2.2.1 = h' + 1 := ⟨(T at_).2.2.1 - 1, by omega⟩
  rw [hh] at x13 x15 x11 p3
  have hT : (T (at_ + 1)).2.2.1 = h' := by omega
  have h7 : rA c 7 at_ = 26 := (x1.1 at_).1.trans ho
  have x13 : rI m 13 = nI (s + nm (vm m) f + h' + 1) := x13
  have hSf := Sf_1 hR
  have e9 : ∀ k, ¬ k = 13 → ¬ k = 15 → rI (wI (wI m 13 (nI (s + nm (vm m) f + h'))) 15 (nI (at_ + 1))) k = rI m k := fun k hk hk2 => by rw [rI_wn hk2, rI_wn hk]
  have hmX : mX m (wI (wI m 13 (nI (s + nm (vm m) f + h'))) 15 (nI (at_ + 1))) s := ⟨fun k _ _ _ a a2 => e9 k a a2, fun _ _ _ => rfl, fun _ => ⟨rfl, rfl⟩, fun _ _ => rfl⟩
  refine SR_of (m1 := wI (wI m 13 (nI (s + nm (vm m) f + h'))) 15 (nI (at_ + 1))) (at1 := at_ + 1) h hR hs1 ?_ hmX (by omega) p1 p4 (by rw [hT, rI_wn (by decide), rI_ws]) (by rw [rI_ws]) (e9 9 (by decide) (by decide)) (e9 10 (by decide) (by decide)) (fun hr => ?_) (fun hr => ?_)
  · rw [msb_s (by decide)]
    unfold fx_Md_simple
    rw [if_pos rfl, m_pop x13 (by omega), bn_s, b155 (by rw [rI_wn (by decide)]; exact x14)]
  · subst hr
    obtain ⟨r1, ⟨-, -, -, -, -, -, -, -, b9, -⟩, -⟩ := hR
    obtain ⟨c18', c20, c17⟩ := b9 rfl
    rw [hh] at c20
    have hcc := c18_w (nI (b + nm (vm m) f + h')) (c18_0 c G.length at_)
    refine ⟨_, ?_, c18_X hcc, wb_X (s := s) h.2.1 (c18_X (b := b) hcc) hmX (hcc.1 9) (fun x => hcc.2.2.1 16 x (by omega) (by omega)) (fun _ => rfl) (e9 7 (by decide) (by decide)) (fun _ => rfl) (fun _ => rfl), rfl, rfl, hcc.2.1, ?_, c17, ?_⟩
    · rw [sp_eq x6 x5 x2 c18' x3 x4, h7, if_pos (by decide), if_pos (by decide), if_pos (by decide), if_neg (by decide)]
      unfold fx_Sr_useVariable
      rw [gd_k x5 (by omega), bd_s, if_pos (by decide), s_pop (P := b + nm (vm m) f + h') x5 (by rw [rA_wn (by decide)]; exact c20) (by omega), bn_s]
    · rw [hT, rA_wss]
    · rw [hT]
      exact fV_keep (fV_le x15 (by omega)) (by omega) (fun _ _ _ => rfl) (fun _ _ _ => rfl)
  · subst hr
    have hR1 := hR
    obtain ⟨r1, ⟨hfC, -, -, -, -, -, -, -, -, b10⟩, -⟩ := hR1
    obtain ⟨b101, b102⟩ := b10 rfl
    obtain ⟨sz, z1, z2, z3, z4, z5, z6, z7, z8⟩ := rg_ctx h hfC
    unfold kcV at z5
    rw [ho] at z5
    have y2 := z5.2.2.1 rfl
    refine ⟨_, 0, by omega, rfl, rfl, cX_17 _ _ _ _, wb_X (s := s) h.2.1 (cX_17 c (rI c 17 + 1) G.length b) hmX (by rw [rI_wn (by decide)]) (fun x => rfl) (fun _ => rfl) (e9 7 (by decide) (by decide)) (fun _ => rfl) (fun _ => rfl), by rw [rI_wn (by decide)], by rw [rI_wn (by decide)], ?_, ?_, ?_⟩
    · rw [y2]; exact b101
    · rw [y2, rI_ws, b102, nI_1]
    · rw [hT, y2]
      exact fV_keep (fV_le x15 (by omega)) (by omega) (fun _ _ _ => rfl) (fun _ _ _ => rfl)
theorem SR_0 {N : Nat} {c m : rs_T} {T : Nat → ts_T} {S E M : Nat → Nat} {F t : Nat} {w : Bool} {KK : Nat → Nat → kT} {ZZ : Nat → Nat → Int32} {QS QE : Nat → Nat} {G : List fr_T} {f at_ b s : Nat} {r : Bool} {a b' : Int32} (h : IB c m T S E M F t w KK ZZ QS QE) (hR : R0 c m (vm m) T S E M F w KK G f at_ r b s) (hs1 : rI m 9 = 1) (ho : v_o (vm m) at_ = 0) : SR N c m T S E M F t w 0 a b' r := by
  obtain ⟨x1, x2, x3, x4, x5, x6, x7, x8, x9, x10, x11, x12, x13, x14, x15, x16, x17, -⟩ := cx h hR
  have h7 : rA c 7 at_ = 0 := (x1.1 at_).1.trans ho
  have hmX : mX m (wI (wI m 9 3) 10 1) s := ⟨fun k _ a1 a2 _ _ => by rw [rI_wn a2, rI_wn a1], fun _ _ _ => rfl, fun _ => ⟨rfl, rfl⟩, fun _ _ => rfl⟩
  have e7 : rI (wI (wI m 9 3) 10 1) 7 = rI m 7 := by rw [rI_wn (by decide), rI_wn (by decide)]
  refine SR_trap (j := G.length) (b := b) (s := s) (x := 1) h hs1 (m1 := wI (wI m 9 3) 10 1) ?_ hmX (by rw [rI_wn (by decide), rI_ws]) (by rw [rI_ws]) (fun hr => ?_) (fun hr => ?_)
  · unfold msb fx_Md_traps
    rw [if_pos (by decide)]
  · subst hr
    obtain ⟨r1, ⟨-, -, -, -, -, -, -, -, b9, -⟩, -⟩ := hR
    obtain ⟨c18', c20, c17⟩ := b9 rfl
    obtain ⟨d1, d2, d3, d4, d5, d6⟩ := tc_X (c18_0 c G.length at_) 1 b
    refine ⟨_, ?_, d1, wb_X h.2.1 d1 hmX d4 d5 d6 e7 (fun _ => rfl) (fun _ => rfl), d2, d3⟩
    rw [sp_eq x6 x5 x2 c18' x3 x4, h7, if_pos (by decide), if_pos (by decide), if_pos (by decide), if_pos (by decide)]
    unfold fx_Sr_control fx_Ac_fail
    rw [if_pos (by decide), bv_s]
  · subst hr
    have hR1 := hR
    obtain ⟨r1, ⟨hfC, -⟩, -⟩ := hR1
    obtain ⟨sz, z1, z2, z3, z4, z5, z6, z7, z8⟩ := rg_ctx h hfC
    unfold kcV at z5
    rw [ho] at z5
    obtain ⟨⟨i1, i2, i3, i4, i5, i6⟩, -⟩ := z5.2.2.2.2.2.2.2.2.2.2.2.2.2.2.1 rfl
    have hq := z8.1
    obtain ⟨sz', y1', y2', y3', y4'⟩ := R0_tR h hR hs1
    obtain ⟨d1, d2, d3, d4, d5, d6, d7⟩ := tg_X (c := c) (j := G.length) (q := (KK f at_).1) 1 b
    refine ⟨_, 1, by omega, vl_1 (tR_vq (q := (KK f at_).1) y3' (by omega) (by rw [rA_wI]; exact i2) ?_ d7), rfl, d1, wb_X h.2.1 d1 hmX d4 d5 d6 e7 (fun _ => rfl) (fun _ => rfl), d2, d3⟩
    rw [wI_wI, rp_eq (j := G.length) (by rw [rI_wn (by decide)]; exact x6) x5 (by first | omega | (simp only [rN_wI, rN_wA, rN_wL]; omega))]
    rw [rA_wI, rA_wI, rA_wI, i1, if_neg (by decide), if_pos (by decide), if_pos (by decide), if_pos (by decide)]
    unfold fx_Rr_control fx_Ac_fail
    rw [if_pos (by decide), bv_s]
-- a constant or a local is put
theorem SR_lit {N : Nat} {c m : rs_T} {T : Nat → ts_T} {S E M : Nat → Nat} {F t : Nat} {w : Bool} {KK : Nat → Nat → kT} {ZZ : Nat → Nat → Int32} {QS QE : Nat → Nat} {G : List fr_T} {f at_ b s h' : Nat} {r : Bool} {o a b' : Int32} {v : Int64} {u : Int32} (h : IB c m T S E M F t w KK ZZ QS QE) (hR : R0 c m (vm m) T S E M F w KK G f at_ r b s) (hs1 : rI m 9 = 1) (p1 : at_ + 1 < E f) (p4 : tl (T (at_ + 1))) (hh : (T at_).2.2.1 = h') (hT : (T (at_ + 1)).2.2.1 = h' + 1) (hu : wok (vm m) (nm (vm m) f) h' u) (hev : ev c (vm m) b u = v)
    (hM : msb N o a b' m = some (wI (wI (wL m 2 (s + nm (vm m) f + h') v) 13 (nI (s + nm (vm m) f + h' + 1))) 15 (nI (at_ + 1))))
    (hS : r = false → fx_Sr_perform N c = some (wA (wL (wA c 18 G.length (nI (at_ + 1))) 2 (b + nm (vm m) f + h') v) 20 G.length (nI (b + nm (vm m) f + h' + 1))))
    (hG : r = true → KK f (at_ + 1) = ((KK f at_).1, (KK f at_).2.1 + 1, upd (KK f at_).2.2 h' u)) : SR N c m T S E M F t w o a b' r := by
  cases r with
  | false => exact SR_p2 (h1 := h') (v := v) h hR hs1 p1 p4 hT (by omega) ⟨m, m13_0 m, hM⟩ (fun _ => ⟨_, c18_0 c G.length at_, hS rfl⟩) (fun z => (by cases z))
  | true =>
    obtain ⟨x1, x2, x3, x4, x5, x6, x7, x8, x9, x10, x11, x12, x13, x14, x15, x16, x17, -⟩ := cx h hR
    have hSf := Sf_1 hR
    obtain ⟨q1, q2, q3, q4, q5, q6⟩ := PM_of (i := at_) (P := s + nm (vm m) f + h') (v := v) (m13_0 m)
    have hmX : mX m (wI (wI (wL m 2 (s + nm (vm m) f + h') v) 13 (nI (s + nm (vm m) f + h' + 1))) 15 (nI (at_ + 1))) s := ⟨fun k _ _ _ a a2 => q1 k a a2, fun i x _ => q4 i x, fun x => ⟨q5 1 x (by omega), q5 3 x (by omega)⟩, fun y hy => q5 2 y (by omega)⟩
    have y2 := hG rfl
    refine SR_of (at1 := at_ + 1) h hR hs1 hM hmX (by omega) p1 p4 (by rw [hT]; exact q2) q3 (q1 9 (by decide) (by decide)) (q1 10 (by decide) (by decide)) (fun z => (by cases z)) (fun _ => ?_)
    have hR1 := hR
    obtain ⟨r1, ⟨hfC, -, -, -, -, -, -, -, -, b10⟩, -⟩ := hR1
    obtain ⟨b101, b102⟩ := b10 rfl
    refine ⟨_, 0, by omega, rfl, rfl, cX_17 _ _ _ _, wb_X (s := s) h.2.1 (cX_17 c (rI c 17 + 1) G.length b) hmX (by rw [rI_wn (by decide)]) (fun x => rfl) (fun _ => rfl) (q1 7 (by decide) (by decide)) (fun x => q4 17 x) (fun x => q5 0 x (by omega)), by rw [rI_wn (by decide)], by rw [rI_wn (by decide)], ?_, ?_, ?_⟩
    · rw [y2]; exact b101
    · rw [y2, rI_ws, b102, nI_1]
    · rw [hT, y2]
      rw [hh] at x15
      have := fV_up (m1 := wI (wI (wL m 2 (s + nm (vm m) f + h') v) 13 (nI (s + nm (vm m) f + h' + 1))) 15 (nI (at_ + 1))) x15 hu (fun y _ hy => q5 2 y (by omega)) (by rw [q6, hev])
      exact fV_keep this (by omega) (fun _ _ _ => rfl) (fun _ _ _ => rfl)
theorem SR_65 {N : Nat} {c m : rs_T} {T : Nat → ts_T} {S E M : Nat → Nat} {F t : Nat} {w : Bool} {KK : Nat → Nat → kT} {ZZ : Nat → Nat → Int32} {QS QE : Nat → Nat} {G : List fr_T} {f at_ b s : Nat} {r : Bool} {o : Int32} (h : IB c m T S E M F t w KK ZZ QS QE) (hR : R0 c m (vm m) T S E M F w KK G f at_ r b s) (hs1 : rI m 9 = 1) (ho : v_o (vm m) at_ = o) (hoo : o = 65 ∨ o = 66) : SR N c m T S E M F t w o (v_a (vm m) at_) (v_b (vm m) at_) r := by
  have hb : t_ar o = some (0, 1) ∧ ¬ o ∈ ([0, 2, 3, 4, 5, 6, 11, 12, 13, 14, 15, 16, 17] : List Int32) ∧ ¬ o ∈ ([0, 4, 12, 13, 14, 15, 16, 17] : List Int32) ∧ o < 69 ∧ ¬ o < 65 := by rcases hoo with rfl | rfl <;> decide
  obtain ⟨k1, k2, k3, k4, k5⟩ := hb
  obtain ⟨p1, p2, p3, p4, -⟩ := pl_ctx h hR ho k2 k1
  obtain ⟨x1, x2, x3, x4, x5, x6, x7, x8, x9, x10, x11, x12, x13, x14, x15, x16, x17, -⟩ := cx h hR
  have hM1 := hM_1 h hR p1
  obtain ⟨h', hh⟩ : ∃ h', (T at_).2.2.1 = h' := ⟨(T at_).2.2.1, rfl⟩
  have h7 : rA c 7 at_ = o := (x1.1 at_).1.trans ho
  rw [hh] at x13
  refine SR_lit (h' := h') (v := cst (vm m) at_) (u := nI at_ ^^^ (-1)) h hR hs1 p1 p4 hh (by omega) (Or.inr (Or.inr ⟨at_, ⟨by omega, by rw [ho]; exact hoo⟩, rfl⟩)) (ev_k (by omega)) ?_ (fun hr => ?_) (fun hr => ?_)
  · rw [msb_s k3]
    unfold fx_Md_simple fx_Md_simple_b48 fx_Md_simple_b69 cst
    rcases hoo with rfl | rfl
    · rw [if_neg (by decide), if_neg (by decide), if_neg (by decide), if_pos (by decide), if_neg (by decide), if_pos (by decide), if_neg (by decide), if_neg (by decide), if_pos rfl, m_push x13 (by omega), bv_s, b155 (by simp (disch := omega) only [bn_s, bv_s, bd_s, gb_0, gb_1, rI_ws, rI_wn, rI_wA, rI_wL, rA_wI, rA_wL, rL_wI, rL_wA, rA_wss, rA_wn, rA_wsn, rL_wss, rL_wn, rL_wsn, rN_wI, rN_wA, rN_wL]; exact x14), if_neg (by rw [ho]; decide)]
    · rw [if_neg (by decide), if_neg (by decide), if_neg (by decide), if_pos (by decide), if_neg (by decide), if_pos (by decide), if_neg (by decide), if_neg (by decide), if_neg (by decide), if_pos rfl, m_push x13 (by omega), bv_s, b155 (by simp (disch := omega) only [bn_s, bv_s, bd_s, gb_0, gb_1, rI_ws, rI_wn, rI_wA, rI_wL, rA_wI, rA_wL, rL_wI, rL_wA, rA_wss, rA_wn, rA_wsn, rL_wss, rL_wn, rL_wsn, rN_wI, rN_wA, rN_wL]; exact x14), if_pos ho]
  · subst hr
    obtain ⟨r1, ⟨-, -, -, -, -, -, -, -, b9, -⟩, -⟩ := hR
    obtain ⟨c18', c20, c17⟩ := b9 rfl
    rw [hh] at c20
    obtain ⟨y1, y2, y3⟩ := x1.1 at_
    rw [sp_eq x6 x5 x2 c18' x3 x4, h7, if_pos k4, if_neg k5]
    unfold fx_Pr_constant cst
    rw [gd_k (by first | omega | (simp only [rN_wI, rN_wA, rN_wL]; omega)) (by first | omega | (simp only [rN_wI, rN_wA, rN_wL]; omega)), bd_s, gd_k (by first | omega | (simp only [rN_wI, rN_wA, rN_wL]; omega)) (by first | omega | (simp only [rN_wI, rN_wA, rN_wL]; omega)), nI_clamp (by omega), rA_wn (by decide), rA_wn (by decide), rA_wn (by decide), y1, y2, y3]
    rcases hoo with rfl | rfl
    · rw [if_neg (by rw [ho]; decide), if_neg (by rw [ho]; decide), bn_s, s_push x5 (by rw [rA_wn (by decide)]; exact c20) (by omega)]
    · rw [if_pos ho, if_pos ho, gd_k (by first | omega | (simp only [rN_wI, rN_wA, rN_wL]; omega)) (by first | omega | (simp only [rN_wI, rN_wA, rN_wL]; omega)), bn_s, s_push x5 (by rw [rA_wn (by decide)]; exact c20) (by omega)]
  · subst hr
    have hR1 := hR
    obtain ⟨r1, ⟨hfC, -⟩, -⟩ := hR1
    obtain ⟨sz, z1, z2, z3, z4, z5, z6, z7, z8⟩ := rg_ctx h hfC
    unfold kcV at z5
    rw [ho, hh] at z5
    exact z5.2.1 hoo
theorem loc_a {V : vw_T} {f : Nat} {o a : Int32} (hl : t_lim V f o a = true) (ho : o ∈ ([32, 33, 34] : List Int32)) (hn : nm V f ≤ 16) : ∃ x : Nat, x < nm V f ∧ a = nI x := by
  unfold nm at hn ⊢
  unfold t_lim at hl
  rw [if_pos ho] at hl
  cases hb : Nat.ble (v_p V f + v_c V f) 0 with
  | true => rw [hb] at hl; cases hl
  | false =>
    rw [hb] at hl
    have hl : (t_n a (v_p V f + v_c V f - 1)).isSome = true := hl
    cases ht : t_n a (v_p V f + v_c V f - 1) with
    | none => rw [ht] at hl; cases hl
    | some x =>
      obtain ⟨a1, a2⟩ := t_n_some (by omega) ht
      have : ¬ v_p V f + v_c V f ≤ 0 := fun z => by
        have := Nat.ble_eq_true_of_le z
        rw [hb] at this; cases this
      exact ⟨x, by omega, a2⟩
theorem SR_32 {N : Nat} {c m : rs_T} {T : Nat → ts_T} {S E M : Nat → Nat} {F t : Nat} {w : Bool} {KK : Nat → Nat → kT} {ZZ : Nat → Nat → Int32} {QS QE : Nat → Nat} {G : List fr_T} {f at_ b s : Nat} {r : Bool} {b' : Int32} (h : IB c m T S E M F t w KK ZZ QS QE) (hR : R0 c m (vm m) T S E M F w KK G f at_ r b s) (hs1 : rI m 9 = 1) (ho : v_o (vm m) at_ = 32) : SR N c m T S E M F t w 32 (v_a (vm m) at_) b' r := by
  obtain ⟨p1, p2, p3, p4, p5⟩ := pl_ctx (n0 := 0) (k0 := 1) h hR ho (by decide) (by decide)
  obtain ⟨x1, x2, x3, x4, x5, x6, x7, x8, x9, x10, x11, x12, x13, x14, x15, x16, x17, -⟩ := cx h hR
  have hM1 := hM_1 h hR p1
  obtain ⟨a, ha, ea⟩ := loc_a p5 (by decide) x16
  obtain ⟨h', hh⟩ : ∃ h', (T at_).2.2.1 = h' := ⟨(T at_).2.2.1, rfl⟩
  have h7 : rA c 7 at_ = 32 := (x1.1 at_).1.trans ho
  have h8 : rA c 8 at_ = v_a (vm m) at_ := (x1.1 at_).2.1
  rw [hh] at x13
  rw [ea] at h8 ⊢
  have hva : rL c 2 (b + a) = rL m 2 (s + a) := x15.1 a ha
  refine SR_lit (h' := h') (v := rL m 2 (s + a)) (u := nI a) h hR hs1 p1 p4 hh (by omega) (Or.inl ⟨a, ha, rfl⟩) (by rw [ev_n (by omega)]; exact hva) ?_ (fun hr => ?_) (fun hr => ?_)
  · rw [msb_s (by decide)]
    unfold fx_Md_simple fx_Md_variable
    rw [if_neg (by decide), if_neg (by decide), if_neg (by decide), if_neg (by decide), x7, nI_pred, gd_k (by first | omega | (simp only [rN_wI, rN_wA, rN_wL]; omega)) (by first | omega | (simp only [rN_wI, rN_wA, rN_wL]; omega)), bd_s, nI_clamp (by omega), x9, nI_add, if_pos (by decide), gd_k (by first | omega | (simp only [rN_wI, rN_wA, rN_wL]; omega)) (by first | omega | (simp only [rN_wI, rN_wA, rN_wL]; omega)), nI_clamp (by omega), m_push x13 (by omega), bv_s, bv_s, b155 (by simp (disch := omega) only [bn_s, bv_s, bd_s, gb_0, gb_1, rI_ws, rI_wn, rI_wA, rI_wL, rA_wI, rA_wL, rL_wI, rL_wA, rA_wss, rA_wn, rA_wsn, rL_wss, rL_wn, rL_wsn, rN_wI, rN_wA, rN_wL]; exact x14)]
  · subst hr
    obtain ⟨r1, ⟨-, -, -, -, -, -, -, -, b9, -⟩, -⟩ := hR
    obtain ⟨c18', c20, c17⟩ := b9 rfl
    rw [hh] at c20
    have hlt : ¬ (220 : Int32) ≤ nI (b + a) := fun z => by
      have : 220 ≤ b + a := (lit_le (k := 220) (show b + a < 2 ^ 31 by omega) (by omega)).mp z
      omega
    rw [sp_eq x6 x5 x2 c18' x3 x4, h7, if_pos (by decide), if_pos (by decide), if_pos (by decide), if_neg (by decide), h8]
    unfold fx_Sr_useVariable fx_Ac_value
    rw [gd_k x5 (by omega), bd_s, nI_clamp (by omega), rA_wn (by decide), x8, nI_add, if_neg (by decide), if_neg (by decide), if_pos (by decide), if_neg (nI_pos (by omega)), if_neg hlt, gd_k (by first | omega | (simp only [rN_wI, rN_wA, rN_wL]; omega)) (by first | omega | (simp only [rN_wI, rN_wA, rN_wL]; omega)), nI_clamp (by omega), bn_s, rL_wA, hva, s_push x5 (by rw [rA_wn (by decide)]; exact c20) (by omega), bv_s]
  · subst hr
    have hR1 := hR
    obtain ⟨r1, ⟨hfC, -⟩, -⟩ := hR1
    obtain ⟨sz, z1, z2, z3, z4, z5, z6, z7, z8⟩ := rg_ctx h hfC
    unfold kcV at z5
    rw [ho, hh, ea] at z5
    exact z5.2.2.2.1 rfl
