-- ===== one step: helpers for plain instructions =====
def m13 (m mm : rs_T) : Prop := (∀ k, ¬ k = 13 → rI mm k = rI m k) ∧ (∀ i x, rA mm i x = rA m i x) ∧ ∀ i x, rL mm i x = rL m i x
theorem m13_0 (m : rs_T) : m13 m m := ⟨fun _ _ => rfl, fun _ _ => rfl, fun _ _ => rfl⟩
theorem m13_w {m mm : rs_T} (x : Int32) (h : m13 m mm) : m13 m (wI mm 13 x) := ⟨fun k hk => by rw [rI_wn hk]; exact h.1 k hk, fun i y => by rw [rA_wI]; exact h.2.1 i y, fun i y => by rw [rL_wI]; exact h.2.2 i y⟩
theorem b155 {N i : Nat} {st : rs_T} (h : rI st 15 = nI i) : fx_Md_simple_b155 N st = some (wI st 15 (nI (i + 1))) := by
  unfold fx_Md_simple_b155
  rw [h, nI_1]
theorem PM_of {m mm : rs_T} {i P : Nat} {v : Int64} (h : m13 m mm) : PM m (wI (wI (wL mm 2 P v) 13 (nI (P + 1))) 15 (nI (i + 1))) i P v := by
  refine ⟨fun k k1 k2 => ?_, ?_, ?_, fun i x => ?_, fun i y hy => ?_, ?_⟩
  · rw [rI_wn k2, rI_wn k1, rI_wL]; exact h.1 k k1
  · rw [rI_wn (by decide), rI_ws]
  · rw [rI_ws]
  · rw [rA_wI, rA_wI, rA_wL]; exact h.2.1 i x
  · rw [rL_wI, rL_wI, rL_wL, if_neg hy]; exact h.2.2 i y
  · rw [rL_wI, rL_wI, rL_wss]
def c18 (c cc : rs_T) (j i : Nat) : Prop := (∀ k, rI cc k = rI c k) ∧ rA cc 18 j = nI (i + 1) ∧ (∀ i x, ¬ (i = 18 ∧ x = j) → ¬ (i = 20 ∧ x = j) → rA cc i x = rA c i x) ∧ ∀ i y, rL cc i y = rL c i y
theorem c18_0 (c : rs_T) (j i : Nat) : c18 c (wA c 18 j (nI (i + 1))) j i := ⟨fun _ => rfl, by rw [rA_wss], fun i x h1 _ => by rw [rA_wA, if_neg h1], fun _ _ => rfl⟩
theorem c18_w {c cc : rs_T} {j i : Nat} (x : Int32) (h : c18 c cc j i) : c18 c (wA cc 20 j x) j i := ⟨fun k => h.1 k, by rw [rA_wn (by decide)]; exact h.2.1, fun i y h1 h2 => by rw [rA_wA, if_neg h2]; exact h.2.2.1 i y h1 h2, fun i y => h.2.2.2 i y⟩
theorem PS_of {c cc : rs_T} {j i P : Nat} {v : Int64} (h : c18 c cc j i) : PS c (wA (wL cc 2 P v) 20 j (nI (P + 1))) j i P v := by
  refine ⟨fun k => ?_, ?_, ?_, fun i x h1 h2 => ?_, fun i y hy => ?_, ?_⟩
  · rw [rI_wA, rI_wL]; exact h.1 k
  · rw [rA_wn (by decide), rA_wL]; exact h.2.1
  · rw [rA_wss]
  · rw [rA_wA, if_neg h2, rA_wL]; exact h.2.2.1 i x h1 h2
  · rw [rL_wA, rL_wL, if_neg hy]; exact h.2.2.2 i y
  · rw [rL_wA, rL_wss]
theorem SR_p2 {N : Nat} {c m : rs_T} {T : Nat → ts_T} {S E M : Nat → Nat} {F t : Nat} {w : Bool} {KK : Nat → Nat → kT} {ZZ : Nat → Nat → Int32} {QS QE : Nat → Nat} {G : List fr_T} {f at_ b s h1 : Nat} {r : Bool} {o a b' : Int32} {v : Int64} (h : IB c m T S E M F t w KK ZZ QS QE) (hR : R0 c m (vm m) T S E M F w KK G f at_ r b s) (hs1 : rI m 9 = 1) (hat : at_ + 1 < E f) (hl : tl (T (at_ + 1))) (hT : (T (at_ + 1)).2.2.1 = h1 + 1) (hh : h1 ≤ (T at_).2.2.1)
    (hM : ∃ mm, m13 m mm ∧ msb N o a b' m = some (wI (wI (wL mm 2 (s + nm (vm m) f + h1) v) 13 (nI (s + nm (vm m) f + h1 + 1))) 15 (nI (at_ + 1))))
    (hS : r = false → ∃ cc, c18 c cc G.length at_ ∧ fx_Sr_perform N c = some (wA (wL cc 2 (b + nm (vm m) f + h1) v) 20 G.length (nI (b + nm (vm m) f + h1 + 1))))
    (hG : r = true → fx_Rr_perform N (nI (KK f at_).1) (wI c 17 0) = some (wL (wA (wI c 17 0) 18 G.length (nI ((KK f at_).1 + 1))) 2 (b + nm (vm m) f + h1) v) ∧ rA c 24 (KK f at_).1 = nI ((KK f at_).2.1 + 1) ∧ KK f (at_ + 1) = ((KK f at_).1 + 1, 0, kw (nm (vm m) f) (KK f at_).2.2 h1)) : SR N c m T S E M F t w o a b' r := by
  obtain ⟨mm, hm1, hm2⟩ := hM
  refine SR_push h hR hs1 hat hl hT hh ⟨_, hm2, PM_of hm1⟩ (fun hr => ?_) hG
  obtain ⟨cc, h1, h2⟩ := hS hr
  exact ⟨_, h2, PS_of h1⟩
-- the class with registers: the instruction at q of the running frame
theorem gp {c : rs_T} {N j b q to : Nat} {v : Int64} (h14 : rI c 14 = nI (j + 1)) (hj : j < 30) (hb : rA c 19 j = nI b) (hq : q < rN c 2 ∧ rN c 2 ≤ 3000) (hto : b + to < 220) : fx_Rr_setRegister (nI j) (nI to) v (wA (wI c 17 0) 18 j (nI (q + 1))) = some (wL (wA (wI c 17 0) 18 j (nI (q + 1))) 2 (b + to) v) := r_set hj (by rw [rA_wn (by decide), rA_wI]; exact hb) hto
theorem ga (c : rs_T) (j q i x : Nat) (hi : ¬ i = 18) : rA (wA (wI c 17 0) 18 j (nI (q + 1))) i x = rA c i x := by rw [rA_wn hi, rA_wI]
theorem SR_63 {N : Nat} {c m : rs_T} {T : Nat → ts_T} {S E M : Nat → Nat} {F t : Nat} {w : Bool} {KK : Nat → Nat → kT} {ZZ : Nat → Nat → Int32} {QS QE : Nat → Nat} {G : List fr_T} {f at_ b s : Nat} {r : Bool} {a b' : Int32} (h : IB c m T S E M F t w KK ZZ QS QE) (hR : R0 c m (vm m) T S E M F w KK G f at_ r b s) (hs1 : rI m 9 = 1) (ho : v_o (vm m) at_ = 63) : SR N c m T S E M F t w 63 a b' r := by
  obtain ⟨p1, p2, p3, p4, -⟩ := pl_ctx (n0 := 0) (k0 := 1) h hR ho (by decide) (by decide)
  obtain ⟨x1, x2, x3, x4, x5, x6, x7, x8, x9, x10, x11, x12, x13, x14, x15, x16, x17, -⟩ := cx h hR
  obtain ⟨h', hh⟩ : ∃ h', (T at_).2.2.1 = h' := ⟨(T at_).2.2.1, rfl⟩
  rw [hh] at x13 x15 x11 p3
  have h7 : rA c 7 at_ = 63 := (x1.1 at_).1.trans ho
  obtain ⟨-, -, -, ⟨pg, pg1, pg6, c9, m7⟩, -, -, -⟩ := id h.2.1
  have hM1 : (T (at_ + 1)).2.2.1 ≤ M f := by
    obtain ⟨-, ⟨⟨-, -, a3, -, -, -, -, -, a9, -⟩, -⟩, -⟩ := id hR
    obtain ⟨hWf, -, hE, -⟩ := pb_Wf h.1 a3
    exact (hWf.2.2.1.2.2 (at_ + 1) (by omega) (by omega)).2.2.2.1
  refine SR_p2 (h1 := h') (v := (nI pg).toInt64) h hR hs1 p1 p4 (by omega) (by omega) ⟨m, m13_0 m, ?_⟩ (fun hr => ?_) (fun hr => ?_)
  · rw [msb_s (by decide)]
    unfold fx_Md_simple fx_Md_simple_b48 fx_Md_simple_b69
    rw [if_neg (by decide), if_neg (by decide), if_neg (by decide), if_pos (by decide), if_neg (by decide), if_pos (by decide), if_pos rfl, m7, m_push x13 (by omega), bv_s, b155 (by simp (disch := omega) only [bn_s, bv_s, bd_s, gb_0, gb_1, rI_ws, rI_wn, rI_wA, rI_wL, rA_wI, rA_wL, rL_wI, rL_wA, rA_wss, rA_wn, rA_wsn, rL_wss, rL_wn, rL_wsn, rN_wI, rN_wA, rN_wL]; exact x14)]
  · subst hr
    obtain ⟨r1, ⟨-, -, -, -, -, -, -, -, b9, -⟩, -⟩ := hR
    obtain ⟨c18', c20, c17⟩ := b9 rfl
    rw [hh] at c20
    refine ⟨_, c18_0 c G.length at_, ?_⟩
    rw [sp_eq x6 x5 x2 c18' x3 x4, h7, if_pos (by decide), if_pos (by decide), if_neg (by decide)]
    unfold fx_Sr_useMemory
    rw [if_pos rfl, rI_wA, c9, s_push x5 (by rw [rA_wn (by decide)]; exact c20) (by omega), bv_s]
  · subst hr
    obtain ⟨r1, ⟨hfC, -⟩, -⟩ := hR
    obtain ⟨sz, z1, z2, z3, z4, z5, z6, z7, z8⟩ := rg_ctx h hfC
    unfold kcV at z5
    rw [ho, hh] at z5
    obtain ⟨y1, y2⟩ := z5.2.2.2.2.2.2.2.2.2.2.1 rfl
    refine ⟨?_, y1.2.1, y2⟩
    have hq := z8.1
    obtain ⟨i1, i2, i3, i4, i5, i6⟩ := y1
    rw [rp_eq (j := G.length) (by rw [rI_wn (by decide)]; exact x6) x5 (by first | omega | (simp only [rN_wI, rN_wA, rN_wL]; omega))]
    rw [rA_wI, rA_wI, rA_wI, i1, if_neg (by decide), if_pos (by decide), if_neg (by decide)]
    unfold fx_Rr_useMemory
    rw [if_pos rfl, gd_k (by first | omega | (simp only [rN_wI, rN_wA, rN_wL]; omega)) (by first | omega | (simp only [rN_wI, rN_wA, rN_wL]; omega)), nI_clamp (by omega), ga _ _ _ _ _ (by decide), i3, rI_wA, rI_wn (by decide), c9, gp (N := N) x6 x5 x8 (by omega) (by omega), bv_s, Nat.add_assoc]
theorem SR_35 {N : Nat} {c m : rs_T} {T : Nat → ts_T} {S E M : Nat → Nat} {F t : Nat} {w : Bool} {KK : Nat → Nat → kT} {ZZ : Nat → Nat → Int32} {QS QE : Nat → Nat} {G : List fr_T} {f at_ b s : Nat} {r : Bool} {b' : Int32} (h : IB c m T S E M F t w KK ZZ QS QE) (hR : R0 c m (vm m) T S E M F w KK G f at_ r b s) (hs1 : rI m 9 = 1) (ho : v_o (vm m) at_ = 35) : SR N c m T S E M F t w 35 (v_a (vm m) at_) b' r := by
  obtain ⟨p1, p2, p3, p4, p5⟩ := pl_ctx (n0 := 0) (k0 := 1) h hR ho (by decide) (by decide)
  obtain ⟨x1, x2, x3, x4, x5, x6, x7, x8, x9, x10, x11, x12, x13, x14, x15, x16, x17, -⟩ := cx h hR
  obtain ⟨h', hh⟩ : ∃ h', (T at_).2.2.1 = h' := ⟨(T at_).2.2.1, rfl⟩
  rw [hh] at x13 x15 x11 p3
  have h7 : rA c 7 at_ = 35 := (x1.1 at_).1.trans ho
  have h8 : rA c 8 at_ = v_a (vm m) at_ := (x1.1 at_).2.1
  obtain ⟨-, bg, -, -, -, -, -⟩ := id h.2.1
  obtain ⟨g, hg, eg⟩ : ∃ g : Nat, g < 8 ∧ v_a (vm m) at_ = nI g := by
    unfold t_lim at p5
    rw [if_neg (by decide), if_pos (by decide)] at p5
    cases ht : t_n (v_a (vm m) at_) 7 with
    | none => rw [ht] at p5; cases p5
    | some g =>
      obtain ⟨a1, a2⟩ := t_n_some (by omega) ht
      exact ⟨g, by omega, a2⟩
  rw [eg] at h8 ⊢
  have hM1 : (T (at_ + 1)).2.2.1 ≤ M f := by
    obtain ⟨-, ⟨⟨-, -, a3, -, -, -, -, -, a9, -⟩, -⟩, -⟩ := id hR
    obtain ⟨hWf, -, hE, -⟩ := pb_Wf h.1 a3
    exact (hWf.2.2.1.2.2 (at_ + 1) (by omega) (by omega)).2.2.2.1
  refine SR_p2 (h1 := h') (v := rL m 0 g) h hR hs1 p1 p4 (by omega) (by omega) ⟨m, m13_0 m, ?_⟩ (fun hr => ?_) (fun hr => ?_)
  · rw [msb_s (by decide)]
    unfold fx_Md_simple fx_Md_variable
    rw [if_neg (by decide), if_neg (by decide), if_neg (by decide), if_neg (by decide), x7, nI_pred, gd_k (by first | omega | (simp only [rN_wI, rN_wA, rN_wL]; omega)) (by first | omega | (simp only [rN_wI, rN_wA, rN_wL]; omega)), bd_s, if_neg (by decide), if_neg (by decide), if_neg (by decide), if_pos (by decide), gd_k hg (by omega), nI_clamp (by omega), m_push x13 (by omega), bv_s, bv_s, b155 (by simp (disch := omega) only [bn_s, bv_s, bd_s, gb_0, gb_1, rI_ws, rI_wn, rI_wA, rI_wL, rA_wI, rA_wL, rL_wI, rL_wA, rA_wss, rA_wn, rA_wsn, rL_wss, rL_wn, rL_wsn, rN_wI, rN_wA, rN_wL]; exact x14)]
  · subst hr
    obtain ⟨r1, ⟨-, -, -, -, -, -, -, -, b9, -⟩, -⟩ := hR
    obtain ⟨c18', c20, c17⟩ := b9 rfl
    rw [hh] at c20
    refine ⟨_, c18_0 c G.length at_, ?_⟩
    rw [sp_eq x6 x5 x2 c18' x3 x4, h7, if_pos (by decide), if_pos (by decide), if_pos (by decide), if_neg (by decide), h8]
    unfold fx_Sr_useVariable
    rw [gd_k x5 (by omega), bd_s, if_neg (by decide), if_neg (by decide), if_neg (by decide), if_neg (by decide), if_neg (by decide), if_pos (by decide), gd_k hg (by omega), nI_clamp (by omega), rL_wA, bg g hg, s_push x5 (by rw [rA_wn (by decide)]; exact c20) (by omega), bv_s]
  · subst hr
    obtain ⟨r1, ⟨hfC, -⟩, -⟩ := hR
    obtain ⟨sz, z1, z2, z3, z4, z5, z6, z7, z8⟩ := rg_ctx h hfC
    unfold kcV at z5
    rw [ho, hh, eg] at z5
    obtain ⟨y1, y2⟩ := z5.2.2.2.2.2.2.2.1 rfl
    refine ⟨?_, y1.2.1, y2⟩
    have hq := z8.1
    obtain ⟨i1, i2, i3, i4, i5, i6⟩ := y1
    rw [rp_eq (j := G.length) (by rw [rI_wn (by decide)]; exact x6) x5 (by first | omega | (simp only [rN_wI, rN_wA, rN_wL]; omega))]
    rw [rA_wI, rA_wI, rA_wI, i1, if_neg (by decide), if_pos (by decide), if_pos (by decide), if_neg (by decide)]
    unfold fx_Rr_useVariable
    rw [if_neg (by decide), if_pos (by decide), gd_k (by first | omega | (simp only [rN_wI, rN_wA, rN_wL]; omega)) (by first | omega | (simp only [rN_wI, rN_wA, rN_wL]; omega)), gd_k (by first | omega | (simp only [rN_wI, rN_wA, rN_wL]; omega)) (by first | omega | (simp only [rN_wI, rN_wA, rN_wL]; omega)), nI_clamp (by omega), ga _ _ _ _ _ (by decide), i6, gd_k hg (by omega), ga _ _ _ _ _ (by decide), i3, nI_clamp (by omega), rL_wA, rL_wI, bg g hg, gp (N := N) x6 x5 x8 (by omega) (by omega), bv_s, Nat.add_assoc]
