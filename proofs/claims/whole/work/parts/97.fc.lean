-- ===== one step of both machines: what is to be shown =====
def SR (N : Nat) (c m : rs_T) (T : Nat → ts_T) (S E M : Nat → Nat) (F t : Nat) (w : Bool) (o a b : Int32) (r : Bool) : Prop := ∃ m1 c1 k KK ZZ QS QE, msb N o a b m = some m1 ∧ k ≤ 1000 ∧ (r = false → ∃ c2, fx_Sr_perform N c = some c2 ∧ (rI c2 17 = 0 ∨ ¬ rI c2 11 = 1) ∧ vl N k c2 c1) ∧ (r = true → vl N k (wI c 17 (rI c 17 + 1)) c1) ∧ IR c1 m1 T S E M F t w KK ZZ QS QE
theorem csz_le {c m : rs_T} {T : Nat → ts_T} {S E M : Nat → Nat} {F t : Nat} {w : Bool} (h : pb c m T S E M F t w) : ∀ k, k ≤ F → csz m S E k ≤ 2 * t ∧ (∀ g, k = g + 1 → csz m S E k ≤ 2 * E g) := by
  obtain ⟨h1, h2, h3, h4, h5, h6, h7, h8, h9, h10, h11, h12, h13, h14⟩ := h
  intro k
  induction k with
  | zero => intro _; exact ⟨Nat.zero_le _, fun g hg => by omega⟩
  | succ k ih =>
    intro hk
    obtain ⟨i1, i2⟩ := ih (by omega)
    obtain ⟨-, -, -, -, -, -, a7, a8⟩ := h10 k (by omega)
    have hb : csz m S E (k + 1) ≤ 2 * E k := by
      unfold csz
      have hs : csz m S E k ≤ 2 * S k := by
        cases k with
        | zero => exact Nat.zero_le _
        | succ g =>
          have := i2 g rfl
          have := h11 g (by omega)
          omega
      by_cases z : rA m 22 k = 0
      · rw [if_pos z]; omega
      · rw [if_neg z]; omega
    exact ⟨by omega, fun g hg => by have : k = g := by omega
                                    subst this; exact hb⟩
-- what is known of a frame in registers at its place
theorem rg_ctx {c m : rs_T} {T : Nat → ts_T} {S E M : Nat → Nat} {F t : Nat} {w : Bool} {KK : Nat → Nat → kT} {ZZ : Nat → Nat → Int32} {QS QE : Nat → Nat} {j f at_ b s : Nat} (h : IB c m T S E M F t w KK ZZ QS QE) (hf : fC c m (vm m) T S E M F w j f at_ true b s) : ∃ sz, rI c 19 = nI sz ∧ (sz ≤ 1100 ∧ sz ≤ rN c 2 ∧ rN c 2 ≤ 3000) ∧ QE f ≤ sz ∧ kok c (vm m) T f (nm (vm m) f) (S f) (E f) (QS f) (QE f) (KK f) (ZZ f) ∧ kcV c (vm m) T f (nm (vm m) f) (E f - 1) (ZZ f) at_ (KK f at_) (KK f (at_ + 1)) ∧ (KK f (at_ + 1)).1 ≤ QE f ∧ (KK f at_).2.1 ≤ 512 ∧ kwt c (QE f) (KK f at_).1 (KK f at_).2.1 (v_o (vm m) at_) := by
  obtain ⟨a1, a2, ⟨sz, z1, z2, z3, z4⟩, g⟩ := h
  obtain ⟨b1, b2, b3, b4, b5, b6, b7, b8, b9, b10, b11, b12⟩ := hf
  obtain ⟨hWf, hf40, hE, -⟩ := pb_Wf a1 b3
  rcases z4 f hf40 with y | ⟨y1, y2, y3, y4, y5, y6⟩
  · exact absurd y.1 (b12 rfl)
  · have hs := (csz_le a1 F (Nat.le_refl _)).1
    have ht := a1.2.1
    have hln := (pb_ln a1).2.2.1
    obtain ⟨g1, g2, g3, g4⟩ := y4.2.2.1 at_ b9 b10 b11
    exact ⟨sz, z1, by omega, y5, y4, g1, g2, g4, kok_w y4 hWf.2.2.1 hWf.2.2.2.1 hWf.1 (E f - at_ - 1) at_ (by omega) b9 b11⟩
theorem vb_of {c c1 : rs_T} {N j q sz : Nat} (h11 : rI c 11 = 1) (h16 : rI c 16 = 0) (h14 : rI c 14 = nI (j + 1)) (hj : j < 30) (h21 : rA c 21 j = b2 true) (h18 : rA c 18 j = nI q) (h19 : rI c 19 = nI sz) (hq : q < sz) (hsz : sz ≤ rN c 2 ∧ rN c 2 ≤ 3000) (hw : rA c 24 q = rI c 17) (hp : fx_Rr_perform N (nI q) (wI c 17 0) = some c1) (h17 : rI c1 17 = 0) : vq N c c1 :=
  ⟨h11, Or.inr (Or.inl ⟨h16, sp_reg h14 hj h21, ⟨q, by omega, by rw [h19]; exact sp_next h14 hj h18 hq (by omega), hw, hp⟩, h17⟩)⟩
-- results of one instruction
def PM (m m1 : rs_T) (i P1 : Nat) (v : Int64) : Prop := (∀ k, ¬ k = 13 → ¬ k = 15 → rI m1 k = rI m k) ∧ rI m1 13 = nI (P1 + 1) ∧ rI m1 15 = nI (i + 1) ∧ (∀ i x, rA m1 i x = rA m i x) ∧ (∀ i y, ¬ (i = 2 ∧ y = P1) → rL m1 i y = rL m i y) ∧ rL m1 2 P1 = v
def PS (c c1 : rs_T) (j i P1 : Nat) (v : Int64) : Prop := (∀ k, rI c1 k = rI c k) ∧ rA c1 18 j = nI (i + 1) ∧ rA c1 20 j = nI (P1 + 1) ∧ (∀ i x, ¬ (i = 18 ∧ x = j) → ¬ (i = 20 ∧ x = j) → rA c1 i x = rA c i x) ∧ (∀ i y, ¬ (i = 2 ∧ y = P1) → rL c1 i y = rL c i y) ∧ rL c1 2 P1 = v
theorem wb_same {c m c1 m1 : rs_T} {F : Nat} {w : Bool} (h : wb c m F w) (hc : ∀ k, ¬ k = 17 → rI c1 k = rI c k) (hC : ∀ x, rA c1 15 x = rA c 15 x ∧ rA c1 16 x = rA c 16 x) (hL : ∀ x, rL c1 0 x = rL c 0 x ∧ rL c1 1 x = rL c 1 x) (hm : ∀ k, ¬ k = 13 → ¬ k = 15 → rI m1 k = rI m k) (hM : ∀ i x, rA m1 i x = rA m i x) (hN : ∀ x, rL m1 0 x = rL m 0 x ∧ rL m1 1 x = rL m 1 x) : wb c1 m1 F w := by
  refine wb_congr h (fun _ z => z) (fun q hq => hc q (by omega)) (fun j x hj => ?_) (fun j x hj => ?_) (fun q hq => hm q (by omega) (by omega)) (fun j x _ => hM j x) (fun j x hj => ?_)
  · rcases hj with z | z
    · subst z; exact (hC x).1
    · subst z; exact (hC x).2
  · have : j = 0 ∨ j = 1 := by omega
    rcases this with z | z
    · subst z; exact (hL x).1
    · subst z; exact (hL x).2
  · have : j = 0 ∨ j = 1 := by omega
    rcases this with z | z
    · subst z; exact (hN x).1
    · subst z; exact (hN x).2
-- an instruction that takes some operands and puts one
theorem SR_push {N : Nat} {c m : rs_T} {T : Nat → ts_T} {S E M : Nat → Nat} {F t : Nat} {w : Bool} {KK : Nat → Nat → kT} {ZZ : Nat → Nat → Int32} {QS QE : Nat → Nat} {G : List fr_T} {f at_ b s h1 : Nat} {r : Bool} {o a b' : Int32} {v : Int64} (h : IB c m T S E M F t w KK ZZ QS QE) (hR : R0 c m (vm m) T S E M F w KK G f at_ r b s) (hs1 : rI m 9 = 1) (hat : at_ + 1 < E f) (hl : tl (T (at_ + 1))) (hT : (T (at_ + 1)).2.2.1 = h1 + 1) (hh : h1 ≤ (T at_).2.2.1)
    (hM : ∃ m1, msb N o a b' m = some m1 ∧ PM m m1 at_ (s + nm (vm m) f + h1) v)
    (hS : r = false → ∃ c2, fx_Sr_perform N c = some c2 ∧ PS c c2 G.length at_ (b + nm (vm m) f + h1) v)
    (hG : r = true → fx_Rr_perform N (nI (KK f at_).1) (wI c 17 0) = some (wL (wA (wI c 17 0) 18 G.length (nI ((KK f at_).1 + 1))) 2 (b + nm (vm m) f + h1) v) ∧ rA c 24 (KK f at_).1 = nI ((KK f at_).2.1 + 1) ∧ KK f (at_ + 1) = ((KK f at_).1 + 1, 0, kw (nm (vm m) f) (KK f at_).2.2 h1)) : SR N c m T S E M F t w o a b' r := by
  obtain ⟨m1, hm1, p1, p2, p3, p4, p5, p6⟩ := hM
  have hR0 := hR
  obtain ⟨r1, ⟨hfC, hfV, b3, b4, b5, b6, b7, b8, b9, b10⟩, r3, r4, r5⟩ := hR
  obtain ⟨a1, a2, a3, a4, a5, a6, a7, a8, a9, a10, a11, a12⟩ := id hfC
  have hg := h.2.2.2
  have hst : rI c 11 = 1 := by rw [hg.1]; exact hs1
  have hmX : mX m m1 s := ⟨fun k _ _ _ k1 k2 => p1 k k1 k2, fun i x _ => p4 i x, fun x => ⟨p5 1 x (by omega), p5 3 x (by omega)⟩, fun y hy => p5 2 y (by omega)⟩
  have hmV : ∀ y, s ≤ y → y < s + nm (vm m) f + h1 → rL m1 2 y = rL m 2 y := fun y _ hy => p5 2 y (by omega)
  cases r with
  | false =>
    obtain ⟨c2, hc2, q1, q2, q3, q4, q5, q6⟩ := hS rfl
    have hcX : cX c c2 G.length b := ⟨fun k _ _ _ _ => q1 k, fun i x _ x1 x2 => q4 i x x1 x2, fun x => ⟨q5 0 x (by omega), q5 3 x (by omega)⟩, fun y hy => q5 2 y (by omega)⟩
    have hw := wb_same h.2.1 (fun k _ => q1 k) (fun x => ⟨q4 15 x (by omega) (by omega), q4 16 x (by omega) (by omega)⟩) (fun x => ⟨q5 0 x (by omega), q5 1 x (by omega)⟩) p1 p4 (fun x => ⟨p5 0 x (by omega), p5 1 x (by omega)⟩)
    have hv : fV c2 m1 (vm m) (nm (vm m) f) (wf KK (nm (vm m) f) f (at_ + 1) false) b s (T (at_ + 1)).2.2.1 := by
      rw [hT]
      have := fV_push hfV hh (by omega) (fun y _ hy => q5 2 y (by omega)) hmV q6 p6
      have ew : kw (nm (vm m) f) (wf KK (nm (vm m) f) f at_ false) h1 = sl (nm (vm m) f) := kw_sl _ _
      rw [ew] at this
      exact this
    obtain ⟨k1, k2⟩ := R_top h hR0 hcX hmX hw hs1 (by rw [q1]; exact hst) (by rw [p1 9 (by decide) (by decide)]; exact hs1) (by rw [q1, p1 10 (by decide) (by decide)]; exact hg.2.1) (by omega) hat hl hv (by rw [hT]; exact p2) p3 (fun _ => ⟨q2, by rw [hT]; exact q3, by rw [q1]; exact (b9 rfl).2.2⟩) (fun z => (by cases z)) (nf_Sr_perform hc2)
    exact ⟨m1, c2, 0, KK, ZZ, QS, QE, hm1, by omega, fun _ => ⟨c2, hc2, Or.inl (by rw [q1]; exact (b9 rfl).2.2), rfl⟩, fun z => (by cases z), k1, fun _ => ⟨G, f, at_ + 1, false, b, s, k2⟩⟩
  | true =>
    obtain ⟨g1, g2, g3⟩ := hG rfl
    obtain ⟨b101, b102⟩ := b10 rfl
    obtain ⟨sz, z1, z2, z3, z4, z5, z6, z7, z8⟩ := rg_ctx h hfC
    obtain ⟨c1, ec1⟩ : ∃ c1, c1 = wL (wA (wI c 17 0) 18 G.length (nI ((KK f at_).1 + 1))) 2 (b + nm (vm m) f + h1) v := ⟨_, rfl⟩
    rw [← ec1] at g1
    have q1 : ∀ k, ¬ k = 17 → rI c1 k = rI c k := fun k hk => by rw [ec1]; simp (disch := omega) only [bn_s, bv_s, bd_s, gb_0, gb_1, rI_ws, rI_wn, rI_wA, rI_wL, rA_wI, rA_wL, rL_wI, rL_wA, rA_wss, rA_wn, rA_wsn, rL_wss, rL_wn, rL_wsn, rN_wI, rN_wA, rN_wL]
    have q17 : rI c1 17 = 0 := by rw [ec1]; simp (disch := omega) only [bn_s, bv_s, bd_s, gb_0, gb_1, rI_ws, rI_wn, rI_wA, rI_wL, rA_wI, rA_wL, rL_wI, rL_wA, rA_wss, rA_wn, rA_wsn, rL_wss, rL_wn, rL_wsn, rN_wI, rN_wA, rN_wL]
    have q18 : rA c1 18 G.length = nI ((KK f at_).1 + 1) := by rw [ec1]; simp (disch := omega) only [bn_s, bv_s, bd_s, gb_0, gb_1, rI_ws, rI_wn, rI_wA, rI_wL, rA_wI, rA_wL, rL_wI, rL_wA, rA_wss, rA_wn, rA_wsn, rL_wss, rL_wn, rL_wsn, rN_wI, rN_wA, rN_wL]
    have q4 : ∀ i x, ¬ (i = 18 ∧ x = G.length) → rA c1 i x = rA c i x := fun i x hx => by
      rw [ec1, rA_wL, rA_wA, if_neg hx, rA_wI]
    have q5 : ∀ i y, ¬ (i = 2 ∧ y = b + nm (vm m) f + h1) → rL c1 i y = rL c i y := fun i y hy => by
      rw [ec1, rL_wL, if_neg hy, rL_wA, rL_wI]
    have q6 : rL c1 2 (b + nm (vm m) f + h1) = v := by rw [ec1]; simp (disch := omega) only [bn_s, bv_s, bd_s, gb_0, gb_1, rI_ws, rI_wn, rI_wA, rI_wL, rA_wI, rA_wL, rL_wI, rL_wA, rA_wss, rA_wn, rA_wsn, rL_wss, rL_wn, rL_wsn, rN_wI, rN_wA, rN_wL]
    have hcX : cX c c1 G.length b := ⟨fun k _ _ _ k1 => q1 k k1, fun i x _ x1 _ => q4 i x x1, fun x => ⟨q5 0 x (by omega), q5 3 x (by omega)⟩, fun y hy => q5 2 y (by omega)⟩
    have hw := wb_same h.2.1 q1 (fun x => ⟨q4 15 x (by omega), q4 16 x (by omega)⟩) (fun x => ⟨q5 0 x (by omega), q5 1 x (by omega)⟩) p1 p4 (fun x => ⟨p5 0 x (by omega), p5 1 x (by omega)⟩)
    have hv : fV c1 m1 (vm m) (nm (vm m) f) (wf KK (nm (vm m) f) f (at_ + 1) true) b s (T (at_ + 1)).2.2.1 := by
      rw [hT]
      have := fV_push hfV hh (by omega) (fun y _ hy => q5 2 y (by omega)) hmV q6 p6
      have ew : wf KK (nm (vm m) f) f (at_ + 1) true = kw (nm (vm m) f) (wf KK (nm (vm m) f) f at_ true) h1 := by
        show (KK f (at_ + 1)).2.2 = kw (nm (vm m) f) (KK f at_).2.2 h1
        rw [g3]
      rw [ew]
      exact this
    obtain ⟨k1, k2⟩ := R_top h hR0 hcX hmX hw hs1 (by rw [q1 11 (by decide)]; exact hst) (by rw [p1 9 (by decide) (by decide)]; exact hs1) (by rw [q1 12 (by decide), p1 10 (by decide) (by decide)]; exact hg.2.1) (by omega) hat hl hv (by rw [hT]; exact p2) p3 (fun z => (by cases z)) (fun _ => ⟨by rw [g3]; exact q18, by rw [g3, q17]; rfl⟩) (by rw [ec1]; rfl)
    refine ⟨m1, c1, 1, KK, ZZ, QS, QE, hm1, by omega, fun z => (by cases z), fun _ => ?_, k1, fun _ => ⟨G, f, at_ + 1, true, b, s, k2⟩⟩
    rw [b102, nI_1]
    refine vl_1 (vb_of (j := G.length) (q := (KK f at_).1) (sz := sz) (by rw [rI_wn (by decide)]; exact hst) (by rw [rI_wn (by decide)]; exact b7) (by rw [rI_wn (by decide)]; exact r4) r3 a6 b101 (by rw [rI_wn (by decide)]; exact z1) (by have := z8.1; omega) (by rw [rN_wI]; omega) (by rw [rI_ws]; exact g2) (by rw [wI_wI]; exact g1) q17)
