-- ===== a function is compiled =====
theorem kn_fin {c m : rs_T} {T : Nat → ts_T} {f s E ms F n i N qs q p : Nat} {W : Nat → Int32} (hH : kH c m T f s E ms F n i N qs) (hi1 : i + 1 = E) (hC : kC c n f s qs T i (q, p, W)) : ∃ c1 Q, fx_Co_translate N (nI i) c = some c1 ∧ rI c1 19 = nI Q ∧ zk c1 qs Q ∧ kf c c1 q i ∧ q ≤ Q ∧ Q ≤ qs + 2 * (E - s) ∧ (tl (T i) → kcV c1 (vm m) T f n (E - 1) nI i (q, p, W) (Q, 0, sl n)) := by
  have hW := hH.1
  have hie : i = E - 1 := by omega
  have hfin := hW.2.2.2.1
  rw [← hie] at hfin
  obtain ⟨ho, hel, hL, -⟩ := hfin
  have hlk := (hW.2.2.2.2.1 i hH.2.2.2.2.2.1 hH.2.2.2.2.2.2.1).2.1 ho
  unfold lk_e2 at hlk
  rw [hL] at hlk
  by_cases hl : tl (T i)
  · obtain ⟨hkin, h26, hsz, hpp, hq, hall, hhm, hn16⟩ := kH_live hH hC hl
    rw [ho] at hkin
    obtain ⟨c1, q1, p1, e1, e2, j0, j1⟩ := kt_f hkin h26 hlk
    have h2s : s ≤ i := hH.2.2.2.2.2.1
    refine ⟨c1, q1 + 1, e1, e2.1.1, e2.2.1, e2.2.2.1, e2.2.2.2.1, ?_, fun _ => ?_⟩
    · have := e2.2.2.2.2.1
      have : q1 + 1 + pt n (sl n) (T i).2.2.1 ≤ q + pt n W (T i).2.2.1 + 2 := this
      omega
    · unfold kcV
      have hd : decide (i = E - 1) = true := decide_eq_true hie
      rw [ho, hd]
      exact ⟨fun z => absurd z (by decide), fun z => absurd z (by decide), fun z => absurd z (by decide), fun z => absurd z (by decide), fun z => absurd z (by decide), fun z => absurd z (by decide), fun z => absurd z (by decide), fun z => absurd z (by decide), fun z => absurd z (by decide), fun z => absurd z (by decide), fun z => absurd z (by decide), fun z => absurd z (by decide), fun z => absurd z (by decide), fun z => absurd z (by decide), fun z => absurd z (by decide), fun z => absurd z (by decide), fun z => absurd z (by decide), fun z => absurd z (by decide), fun z => absurd z (by decide), fun z => absurd z (by decide), fun z => absurd z (by decide), fun z => absurd z (by decide), fun z => absurd z (by decide), fun z => absurd z (by decide), fun z => absurd z (by decide), fun _ z => (by cases z), fun _ _ => ⟨q1, p1, j0, j1, rfl⟩⟩
  · obtain ⟨hW, hA, hF, hf, hE, hi, hi2, hn, hms, hN, hqs⟩ := hH
    obtain ⟨h, d, k1, k2, -, k4, k5, k6, k7, k8, k9⟩ := hC
    obtain ⟨h25, hp0⟩ := k4 hl
    have hd0 : d = 0 := by
      obtain ⟨D, R, e, e2, -, -⟩ := k6
      rw [hL] at e
      have := List.append_eq_nil_iff.mp e.symm
      rw [this.1] at e2
      exact e2.symm
    subst hd0
    have h7 : rA c 7 i = 11 := (hA.1 i).1.trans ho
    have k7 : q + pt n W h ≤ qs + 2 * (i - s) + (T i).2.2.2.1 := k7
    exact ⟨c, q, kd_f (by omega) h7 h25 k5 hlk, k1.1, k2, kf_rfl _ _ _, Nat.le_refl _, by omega, fun z => absurd z hl⟩
def kG (c c1 : rs_T) (q i : Nat) : Prop := (∀ k, (k < 19 ∨ k = 20 ∨ k = 21 ∨ k = 22) → rI c1 k = rI c k) ∧ (∀ j x, j < 23 → rA c1 j x = rA c j x) ∧ (∀ j x, 23 ≤ j → j ≤ 28 → x < q → rA c1 j x = rA c j x) ∧ (∀ x, x < i → rA c1 30 x = rA c 30 x) ∧ (∀ j x, rL c1 j x = rL c j x) ∧ c1.2.2.2 = c.2.2.2
theorem kf_kG {c c1 : rs_T} {q i : Nat} (h : kf c c1 q i) : kG c c1 q i := ⟨h.1, h.2.1, h.2.2.1, fun x hx => h.2.2.2.1 x (by omega), h.2.2.2.2⟩
theorem kG_tr {c c1 c2 : rs_T} {q q1 i i1 : Nat} (h1 : kG c c1 q i) (h2 : kG c1 c2 q1 i1) (h : q ≤ q1) (hi : i ≤ i1) : kG c c2 q i := by
  obtain ⟨a1, a2, a3, a4, a5, a6⟩ := h1
  obtain ⟨b1, b2, b3, b4, b5, b6⟩ := h2
  exact ⟨fun k hk => (b1 k hk).trans (a1 k hk), fun j x hj => (b2 j x hj).trans (a2 j x hj), fun j x h1 h2 hx => (b3 j x h1 h2 (by omega)).trans (a3 j x h1 h2 hx), fun x hx => (b4 x (by omega)).trans (a4 x hx), fun j x => (b5 j x).trans (a5 j x), b6.trans a6⟩
theorem kG_inc {c c1 : rs_T} {q i : Nat} (h : kG c c1 q i) : inc c c1 nI nI 0 q 512 := ⟨fun j x a1 a2 _ a3 => h.2.2.1 j x a1 (by omega) a3, fun x _ a1 _ _ => h.2.2.1 28 x (by decide) (by decide) a1, fun x e _ a1 _ _ a4 => (h.2.2.1 28 x (by decide) (by decide) a1).trans a4, fun x _ => ⟨h.2.1 10 x (by decide), h.2.1 11 x (by decide)⟩⟩
theorem kcV_inc {c c1 : rs_T} {V : vw_T} {T : Nat → ts_T} {f n s e e0 ms i P Q X : Nat} {Z Z1 : Nat → Int32} {K0 K1 : kT} (hty : ty_F V T f s e0 ms) (hi : s ≤ i) (hie : i ≤ e0) (he : e0 < X) (hk : inc c c1 Z Z1 P Q X) (hP : P ≤ K0.1) (hQ : K1.1 ≤ Q) (h : kcV c V T f n e Z i K0 K1) : kcV c1 V T f n e Z1 i K0 K1 := by
  refine kc_inc hk hP hQ (by omega) (fun x hx => ?_) (fun j x _ _ hx => ?_) h
  · obtain ⟨q, q1, q2⟩ := lr_some hx
    have := (ty_mem hty hi hie (List.mem_of_getElem? q1)).2.1
    rw [q2]
    show q.1 < X
    omega
  · obtain ⟨q, q1, q2⟩ := lr_some hx
    have := (ty_mem hty hi hie (List.mem_of_getElem? q1)).2.1
    rw [q2]
    show q.1 < X
    omega
theorem kH_nx {c c1 m : rs_T} {T : Nat → ts_T} {f s E ms F n i N qs : Nat} (hH : kH c m T f s E ms F n i N qs) (hi : i + 1 < E) (h : ∀ j x, j < 23 → rA c1 j x = rA c j x) (hn3 : rN c1 0 = rN c 0 ∧ rN c1 2 = rN c 2 ∧ rN c1 3 = rN c 3) : kH c1 m T f s E ms F n (i + 1) N qs := by
  obtain ⟨hW, hA, hF, hf, hE, hi0, hi2, hn, hms, hN, hqs⟩ := hH
  refine ⟨pb_W_keep hW ⟨fun _ _ => ⟨rfl, rfl, rfl, rfl⟩, rfl, rfl, rfl⟩ (fun _ _ => rfl) (h 5 f (by decide)) (fun x _ => ⟨h 10 x (by decide), h 11 x (by decide), h 12 x (by decide)⟩) hE, ⟨fun x => ?_, fun x => ?_⟩, ⟨hF.1, fun x hx => ?_⟩, hf, hE, by omega, hi, hn, hms, hN, by omega⟩
  · rw [h 7 x (by decide), h 8 x (by decide), h 9 x (by decide)]; exact hA.1 x
  · rw [h 0 x (by decide), h 1 x (by decide), h 2 x (by decide)]; exact hA.2 x
  · rw [h 0 x (by decide), h 1 x (by decide), h 2 x (by decide)]; exact hF.2 x hx
theorem k_loop {m : rs_T} {T : Nat → ts_T} {f s E ms F n N qs : Nat} : ∀ (k fu : Nat) (c : rs_T) (i : Nat) (K0 : kT), i + k + 1 = E → k + 1 < fu → kH c m T f s E ms F n i N qs → kC c n f s qs T i K0 → ∃ (c1 : rs_T) (K : Nat → kT) (Q : Nat), K i = K0 ∧ fx_Co_compile_b59 N fu (nI f) (nI qs) (nI i) c = fx_Co_compile_b85 N N (nI f) (nI qs) (nI qs) c1 ∧ rI c1 19 = nI Q ∧ zk c1 qs Q ∧ kG c c1 K0.1 i ∧ K0.1 ≤ Q ∧ Q ≤ qs + 2 * (E - s) ∧ (∀ j, i ≤ j → j < E → tl (T j) → kcV c1 (vm m) T f n (E - 1) nI j (K j) (K (j + 1)) ∧ (K (j + 1)).1 ≤ Q ∧ K0.1 ≤ (K j).1 ∧ (K j).2.1 ≤ 512) ∧ (∀ j, i ≤ j → j + 1 < E → lnp (vm m) T j → rA c1 30 j = nI (K (j + 1)).1 ∧ (K (j + 1)).2.1 = 0 ∧ (K (j + 1)).2.2 = sl n) := by
  intro k
  induction k with
  | zero =>
    intro fu c i K0 hE hfu hH hC
    obtain ⟨fu, rfl⟩ : ∃ g, fu = g + 2 := ⟨fu - 2, by omega⟩
    obtain ⟨q, p, W⟩ := K0
    have hpb : p ≤ i - s := by
      obtain ⟨_, _, _, _, _, _, _, _, _, k8, _⟩ := hC
      exact k8
    obtain ⟨c1, Q, e1, e2, e3, e4, e5, e6, e7⟩ := kn_fin hH (by omega) hC
    obtain ⟨hW, hA, hF, hf, hE2, hi0, hi2, hn, hms, hN, hqs⟩ := hH
    have hF40 := hF.1
    refine ⟨c1, fun x => if x = i then (q, p, W) else (Q, 0, sl n), Q, if_pos rfl, ?_, e2, e3, kf_kG e4, e5, e6, fun j h1 h2 hl => ?_, fun j h1 h2 _ => by omega⟩
    · unfold fx_Co_compile_b59
      rw [gd_k (by omega) (by omega), nI_clamp (by omega), hW.2.1, if_neg (nI_nlt (by omega) (by omega)), e1, bv_s, bd_s, nI_1]
      unfold fx_Co_compile_b59
      rw [gd_k (by omega) (by omega), nI_clamp (by omega), e4.2.1 5 f (by decide), hW.2.1, if_pos (nI_lt (by omega) (by omega))]
    · have : j = i := by omega
      subst this
      show kcV c1 (vm m) T f n (E - 1) nI j (if j = j then (q, p, W) else (Q, 0, sl n)) (if j + 1 = j then (q, p, W) else (Q, 0, sl n)) ∧ (if j + 1 = j then (q, p, W) else (Q, 0, sl n)).1 ≤ Q ∧ q ≤ (if j = j then (q, p, W) else (Q, 0, sl n)).1 ∧ (if j = j then (q, p, W) else (Q, 0, sl n)).2.1 ≤ 512
      rw [if_pos rfl, if_neg (by omega)]
      exact ⟨e7 hl, Nat.le_refl _, Nat.le_refl _, by show p ≤ 512; omega⟩
  | succ k ih =>
    intro fu c i K0 hE hfu hH hC
    obtain ⟨fu, rfl⟩ : ∃ g, fu = g + 1 := ⟨fu - 1, by omega⟩
    obtain ⟨q, p, W⟩ := K0
    have hpb : p ≤ i - s := by
      obtain ⟨_, _, _, _, _, _, _, _, _, k8, _⟩ := hC
      exact k8
    have hstep : ∃ c1 K1, fx_Co_translate N (nI i) c = some c1 ∧ kC c1 n f s qs T (i + 1) K1 ∧ kN c c1 (vm m) T f n (E - 1) i (q, p, W) K1 := by
      by_cases hl : tl (T i)
      · exact kn_ctl hH (by omega) hC hl
      · exact kn_dead hH (by omega) hC hl
    obtain ⟨c1, K1, e1, e2, e3, e4, e5, e6⟩ := hstep
    obtain ⟨c2, K, Q, g1, g2, g3, g4, g5, g6, g7, g8, g9⟩ := ih fu c1 (i + 1) K1 (by omega) (by omega) (kH_nx hH (by omega) e3.2.1 (kf_n3 e3)) e2
    have e4 : q ≤ K1.1 := e4
    obtain ⟨hW, hA, hF, hf, hE2, hi0, hi2, hn, hms, hN, hqs⟩ := hH
    have hF40 := hF.1
    have hK : ∀ x, i < x → (if x = i then (q, p, W) else K x) = K x := fun x hx => if_neg (by omega)
    refine ⟨c2, fun x => if x = i then (q, p, W) else K x, Q, if_pos rfl, ?_, g3, g4, kG_tr (kf_kG e3) g5 e4 (by omega), ?_, g7, fun j h1 h2 hl => ?_, fun j h1 h2 hl => ?_⟩
    · unfold fx_Co_compile_b59
      rw [gd_k (by omega) (by omega), nI_clamp (by omega), hW.2.1, if_neg (nI_nlt (by omega) (by omega)), e1, bv_s, bd_s, nI_1]
      exact g2
    · show q ≤ Q
      omega
    · show kcV c2 (vm m) T f n (E - 1) nI j (if j = i then (q, p, W) else K j) (if j + 1 = i then (q, p, W) else K (j + 1)) ∧ (if j + 1 = i then (q, p, W) else K (j + 1)).1 ≤ Q ∧ q ≤ (if j = i then (q, p, W) else K j).1 ∧ (if j = i then (q, p, W) else K j).2.1 ≤ 512
      rw [hK (j + 1) (by omega)]
      by_cases z : j = i
      · subst z
        rw [if_pos rfl, g1]
        exact ⟨kcV_inc hW.2.2.1 hi0 (by omega) (by omega) (kG_inc g5) (Nat.zero_le _) (Nat.le_refl _) (e5 hl), g6, Nat.le_refl _, by show p ≤ 512; omega⟩
      · rw [if_neg z]
        obtain ⟨y1, y2, y3, y4⟩ := g8 j (by omega) h2 hl
        exact ⟨y1, y2, by omega, y4⟩
    · show rA c2 30 j = nI (if j + 1 = i then (q, p, W) else K (j + 1)).1 ∧ (if j + 1 = i then (q, p, W) else K (j + 1)).2.1 = 0 ∧ (if j + 1 = i then (q, p, W) else K (j + 1)).2.2 = sl n
      rw [hK (j + 1) (by omega)]
      by_cases z : j = i
      · subst z
        rw [g1, g5.2.2.2.1 j (by omega)]
        exact e6 hl
      · exact g9 j (by omega) h2 hl
-- the targets of jumps are put in
theorem k_patch {f qs Q N : Nat} (hf : f < 40) : ∀ (k fu : Nat) (c : rs_T) (x : Nat), x + k = Q → k < fu → (Q ≤ rN c 2 ∧ rN c 2 ≤ 3000 ∧ rN c 0 ≤ rN c 3 ∧ rN c 3 ≤ 1500) → rI c 19 = nI Q → zk c x Q → ∃ c1, fx_Co_compile_b85 N fu (nI f) (nI qs) (nI x) c = some (wI (wA c1 22 f (nI qs)) 20 (rI c1 20 + 1)) ∧ c1.2.2.2 = c.2.2.2 ∧ (∀ j, rI c1 j = rI c j) ∧ (∀ j y, ¬ j = 28 → rA c1 j y = rA c j y) ∧ (∀ j y, rL c1 j y = rL c j y) ∧ (∀ y, y < x → rA c1 28 y = rA c 28 y) ∧ (∀ y, x ≤ y → y < Q → ¬ rA c 23 y = 12 → ¬ rA c 23 y = 4 → rA c1 28 y = rA c 28 y) ∧ ∀ y e : Nat, x ≤ y → y < Q → (rA c 23 y = 12 ∨ rA c 23 y = 4) → e < 1500 → rA c 28 y = nI e → rA c1 28 y = rA c 30 e := by
  intro k
  induction k with
  | zero =>
    intro fu c x hx hfu hQ h19 hz
    obtain ⟨fu, rfl⟩ : ∃ g, fu = g + 1 := ⟨fu - 1, by omega⟩
    refine ⟨c, ?_, rfl, fun _ => rfl, fun _ _ _ => rfl, fun _ _ => rfl, fun _ _ => rfl, fun y h1 h2 => by omega, fun y e h1 h2 => by omega⟩
    unfold fx_Co_compile_b85
    have : x = Q := by omega
    subst this
    rw [h19, if_pos (Int32.le_refl _), gd_k (by omega) (by omega), nI_clamp (by omega)]
  | succ k ih =>
    intro fu c x hx hfu hQ h19 hz
    obtain ⟨fu, rfl⟩ : ∃ g, fu = g + 1 := ⟨fu - 1, by omega⟩
    unfold fx_Co_compile_b85
    rw [h19, if_neg (nI_ge (by omega) (by omega)), gd_k (by omega) (by omega), gd_k (by omega) (by omega), nI_clamp (by omega)]
    have hjump : (rA c 23 x = 12 ∨ rA c 23 x = 4) → ∃ c1, fx_Co_compile_b123 N (fx_Co_compile_b85 N fu) (nI f) (nI qs) (nI x) c = some (wI (wA c1 22 f (nI qs)) 20 (rI c1 20 + 1)) ∧ c1.2.2.2 = c.2.2.2 ∧ (∀ j, rI c1 j = rI c j) ∧ (∀ j y, ¬ j = 28 → rA c1 j y = rA c j y) ∧ (∀ j y, rL c1 j y = rL c j y) ∧ (∀ y, y < x → rA c1 28 y = rA c 28 y) ∧ (∀ y, x ≤ y → y < Q → ¬ rA c 23 y = 12 → ¬ rA c 23 y = 4 → rA c1 28 y = rA c 28 y) ∧ ∀ y e : Nat, x ≤ y → y < Q → (rA c 23 y = 12 ∨ rA c 23 y = 4) → e < 1500 → rA c 28 y = nI e → rA c1 28 y = rA c 30 e := by
      intro hj
      obtain ⟨e, he, hze⟩ := hz x (Nat.le_refl _) (by omega) hj
      unfold fx_Co_compile_b123 fx_Co_compile_b146
      rw [gd_k (by omega) (by omega), nI_clamp (by omega), hze, gd_k (by omega) (by omega), gd_k (by omega) (by omega), nI_clamp (by omega), bd_s, nI_1]
      obtain ⟨c1, g1, g0, g2, g3, g4, g5, g6, g7⟩ := ih fu (wA c 28 x (rA c 30 e)) (x + 1) (by omega) (by omega) hQ (by simp (disch := omega) only [bn_s, bv_s, bd_s, gb_0, gb_1, rI_ws, rI_wn, rI_wA, rI_wL, rA_wI, rA_wL, rL_wI, rL_wA, rA_wss, rA_wn, rA_wsn, rL_wss, rL_wn, rL_wsn, rN_wI, rN_wA, rN_wL]; exact h19) (fun y h1 h2 ho => by
        rw [rA_wn (by decide)] at ho
        rw [rA_wsn (by omega)]
        exact hz y (by omega) h2 ho)
      refine ⟨c1, g1, g0, fun j => ?_, fun j y hj => ?_, fun j y => ?_, fun y hy => ?_, fun y h1 h2 h3 h4 => ?_, fun y e2 h1 h2 h3 h4 h5 => ?_⟩
      · rw [g2]; simp (disch := omega) only [bn_s, bv_s, bd_s, gb_0, gb_1, rI_ws, rI_wn, rI_wA, rI_wL, rA_wI, rA_wL, rL_wI, rL_wA, rA_wss, rA_wn, rA_wsn, rL_wss, rL_wn, rL_wsn, rN_wI, rN_wA, rN_wL]
      · rw [g3 j y hj]; simp (disch := omega) only [bn_s, bv_s, bd_s, gb_0, gb_1, rI_ws, rI_wn, rI_wA, rI_wL, rA_wI, rA_wL, rL_wI, rL_wA, rA_wss, rA_wn, rA_wsn, rL_wss, rL_wn, rL_wsn, rN_wI, rN_wA, rN_wL]
      · rw [g4]; simp (disch := omega) only [bn_s, bv_s, bd_s, gb_0, gb_1, rI_ws, rI_wn, rI_wA, rI_wL, rA_wI, rA_wL, rL_wI, rL_wA, rA_wss, rA_wn, rA_wsn, rL_wss, rL_wn, rL_wsn, rN_wI, rN_wA, rN_wL]
      · rw [g5 y (by omega)]; simp (disch := omega) only [bn_s, bv_s, bd_s, gb_0, gb_1, rI_ws, rI_wn, rI_wA, rI_wL, rA_wI, rA_wL, rL_wI, rL_wA, rA_wss, rA_wn, rA_wsn, rL_wss, rL_wn, rL_wsn, rN_wI, rN_wA, rN_wL]
      · by_cases z : y = x
        · subst z
          rcases hj with z | z
          · exact absurd z h3
          · exact absurd z h4
        · rw [g6 y (by omega) h2 (by rw [rA_wn (by decide)]; exact h3) (by rw [rA_wn (by decide)]; exact h4), rA_wsn z]
      · by_cases z : y = x
        · subst z
          rw [hze] at h5
          have := (nI_eq (by omega) (by omega)).mp h5
          subst this
          rw [g5 y (by omega), rA_wss]
        · rw [g7 y e2 (by omega) h2 (by rw [rA_wn (by decide)]; exact h3) h4 (by rw [rA_wsn z]; exact h5), rA_wn (by decide)]
    by_cases h12 : rA c 23 x = 12
    · rw [if_pos h12]
      exact hjump (Or.inl h12)
    · rw [if_neg h12]
      by_cases h4 : rA c 23 x = 4
      · rw [if_pos h4]
        exact hjump (Or.inr h4)
      · rw [if_neg h4]
        unfold fx_Co_compile_b146
        rw [bd_s, nI_1]
        obtain ⟨c1, g1, g0, g2, g3, g4, g5, g6, g7⟩ := ih fu c (x + 1) (by omega) (by omega) hQ h19 (fun y h1 h2 ho => hz y (by omega) h2 ho)
        refine ⟨c1, g1, g0, g2, g3, g4, fun y hy => g5 y (by omega), fun y h1 h2 h3 h4 => ?_, fun y e2 h1 h2 h3 h4' h5 => ?_⟩
        · by_cases z : y = x
          · subst z; exact g5 y (by omega)
          · exact g6 y (by omega) h2 h3 h4
        · by_cases z : y = x
          · subst z
            rcases h3 with z | z
            · exact absurd z h12
            · exact absurd z h4
          · exact g7 y e2 (by omega) h2 h3 h4' h5
def kok (c : rs_T) (V : vw_T) (T : Nat → ts_T) (f n s E qs Q : Nat) (K : Nat → kT) (Z : Nat → Int32) : Prop := (K s).1 = qs ∧ (K s).2.1 = 0 ∧ (∀ j, s ≤ j → j < E → tl (T j) → kcV c V T f n (E - 1) Z j (K j) (K (j + 1)) ∧ (K (j + 1)).1 ≤ Q ∧ qs ≤ (K j).1 ∧ (K j).2.1 ≤ 512) ∧ ∀ j, s ≤ j → j + 1 < E → lnp V T j → Z j = nI (K (j + 1)).1 ∧ (K (j + 1)).2.1 = 0 ∧ (K (j + 1)).2.2 = sl n
theorem k_compile {c m : rs_T} {T : Nat → ts_T} {f s E ms F n N qs : Nat} (hW : pb_W c m T f s E ms) (hA : pb_A c m) (hF : cf_ok c (vm m) F) (hf : f < F) (hE : E ≤ 512) (h4 : rA c 4 f = nI s) (hn : n = v_p (vm m) f + v_c (vm m) f) (hms : n + ms ≤ 220) (hN : 5000 ≤ N) (h19 : rI c 19 = nI qs) (hqs : qs + 2 * (E - s) ≤ 1100) (hLn : ln_ok c.2.2.2) (hEL : E ≤ rN c 0) : ∃ c1 K Z Q, fx_Co_compile N (nI f) c = some c1 ∧ kok c1 (vm m) T f n s E qs Q K Z ∧ qs ≤ Q ∧ Q ≤ qs + 2 * (E - s) ∧ rI c1 19 = nI Q ∧ rI c1 20 = rI c 20 + 1 ∧ (∀ k, k < 19 → rI c1 k = rI c k) ∧ (∀ j x, j < 22 → rA c1 j x = rA c j x) ∧ (∀ x, ¬ x = f → rA c1 22 x = rA c 22 x) ∧ rA c1 22 f = nI qs ∧ (∀ j x, 23 ≤ j → j ≤ 28 → x < qs → rA c1 j x = rA c j x) ∧ (∀ j x, rL c1 j x = rL c j x) ∧ ln_ok c1.2.2.2 ∧ rN c1 0 = rN c 0 ∧ rN c1 1 = rN c 1 ∧ Q ≤ rN c1 2 := by
  have hF40 := hF.1
  obtain ⟨f0, -, f2, f3, -, f5⟩ := hF.2 f hf
  obtain ⟨c9, ec0⟩ : ∃ c0, c0 = wI (wI (wI (wI (wI (wI c 21 (nI f)) 22 (nI n)) 23 0) 24 0) 25 1) 26 0 := ⟨_, rfl⟩
  have e9n : c9.2.2.2 = c.2.2.2 := by rw [ec0]; rfl
  have e9A : ∀ j x, rA c9 j x = rA c j x := fun j x => by rw [ec0]; simp (disch := omega) only [bn_s, bv_s, bd_s, gb_0, gb_1, rI_ws, rI_wn, rI_wA, rI_wL, rA_wI, rA_wL, rL_wI, rL_wA, rA_wss, rA_wn, rA_wsn, rL_wss, rL_wn, rL_wsn, rN_wI, rN_wA, rN_wL]
  obtain ⟨c0, o1, oI, oA, oL, o2, o3, o4, o5, o6⟩ := co_mk (c := c9) (f := f) (q := qs) (s := s) (e := E) (by rw [ec0]; simp (disch := omega) only [bn_s, bv_s, bd_s, gb_0, gb_1, rI_ws, rI_wn, rI_wA, rI_wL, rA_wI, rA_wL, rL_wI, rL_wA, rA_wss, rA_wn, rA_wsn, rL_wss, rL_wn, rL_wsn, rN_wI, rN_wA, rN_wL]) (by omega) ((e9A 5 f).trans hW.2.1) ((e9A 4 f).trans h4) hW.1 hE (by rw [ec0]; simp (disch := omega) only [bn_s, bv_s, bd_s, gb_0, gb_1, rI_ws, rI_wn, rI_wA, rI_wL, rA_wI, rA_wL, rL_wI, rL_wA, rA_wss, rA_wn, rA_wsn, rL_wss, rL_wn, rL_wsn, rN_wI, rN_wA, rN_wL]; exact h19) hqs (by rw [e9n]; exact hLn)
  have o4 : rN c0 0 = rN c 0 := o4.trans (congrFun e9n 0)
  have o5 : rN c0 1 = rN c 1 := o5.trans (congrFun e9n 1)
  have o20 := o2
  unfold ln_ok at o20
  have x0 : rN c0 0 = c0.2.2.2 0 := rfl
  have x2 : rN c0 2 = c0.2.2.2 2 := rfl
  have x3 : rN c0 3 = c0.2.2.2 3 := rfl
  have hI : ∀ k, (k < 19 ∨ k = 20 ∨ k = 19) → rI c0 k = rI c k := fun k hk => by rw [oI, ec0]; simp (disch := omega) only [bn_s, bv_s, bd_s, gb_0, gb_1, rI_ws, rI_wn, rI_wA, rI_wL, rA_wI, rA_wL, rL_wI, rL_wA, rA_wss, rA_wn, rA_wsn, rL_wss, rL_wn, rL_wsn, rN_wI, rN_wA, rN_wL]
  have hA0 : ∀ j x, ¬ j = 30 → rA c0 j x = rA c j x := fun j x hj => by rw [oA j x hj]; exact e9A j x
  have hL0 : ∀ j x, rL c0 j x = rL c j x := fun j x => by rw [oL, ec0]; simp (disch := omega) only [bn_s, bv_s, bd_s, gb_0, gb_1, rI_ws, rI_wn, rI_wA, rI_wL, rA_wI, rA_wL, rL_wI, rL_wA, rA_wss, rA_wn, rA_wsn, rL_wss, rL_wn, rL_wsn, rN_wI, rN_wA, rN_wL]
  have hst : kst c0 n f qs 0 0 (sl n) := by
    refine ⟨by rw [hI 19 (by omega)]; exact h19, ?_, ?_, ?_, ?_, fun i hi => by omega⟩ <;> (rw [oI, ec0]; simp (disch := omega) only [bn_s, bv_s, bd_s, gb_0, gb_1, rI_ws, rI_wn, rI_wA, rI_wL, rA_wI, rA_wL, rL_wI, rL_wA, rA_wss, rA_wn, rA_wsn, rL_wss, rL_wn, rL_wsn, rN_wI, rN_wA, rN_wL, nI_0])
  have hT0 := hW.2.2.1.1
  have hsE := hW.1
  have hC : kC c0 n f s qs T s (qs, 0, sl n) := by
    refine ⟨0, 0, hst, fun x h1 h2 => by omega, fun _ => ⟨?_, ?_⟩, fun z => ?_, ?_, ?_, ?_, Nat.zero_le _, Nat.le_refl _⟩
    · rw [oI, ec0]; simp (disch := omega) only [bn_s, bv_s, bd_s, gb_0, gb_1, rI_ws, rI_wn, rI_wA, rI_wL, rA_wI, rA_wL, rL_wI, rL_wA, rA_wss, rA_wn, rA_wsn, rL_wss, rL_wn, rL_wsn, rN_wI, rN_wA, rN_wL]
    · rw [hT0]; rfl
    · rw [hT0] at z; exact absurd tl_0 z
    · rw [oI, ec0]; simp (disch := omega) only [bn_s, bv_s, bd_s, gb_0, gb_1, rI_ws, rI_wn, rI_wA, rI_wL, rA_wI, rA_wL, rL_wI, rL_wA, rA_wss, rA_wn, rA_wsn, rL_wss, rL_wn, rL_wsn, rN_wI, rN_wA, rN_wL, nI_0]
    · rw [hT0]; exact dlp_0 (fun x hx => by cases hx)
    · show qs + pt n (sl n) 0 ≤ _
      rw [pt_sl]
      omega
  have hH0 : kH c0 m T f s E ms F n s N qs := by
    refine ⟨pb_W_keep hW ⟨fun _ _ => ⟨rfl, rfl, rfl, rfl⟩, rfl, rfl, rfl⟩ (fun _ _ => rfl) (hA0 5 f (by decide)) (fun x _ => ⟨hA0 10 x (by decide), hA0 11 x (by decide), hA0 12 x (by decide)⟩) hE, ⟨fun x => ?_, fun x => ?_⟩, ⟨hF.1, fun x hx => ?_⟩, hf, hE, Nat.le_refl _, hsE, hn, hms, by omega, by omega⟩
    · rw [hA0 _ _ (by decide), hA0 _ _ (by decide), hA0 _ _ (by decide)]; exact hA.1 x
    · rw [hA0 _ _ (by decide), hA0 _ _ (by decide), hA0 _ _ (by decide)]; exact hA.2 x
    · rw [hA0 _ _ (by decide), hA0 _ _ (by decide), hA0 _ _ (by decide)]; exact hF.2 x hx
  obtain ⟨c1, K, Q, g1, g2, g3, g4, g5, g6, g7, g8, g9⟩ := k_loop (E - s - 1) N c0 s (qs, 0, sl n) (by omega) (by omega) hH0 hC
  have g5n : c1.2.2.2 = c0.2.2.2 := g5.2.2.2.2.2
  have y0 : rN c1 0 = rN c0 0 := congrFun g5n 0
  have y2 : rN c1 2 = rN c0 2 := congrFun g5n 2
  have y3 : rN c1 3 = rN c0 3 := congrFun g5n 3
  obtain ⟨c2, j1, j0, j2, j3, j4, j5, j6, j7⟩ := k_patch (f := f) (qs := qs) (Q := Q) (N := N) (by omega) (Q - qs) N c1 qs (by have : qs ≤ Q := g6; omega) (by omega) (by omega) g3 g4
  have hinc : inc c1 (wI (wA c2 22 f (nI qs)) 20 (rI c2 20 + 1)) nI (fun e => rA c1 30 e) qs Q 512 := by
    refine ⟨fun j x a1 a2 a0 a3 => ?_, fun x a0 a1 a2 a3 => ?_, fun x e a0 a1 a2 a3 a4 => ?_, fun x _ => ⟨?_, ?_⟩⟩
    · simp (disch := omega) only [bn_s, bv_s, bd_s, gb_0, gb_1, rI_ws, rI_wn, rI_wA, rI_wL, rA_wI, rA_wL, rL_wI, rL_wA, rA_wss, rA_wn, rA_wsn, rL_wss, rL_wn, rL_wsn, rN_wI, rN_wA, rN_wL]; exact j3 j x (by omega)
    · simp (disch := omega) only [bn_s, bv_s, bd_s, gb_0, gb_1, rI_ws, rI_wn, rI_wA, rI_wL, rA_wI, rA_wL, rL_wI, rL_wA, rA_wss, rA_wn, rA_wsn, rL_wss, rL_wn, rL_wsn, rN_wI, rN_wA, rN_wL]
      exact j6 x a0 a1 a2 a3
    · simp (disch := omega) only [bn_s, bv_s, bd_s, gb_0, gb_1, rI_ws, rI_wn, rI_wA, rI_wL, rA_wI, rA_wL, rL_wI, rL_wA, rA_wss, rA_wn, rA_wsn, rL_wss, rL_wn, rL_wsn, rN_wI, rN_wA, rN_wL]
      exact j7 x e a0 a1 a2 (by omega) a4
    · simp (disch := omega) only [bn_s, bv_s, bd_s, gb_0, gb_1, rI_ws, rI_wn, rI_wA, rI_wL, rA_wI, rA_wL, rL_wI, rL_wA, rA_wss, rA_wn, rA_wsn, rL_wss, rL_wn, rL_wsn, rN_wI, rN_wA, rN_wL]; exact j3 10 x (by decide)
    · simp (disch := omega) only [bn_s, bv_s, bd_s, gb_0, gb_1, rI_ws, rI_wn, rI_wA, rI_wL, rA_wI, rA_wL, rL_wI, rL_wA, rA_wss, rA_wn, rA_wsn, rL_wss, rL_wn, rL_wsn, rN_wI, rN_wA, rN_wL]; exact j3 11 x (by decide)
  refine ⟨_, K, fun e => rA c1 30 e, Q, ?_, ⟨by rw [g1], by rw [g1], fun j a1 a2 a3 => ⟨kcV_inc hW.2.2.1 a1 (by omega) (by omega) hinc (g8 j a1 a2 a3).2.2.1 (g8 j a1 a2 a3).2.1 (g8 j a1 a2 a3).1, (g8 j a1 a2 a3).2⟩, g9⟩, g6, g7, ?_, ?_, fun k hk => ?_, fun j x hj => ?_, fun x hx => ?_, ?_, fun j x a1 a2 a3 => ?_, fun j x => ?_, ?_, ?_, ?_, ?_⟩
  · unfold fx_Co_compile fx_Pr_allLocals
    rw [bd_s, h19, gd_k (by omega) (by omega), gd_k (by omega) (by omega), nI_clamp (by omega), bn_s]
    simp (disch := omega) only [bn_s, bv_s, bd_s, gb_0, gb_1, rI_ws, rI_wn, rI_wA, rI_wL, rA_wI, rA_wL, rL_wI, rL_wA, rA_wss, rA_wn, rA_wsn, rL_wss, rL_wn, rL_wsn, rN_wI, rN_wA, rN_wL]
    rw [f0, f2, nI_add, ← hn, ← ec0, o1, bv_s, gd_k (by omega) (by omega), hA0 4 f (by decide), h4, g2]
    exact j1
  · simp (disch := omega) only [bn_s, bv_s, bd_s, gb_0, gb_1, rI_ws, rI_wn, rI_wA, rI_wL, rA_wI, rA_wL, rL_wI, rL_wA, rA_wss, rA_wn, rA_wsn, rL_wss, rL_wn, rL_wsn, rN_wI, rN_wA, rN_wL]; rw [j2]; exact g3
  · simp (disch := omega) only [bn_s, bv_s, bd_s, gb_0, gb_1, rI_ws, rI_wn, rI_wA, rI_wL, rA_wI, rA_wL, rL_wI, rL_wA, rA_wss, rA_wn, rA_wsn, rL_wss, rL_wn, rL_wsn, rN_wI, rN_wA, rN_wL]; rw [j2, g5.1 20 (by omega), hI 20 (by omega)]
  · simp (disch := omega) only [bn_s, bv_s, bd_s, gb_0, gb_1, rI_ws, rI_wn, rI_wA, rI_wL, rA_wI, rA_wL, rL_wI, rL_wA, rA_wss, rA_wn, rA_wsn, rL_wss, rL_wn, rL_wsn, rN_wI, rN_wA, rN_wL]; rw [j2, g5.1 k (by omega), hI k (by omega)]
  · simp (disch := omega) only [bn_s, bv_s, bd_s, gb_0, gb_1, rI_ws, rI_wn, rI_wA, rI_wL, rA_wI, rA_wL, rL_wI, rL_wA, rA_wss, rA_wn, rA_wsn, rL_wss, rL_wn, rL_wsn, rN_wI, rN_wA, rN_wL]; rw [j3 j x (by omega), g5.2.1 j x (by omega), hA0 _ _ (by omega)]
  · simp (disch := omega) only [bn_s, bv_s, bd_s, gb_0, gb_1, rI_ws, rI_wn, rI_wA, rI_wL, rA_wI, rA_wL, rL_wI, rL_wA, rA_wss, rA_wn, rA_wsn, rL_wss, rL_wn, rL_wsn, rN_wI, rN_wA, rN_wL]; rw [j3 22 x (by decide), g5.2.1 22 x (by decide), hA0 _ _ (by decide)]
  · simp (disch := omega) only [bn_s, bv_s, bd_s, gb_0, gb_1, rI_ws, rI_wn, rI_wA, rI_wL, rA_wI, rA_wL, rL_wI, rL_wA, rA_wss, rA_wn, rA_wsn, rL_wss, rL_wn, rL_wsn, rN_wI, rN_wA, rN_wL]
  · simp (disch := omega) only [bn_s, bv_s, bd_s, gb_0, gb_1, rI_ws, rI_wn, rI_wA, rI_wL, rA_wI, rA_wL, rL_wI, rL_wA, rA_wss, rA_wn, rA_wsn, rL_wss, rL_wn, rL_wsn, rN_wI, rN_wA, rN_wL]
    have e1 : rA c2 j x = rA c1 j x := by
      by_cases z : j = 28
      · subst z; exact j5 x a3
      · exact j3 j x z
    rw [e1, g5.2.2.1 j x a1 a2 a3, hA0 _ _ (by omega)]
  · simp (disch := omega) only [bn_s, bv_s, bd_s, gb_0, gb_1, rI_ws, rI_wn, rI_wA, rI_wL, rA_wI, rA_wL, rL_wI, rL_wA, rA_wss, rA_wn, rA_wsn, rL_wss, rL_wn, rL_wsn, rN_wI, rN_wA, rN_wL]; rw [j4, g5.2.2.2.2.1, hL0]
  · show ln_ok c2.2.2.2; rw [j0, g5n]; exact o2
  · show rN c2 0 = _; exact (congrFun j0 0).trans (y0.trans o4)
  · show rN c2 1 = _; exact (congrFun j0 1).trans ((congrFun g5n 1).trans o5)
  · show Q ≤ rN c2 2; have : rN c2 2 = rN c1 2 := congrFun j0 2; omega
