-- ===== a frame is left =====
theorem IB_gen {c m c1 m1 : rs_T} {T : Nat → ts_T} {S E M : Nat → Nat} {F t : Nat} {w : Bool} {KK : Nat → Nat → kT} {ZZ : Nat → Nat → Int32} {QS QE : Nat → Nat} (h : IB c m T S E M F t w KK ZZ QS QE) (hcI : ∀ k, (k < 10 ∨ k = 13 ∨ k = 15 ∨ k = 19 ∨ k = 20) → rI c1 k = rI c k) (hcA : ∀ i x, (i < 17 ∨ 22 ≤ i ∧ i ≤ 28) → rA c1 i x = rA c i x) (hcL : ∀ i x, i < 2 → rL c1 i x = rL c i x) (hmI : ∀ k, (k < 9 ∨ k = 11 ∨ 17 ≤ k) → rI m1 k = rI m k) (hmA : ∀ i x, (i < 18 ∨ 21 ≤ i) → rA m1 i x = rA m i x) (hmL : ∀ i x, i < 2 → rL m1 i x = rL m i x) (h11 : rI c1 11 = rI m1 9) (h12 : rI c1 12 = rI m1 10) (hr2 : rI m1 9 = 2 → ∃ k : Nat, k ≤ 8 ∧ rI c1 10 = nI k ∧ rI m1 16 = nI k ∧ ∀ i, i < k → rL c1 3 i = rL m1 3 i) (hr : ¬ rI m1 9 = 2 → rI c1 10 = 0) (hn : c1.2.2.2 = c.2.2.2) : IB c1 m1 T S E M F t w KK ZZ QS QE ∧ vm m1 = vm m := by
  obtain ⟨a1, a2, ⟨sz, z1, z2, z3, z4⟩, g1, g2, g3, g4, g5, g6, g7, g8, g9⟩ := h
  have hv : vm m1 = vm m := vm_congr (fun i x hi => hmA i x (by omega))
  refine ⟨⟨pb_congr a1 (fun q _ _ => hcI q (by omega)) (fun i x hi _ => hcA i x (by omega)) (fun q _ => hmI q (by omega)) (fun i x hi => hmA i x (by omega)) (ln_e a1 hn), wb_congr a2 (fun _ z => z) (fun q hq => hcI q (by omega)) (fun i x hi => hcA i x (by omega)) hcL (fun q hq => hmI q (by omega)) (fun i x hi => hmA i x (by omega)) hmL, ⟨sz, ?_, ?_, ?_, fun f hf => ?_⟩, h11, h12, ?_, ?_, ?_, fun f hf => ?_, hr2, hr, fun x => ?_⟩, hv⟩
  · rw [hcI 19 (by omega)]; exact z1
  · rw [(csz_c (fun x => hmA 22 x (by omega)) F).1, show rN c1 2 = rN c 2 from congrFun hn 2]; exact z2
  · rw [hcI 20 (by omega), (csz_c (S := S) (E := E) (fun x => hmA 22 x (by omega)) F).2]; exact z3
  · rw [hcA 22 f (by omega), hmA 22 f (by omega), hv]
    rcases z4 f hf with y | ⟨y1, y2, y3, y4, y5, y6⟩
    · exact Or.inl y
    · obtain ⟨hWf, -, hE, -⟩ := pb_Wf a1 y1
      exact Or.inr ⟨y1, y2, y3, kok_c hWf.2.2.1 hE (fun j x hj => hcA j x (by omega)) y4, y5, y6⟩
  · rw [hcI 13 (by omega), hmI 11 (by omega)]; exact g3
  · rw [hcI 15 (by omega), hmI 18 (by omega)]; exact g4
  · rw [hmI 18 (by omega)]; exact g5
  · rw [hcA 6 f (by omega), hmA 21 f (by omega)]; exact g6 f hf
  · rw [hmA 9 x (by omega)]; exact g9 x
theorem ob_loop {N r : Nat} {m : rs_T} (hr : r ≤ 8) : ∀ (d fu i : Nat) (m1 : rs_T), i + d = r → d < fu → rI m1 16 = nI r → (∀ j, rI m1 j = rI m j) → (∀ j x, rA m1 j x = rA m j x) → (∀ j x, ¬ j = 3 → rL m1 j x = rL m j x) → (∀ y, y < i → rL m1 3 y = rL m 2 y) → ∃ m2, fx_Md_back_b95 N fu (nI i) m1 = some m2 ∧ (∀ j, rI m2 j = rI m j) ∧ (∀ j x, rA m2 j x = rA m j x) ∧ (∀ j x, ¬ j = 3 → rL m2 j x = rL m j x) ∧ ∀ y, y < r → rL m2 3 y = rL m 2 y := by
  intro d
  induction d with
  | zero =>
    intro fu i m1 hi hfu h16 h1 h2 h3 h4
    obtain ⟨fu, rfl⟩ : ∃ g, fu = g + 1 := ⟨fu - 1, by omega⟩
    have : i = r := by omega
    subst this
    refine ⟨m1, ?_, h1, h2, h3, h4⟩
    unfold fx_Md_back_b95
    rw [h16, if_pos (Int32.le_refl _)]
  | succ d ih =>
    intro fu i m1 hi hfu h16 h1 h2 h3 h4
    obtain ⟨fu, rfl⟩ : ∃ g, fu = g + 1 := ⟨fu - 1, by omega⟩
    unfold fx_Md_back_b95
    rw [h16, if_neg (nI_ge (by omega) (by omega)), gd_k (by first | omega | (simp only [rN_wI, rN_wA, rN_wL]; omega)) (by first | omega | (simp only [rN_wI, rN_wA, rN_wL]; omega)), gd_k (by first | omega | (simp only [rN_wI, rN_wA, rN_wL]; omega)) (by first | omega | (simp only [rN_wI, rN_wA, rN_wL]; omega)), bd_s, nI_1, nI_clamp (by omega)]
    refine ih fu (i + 1) (wL m1 3 i (rL m1 2 i)) (by omega) (by omega) (by rw [rI_wL]; exact h16) (fun j => by rw [rI_wL]; exact h1 j) (fun j x => by rw [rA_wL]; exact h2 j x) (fun j x hj => by rw [rL_wn hj]; exact h3 j x hj) (fun y hy => ?_)
    by_cases z : y = i
    · subst z; rw [rL_wss]; exact h3 2 _ (by decide)
    · rw [rL_wsn z]; exact h4 y (by omega)
theorem lr_loop {N r src : Nat} {c : rs_T} (hr : r ≤ 8) (hs : src + r ≤ 220) : ∀ (d fu i : Nat) (c1 : rs_T), i + d = r → d < fu → (∀ j, rI c1 j = rI c j) → (∀ j x, rA c1 j x = rA c j x) → (∀ j x, ¬ j = 3 → rL c1 j x = rL c j x) → (∀ y, y < i → rL c1 3 y = rL c 2 (src + y)) → ∃ c2, fx_Ac_leave_b58 N fu (nI src) (nI r) (nI i) c1 = some (wI (wI c2 10 (nI r)) 11 2) ∧ (∀ j, rI c2 j = rI c j) ∧ (∀ j x, rA c2 j x = rA c j x) ∧ (∀ j x, ¬ j = 3 → rL c2 j x = rL c j x) ∧ ∀ y, y < r → rL c2 3 y = rL c 2 (src + y) := by
  intro d
  induction d with
  | zero =>
    intro fu i c1 hi hfu h1 h2 h3 h4
    obtain ⟨fu, rfl⟩ : ∃ g, fu = g + 1 := ⟨fu - 1, by omega⟩
    have : i = r := by omega
    subst this
    refine ⟨c1, ?_, h1, h2, h3, h4⟩
    unfold fx_Ac_leave_b58
    rw [if_pos (Int32.le_refl _)]
  | succ d ih =>
    intro fu i c1 hi hfu h1 h2 h3 h4
    obtain ⟨fu, rfl⟩ : ∃ g, fu = g + 1 := ⟨fu - 1, by omega⟩
    have hlt : ¬ (220 : Int32) ≤ nI (src + i) := fun z => by
      have : 220 ≤ src + i := (lit_le (k := 220) (show src + i < 2 ^ 31 by omega) (by omega)).mp z
      omega
    unfold fx_Ac_leave_b58 fx_Ac_value
    rw [if_neg (nI_ge (by omega) (by omega)), nI_add, if_neg (nI_pos (by omega)), if_neg hlt, gd_k (by first | omega | (simp only [rN_wI, rN_wA, rN_wL]; omega)) (by first | omega | (simp only [rN_wI, rN_wA, rN_wL]; omega)), nI_clamp (by omega), bn_s, gd_k (by first | omega | (simp only [rN_wI, rN_wA, rN_wL]; omega)) (by first | omega | (simp only [rN_wI, rN_wA, rN_wL]; omega)), bd_s, nI_1, nI_clamp (by omega)]
    refine ih fu (i + 1) (wL c1 3 i (rL c1 2 (src + i))) (by omega) (by omega) (fun j => by rw [rI_wL]; exact h1 j) (fun j x => by rw [rA_wL]; exact h2 j x) (fun j x hj => by rw [rL_wn hj]; exact h3 j x hj) (fun y hy => ?_)
    by_cases z : y = i
    · subst z; rw [rL_wss]; exact h3 2 _ (by decide)
    · rw [rL_wsn z]; exact h4 y (by omega)
theorem lv_x {N : Nat} {c m cc mm : rs_T} {T : Nat → ts_T} {S E M : Nat → Nat} {F t : Nat} {w : Bool} {KK : Nat → Nat → kT} {ZZ : Nat → Nat → Int32} {QS QE : Nat → Nat} {G : List fr_T} {f at_ b s h0 : Nat} {r : Bool} (h : IB c m T S E M F t w KK ZZ QS QE) (hR : R0 c m (vm m) T S E M F w KK G f at_ r b s) (hs1 : rI m 9 = 1) (hN : 1000 ≤ N) (hh0 : h0 ≤ (T at_).2.2.1) (hr0 : v_r (vm m) f ≤ h0) (hmm : m13 m mm) (hmv : rI mm 13 = nI (s + nm (vm m) f + h0)) (hcn : cc.2.2.2 = c.2.2.2) (hcI : ∀ k, ¬ k = 17 → rI cc k = rI c k) (hc17 : rI cc 17 = 0) (hcA : ∀ i x, ¬ (i = 18 ∧ x = G.length) → ¬ (i = 20 ∧ x = G.length) → rA cc i x = rA c i x) (hcL : ∀ i y, ¬ (i = 2 ∧ b ≤ y) → rL cc i y = rL c i y) (hv : ∀ i, i < v_r (vm m) f → rL cc 2 (b + nm (vm m) f + (h0 - v_r (vm m) f) + i) = rL m 2 (s + nm (vm m) f + (h0 - v_r (vm m) f) + i)) : ∃ m1 c1, fx_Md_back N mm = some m1 ∧ fx_Ac_leave N (nI (b + nm (vm m) f + (h0 - v_r (vm m) f))) cc = some c1 ∧ rI c1 17 = 0 ∧ IB c1 m1 T S E M F t w KK ZZ QS QE ∧ ((¬ rI m1 9 = 1 ∧ G = []) ∨ ∃ g G', G = g :: G' ∧ R0 c1 m1 (vm m1) T S E M F w KK G' g.1 g.2.1 g.2.2.1 g.2.2.2.1 g.2.2.2.2) := by
  obtain ⟨x1, x2, x3, x4, x5, x6, x7, x8, x9, x10, x11, x12, x13, x14, x15, x16, x17, -⟩ := cx h hR
  obtain ⟨rw1, ⟨⟨a1, a2, a3, a4, a5, a6, a7, a8, a9, a10, a11, a12⟩, b2', b3, b4, b5, b6, b7, b8, b9, b10⟩, r3, r4, r5⟩ := id hR
  obtain ⟨hWf, hf40, hE, -, h0s, hlen, h3c, h5m, hM5⟩ := pb_Wf h.1 a3
  obtain ⟨f1, f2, f3, f4, f5, f6, f7, f8, f9⟩ := pb_fn h.1 a3.1
  obtain ⟨n, en⟩ : ∃ n, n = nm (vm m) f := ⟨_, rfl⟩
  obtain ⟨r0, er⟩ : ∃ r0, r0 = v_r (vm m) f := ⟨_, rfl⟩
  have hnm : v_p (vm m) f + v_c (vm m) f = n := by rw [en]; rfl
  rw [← en, ← er] at hv ⊢
  rw [← en] at hmv x10 x13 x15 x16 a8 b2' b3 b4 b5 b9
  rw [← er] at hr0 f2 f5 f8
  have hg := h.2.2.2
  -- the reference
  obtain ⟨mk, k1, k2, k3, k4, k5, k6⟩ := m_keep (N := N) (k := r0) (to := s) (V := s + n + h0) (m := mm) (by omega) (by omega) hN hmv
  have hask : fx_Md_asks (nI f) (wI mk 12 (nI G.length)) = some (nI (n + M f), wI mk 12 (nI G.length)) := by
    unfold fx_Md_asks fx_Md_namesOf
    rw [gd_k (by first | omega | (simp only [rN_wI, rN_wA, rN_wL]; omega)) (by first | omega | (simp only [rN_wI, rN_wA, rN_wL]; omega)), gd_k (by first | omega | (simp only [rN_wI, rN_wA, rN_wL]; omega)) (by first | omega | (simp only [rN_wI, rN_wA, rN_wL]; omega)), nI_clamp (by omega), bn_s, gd_k (by first | omega | (simp only [rN_wI, rN_wA, rN_wL]; omega)) (by first | omega | (simp only [rN_wI, rN_wA, rN_wL]; omega)), rA_wI, rA_wI, rA_wI, k4, k4, k4, hmm.2.1, hmm.2.1, hmm.2.1, f4, f6, h5m, nI_add, hnm, nI_add]
  have hkI : ∀ j, ¬ j = 13 → rI mk j = rI m j := fun j hj => (k3 j hj).trans (hmm.1 j hj)
  have hkA : ∀ i x, rA mk i x = rA m i x := fun i x => (k4 i x).trans (hmm.2.1 i x)
  have hkL : ∀ i x, ¬ i = 2 → rL mk i x = rL m i x := fun i x hi => (k5 i x hi).trans (hmm.2.2 i x)
  have hkV : ∀ y, rL mk 2 y = cpy (rL m 2) (s + n + (h0 - r0)) s r0 y := fun y => by
    rw [k6 y, show s + n + h0 - r0 = s + n + (h0 - r0) by omega]
    unfold cpy
    rw [hmm.2.2, hmm.2.2]
  obtain ⟨mb, emb⟩ : ∃ mb, mb = wI (wI (wI mk 12 (nI G.length)) 14 (nI b)) 15 (rA m 20 G.length) := ⟨_, rfl⟩
  have hback : fx_Md_back N mm = if G.length = 0 then fx_Md_back_b95 N N 0 (wI (wI mb 9 2) 16 (nI r0)) else some mb := by
    unfold fx_Md_back
    have e14 : rI mk 14 - nI (n + M f) = nI b := by
      rw [hkI 14 (by decide), b4, nI_sub (by omega)]
      congr 1
      omega
    rw [hmm.1 12 (by decide), x7, nI_pred, gd_k (by first | omega | (simp only [rN_wI, rN_wA, rN_wL]; omega)) (by first | omega | (simp only [rN_wI, rN_wA, rN_wL]; omega)), nI_clamp (by omega), hmm.2.1, a2, bd_s, gd_k (by first | omega | (simp only [rN_wI, rN_wA, rN_wL]; omega)) (by first | omega | (simp only [rN_wI, rN_wA, rN_wL]; omega)), gd_k (by first | omega | (simp only [rN_wI, rN_wA, rN_wL]; omega)) (by first | omega | (simp only [rN_wI, rN_wA, rN_wL]; omega)), nI_clamp (by omega), hmm.2.1, hmm.2.1, f5, x9, k1, bv_s, hkI 12 (by decide), x7, nI_pred, hask, bn_s, rI_ws, gd_k (by first | omega | (simp only [rN_wI, rN_wA, rN_wL]; omega)) (by first | omega | (simp only [rN_wI, rN_wA, rN_wL]; omega)), e14, nI_clamp (by omega), rA_wI, rA_wI, hkA 20, hkA 3, f5]
    by_cases z : G.length = 0
    · rw [if_pos z, if_pos (by rw [z]; decide), gd_k (by first | omega | (simp only [rN_wI, rN_wA, rN_wL]; omega)) (by first | omega | (simp only [rN_wI, rN_wA, rN_wL]; omega)), emb]
    · have hn0 : ¬ nI G.length ≤ (0 : Int32) := fun y => by
        have : G.length ≤ 0 := (le_lit (k := 0) (show G.length < 2 ^ 31 by omega) (by omega)).mp y
        omega
      rw [if_neg z, if_neg hn0, emb]
  have hbI : ∀ j, ¬ j = 12 → ¬ j = 13 → ¬ j = 14 → ¬ j = 15 → rI mb j = rI m j := fun j j1 j2 j3 j4 => by rw [emb, rI_wn j4, rI_wn j3, rI_wn j1]; exact hkI j j2
  have hbA : ∀ i x, rA mb i x = rA m i x := fun i x => by rw [emb]; exact hkA i x
  have hbL : ∀ i x, ¬ i = 2 → rL mb i x = rL m i x := fun i x hi => by rw [emb]; exact hkL i x hi
  have hbV : ∀ y, rL mb 2 y = cpy (rL m 2) (s + n + (h0 - r0)) s r0 y := fun y => by rw [emb]; exact hkV y
  have hb13 : rI mb 13 = nI (s + r0) := by rw [emb, rI_wn (by decide), rI_wn (by decide), rI_wn (by decide)]; exact k2
  have hb14 : rI mb 14 = nI b := by rw [emb, rI_wn (by decide), rI_ws]
  have hb15 : rI mb 15 = rA m 20 G.length := by rw [emb, rI_ws]
  have hb12 : rI mb 12 = nI G.length := by rw [emb, rI_wn (by decide), rI_wn (by decide), rI_ws]
  -- the class
  obtain ⟨cb, ecb⟩ : ∃ cb, cb = wI (wI cc 14 (nI G.length)) 18 (nI b) := ⟨_, rfl⟩
  have hdI : ∀ k, ¬ k = 14 → ¬ k = 17 → ¬ k = 18 → rI cb k = rI c k := fun k j1 j2 j3 => by rw [ecb, rI_wn j3, rI_wn j1]; exact hcI k j2
  have hdA : ∀ i x, ¬ (i = 18 ∧ x = G.length) → ¬ (i = 20 ∧ x = G.length) → rA cb i x = rA c i x := fun i x y1 y2 => by rw [ecb]; exact hcA i x y1 y2
  have hdL : ∀ i y, rL cb i y = rL cc i y := fun i y => by rw [ecb]; rfl
  have hd17 : rI cb 17 = 0 := by rw [ecb, rI_wn (by decide), rI_wn (by decide)]; exact hc17
  have hd18 : rI cb 18 = nI b := by rw [ecb, rI_ws]
  have hd14 : rI cb 14 = nI G.length := by rw [ecb, rI_wn (by decide), rI_ws]
  have hleave : fx_Ac_leave N (nI (b + n + (h0 - r0))) cc = if G.length = 0 then fx_Ac_leave_b58 N N (nI (b + n + (h0 - r0))) (nI r0) 0 cb else gd (nI G.length - 1) 30 (bv (fx_Ac_move N (nI (b + n + (h0 - r0))) (rA c 20 ((nI G.length - 1).toNatClampNeg)) (nI r0) cb) (fun st8 => gd ((rI st8 14) - 1) 30 (gd ((rI st8 14) - 1) 30 (some (wA st8 20 (((rI st8 14) - 1).toNatClampNeg) ((rA st8 20 (((rI st8 14) - 1).toNatClampNeg)) + nI r0)))))) := by
    unfold fx_Ac_leave
    have h0lt : (0 : Int32) < nI (G.length + 1) := (lit_lt (k := 0) (show G.length + 1 < 2 ^ 31 by omega) (by omega)).mpr (Nat.succ_pos _)
    rw [hcI 14 (by decide), x6, if_pos h0lt, nI_pred, gd_k (by first | omega | (simp only [rN_wI, rN_wA, rN_wL]; omega)) (by first | omega | (simp only [rN_wI, rN_wA, rN_wL]; omega)), gd_k (by first | omega | (simp only [rN_wI, rN_wA, rN_wL]; omega)) (by first | omega | (simp only [rN_wI, rN_wA, rN_wL]; omega)), nI_clamp (by omega), hcA 17 _ (by omega) (by omega), a1, gd_k (by first | omega | (simp only [rN_wI, rN_wA, rN_wL]; omega)) (by first | omega | (simp only [rN_wI, rN_wA, rN_wL]; omega)), bd_s, nI_clamp (by omega), hcA 1 _ (by omega) (by omega), f2, hcA 19 _ (by omega) (by omega), a4, ← ecb]
    by_cases z : G.length = 0
    · rw [if_pos z, if_pos (by rw [z]; rfl)]
    · have hn0 : ¬ nI G.length = (0 : Int32) := nI_ne0 (by omega) (by omega)
      rw [if_neg z, if_neg hn0]
      have e20 : ∀ x, x < G.length → rA cc 20 x = rA c 20 x := fun x hx => hcA 20 x (by omega) (by omega)
      have : (nI G.length - 1).toNatClampNeg = G.length - 1 := by
        rw [show (1 : Int32) = nI 1 from rfl, nI_sub (by omega), nI_clamp (by omega)]
      rw [this, e20 _ (by omega)]
  cases G with
  | nil =>
    obtain ⟨hb0, hs0⟩ := rw1
    rw [if_pos (show ([] : List fr_T).length = 0 from rfl)] at hback hleave
    obtain ⟨m1, o1, o2, o3, o4, o5⟩ := ob_loop (N := N) (r := r0) (m := wI (wI mb 9 2) 16 (nI r0)) (by omega) r0 N 0 (wI (wI mb 9 2) 16 (nI r0)) (by omega) (by omega) (by rw [rI_ws]) (fun _ => rfl) (fun _ _ => rfl) (fun _ _ _ => rfl) (fun y hy => by omega)
    obtain ⟨c1, l1, l2, l3, l4, l5⟩ := lr_loop (N := N) (r := r0) (src := b + n + (h0 - r0)) (c := cb) (by omega) (by omega) r0 N 0 cb (by omega) (by omega) (fun _ => rfl) (fun _ _ => rfl) (fun _ _ _ => rfl) (fun y hy => by omega)
    have m9 : rI m1 9 = 2 := by rw [o2, rI_wn (by decide), rI_ws]
    refine ⟨m1, wI (wI c1 10 (nI r0)) 11 2, by rw [hback]; exact o1, by rw [hleave]; exact l1, ?_, ?_⟩
    · rw [rI_wn (by decide), rI_wn (by decide), l2]; exact hd17
    · obtain ⟨q1, -⟩ := IB_gen (c1 := wI (wI c1 10 (nI r0)) 11 2) (m1 := m1) h (fun k hk => by rw [rI_wn (by omega), rI_wn (by omega), l2]; exact hdI k (by omega) (by omega) (by omega)) (fun i x hi => by rw [rA_wI, rA_wI, l3]; exact hdA i x (by omega) (by omega)) (fun i x hi => by rw [rL_wI, rL_wI, l4 i x (by omega), hdL]; exact hcL i x (by omega)) (fun k hk => by rw [o2, rI_wn (by omega), rI_wn (by omega)]; exact hbI k (by omega) (by omega) (by omega) (by omega)) (fun i x _ => by rw [o3, rA_wI, rA_wI]; exact hbA i x) (fun i x hi => by rw [o4 i x (by omega), rL_wI, rL_wI]; exact hbL i x (by omega)) (by rw [rI_ws, m9]) (by rw [rI_wn (by decide), rI_wn (by decide), l2, hdI 12 (by decide) (by decide) (by decide), o2, rI_wn (by decide), rI_wn (by decide), hbI 10 (by decide) (by decide) (by decide) (by decide)]; exact hg.2.1) (fun _ => ⟨r0, by omega, by rw [rI_wn (by decide), rI_ws], by rw [o2, rI_ws], fun i hi => by
        rw [rL_wI, rL_wI, l5 i hi, hdL, o5 i hi, rL_wI, rL_wI, hbV, hv i hi]
        unfold cpy
        rw [if_pos ⟨by omega, by omega⟩]
        congr 1
        omega⟩) (fun z => absurd m9 z) ((nf_Ac_leave (hleave.trans l1)).trans hcn)
      exact ⟨q1, Or.inl ⟨by rw [m9]; decide, rfl⟩⟩
  | cons g G =>
    have hgl : (g :: G).length = G.length + 1 := rfl
    rw [hgl] at hback hleave x5 x6 x7 x8 x9 a1 a2 a4 a5 a6 r3 hdA hd14 hb12 hb15
    rw [if_neg (by omega)] at hback hleave
    obtain ⟨⟨c1', c2', c3', c4', c5', c6', c7', c8', c9', c10', c11', c12'⟩, hb', ⟨o, o1, o2, o3, o4, o5, o6, o7⟩, hMg, hrW⟩ := rw1
    rw [← er] at o2 o7
    obtain ⟨ng, eng⟩ : ∃ ng, ng = nm (vm m) g.1 := ⟨_, rfl⟩
    rw [← eng] at c8' hb' o1 o3 o4 o7
    obtain ⟨cm, n1, n2, n3, n4, n5⟩ := c_move (N := N) (k := r0) (to := g.2.2.2.1 + ng + o) (src := b + n + (h0 - r0)) (c := cb) (by omega) (by omega) hN
    obtain ⟨c1, ec1⟩ : ∃ c1, c1 = wA cm 20 G.length (nI (g.2.2.2.1 + ng + o + r0)) := ⟨_, rfl⟩
    have hlv : fx_Ac_leave N (nI (b + n + (h0 - r0))) cc = some c1 := by
      rw [hleave, nI_pred, gd_k (by first | omega | (simp only [rN_wI, rN_wA, rN_wL]; omega)) (by first | omega | (simp only [rN_wI, rN_wA, rN_wL]; omega)), nI_clamp (by omega), o4, n1, bv_s, n2, hd14, nI_pred, gd_k (by first | omega | (simp only [rN_wI, rN_wA, rN_wL]; omega)) (by first | omega | (simp only [rN_wI, rN_wA, rN_wL]; omega)), gd_k (by first | omega | (simp only [rN_wI, rN_wA, rN_wL]; omega)) (by first | omega | (simp only [rN_wI, rN_wA, rN_wL]; omega)), nI_clamp (by omega), n3, hdA 20 _ (by omega) (by omega), o4, nI_add, ec1]
    have eI : ∀ k, ¬ k = 14 → ¬ k = 17 → ¬ k = 18 → rI c1 k = rI c k := fun k y1 y2 y3 => by rw [ec1, rI_wA, n2]; exact hdI k y1 y2 y3
    have eA : ∀ i x, ¬ (i = 18 ∧ x = G.length + 1) → ¬ (i = 20 ∧ (x = G.length + 1 ∨ x = G.length)) → rA c1 i x = rA c i x := fun i x y1 y2 => by
      rw [ec1, rA_wA, if_neg (fun z => y2 ⟨z.1, Or.inr z.2⟩), n3]
      exact hdA i x y1 (fun z => y2 ⟨z.1, Or.inl z.2⟩)
    have eL : ∀ i y, ¬ (i = 2 ∧ g.2.2.2.1 + ng + o ≤ y) → rL c1 i y = rL c i y := fun i y hy => by
      rw [ec1, rL_wA]
      by_cases z : i = 2
      · subst z
        have hylt : y < g.2.2.2.1 + ng + o := by
          by_cases z2 : g.2.2.2.1 + ng + o ≤ y
          · exact absurd ⟨rfl, z2⟩ hy
          · omega
        rw [n5 y]
        unfold cpy
        rw [if_neg (fun z3 => by omega), hdL]
        exact hcL 2 y (by omega)
      · rw [n4 i y z, hdL]; exact hcL i y (by omega)
    have eV : ∀ i, i < r0 → rL c1 2 (g.2.2.2.1 + ng + o + i) = rL mb 2 (g.2.2.2.2 + ng + o + i) := fun i hi => by
      rw [ec1, rL_wA, n5, hbV]
      unfold cpy
      rw [if_pos ⟨by omega, by omega⟩, if_pos ⟨by omega, by omega⟩, hdL]
      have e1 : b + n + (h0 - r0) + (g.2.2.2.1 + ng + o + i - (g.2.2.2.1 + ng + o)) = b + n + (h0 - r0) + i := by omega
      have e2 : s + n + (h0 - r0) + (g.2.2.2.2 + ng + o + i - s) = s + n + (h0 - r0) + i := by omega
      rw [e1, e2]; exact hv i hi
    have e17 : rI c1 17 = 0 := by rw [ec1, rI_wA, n2]; exact hd17
    have hst : rI c 11 = 1 := by rw [hg.1]; exact hs1
    obtain ⟨q1, q2⟩ := IB_gen (c1 := c1) (m1 := mb) h (fun k hk => eI k (by omega) (by omega) (by omega)) (fun i x hi => eA i x (by omega) (by omega)) (fun i x hi => eL i x (by omega)) (fun k hk => hbI k (by omega) (by omega) (by omega) (by omega)) (fun i x _ => hbA i x) (fun i x hi => hbL i x (by omega)) (by rw [eI 11 (by decide) (by decide) (by decide), hbI 9 (by decide) (by decide) (by decide) (by decide)]; exact hg.1) (by rw [eI 12 (by decide) (by decide) (by decide), hbI 10 (by decide) (by decide) (by decide) (by decide)]; exact hg.2.1) (fun z => by rw [hbI 9 (by decide) (by decide) (by decide) (by decide), hs1] at z; exact absurd z (by decide)) (fun _ => by rw [eI 10 (by decide) (by decide) (by decide)]; exact hg.2.2.2.2.2.2.2.1 (by rw [hs1]; decide)) ((nf_Ac_leave hlv).trans hcn)
    refine ⟨mb, c1, hback, hlv, e17, q1, Or.inr ⟨g, G, rfl, ?_⟩⟩
    rw [q2]
    refine ⟨rW_keep (fun f hf => ⟨rfl, by rw [eA 22 f (by omega) (by omega)]; exact hf⟩) (fun j x y1 y2 y3 => eA j x (by omega) (by omega)) (fun j x _ _ _ => hbA j x) (fun x _ => hbA 20 x) (fun y hy => eL 2 y (by omega)) (fun y hy => by rw [hbV y]; unfold cpy; rw [if_neg (fun z => by omega)]) (by omega) hrW, ⟨⟨?_, ?_, c3', ?_, ?_, ?_, c7', by rw [← eng]; exact c8', c9', c10', c11', fun z => ?_⟩, ?_, ?_, ?_, ?_, ?_, ?_, hMg, fun z => ⟨?_, ?_, e17⟩, fun z => ⟨?_, ?_⟩⟩, by omega, ?_, ?_⟩
    · rw [eA 17 _ (by omega) (by omega)]; exact c1'
    · rw [hbA]; exact c2'
    · rw [eA 19 _ (by omega) (by omega)]; exact c4'
    · rw [hbA]; exact c5'
    · rw [eA 21 _ (by omega) (by omega)]; exact c6'
    · rw [eA 22 _ (by omega) (by omega)]; exact c12' z
    · rw [← eng, o2]
      have hbase := fV_keep (c1 := c1) (m1 := mb) o3 (by omega) (fun y y1 y2 => eL 2 y (by omega)) (fun y y1 y2 => by rw [hbV y]; unfold cpy; rw [if_neg (fun z => by omega)])
      refine ⟨hbase.1, fun x hx => ?_, fun x hx => ?_⟩
      · by_cases z : x < o
        · exact hbase.2.1 x z
        · have hW : wf KK ng g.1 g.2.1 g.2.2.1 x = nI (ng + x) := by
            unfold wf
            cases hgr : g.2.2.1 with
            | false => rfl
            | true => exact (o7 hgr).2.2 x (by omega) hx
          rw [hW, ev_n (by omega)]
          have := eV (x - o) (by omega)
          rw [show g.2.2.2.1 + (ng + x) = g.2.2.2.1 + ng + o + (x - o) by omega, this]
          congr 1
          omega
      · by_cases z : x < o
        · exact hbase.2.2 x z
        · refine Or.inr (Or.inl ?_)
          unfold wf
          cases hgr : g.2.2.1 with
          | false => rfl
          | true => exact (o7 hgr).2.2 x (by omega) hx
    · rw [hb13, ← eng, o2]; congr 1; omega
    · rw [hb14, ← eng]; congr 1
    · rw [ec1, rI_wA, n2, hd18, ← eng]; congr 1
    · rw [hb15]; exact o5
    · rw [eI 16 (by decide) (by decide) (by decide)]; exact b7
    · rw [eA 18 _ (by omega) (by omega)]; exact o6 z
    · rw [ec1, rA_wss, ← eng, o2]; congr 1; omega
    · rw [eA 18 _ (by omega) (by omega)]; exact (o7 z).1
    · rw [e17, (o7 z).2.1]; rfl
    · rw [ec1, rI_wA, n2]; exact hd14
    · exact hb12
theorem lv_all {N : Nat} {c m cc mm : rs_T} {T : Nat → ts_T} {S E M : Nat → Nat} {F t : Nat} {w : Bool} {KK : Nat → Nat → kT} {ZZ : Nat → Nat → Int32} {QS QE : Nat → Nat} {G : List fr_T} {f at_ b s h0 : Nat} {r : Bool} (h : IB c m T S E M F t w KK ZZ QS QE) (hR : R0 c m (vm m) T S E M F w KK G f at_ r b s) (hs1 : rI m 9 = 1) (hN : 1000 ≤ N) (hh0 : h0 ≤ (T at_).2.2.1) (hr0 : v_r (vm m) f ≤ h0) (hmm : m13 m mm) (hmv : rI mm 13 = nI (s + nm (vm m) f + h0)) (hcn : cc.2.2.2 = c.2.2.2) (hcI : ∀ k, ¬ k = 17 → rI cc k = rI c k) (hc17 : rI cc 17 = 0) (hcA : ∀ i x, ¬ (i = 18 ∧ x = G.length) → ¬ (i = 20 ∧ x = G.length) → rA cc i x = rA c i x) (hcL : ∀ i y, ¬ (i = 2 ∧ b ≤ y) → rL cc i y = rL c i y) (hv : ∀ i, i < v_r (vm m) f → rL cc 2 (b + nm (vm m) f + (h0 - v_r (vm m) f) + i) = rL m 2 (s + nm (vm m) f + (h0 - v_r (vm m) f) + i)) : ∃ m1 c1, fx_Md_back N mm = some m1 ∧ fx_Ac_leave N (nI (b + nm (vm m) f + (h0 - v_r (vm m) f))) cc = some c1 ∧ rI c1 17 = 0 ∧ IR c1 m1 T S E M F t w KK ZZ QS QE := by
  obtain ⟨m1, c1, l1, l2, l3, l4, l5⟩ := lv_x (N := N) (cc := cc) h hR hs1 hN hh0 hr0 hmm hmv hcn hcI hc17 hcA hcL hv
  refine ⟨m1, c1, l1, l2, l3, l4, fun z => ?_⟩
  rcases l5 with ⟨l5, -⟩ | ⟨g, G', -, l5⟩
  · exact absurd z l5
  · exact ⟨G', _, _, _, _, _, l5⟩
