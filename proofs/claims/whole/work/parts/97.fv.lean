-- ===== a new frame is counted, compiled if due, and settled =====
theorem csz_up {m m1 : rs_T} {S E : Nat → Nat} {g : Nat} (h0 : rA m 22 g = 0) (h1 : rA m1 22 g = 1) (h : ∀ x, ¬ x = g → rA m1 22 x = rA m 22 x) : ∀ k, (k ≤ g → csz m1 S E k = csz m S E k ∧ cct m1 k = cct m k) ∧ (g < k → csz m1 S E k = csz m S E k + 2 * (E g - S g) ∧ cct m1 k = cct m k + 1) := by
  intro k
  induction k with
  | zero => exact ⟨fun _ => ⟨rfl, rfl⟩, fun z => by omega⟩
  | succ k ih =>
    refine ⟨fun hk => ?_, fun hk => ?_⟩
    · obtain ⟨i1, i2⟩ := ih.1 (by omega)
      unfold csz cct
      rw [i1, i2, h k (by omega)]
      exact ⟨rfl, rfl⟩
    · by_cases z : k = g
      · subst z
        obtain ⟨i1, i2⟩ := ih.1 (Nat.le_refl _)
        unfold csz cct
        rw [i1, i2, h0, h1, if_neg (by decide), if_pos rfl, if_neg (by decide), if_pos rfl]
        exact ⟨by omega, by omega⟩
      · obtain ⟨i1, i2⟩ := ih.2 (by omega)
        unfold csz cct
        rw [i1, i2, h k z]
        exact ⟨by omega, by omega⟩
theorem st_en {N : Nat} {c m cb ce mm m1 : rs_T} {T : Nat → ts_T} {S E M : Nat → Nat} {F t : Nat} {w : Bool} {KK : Nat → Nat → kT} {ZZ : Nat → Nat → Int32} {QS QE : Nat → Nat} {g D A s p i : Nat} {X : Nat → Int64} (h : IB c m T S E M F t w KK ZZ QS QE) (hs1 : rI m 9 = 1) (hN : 5000 ≤ N) (hg : wh_F F w g) (hD : D < 30) (hcI : ∀ k, ¬ k = 17 → rI cb k = rI c k) (hcA : ∀ i x, (i < 18 ∨ i = 19 ∨ 21 ≤ i) → rA cb i x = rA c i x) (hcL : ∀ i y, ¬ i = 2 → rL cb i y = rL c i y) (hc17 : rI cb 17 = 0) (hce : cEn cb ce g D A p (nm (vm m) g) (M g) (S g) X) (hmm : m13 m mm) (hm1 : mEn mm m1 g D A s p (nm (vm m) g) (M g) (S g) i (if rA mm 22 g = 1 ∨ (¬ rI mm 17 ≤ 0 ∧ ¬ rA mm 21 g + 1 < rI mm 17) then 1 else 0)) (hA : A + (nm (vm m) g + M g) ≤ 220) (hcn : ce.2.2.2 = c.2.2.2) : ∃ c1 KK1 ZZ1 QS1 QE1 r1, vq N ce c1 ∧ IB c1 m1 T S E M F t w KK1 ZZ1 QS1 QE1 ∧ vm m1 = vm m ∧ (∀ f, ¬ rA c 22 f = -1 → KK1 f = KK f ∧ ¬ rA c1 22 f = -1) ∧ rI c1 16 = 0 ∧ rI c1 17 = 0 ∧ rI c1 11 = 1 ∧ rI c1 14 = rI ce 14 ∧ rI c1 18 = rI ce 18 ∧ (∀ j x, 17 ≤ j → j ≤ 20 → ¬ (j = 18 ∧ x = D) → rA c1 j x = rA ce j x) ∧ (∀ x, ¬ x = D → rA c1 21 x = rA ce 21 x) ∧ (∀ j y, rL c1 j y = rL ce j y) ∧ rA c1 21 D = b2 r1 ∧ (r1 = false → rA c1 18 D = nI (S g)) ∧ (r1 = true → rA c1 18 D = nI (KK1 g (S g)).1 ∧ (KK1 g (S g)).2.1 = 0 ∧ ¬ rA c1 22 g = -1) := by
  obtain ⟨a1, a2, ⟨sz, z1, z2, z3, z4⟩, g1, g2, g3, g4, g5, g6, g7, g8, g9⟩ := id h
  obtain ⟨hWf, hf40, hE, h4s, h0s, hlen, h3c, h5m, hM5⟩ := pb_Wf a1 hg
  obtain ⟨e1, e2, e3, e4, e5, e6, e7, e8, e9, e10, e11, e12, e13⟩ := hce
  obtain ⟨n1, n2, n3, n4, n5, n6, n7, n8, n9, n10, n11, n12, n13, n14⟩ := hm1
  have hst : rI c 11 = 1 := by rw [g1]; exact hs1
  have hv : vm m1 = vm m := vm_congr (fun i x hi => by rw [n11 i x (by omega) (by omega)]; exact hmm.2.1 i x)
  have hm1I : ∀ k, ¬ k = 12 → ¬ k = 13 → ¬ k = 14 → ¬ k = 15 → rI m1 k = rI m k := fun k k1 k2 k3 k4 => (n5 k k1 k2 k3 k4).trans (hmm.1 k k2)
  have hm1A : ∀ j y, (j < 18 ∨ 22 < j ∨ ¬ y = g ∧ 20 < j) → rA m1 j y = rA m j y := fun j y hj => (n11 j y (by omega) (by omega)).trans (hmm.2.1 j y)
  have hm1L : ∀ j y, ¬ j = 2 → rL m1 j y = rL m j y := fun j y hj => (n12 j y hj).trans (hmm.2.2 j y)
  have hceI : ∀ k, ¬ k = 14 → ¬ k = 16 → ¬ k = 17 → ¬ k = 18 → rI ce k = rI c k := fun k k1 k2 k3 k4 => (e4 k k1 k2 k4).trans (hcI k k3)
  have hce17 : rI ce 17 = 0 := (e4 17 (by decide) (by decide) (by decide)).trans hc17
  have hceA : ∀ j y, (j < 17 ∨ 22 ≤ j) → rA ce j y = rA c j y := fun j y hj => (e10 j y (by omega)).trans (hcA j y (by omega))
  have hceL : ∀ j y, ¬ j = 2 → rL ce j y = rL c j y := fun j y hj => (e11 j y (by omega)).trans (hcL j y hj)
  -- counting
  obtain ⟨ci, eci⟩ : ∃ ci, ci = wA ce 6 g (rA c 6 g + 1) := ⟨_, rfl⟩
  have hcin : ci.2.2.2 = c.2.2.2 := by rw [eci]; exact hcn
  have hciA : ∀ j y, ¬ (j = 6 ∧ y = g) → rA ci j y = rA ce j y := fun j y hj => by rw [eci, rA_wA, if_neg hj]
  have hcur : fx_Ac_currentFunction ce = some (nI g, ce) := by
    have h0 : ¬ nI (D + 1) ≤ (0 : Int32) := fun z => by
      have : D + 1 ≤ 0 := (le_lit (k := 0) (show D + 1 < 2 ^ 31 by omega) (by omega)).mp z
      omega
    unfold fx_Ac_currentFunction
    rw [e1, if_neg h0, nI_pred, gd_k hD (by omega), nI_clamp (by omega), e5]
  have hdue : fx_Ma_isDueWhenCounted (nI g) ce = some ((if ¬ rI m 17 ≤ 0 ∧ ¬ rA m 21 g + 1 < rI m 17 ∧ rA c 22 g = -1 then 1 else 0), ci) := by
    unfold fx_Ma_isDueWhenCounted
    rw [gd_k hf40 (by omega), gd_k hf40 (by omega), gd_k hf40 (by omega), gd_k hf40 (by omega), nI_clamp (by omega), hceA 6 g (by omega), rA_wss, hceI 1 (by decide) (by decide) (by decide) (by decide), hceA 22 g (by omega), ← eci, a2.2.2.2.2.2.1, g6 g hf40]
    by_cases c1 : rI m 17 ≤ 0
    · rw [if_pos c1, if_neg (fun z => z.1 c1)]
    · rw [if_neg c1]
      by_cases c2 : rA m 21 g + 1 < rI m 17
      · rw [if_pos c2, if_neg (fun z => z.2.1 c2)]
      · rw [if_neg c2]
        by_cases c3 : rA c 22 g = -1
        · rw [if_pos c3, if_pos ⟨c1, c2, c3⟩]
        · rw [if_neg c3, if_neg (fun z => c3 z.2.2)]
  have hset : ∀ (st : rs_T) (q : Nat), q < 5000 → rI st 14 = nI (D + 1) → fx_Ac_settleFrame (nI q) st = some (wA (wA (wI st 16 0) 21 D 1) 18 D (nI q)) := fun st q hq hst => by
    have h0 : ¬ nI (D + 1) ≤ (0 : Int32) := fun z => by
      have : D + 1 ≤ 0 := (le_lit (k := 0) (show D + 1 < 2 ^ 31 by omega) (by omega)).mp z
      omega
    unfold fx_Ac_settleFrame
    rw [hst, if_neg h0, if_neg (fun z => (nI_m1 (by omega)).mp z), nI_pred, gd_k hD (by omega), gd_k hD (by omega), nI_clamp (by omega)]
  have hset0 : ∀ (st : rs_T), rI st 14 = nI (D + 1) → fx_Ac_settleFrame (-1) st = some (wI st 16 0) := fun st hst => by
    have h0 : ¬ nI (D + 1) ≤ (0 : Int32) := fun z => by
      have : D + 1 ≤ 0 := (le_lit (k := 0) (show D + 1 < 2 ^ 31 by omega) (by omega)).mp z
      omega
    unfold fx_Ac_settleFrame
    rw [hst, if_neg h0, if_pos rfl]
  -- all but the code for registers
  have hIB : ∀ (c1 : rs_T) (KK1 : Nat → Nat → kT) (ZZ1 : Nat → Nat → Int32) (QS1 QE1 : Nat → Nat), (∀ k, k < 16 → ¬ k = 14 → rI c1 k = rI c k) → (∀ j y, j < 17 → ¬ (j = 6 ∧ y = g) → rA c1 j y = rA c j y) → rA c1 6 g = rA c 6 g + 1 → (∀ j y, ¬ j = 2 → rL c1 j y = rL c j y) → (ln_ok c1.2.2.2 ∧ rN c1 0 = rN c 0 ∧ rN c1 1 = rN c 1) → cmx c1 m1 (vm m1) T S E M F w KK1 ZZ1 QS1 QE1 → IB c1 m1 T S E M F t w KK1 ZZ1 QS1 QE1 := fun c1 KK1 ZZ1 QS1 QE1 q1 q2 q3 q4 q6 q5 => by
    refine ⟨pb_congr a1 (fun q _ _ => q1 q (by omega) (by omega)) (fun i x hi hi6 => q2 i x (by omega) (fun z => hi6 z.1)) (fun q _ => hm1I q (by omega) (by omega) (by omega) (by omega)) (fun i x hi => hm1A i x (by omega)) q6, wb_congr a2 (fun _ z => z) (fun q hq => q1 q (by omega) (by omega)) (fun i x hi => q2 i x (by omega) (by omega)) (fun i x hi => q4 i x (by omega)) (fun q hq => hm1I q (by omega) (by omega) (by omega) (by omega)) (fun i x hi => hm1A i x (by omega)) (fun i x hi => hm1L i x (by omega)), q5, ?_, ?_, ?_, ?_, ?_, fun f hf => ?_, fun z => ?_, fun _ => ?_, fun x => ?_⟩
    · rw [q1 11 (by decide) (by decide), hm1I 9 (by decide) (by decide) (by decide) (by decide)]; exact g1
    · rw [q1 12 (by decide) (by decide), hm1I 10 (by decide) (by decide) (by decide) (by decide)]; exact g2
    · rw [q1 13 (by decide) (by decide), hm1I 11 (by decide) (by decide) (by decide) (by decide)]; exact g3
    · rw [q1 15 (by decide) (by decide), hm1I 18 (by decide) (by decide) (by decide) (by decide)]; exact g4
    · rw [hm1I 18 (by decide) (by decide) (by decide) (by decide)]; exact g5
    · by_cases z : f = g
      · subst z; rw [q3, n9, hmm.2.1, g6 f hf]
      · rw [q2 6 f (by decide) (fun y => z y.2), hm1A 21 f (by omega)]; exact g6 f hf
    · rw [hm1I 9 (by decide) (by decide) (by decide) (by decide), hs1] at z; exact absurd z (by decide)
    · rw [q1 10 (by decide) (by decide)]; exact g8 (by rw [hs1]; decide)
    · rw [hm1A 9 x (by omega)]; exact g9 x
  have hvq : ∀ c1, stl N ce c1 → rI c1 16 = 0 → rI c1 17 = 0 → rI c1 11 = 1 → vq N ce c1 := fun c1 q1 q2 q3 q4 => ⟨by rw [hceI 11 (by decide) (by decide) (by decide) (by decide)]; exact hst, Or.inr (Or.inr ⟨e3, hce17, q1, q2, q3, q4⟩)⟩
  have hx22 : rA m1 22 g = (if rA m 22 g = 1 ∨ (¬ rI m 17 ≤ 0 ∧ ¬ rA m 21 g + 1 < rI m 17) then 1 else 0) := by
    rw [n10, hmm.2.1, hmm.2.1, hmm.1 17 (by decide)]
  rcases z4 g hf40 with ⟨y1, y2⟩ | ⟨y1, y2, y3, y4, y5, y6⟩
  · by_cases hdu : ¬ rI m 17 ≤ 0 ∧ ¬ rA m 21 g + 1 < rI m 17
    · -- compiled now
      have hr16 : (if ¬ rI m 17 ≤ 0 ∧ ¬ rA m 21 g + 1 < rI m 17 ∧ rA c 22 g = -1 then (1 : Int32) else 0) = 1 := if_pos ⟨hdu.1, hdu.2, y1⟩
      have hx1 : rA m1 22 g = 1 := by rw [hx22, if_pos (Or.inr hdu)]
      have hcs := csz_up (S := S) (E := E) y2 hx1 (fun x hx => hm1A 22 x (by omega)) F
      obtain ⟨hcs1, hcs2⟩ := hcs.2 hg.1
      have hcb := (csz_le (pb_congr (c2 := c) (m2 := m1) a1 (fun _ _ _ => rfl) (fun _ _ _ _ => rfl) (fun q hq => hm1I q (by omega) (by omega) (by omega) (by omega)) (fun i x hi => hm1A i x (by omega)) (ln_e a1 rfl)) F (Nat.le_refl _)).1
      have ht := a1.2.1
      have hWci : pb_W ci m T g (S g) (E g) (M g) := pb_W_keep hWf ⟨fun _ _ => ⟨rfl, rfl, rfl, rfl⟩, rfl, rfl, rfl⟩ (fun _ _ => rfl) (by rw [hciA 5 g (by omega), hceA 5 g (by omega)]) (fun x _ => ⟨by rw [hciA 10 x (by omega), hceA 10 x (by omega)], by rw [hciA 11 x (by omega), hceA 11 x (by omega)], by rw [hciA 12 x (by omega), hceA 12 x (by omega)]⟩) hE
      have hAc : pb_A c m := a1.2.2.2.2.2.2.2.1
      have hAci : pb_A ci m := ⟨fun x => by rw [hciA 7 x (by omega), hciA 8 x (by omega), hciA 9 x (by omega), hceA 7 x (by omega), hceA 8 x (by omega), hceA 9 x (by omega)]; exact hAc.1 x, fun x => by rw [hciA 0 x (by omega), hciA 1 x (by omega), hciA 2 x (by omega), hceA 0 x (by omega), hceA 1 x (by omega), hceA 2 x (by omega)]; exact hAc.2 x⟩
      have hFci := pb_cf hAci a1.2.2.2.2.2.2.2.2.1
      obtain ⟨c2, K, Z, Q, k1, k2, k3, k4, k5, k6, k7, k8, k9, k10, k11, k12, kl1, kl2, kl3, kl4⟩ := k_compile (N := N) (c := ci) (m := m) (n := nm (vm m) g) (qs := sz) hWci hAci hFci hg.1 hE (by rw [hciA 4 g (by omega), hceA 4 g (by omega)]; exact h4s) rfl (by omega) hN (by rw [eci, rI_wA, hceI 19 (by decide) (by decide) (by decide) (by decide)]; exact z1) (by omega) (by rw [hcin]; exact (ln_e a1 rfl).1) (by rw [show rN ci 0 = rN c 0 from congrFun hcin 0]; exact pb_EL a1 hg.1)
      obtain ⟨c1, ec1⟩ : ∃ c1, c1 = wA (wA (wI c2 16 0) 21 D 1) 18 D (nI sz) := ⟨_, rfl⟩
      have hn1 : c1.2.2.2 = c2.2.2.2 := by rw [ec1]; rfl
      have hn12 : rN c1 2 = rN c2 2 := congrFun hn1 2
      have hLN : ln_ok c1.2.2.2 ∧ rN c1 0 = rN c 0 ∧ rN c1 1 = rN c 1 := ⟨by rw [hn1]; exact kl1, by rw [show rN c1 0 = rN c2 0 from congrFun hn1 0, kl2]; exact congrFun hcin 0, by rw [show rN c1 1 = rN c2 1 from congrFun hn1 1, kl3]; exact congrFun hcin 1⟩
      have q2I : ∀ k, k < 19 → rI c2 k = rI ce k := fun k hk => by rw [k7 k hk, eci, rI_wA]
      have hI1 : ∀ k, ¬ k = 16 → rI c1 k = rI c2 k := fun k hk => by rw [ec1, rI_wA, rI_wA, rI_wn hk]
      have hA1 : ∀ j y, ¬ (j = 18 ∧ y = D) → ¬ (j = 21 ∧ y = D) → rA c1 j y = rA c2 j y := fun j y y1 y2 => by rw [ec1, rA_wA, if_neg y1, rA_wA, if_neg y2, rA_wI]
      have hL1 : ∀ j y, rL c1 j y = rL ce j y := fun j y => by rw [ec1, rL_wA, rL_wA, rL_wI, k12, eci, rL_wA]
      have h16 : rI c1 16 = 0 := by rw [ec1, rI_wA, rI_wA, rI_ws]
      have h17 : rI c1 17 = 0 := by rw [hI1 17 (by decide), q2I 17 (by decide)]; exact hce17
      have h11 : rI c1 11 = 1 := by rw [hI1 11 (by decide), q2I 11 (by decide), hceI 11 (by decide) (by decide) (by decide) (by decide)]; exact hst
      obtain ⟨KK1, hKa, hKb⟩ : ∃ KK1 : Nat → Nat → kT, KK1 g = K ∧ ∀ f, ¬ f = g → KK1 f = KK f := ⟨fun f => if f = g then K else KK f, if_pos rfl, fun f hf => if_neg hf⟩
      obtain ⟨ZZ1, hZa, hZb⟩ : ∃ ZZ1 : Nat → Nat → Int32, ZZ1 g = Z ∧ ∀ f, ¬ f = g → ZZ1 f = ZZ f := ⟨fun f => if f = g then Z else ZZ f, if_pos rfl, fun f hf => if_neg hf⟩
      obtain ⟨QS1, hSa, hSb⟩ : ∃ QS1 : Nat → Nat, QS1 g = sz ∧ ∀ f, ¬ f = g → QS1 f = QS f := ⟨fun f => if f = g then sz else QS f, if_pos rfl, fun f hf => if_neg hf⟩
      obtain ⟨QE1, hEa, hEb⟩ : ∃ QE1 : Nat → Nat, QE1 g = Q ∧ ∀ f, ¬ f = g → QE1 f = QE f := ⟨fun f => if f = g then Q else QE f, if_pos rfl, fun f hf => if_neg hf⟩
      have hcmx : cmx c1 m1 (vm m1) T S E M F w KK1 ZZ1 QS1 QE1 := by
        refine ⟨Q, by rw [hI1 19 (by decide)]; exact k5, by omega, ?_, fun f hf => ?_⟩
        · rw [hI1 20 (by decide), k6, eci, rI_wA, hceI 20 (by decide) (by decide) (by decide) (by decide), z3, nI_1, hcs2]
        · rw [hA1 22 f (by omega) (by omega), hv]
          by_cases z : f = g
          · subst z
            refine Or.inr ⟨hg, ?_, hx1, ?_, ?_, by omega⟩
            · rw [hSa]; exact k10
            · rw [hKa, hZa, hSa, hEa]
              exact kok_c hWf.2.2.1 hE (fun j x hj => hA1 j x (by omega) (by omega)) k2
            · rw [hEa]; exact Nat.le_refl _
          · rw [k9 f z, hciA 22 f (by omega), hceA 22 f (by omega), hm1A 22 f (by omega), hKb f z, hZb f z, hSb f z, hEb f z]
            rcases z4 f hf with y | ⟨w1, w2, w3, w4, w5, w6⟩
            · exact Or.inl y
            · obtain ⟨hWf', -, hE', -⟩ := pb_Wf a1 w1
              refine Or.inr ⟨w1, w2, w3, kok_c hWf'.2.2.1 hE' (fun j x hj => ?_) w4, by omega, w6⟩
              rw [hA1 j x (by omega) (by omega)]
              rcases hj with ⟨j1, j2, j3⟩ | ⟨j1, j2⟩
              · rw [k11 j x j1 j2 (by omega), hciA j x (by omega), hceA j x (by omega)]
              · rw [k8 j x (by omega), hciA j x (by omega), hceA j x (by omega)]
      refine ⟨c1, KK1, ZZ1, QS1, QE1, true, hvq c1 ?_ h16 h17 h11, hIB c1 _ _ _ _ (fun k k1 k2 => ?_) (fun j y j1 j2 => ?_) ?_ (fun j y hj => ?_) hLN hcmx, hv, fun f hf => ⟨?_, ?_⟩, h16, h17, h11, ?_, ?_, fun j x j1 j2 j3 => ?_, fun x hx => ?_, hL1, ?_, fun z => (by cases z), fun _ => ⟨?_, ?_, ?_⟩⟩
      · unfold stl
        rw [hcur, bn_s, hdue, bn_s, hr16, if_neg (by decide), k1, bv_s, gd_k hf40 (by omega), nI_clamp (by omega), k10, hset c2 sz (by omega) (by rw [q2I 14 (by decide)]; exact e1), ec1]
      · rw [hI1 k (by omega), q2I k (by omega), hceI k k2 (by omega) (by omega) (by omega)]
      · rw [hA1 j y (by omega) (by omega), k8 j y (by omega), hciA j y j2, hceA j y (by omega)]
      · rw [hA1 6 g (by omega) (by omega), k8 6 g (by decide), eci, rA_wss]
      · rw [hL1]; exact hceL j y hj
      · exact hKb f (fun z => hf (by rw [z]; exact y1))
      · have z : ¬ f = g := fun z => hf (by rw [z]; exact y1)
        rw [hA1 22 f (by omega) (by omega), k9 f z, hciA 22 f (by omega), hceA 22 f (by omega)]; exact hf
      · rw [hI1 14 (by decide), q2I 14 (by decide)]
      · rw [hI1 18 (by decide), q2I 18 (by decide)]
      · rw [hA1 j x j3 (by omega), k8 j x (by omega), hciA j x (by omega)]
      · rw [hA1 21 x (by omega) (by omega), k8 21 x (by decide), hciA 21 x (by omega)]
      · rw [ec1, rA_wn (by decide), rA_wss]; rfl
      · rw [hKa, k2.1, ec1, rA_wss]
      · rw [hKa]; exact k2.2.1
      · rw [hA1 22 g (by omega) (by omega), k10]; exact fun z => (nI_m1 (by omega)).mp z
    · -- not compiled, not due
      have hr16 : (if ¬ rI m 17 ≤ 0 ∧ ¬ rA m 21 g + 1 < rI m 17 ∧ rA c 22 g = -1 then (1 : Int32) else 0) = 0 := if_neg (fun z => hdu ⟨z.1, z.2.1⟩)
      have hx0 : rA m1 22 g = rA m 22 g := by
        rw [hx22, y2, if_neg (fun z => by rcases z with z | z; · exact absurd z (by decide)
                                          · exact hdu z)]
      have h22 : ∀ x, rA m1 22 x = rA m 22 x := fun x => by
        by_cases z : x = g
        · subst z; exact hx0
        · exact hm1A 22 x (by omega)
      obtain ⟨hcs1, hcs2⟩ := csz_c (S := S) (E := E) h22 F
      obtain ⟨c1, ec1⟩ : ∃ c1, c1 = wI ci 16 0 := ⟨_, rfl⟩
      have hn1 : c1.2.2.2 = c.2.2.2 := by rw [ec1]; exact hcin
      have hn12 : rN c1 2 = rN c 2 := congrFun hn1 2
      have hLN := ln_e a1 hn1
      have hI1 : ∀ k, ¬ k = 16 → rI c1 k = rI ce k := fun k hk => by rw [ec1, rI_wn hk, eci, rI_wA]
      have hA1 : ∀ j y, ¬ (j = 6 ∧ y = g) → rA c1 j y = rA ce j y := fun j y hj => by rw [ec1, rA_wI]; exact hciA j y hj
      have hL1 : ∀ j y, rL c1 j y = rL ce j y := fun j y => by rw [ec1, rL_wI, eci, rL_wA]
      have h16 : rI c1 16 = 0 := by rw [ec1, rI_ws]
      have h17 : rI c1 17 = 0 := by rw [hI1 17 (by decide)]; exact hce17
      have h11 : rI c1 11 = 1 := by rw [hI1 11 (by decide), hceI 11 (by decide) (by decide) (by decide) (by decide)]; exact hst
      have hcmx : cmx c1 m1 (vm m1) T S E M F w KK ZZ QS QE := by
        refine ⟨sz, by rw [hI1 19 (by decide), hceI 19 (by decide) (by decide) (by decide) (by decide)]; exact z1, by rw [hcs1, hn12]; exact z2, by rw [hI1 20 (by decide), hceI 20 (by decide) (by decide) (by decide) (by decide), hcs2]; exact z3, fun f hf => ?_⟩
        rw [hA1 22 f (by omega), hceA 22 f (by omega), h22, hv]
        rcases z4 f hf with y | ⟨w1, w2, w3, w4, w5, w6⟩
        · exact Or.inl y
        · obtain ⟨hWf', -, hE', -⟩ := pb_Wf a1 w1
          exact Or.inr ⟨w1, w2, w3, kok_c hWf'.2.2.1 hE' (fun j x hj => by rw [hA1 j x (by omega), hceA j x (by omega)]) w4, w5, w6⟩
      refine ⟨c1, KK, ZZ, QS, QE, false, hvq c1 ?_ h16 h17 h11, hIB c1 _ _ _ _ (fun k k1 k2 => ?_) (fun j y j1 j2 => ?_) ?_ (fun j y hj => ?_) hLN hcmx, hv, fun f hf => ⟨rfl, ?_⟩, h16, h17, h11, hI1 14 (by decide), hI1 18 (by decide), fun j x j1 j2 j3 => hA1 j x (by omega), fun x hx => hA1 21 x (by omega), hL1, ?_, fun _ => ?_, fun z => (by cases z)⟩
      · unfold stl
        rw [hcur, bn_s, hdue, bn_s, hr16, if_pos rfl, gd_k hf40 (by omega), nI_clamp (by omega), hciA 22 g (by omega), hceA 22 g (by omega), y1, hset0 ci (by rw [eci, rI_wA]; exact e1), ec1]
      · rw [hI1 k (by omega), hceI k k2 (by omega) (by omega) (by omega)]
      · rw [hA1 j y j2, hceA j y (by omega)]
      · rw [ec1, rA_wI, eci, rA_wss]
      · rw [hL1]; exact hceL j y hj
      · rw [hA1 22 f (by omega), hceA 22 f (by omega)]; exact hf
      · rw [hA1 21 D (by omega), e9]; rfl
      · rw [hA1 18 D (by omega)]; exact e6
  · -- compiled before
    have hQS : QS g < 5000 := by
      have := (csz_le a1 F (Nat.le_refl _)).1
      have := a1.2.1
      have hq := y4.2.2.1 (S g) (Nat.le_refl _) hWf.1 (by rw [hWf.2.2.1.1]; exact tl_0)
      have := hq.2.2.1
      have := (kok_w y4 hWf.2.2.1 hWf.2.2.2.1 hWf.1 (E g - S g - 1) (S g) (by have := hWf.1; omega) (Nat.le_refl _) (by rw [hWf.2.2.1.1]; exact tl_0)).1
      omega
    have hne : ¬ rA c 22 g = -1 := by rw [y2]; exact fun z => (nI_m1 (by omega)).mp z
    have hr16 : (if ¬ rI m 17 ≤ 0 ∧ ¬ rA m 21 g + 1 < rI m 17 ∧ rA c 22 g = -1 then (1 : Int32) else 0) = 0 := if_neg (fun z => hne z.2.2)
    have hx0 : rA m1 22 g = rA m 22 g := by rw [hx22, y3, if_pos (Or.inl rfl)]
    have h22 : ∀ x, rA m1 22 x = rA m 22 x := fun x => by
      by_cases z : x = g
      · subst z; exact hx0
      · exact hm1A 22 x (by omega)
    obtain ⟨hcs1, hcs2⟩ := csz_c (S := S) (E := E) h22 F
    obtain ⟨c1, ec1⟩ : ∃ c1, c1 = wA (wA (wI ci 16 0) 21 D 1) 18 D (nI (QS g)) := ⟨_, rfl⟩
    have hn1 : c1.2.2.2 = c.2.2.2 := by rw [ec1]; exact hcin
    have hn12 : rN c1 2 = rN c 2 := congrFun hn1 2
    have hLN := ln_e a1 hn1
    have hI1 : ∀ k, ¬ k = 16 → rI c1 k = rI ce k := fun k hk => by rw [ec1, rI_wA, rI_wA, rI_wn hk, eci, rI_wA]
    have hA1 : ∀ j y, ¬ (j = 6 ∧ y = g) → ¬ (j = 18 ∧ y = D) → ¬ (j = 21 ∧ y = D) → rA c1 j y = rA ce j y := fun j y j0 j1 j2 => by rw [ec1, rA_wA, if_neg j1, rA_wA, if_neg j2, rA_wI]; exact hciA j y j0
    have hL1 : ∀ j y, rL c1 j y = rL ce j y := fun j y => by rw [ec1, rL_wA, rL_wA, rL_wI, eci, rL_wA]
    have h16 : rI c1 16 = 0 := by rw [ec1, rI_wA, rI_wA, rI_ws]
    have h17 : rI c1 17 = 0 := by rw [hI1 17 (by decide)]; exact hce17
    have h11 : rI c1 11 = 1 := by rw [hI1 11 (by decide), hceI 11 (by decide) (by decide) (by decide) (by decide)]; exact hst
    have hcmx : cmx c1 m1 (vm m1) T S E M F w KK ZZ QS QE := by
      refine ⟨sz, by rw [hI1 19 (by decide), hceI 19 (by decide) (by decide) (by decide) (by decide)]; exact z1, by rw [hcs1, hn12]; exact z2, by rw [hI1 20 (by decide), hceI 20 (by decide) (by decide) (by decide) (by decide), hcs2]; exact z3, fun f hf => ?_⟩
      rw [hA1 22 f (by omega) (by omega) (by omega), hceA 22 f (by omega), h22, hv]
      rcases z4 f hf with y | ⟨w1, w2, w3, w4, w5, w6⟩
      · exact Or.inl y
      · obtain ⟨hWf', -, hE', -⟩ := pb_Wf a1 w1
        exact Or.inr ⟨w1, w2, w3, kok_c hWf'.2.2.1 hE' (fun j x hj => by rw [hA1 j x (by omega) (by omega) (by omega), hceA j x (by omega)]) w4, w5, w6⟩
    refine ⟨c1, KK, ZZ, QS, QE, true, hvq c1 ?_ h16 h17 h11, hIB c1 _ _ _ _ (fun k k1 k2 => ?_) (fun j y j1 j2 => ?_) ?_ (fun j y hj => ?_) hLN hcmx, hv, fun f hf => ⟨rfl, ?_⟩, h16, h17, h11, hI1 14 (by decide), hI1 18 (by decide), fun j x j1 j2 j3 => hA1 j x (by omega) j3 (by omega), fun x hx => hA1 21 x (by omega) (by omega) (by omega), hL1, ?_, fun z => (by cases z), fun _ => ⟨?_, y4.2.1, ?_⟩⟩
    · unfold stl
      rw [hcur, bn_s, hdue, bn_s, hr16, if_pos rfl, gd_k hf40 (by omega), nI_clamp (by omega), hciA 22 g (by omega), hceA 22 g (by omega), y2, hset ci (QS g) hQS (by rw [eci, rI_wA]; exact e1), ec1]
    · rw [hI1 k (by omega), hceI k k2 (by omega) (by omega) (by omega)]
    · rw [hA1 j y j2 (by omega) (by omega), hceA j y (by omega)]
    · rw [ec1, rA_wn (by decide), rA_wn (by decide), rA_wI, eci, rA_wss]
    · rw [hL1]; exact hceL j y hj
    · rw [hA1 22 f (by omega) (by omega) (by omega), hceA 22 f (by omega)]; exact hf
    · rw [ec1, rA_wn (by decide), rA_wss]; rfl
    · rw [ec1, rA_wss, y4.1]
    · rw [hA1 22 g (by omega) (by omega) (by omega), hceA 22 g (by omega)]; exact hne
