-- ===== the program rests on its own fields alone =====
theorem vm_congr {m m2 : rs_T} (h : ∀ j x, j ≤ 15 → rA m2 j x = rA m j x) : vm m2 = vm m := by
  have e6 : rA m2 6 = rA m 6 := funext fun x => h 6 x (by decide)
  have e7 : rA m2 7 = rA m 7 := funext fun x => h 7 x (by decide)
  have e8 : rA m2 8 = rA m 8 := funext fun x => h 8 x (by decide)
  unfold vm
  rw [e6, e7, e8]
  simp only [h 9 _ (by decide), h 2 _ (by decide), h 3 _ (by decide), h 4 _ (by decide)]
theorem pb_congr {c m c2 m2 : rs_T} {T : Nat → ts_T} {S E M : Nat → Nat} {F t : Nat} {w : Bool} (h : pb c m T S E M F t w) (hc : ∀ q, 2 ≤ q → q ≤ 8 → rI c2 q = rI c q) (hC : ∀ j x, j ≤ 14 → ¬ j = 6 → rA c2 j x = rA c j x) (hm : ∀ q, q ≤ 6 → rI m2 q = rI m q) (hM : ∀ j x, j ≤ 15 → rA m2 j x = rA m j x) (hL : ln_ok c2.2.2.2 ∧ rN c2 0 = rN c 0 ∧ rN c2 1 = rN c 1) : pb c2 m2 T S E M F t w := by
  obtain ⟨h1, h2, h3, h4, h5, h6, h7, hA, hF, hP, hE, hW, hU, hN, hLn, hLt, hL7⟩ := h
  have ev := vm_congr hM
  have lka : ∀ s i, lk_at c (vm m) T s i → lk_at c2 (vm m) T s i := fun s i hk => by
    obtain ⟨k1, k2, k3⟩ := hk
    refine ⟨fun o k q => ?_, fun o => ?_, fun o => ?_⟩
    · have := k1 o k q
      unfold lk_br at this ⊢
      rw [hC 10 _ (by decide) (by decide)]; exact this
    · have := k2 o
      unfold lk_e2 at this ⊢
      simp only [hC 10 _ (by decide) (by decide), hC 11 _ (by decide) (by decide)]
      exact this
    · have := k3 o
      unfold lk_else at this ⊢
      simp only [hC 11 _ (by decide) (by decide)]
      exact this
  refine ⟨h1, h2, (hc 2 (by decide) (by decide)).trans h3, (hm 0 (by decide)).trans h4, (hc 4 (by decide) (by decide)).trans h5, (hm 1 (by decide)).trans h6, (hm 2 (by decide)).trans h7, ?_, ?_, fun f hf => ?_, hE, fun f hf hw => ?_, fun hw => ?_, fun hw => ?_, hL.1, by rw [hL.2.1]; exact hLt, fun i hi => by rw [hC 7 i (by decide) (by decide)]; rw [hL.2.1] at hi; exact hL7 i hi⟩
  · refine ⟨fun i => ?_, fun f => ?_⟩
    · rw [hC 7 i (by decide) (by decide), hC 8 i (by decide) (by decide), hC 9 i (by decide) (by decide), hM 6 i (by decide), hM 7 i (by decide), hM 8 i (by decide)]
      exact hA.1 i
    · rw [hC 0 f (by decide) (by decide), hC 1 f (by decide) (by decide), hC 2 f (by decide) (by decide), hM 2 f (by decide), hM 3 f (by decide), hM 4 f (by decide)]
      exact hA.2 f
  · refine ⟨hF.1, fun f hf => ?_⟩
    rw [ev, hM 2 f (by decide), hM 3 f (by decide), hM 4 f (by decide)]
    exact hF.2 f hf
  · obtain ⟨b1, b2, b3, b4, b5, b6⟩ := hP f hf
    exact ⟨(hC 4 f (by decide) (by decide)).trans b1, (hM 0 f (by decide)).trans b2, (hM 1 f (by decide)).trans b3, (hC 3 f (by decide) (by decide)).trans b4, (hM 5 f (by decide)).trans b5, b6⟩
  · obtain ⟨b1, b2, b3, b4, b5, b6⟩ := hW f hf hw
    refine ⟨b1, (hC 5 f (by decide) (by decide)).trans b2, by rw [ev]; exact b3, by rw [ev]; exact b4, fun i i1 i2 => by rw [ev]; exact lka _ i (b5 i i1 i2), fun i i1 i2 o => ?_⟩
    rw [ev] at o ⊢
    rw [hC 12 i (by decide) (by decide)]
    exact b6 i i1 i2 o
  · obtain ⟨f, e1, e2, b1, b2, b3, b4, b5, b6⟩ := hU hw
    refine ⟨f, e1, e2, by rw [ev]; exact b1, fun i i1 i2 => by rw [ev]; exact lka _ i (b2 i i1 i2), ?_, fun i i1 i2 o => ?_, ?_, ?_⟩
    · rw [ev]
      intro q hq
      have := b3 q hq
      simp only [hC 11 _ (by decide) (by decide)]
      exact this
    · rw [ev] at o ⊢
      rw [hC 12 i (by decide) (by decide)]
      exact b4 i i1 i2 o
    · obtain ⟨q1, q2, q3, q4, q5, q6, q7, q8⟩ := b5
      refine ⟨(hm 0 (by decide)).trans q1, (hm 1 (by decide)).trans q2, (hm 2 (by decide)).trans q3, (hm 3 (by decide)).trans q4, (hm 4 (by decide)).trans q5, ?_, ?_, by rw [ev]; exact q8⟩
      · rw [hm 5 (by decide), hm 6 (by decide)]; exact q6
      · rw [ev]
        exact wm_keep (fun j i z1 z2 _ => hM j i z2) q7
    · obtain ⟨q1, q2, q3, q4, q5, q6, q7, q8, q9, q10, q11, q12⟩ := b6
      refine ⟨(hc 2 (by decide) (by decide)).trans q1, (hc 3 (by decide) (by decide)).trans q2, (hc 4 (by decide) (by decide)).trans q3, (hc 5 (by decide) (by decide)).trans q4, (hc 6 (by decide) (by decide)).trans q5, (hc 7 (by decide) (by decide)).trans q6, ?_, ?_, by rw [ev]; exact q9, q10, ?_, by rw [hL.2.1, hL.2.2]; exact q12⟩
      · rw [hc 8 (by decide) (by decide)]; exact q7
      · rw [ev]
        exact wc_keep2 (fun j i z1 z2 _ => hC j i (by omega) (by omega)) (fun j z1 z2 z3 r _ => hC j r.1 (by omega) (by omega)) q8
      · rw [ev, hC 1 f (by decide) (by decide)]; exact q11
  · obtain ⟨b1, b2, b3, b4⟩ := hN hw
    exact ⟨(hc 3 (by decide) (by decide)).trans b1, (hc 5 (by decide) (by decide)).trans b2, (hc 6 (by decide) (by decide)).trans b3, (hc 7 (by decide) (by decide)).trans b4⟩
theorem ln_e {c m c2 : rs_T} {T : Nat → ts_T} {S E M : Nat → Nat} {F t : Nat} {w : Bool} (h : pb c m T S E M F t w) (e : c2.2.2.2 = c.2.2.2) : ln_ok c2.2.2.2 ∧ rN c2 0 = rN c 0 ∧ rN c2 1 = rN c 1 := ⟨by rw [e]; exact h.2.2.2.2.2.2.2.2.2.2.2.2.2.2.1, congrFun e 0, congrFun e 1⟩
theorem wb_congr {c m c2 m2 : rs_T} {F F2 : Nat} {w w2 : Bool} (h : wb c m F w) (hwh : ∀ f, wh_F F w f → wh_F F2 w2 f) (hc : ∀ q, (q < 2 ∨ q = 9) → rI c2 q = rI c q) (hC : ∀ j x, (j = 15 ∨ j = 16) → rA c2 j x = rA c j x) (hCL : ∀ j x, j < 2 → rL c2 j x = rL c j x) (hm : ∀ q, (q = 7 ∨ q = 8 ∨ q = 17) → rI m2 q = rI m q) (hM : ∀ j x, (j = 16 ∨ j = 17) → rA m2 j x = rA m j x) (hML : ∀ j x, j < 2 → rL m2 j x = rL m j x) : wb c2 m2 F2 w2 := by
  obtain ⟨b1, b2, b3, b4, b5, b6, b7⟩ := h
  refine ⟨fun k hk => ?_, fun k hk => ?_, fun i hi => ?_, ?_, ?_, ?_, ?_⟩
  · rw [hC 15 k (Or.inl rfl), hM 16 k (Or.inl rfl)]
    exact ⟨(b1 k hk).1, (b1 k hk).2.imp id (fun ⟨f, g1, g2⟩ => ⟨f, hwh f g1, g2⟩)⟩
  · rw [hCL 1 k (by decide), hML 0 k (by decide)]; exact b2 k hk
  · rw [hC 16 i (Or.inr rfl), hM 17 i (Or.inr rfl)]; exact b3 i hi
  · rw [hc 9 (Or.inr rfl), hm 7 (Or.inl rfl)]; exact b4
  · rw [hc 0 (Or.inl (by decide)), hm 8 (Or.inr (Or.inl rfl))]
    obtain ⟨k, k1, k2, k3, k4⟩ := b5
    exact ⟨k, k1, k2, k3, fun i hi => by rw [hCL 0 i (by decide), hML 1 i (by decide)]; exact k4 i hi⟩
  · rw [hc 1 (Or.inl (by decide)), hm 17 (Or.inr (Or.inr rfl))]; exact b6
  · rw [hm 17 (Or.inr (Or.inr rfl))]; exact b7
