-- ===== what runs goes on while functions are written =====
theorem csz_z {m : rs_T} {S E : Nat → Nat} {W : Nat} : ∀ (k : Nat), (∀ f, W ≤ f → f < W + k → rA m 22 f = 0) → csz m S E (W + k) = csz m S E W ∧ cct m (W + k) = cct m W := by
  intro k
  induction k with
  | zero => intro _; exact ⟨rfl, rfl⟩
  | succ k ih =>
    intro h
    obtain ⟨i1, i2⟩ := ih (fun f f1 f2 => h f f1 (by omega))
    have e1 : csz m S E (W + (k + 1)) = csz m S E (W + k) + (if rA m 22 (W + k) = 0 then 0 else 2 * (E (W + k) - S (W + k))) := rfl
    have e2 : cct m (W + (k + 1)) = cct m (W + k) + (if rA m 22 (W + k) = 0 then 0 else 1) := rfl
    rw [e1, e2, if_pos (h (W + k) (by omega) (by omega)), if_pos (h (W + k) (by omega) (by omega)), i1, i2]
    exact ⟨rfl, rfl⟩
theorem csz_e {m m2 : rs_T} {S S2 E E2 : Nat → Nat} : ∀ (W : Nat), (∀ f, f < W → S2 f = S f ∧ E2 f = E f ∧ rA m2 22 f = rA m 22 f) → csz m2 S2 E2 W = csz m S E W ∧ cct m2 W = cct m W := by
  intro W
  induction W with
  | zero => intro _; exact ⟨rfl, rfl⟩
  | succ k ih =>
    intro h
    obtain ⟨i1, i2⟩ := ih (fun f hf => h f (by omega))
    obtain ⟨e1, e2, e3⟩ := h k (Nat.lt_succ_self k)
    unfold csz cct
    rw [i1, i2, e1, e2, e3]
    exact ⟨rfl, rfl⟩
theorem IQ_pK {c m c2 m2 : rs_T} {T T2 : Nat → ts_T} {S S2 E E2 M M2 : Nat → Nat} {F F2 t t2 : Nat} {w w2 : Bool} {KK : Nat → Nat → kT} {ZZ : Nat → Nat → Int32} {QS QE : Nat → Nat} (h : IQ c m T S E M F t w KK ZZ QS QE) (hp : pb c2 m2 T2 S2 E2 M2 F2 t2 w2) (hK : pK c m c2 m2 T T2 S S2 E E2 M M2 F F2 w w2) (hcI : ∀ q, (q < 2 ∨ 8 < q) → rI c2 q = rI c q) (hcA : ∀ j x, 14 < j → rA c2 j x = rA c j x) (hcL : ∀ j x, rL c2 j x = rL c j x) (h6 : ∀ f, f < 40 → rA c 6 f = rA m 21 f → rA c2 6 f = rA m2 21 f) (hmI : ∀ q, 6 < q → rI m2 q = rI m q) (hmA : ∀ j x, 15 < j → ¬ j = 21 → ¬ j = 22 → rA m2 j x = rA m j x) (hmL : ∀ j x, rL m2 j x = rL m j x) (h22 : ∀ f, f < 40 → rA m2 22 f = rA m 22 f ∨ (rA m2 22 f = 0 ∧ ¬ wh_F F w f)) (hN2 : rN c2 2 = rN c 2) : IQ c2 m2 T2 S2 E2 M2 F2 t2 w2 KK ZZ QS QE := by
  obtain ⟨⟨a1, a2, ⟨sz, z1, z2, z3, z4⟩, g1, g2, g3, g4, g5, g6, g7, g8, g9⟩, hR⟩ := h
  have hF40 := a1.1
  have hF240 := hp.1
  -- the first that is not whole
  obtain ⟨W, hW1, hW2, hW3⟩ : ∃ W, W ≤ F ∧ (∀ f, f < W → wh_F F w f) ∧ ∀ f, W ≤ f → ¬ wh_F F w f := by
    cases w with
    | false => exact ⟨F, Nat.le_refl _, fun f hf => ⟨hf, fun z => (by cases z)⟩, fun f hf z => by have := z.1; omega⟩
    | true => exact ⟨F - 1, by omega, fun f hf => ⟨by omega, fun _ => by omega⟩, fun f hf z => by have := z.2 rfl; omega⟩
  have hW4 : W ≤ F2 := by
    rcases Nat.eq_zero_or_pos W with z | z
    · omega
    · have := (pK_vK hK (hW2 (W - 1) (by omega))).2.1.1
      omega
  have hno : ∀ f, f < 40 → ¬ wh_F F w f → rA c 22 f = -1 ∧ rA m 22 f = 0 := fun f hf hn => by
    rcases z4 f hf with y | y
    · exact y
    · exact absurd y.1 hn
  have hno2 : ∀ f, f < 40 → ¬ wh_F F w f → rA m2 22 f = 0 := fun f hf hn => by
    rcases h22 f hf with y | y
    · rw [y]; exact (hno f hf hn).2
    · exact y.1
  have hyes : ∀ f, f < 40 → wh_F F w f → rA m2 22 f = rA m 22 f := fun f hf hn => by
    rcases h22 f hf with y | y
    · exact y
    · exact absurd hn y.2
  obtain ⟨cz1, cz2⟩ := csz_z (m := m) (S := S) (E := E) (W := W) (F - W) (fun f f1 f2 => (hno f (by omega) (hW3 f f1)).2)
  obtain ⟨cz3, cz4⟩ := csz_z (m := m2) (S := S2) (E := E2) (W := W) (F2 - W) (fun f f1 f2 => hno2 f (by omega) (hW3 f f1))
  obtain ⟨cz5, cz6⟩ := csz_e (m := m) (m2 := m2) (S := S) (S2 := S2) (E := E) (E2 := E2) W (fun f hf => by
    obtain ⟨-, -, k3, k4, -⟩ := pK_vK hK (hW2 f hf)
    exact ⟨k3, k4, hyes f (by omega) (hW2 f hf)⟩)
  rw [show W + (F - W) = F by omega] at cz1 cz2
  rw [show W + (F2 - W) = F2 by omega] at cz3 cz4
  have hkk : ∀ f at_, wh_F F w f → ¬ rA c 22 f = -1 → S f ≤ at_ → at_ < E f → tl (T at_) → gw (E f) (KK f at_).2.2 (T at_).2.2.1 := fun f at_ hf hn y1 y2 y3 => by
    obtain ⟨hWf, hf40, hE, -⟩ := pb_Wf a1 hf
    obtain ⟨f1, f2, f3, f4, f5, f6, f7, f8, f9⟩ := pb_fn a1 hf.1
    rcases z4 f hf40 with y | ⟨-, -, -, y4, -, -⟩
    · exact absurd y.1 hn
    · exact kok_k y4 hWf.2.2.1 hE rfl (by unfold nm; omega) (at_ - S f) at_ (by omega) y2 y3
  have hcm : cmx c2 m2 (vm m2) T2 S2 E2 M2 F2 w2 KK ZZ QS QE := by
    refine ⟨sz, by rw [hcI 19 (by omega)]; exact z1, by omega, ?_, fun f hf => ?_⟩
    · rw [hcI 20 (by omega), z3, cz4, cz6, ← cz2]
    · rw [hcA 22 f (by decide)]
      rcases z4 f hf with ⟨y1, y2⟩ | ⟨y1, y2, y3, y4, y5, y6⟩
      · refine Or.inl ⟨y1, ?_⟩
        rcases h22 f hf with y | y
        · rw [y]; exact y2
        · exact y.1
      · obtain ⟨k1, k2, k3, k4, k5, k6, k7⟩ := pK_vK hK y1
        obtain ⟨hWf, hf40, hE, -⟩ := pb_Wf a1 y1
        refine Or.inr ⟨k2, y2, by rw [hyes f hf y1]; exact y3, ?_, y5, by rw [k6, k5]; exact y6⟩
        rw [k6, k3, k4]
        refine kok_vK k1 hWf.2.2.1 hWf.2.2.2.1 hf40 (kok_c hWf.2.2.1 hE (fun j x hj => ?_) y4)
        rcases hj with ⟨j1, j2, j3⟩ | ⟨j1, j2⟩
        · exact hcA j x (by omega)
        · obtain ⟨-, -, -, -, -, q1, q2⟩ := (hK.2.2 f y1.1 y1.2).2.2.2.2.2 x j2
          rcases j1 with e | e
          · rw [e]; exact q1
          · rw [e]; exact q2
  have hG : rG c2 m2 F2 w2 := by
    refine ⟨?_, ?_, ?_, ?_, ?_, fun f hf => h6 f hf (g6 f hf), fun z => ?_, fun z => ?_, fun x => ?_⟩
    · rw [hcI 11 (by omega), hmI 9 (by decide)]; exact g1
    · rw [hcI 12 (by omega), hmI 10 (by decide)]; exact g2
    · rw [hcI 13 (by omega), hmI 11 (by decide)]; exact g3
    · rw [hcI 15 (by omega), hmI 18 (by decide)]; exact g4
    · rw [hmI 18 (by decide)]
      rcases g5 with y | ⟨f, hf, y⟩
      · exact Or.inl y
      · exact Or.inr ⟨f, (pK_vK hK hf).2.1, y⟩
    · rw [hmI 9 (by decide)] at z
      obtain ⟨k, y1, y2, y3, y4⟩ := g7 z
      exact ⟨k, y1, by rw [hcI 10 (by omega)]; exact y2, by rw [hmI 16 (by decide)]; exact y3, fun i hi => by rw [hcL, hmL]; exact y4 i hi⟩
    · rw [hmI 9 (by decide)] at z
      rw [hcI 10 (by omega)]; exact g8 z
    · rcases hK.1 x with y | y
      · rw [y]; exact g9 x
      · exact y
  have hwb : wb c2 m2 F2 w2 := wb_congr a2 (fun f hf => (pK_vK hK hf).2.1) (fun q hq => hcI q (by omega)) (fun j x hj => hcA j x (by omega)) (fun j x _ => hcL j x) (fun q hq => hmI q (by omega)) (fun j x hj => hmA j x (by omega) (by omega) (by omega)) (fun j x _ => hmL j x)
  refine ⟨⟨hp, hwb, hcm, hG⟩, fun z => ?_⟩
  rw [hmI 9 (by decide)] at z
  obtain ⟨G, f, at_, r, b, s, ⟨r1, ⟨hfC, b2', b3, b4, b5, b6, b7, b8, b9, b10⟩, r3, r4, r5⟩, ho⟩ := hR z
  obtain ⟨q1, q2, q3, q4, q5, q6, q7, q8, q9, q10, q11, q12⟩ := id hfC
  obtain ⟨k1, k2, k3, k4, k5, k6, k7⟩ := pK_vK hK q3
  have hmA2 : ∀ j x, 18 ≤ j → j ≤ 20 → rA m2 j x = rA m j x := fun j x j1 j2 => hmA j x (by omega) (by omega) (by omega)
  have eT := (k1.2 at_ q10).1
  refine ⟨G, f, at_, r, b, s, ⟨rW_pK hK hcA hcL hmA2 hmL hkk q3 r1, ⟨fC_pK hK hcA hmA2 hfC, ?_, ?_, ?_, ?_, ?_, ?_, ?_, fun y => ?_, fun y => ?_⟩, r3, ?_, ?_⟩, ?_⟩
  · rw [k6, eT]
    exact fV_keep (fV_vK k1 (wf_gw (by omega) (fun y => hkk f at_ q3 (q12 y) q9 q10 q11)) (by omega) b2') (by omega) (fun y _ _ => hcL 2 y) (fun y _ _ => hmL 2 y)
  · rw [hmI 13 (by decide), k6, eT]; exact b3
  · rw [hmI 14 (by decide), k6, k5]; exact b4
  · rw [hcI 18 (by omega), k6, k5]; exact b5
  · rw [hmI 15 (by decide)]; exact b6
  · rw [hcI 16 (by omega)]; exact b7
  · rw [eT, k5]; exact b8
  · rw [hcA 18 _ (by decide), hcA 20 _ (by decide), hcI 17 (by omega), k6, eT]; exact b9 y
  · rw [hcA 18 _ (by decide), hcI 17 (by omega)]; exact b10 y
  · rw [hcI 14 (by omega)]; exact r4
  · rw [hmI 12 (by decide)]; exact r5
  · rw [(k1.2 at_ q10).2.1]; exact ho
