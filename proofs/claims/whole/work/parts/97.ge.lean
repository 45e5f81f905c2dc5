-- ===== call =====
theorem IB_mk {c m c1 m1 : rs_T} {T : Nat → ts_T} {S E M : Nat → Nat} {F t : Nat} {w : Bool} {KK : Nat → Nat → kT} {ZZ : Nat → Nat → Int32} {QS QE : Nat → Nat} (h : IB c m T S E M F t w KK ZZ QS QE) (hcI : ∀ k, (2 ≤ k ∧ k ≤ 8 ∨ k = 19 ∨ k = 20) → rI c1 k = rI c k) (hcA : ∀ i x, (i ≤ 14 ∧ ¬ i = 6 ∨ 22 ≤ i ∧ i ≤ 28) → rA c1 i x = rA c i x) (hmI : ∀ k, k ≤ 6 → rI m1 k = rI m k) (hmA : ∀ i x, (i ≤ 15 ∨ i = 22) → rA m1 i x = rA m i x) (hw : wb c1 m1 F w) (hg : rG c1 m1 F w) (hn : c1.2.2.2 = c.2.2.2) : IB c1 m1 T S E M F t w KK ZZ QS QE ∧ vm m1 = vm m := by
  obtain ⟨a1, a2, ⟨sz, z1, z2, z3, z4⟩, -⟩ := h
  have hv : vm m1 = vm m := vm_congr (fun i x hi => hmA i x (Or.inl hi))
  refine ⟨⟨pb_congr a1 (fun q q1 q2 => hcI q (by omega)) (fun i x hi h6 => hcA i x (Or.inl ⟨hi, h6⟩)) (fun q hq => hmI q hq) (fun i x hi => hmA i x (Or.inl hi)) (ln_e a1 hn), hw, ⟨sz, ?_, ?_, ?_, fun f hf => ?_⟩, hg⟩, hv⟩
  · rw [hcI 19 (by decide)]; exact z1
  · rw [(csz_c (fun x => hmA 22 x (Or.inr rfl)) F).1, show rN c1 2 = rN c 2 from congrFun hn 2]; exact z2
  · rw [hcI 20 (by decide), (csz_c (S := S) (E := E) (fun x => hmA 22 x (Or.inr rfl)) F).2]; exact z3
  · rw [hcA 22 f (by omega), hmA 22 f (Or.inr rfl), hv]
    rcases z4 f hf with y | ⟨y1, y2, y3, y4, y5, y6⟩
    · exact Or.inl y
    · obtain ⟨hWf, -, hE, -⟩ := pb_Wf a1 y1
      exact Or.inr ⟨y1, y2, y3, kok_c hWf.2.2.1 hE (fun j x hj => hcA j x (by omega)) y4, y5, y6⟩
theorem ena_loop {N g p n ms S0 : Nat} {c : rs_T} (hg : g < 40) (h14 : rI c 14 = nI 0) (h18 : rI c 18 = nI 0) (h4 : rA c 4 g = nI S0) (hA : n ≤ 220) (hp : p ≤ 8) (hn : n ≤ 16) (hms : ms ≤ 5000) : ∀ (d fu i : Nat) (c1 : rs_T), i + d = n → d < fu → (∀ k, rI c1 k = rI c k) → (∀ j y, rA c1 j y = rA c j y) → (∀ j y, ¬ (j = 2 ∧ 0 ≤ y ∧ y < 0 + n) → rL c1 j y = rL c j y) → (∀ x, x < p → x < i → rL c1 2 (0 + x) = rL c 0 x) → (∀ x, p ≤ x → x < i → rL c1 2 (0 + x) = 0) → ∃ c2, fx_Ac_enter_a_b85 N fu (nI g) (nI 0) (nI n) (nI p) (nI (n + ms)) (nI i) c1 = some c2 ∧ cEn c c2 g 0 0 p n ms S0 (fun x => rL c 0 x) := by
  intro d
  induction d with
  | zero =>
    intro fu i c1 hi hfu h1 h2 h3 h5 h6
    obtain ⟨fu, rfl⟩ : ∃ g, fu = g + 1 := ⟨fu - 1, by omega⟩
    have : i = n := by omega
    subst this
    refine ⟨wI (wI (wI (wA (wA (wA (wA (wA c1 17 0 (nI g)) 18 0 (nI S0)) 19 0 (nI 0)) 20 0 (nI (0 + i))) 21 0 0) 14 (nI (0 + 1))) 18 (nI (0 + (i + ms)))) 16 1, ?_, ?_, ?_, ?_, fun k k1 k2 k3 => ?_, ?_, ?_, ?_, ?_, ?_, fun j y hy => ?_, fun j y hy => ?_, fun x x1 x2 => ?_, fun x x1 x2 => ?_⟩
    · unfold fx_Ac_enter_a_b85
      rw [if_pos (Int32.le_refl _), h1 14, h14, gd_k (by first | omega | (simp only [rN_wI, rN_wA, rN_wL]; omega)) (by first | omega | (simp only [rN_wI, rN_wA, rN_wL]; omega)), gd_k hg (by omega), gd_k (by first | omega | (simp only [rN_wI, rN_wA, rN_wL]; omega)) (by first | omega | (simp only [rN_wI, rN_wA, rN_wL]; omega)), gd_k (by first | omega | (simp only [rN_wI, rN_wA, rN_wL]; omega)) (by first | omega | (simp only [rN_wI, rN_wA, rN_wL]; omega)), gd_k (by first | omega | (simp only [rN_wI, rN_wA, rN_wL]; omega)) (by first | omega | (simp only [rN_wI, rN_wA, rN_wL]; omega)), gd_k (by first | omega | (simp only [rN_wI, rN_wA, rN_wL]; omega)) (by first | omega | (simp only [rN_wI, rN_wA, rN_wL]; omega)), nI_clamp (by omega), nI_clamp (by omega), h2 4, h4, h1 18, h18, nI_add, nI_add, nI_1]
    · simp (disch := omega) only [bn_s, bv_s, bd_s, gb_0, gb_1, rI_ws, rI_wn, rI_wA, rI_wL, rA_wI, rA_wL, rL_wI, rL_wA, rA_wss, rA_wn, rA_wsn, rL_wss, rL_wn, rL_wsn, rN_wI, rN_wA, rN_wL]
    · simp (disch := omega) only [bn_s, bv_s, bd_s, gb_0, gb_1, rI_ws, rI_wn, rI_wA, rI_wL, rA_wI, rA_wL, rL_wI, rL_wA, rA_wss, rA_wn, rA_wsn, rL_wss, rL_wn, rL_wsn, rN_wI, rN_wA, rN_wL]
    · simp (disch := omega) only [bn_s, bv_s, bd_s, gb_0, gb_1, rI_ws, rI_wn, rI_wA, rI_wL, rA_wI, rA_wL, rL_wI, rL_wA, rA_wss, rA_wn, rA_wsn, rL_wss, rL_wn, rL_wsn, rN_wI, rN_wA, rN_wL]
    · simp (disch := omega) only [bn_s, bv_s, bd_s, gb_0, gb_1, rI_ws, rI_wn, rI_wA, rI_wL, rA_wI, rA_wL, rL_wI, rL_wA, rA_wss, rA_wn, rA_wsn, rL_wss, rL_wn, rL_wsn, rN_wI, rN_wA, rN_wL]; exact h1 k
    · simp (disch := omega) only [bn_s, bv_s, bd_s, gb_0, gb_1, rI_ws, rI_wn, rI_wA, rI_wL, rA_wI, rA_wL, rL_wI, rL_wA, rA_wss, rA_wn, rA_wsn, rL_wss, rL_wn, rL_wsn, rN_wI, rN_wA, rN_wL]
    · simp (disch := omega) only [bn_s, bv_s, bd_s, gb_0, gb_1, rI_ws, rI_wn, rI_wA, rI_wL, rA_wI, rA_wL, rL_wI, rL_wA, rA_wss, rA_wn, rA_wsn, rL_wss, rL_wn, rL_wsn, rN_wI, rN_wA, rN_wL]
    · simp (disch := omega) only [bn_s, bv_s, bd_s, gb_0, gb_1, rI_ws, rI_wn, rI_wA, rI_wL, rA_wI, rA_wL, rL_wI, rL_wA, rA_wss, rA_wn, rA_wsn, rL_wss, rL_wn, rL_wsn, rN_wI, rN_wA, rN_wL]
    · simp (disch := omega) only [bn_s, bv_s, bd_s, gb_0, gb_1, rI_ws, rI_wn, rI_wA, rI_wL, rA_wI, rA_wL, rL_wI, rL_wA, rA_wss, rA_wn, rA_wsn, rL_wss, rL_wn, rL_wsn, rN_wI, rN_wA, rN_wL]
    · simp (disch := omega) only [bn_s, bv_s, bd_s, gb_0, gb_1, rI_ws, rI_wn, rI_wA, rI_wL, rA_wI, rA_wL, rL_wI, rL_wA, rA_wss, rA_wn, rA_wsn, rL_wss, rL_wn, rL_wsn, rN_wI, rN_wA, rN_wL]
    · rw [rA_wI, rA_wI, rA_wI, rA_wA, if_neg (fun z => hy ⟨by omega, by omega, z.2⟩), rA_wA, if_neg (fun z => hy ⟨by omega, by omega, z.2⟩), rA_wA, if_neg (fun z => hy ⟨by omega, by omega, z.2⟩), rA_wA, if_neg (fun z => hy ⟨by omega, by omega, z.2⟩), rA_wA, if_neg (fun z => hy ⟨by omega, by omega, z.2⟩)]
      exact h2 j y
    · exact h3 j y hy
    · exact h5 x x1 x2
    · exact h6 x x1 x2
  | succ d ih =>
    intro fu i c1 hi hfu h1 h2 h3 h5 h6
    obtain ⟨fu, rfl⟩ : ∃ g, fu = g + 1 := ⟨fu - 1, by omega⟩
    have hcont : ∀ v : Int64, (i < p → v = rL c 0 i) → (p ≤ i → v = 0) → ∃ c2, fx_Ac_enter_a_b85 N fu (nI g) (nI 0) (nI n) (nI p) (nI (n + ms)) (nI (i + 1)) (wL c1 2 (0 + i) v) = some c2 ∧ cEn c c2 g 0 0 p n ms S0 (fun x => rL c 0 x) := fun v v1 v2 => by
      refine ih fu (i + 1) (wL c1 2 (0 + i) v) (by omega) (by omega) (fun k => by rw [rI_wL]; exact h1 k) (fun j y => by rw [rA_wL]; exact h2 j y) (fun j y hy => ?_) (fun x x1 x2 => ?_) (fun x x1 x2 => ?_)
      · rw [rL_wL, if_neg (fun z => hy ⟨z.1, by omega, by omega⟩)]; exact h3 j y hy
      · by_cases z : x = i
        · subst z; rw [rL_wss]; exact v1 x1
        · rw [rL_wsn (by omega)]; exact h5 x x1 (by omega)
      · by_cases z : x = i
        · subst z; rw [rL_wss]; exact v2 x1
        · rw [rL_wsn (by omega)]; exact h6 x x1 (by omega)
    have hz : fx_Ac_enter_a_b119 N (fx_Ac_enter_a_b85 N fu) (nI g) (nI 0) (nI n) (nI p) (nI (n + ms)) (nI i) c1 = fx_Ac_enter_a_b85 N fu (nI g) (nI 0) (nI n) (nI p) (nI (n + ms)) (nI (i + 1)) (wL c1 2 (0 + i) 0) := by
      unfold fx_Ac_enter_a_b119 fx_Ac_enter_a_b120 fx_Ac_enter_a_b148
      rw [if_pos rfl, h1 18, h18, nI_add, gd_k (by first | omega | (simp only [rN_wI, rN_wA, rN_wL]; omega)) (by first | omega | (simp only [rN_wI, rN_wA, rN_wL]; omega)), bd_s, nI_1, nI_clamp (by omega)]
    unfold fx_Ac_enter_a_b85
    rw [if_neg (nI_ge (by omega) (by omega))]
    by_cases hip : i < p
    · have hlt : ¬ (8 : Int32) ≤ nI (0 + i) := fun z => by
        have : 8 ≤ 0 + i := (lit_le (k := 8) (show 0 + i < 2 ^ 31 by omega) (by omega)).mp z
        omega
      rw [if_neg (nI_ge (by omega) (by omega)), nI_add, if_neg (nI_pos (by omega)), if_neg hlt]
      unfold fx_Ac_enter_a_b120 fx_Ac_enter_a_b148
      rw [if_neg (by decide), nI_add, gd_k (by first | omega | (simp only [rN_wI, rN_wA, rN_wL]; omega)) (by first | omega | (simp only [rN_wI, rN_wA, rN_wL]; omega)), h1 18, h18, nI_add, gd_k (by first | omega | (simp only [rN_wI, rN_wA, rN_wL]; omega)) (by first | omega | (simp only [rN_wI, rN_wA, rN_wL]; omega)), bd_s, nI_1, nI_clamp (by omega)]
      exact hcont _ (fun _ => by rw [h3 0 _ (by omega), Nat.zero_add]) (fun z => by omega)
    · rw [if_pos ((nI_leI (by omega) (by omega)).mpr (by omega)), hz]
      exact hcont 0 (fun z => absurd z hip) (fun _ => rfl)
theorem en_A {N : Nat} {c : rs_T} {g p v ms S0 : Nat} (hg : g < 40) (h14 : rI c 14 = nI 0) (h18 : rI c 18 = nI 0) (h0 : rA c 0 g = nI p) (h2 : rA c 2 g = nI v) (h3 : rA c 3 g = nI ms) (h4 : rA c 4 g = nI S0) (hp : p ≤ 8) (hv : v ≤ 8) (hms : ms ≤ 5000) (hN : 1000 ≤ N) : (0 + (p + v + ms) ≤ 220 → ∃ c1, fx_Ac_enter_a N (nI g) 0 c = some c1 ∧ cEn c c1 g 0 0 p (p + v) ms S0 (fun x => rL c 0 x)) ∧ (¬ 0 + (p + v + ms) ≤ 220 → fx_Ac_enter_a N (nI g) 0 c = some (wI c 11 4)) := by
  have h30 : ¬ (30 : Int32) ≤ nI 0 := by decide
  have hsub : (220 : Int32) - nI 0 = nI 220 := by decide
  refine ⟨fun hle => ?_, fun hle => ?_⟩
  · have hle2 : nI (p + v + ms) ≤ nI 220 := (nI_leI (by omega) (by omega)).mpr (by omega)
    unfold fx_Ac_enter_a fx_Pr_allLocals fx_Ac_enter_a_b82
    rw [gd_k hg (by omega), gd_k hg (by omega), nI_clamp (by omega), h0, h2, nI_add, bn_s, gd_k hg (by omega), bd_s, gd_k hg (by omega), h3, nI_add, bd_s, h14, if_neg h30, h18, hsub, if_pos hle2, if_pos (by decide), h0]
    exact ena_loop (N := N) (c := c) (n := p + v) hg h14 h18 h4 (by omega) hp (by omega) hms (p + v) N 0 c (by omega) (by omega) (fun _ => rfl) (fun _ _ => rfl) (fun _ _ _ => rfl) (fun x x1 x2 => by omega) (fun x x1 x2 => by omega)
  · have hle2 : ¬ nI (p + v + ms) ≤ nI 220 := fun z => by
      have := (nI_leI (by omega) (by omega)).mp z
      omega
    unfold fx_Ac_enter_a fx_Pr_allLocals fx_Ac_enter_a_b57
    rw [gd_k hg (by omega), gd_k hg (by omega), nI_clamp (by omega), h0, h2, nI_add, bn_s, gd_k hg (by omega), bd_s, gd_k hg (by omega), h3, nI_add, bd_s, h14, if_neg h30, h18, hsub, if_neg hle2]
theorem mc_loop {N g p : Nat} {m : rs_T} (hp : p ≤ 8) (h8 : rI m 8 = nI p) : ∀ (d fu i : Nat) (m1 : rs_T), i + d = p → d < fu → rI m1 13 = nI i → (∀ k, ¬ k = 13 → rI m1 k = rI m k) → (∀ j y, rA m1 j y = rA m j y) → (∀ j y, ¬ j = 2 → rL m1 j y = rL m j y) → (∀ y, y < i → rL m1 2 y = rL m 1 y) → ∃ m2, fx_Md_call_b55 N fu (nI g) (nI i) m1 = bv (fx_Md_enter N (nI g) (wI (wI (wI m2 8 0) 18 (nI g)) 15 0)) (fun st7 => bv (fx_Md_pass N st7) (fun st8 => some (1, st8))) ∧ rI m2 13 = nI p ∧ (∀ k, ¬ k = 13 → rI m2 k = rI m k) ∧ (∀ j y, rA m2 j y = rA m j y) ∧ (∀ j y, ¬ j = 2 → rL m2 j y = rL m j y) ∧ ∀ y, y < p → rL m2 2 y = rL m 1 y := by
  intro d
  induction d with
  | zero =>
    intro fu i m1 hi hfu h13 h1 h2 h3 h5
    obtain ⟨fu, rfl⟩ : ∃ g, fu = g + 1 := ⟨fu - 1, by omega⟩
    have : i = p := by omega
    subst this
    refine ⟨m1, ?_, h13, h1, h2, h3, h5⟩
    unfold fx_Md_call_b55
    rw [h1 8 (by decide), h8, if_pos (Int32.le_refl _)]
  | succ d ih =>
    intro fu i m1 hi hfu h13 h1 h2 h3 h5
    obtain ⟨fu, rfl⟩ : ∃ g, fu = g + 1 := ⟨fu - 1, by omega⟩
    unfold fx_Md_call_b55
    rw [h1 8 (by decide), h8, if_neg (nI_ge (by omega) (by omega)), gd_k (by first | omega | (simp only [rN_wI, rN_wA, rN_wL]; omega)) (by first | omega | (simp only [rN_wI, rN_wA, rN_wL]; omega)), m_push h13 (by omega), bv_s, bd_s, nI_1, nI_clamp (by omega)]
    refine ih fu (i + 1) _ (by omega) (by omega) (by rw [rI_ws]) (fun k hk => by rw [rI_wn hk, rI_wL]; exact h1 k hk) (fun j y => by rw [rA_wI, rA_wL]; exact h2 j y) (fun j y hj => by rw [rL_wI, rL_wn hj]; exact h3 j y hj) (fun y hy => ?_)
    rw [rL_wI]
    by_cases z : y = i
    · subst z; rw [rL_wss]; exact h3 1 y (by decide)
    · rw [rL_wsn z]; exact h5 y (by omega)
