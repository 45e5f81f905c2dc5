-- ===== state, result =====
theorem co_loop {N F : Nat} {m : rs_T} (hF : F ≤ 40) (h0 : rI m 0 = nI F) : ∀ (d fu i : Nat), i + d = F → d < fu → fx_Md_compiledOnes_b4 N fu (nI (cct m i)) (nI i) m = some (nI (cct m F), m) := by
  intro d
  induction d with
  | zero =>
    intro fu i hi hfu
    obtain ⟨fu, rfl⟩ : ∃ g, fu = g + 1 := ⟨fu - 1, by omega⟩
    have : i = F := by omega
    subst this
    unfold fx_Md_compiledOnes_b4
    rw [h0, if_pos (Int32.le_refl _)]
  | succ d ih =>
    intro fu i hi hfu
    obtain ⟨fu, rfl⟩ : ∃ g, fu = g + 1 := ⟨fu - 1, by omega⟩
    unfold fx_Md_compiledOnes_b4 fx_Md_compiledOnes_b27
    rw [h0, if_neg (nI_ge (by omega) (by omega)), gd_k (by first | omega | (simp only [rN_wI, rN_wA, rN_wL]; omega)) (by first | omega | (simp only [rN_wI, rN_wA, rN_wL]; omega)), nI_clamp (by omega)]
    have := ih fu (i + 1) (by omega) (by omega)
    have e : cct m (i + 1) = cct m i + (if rA m 22 i = 0 then 0 else 1) := rfl
    rw [e] at this
    by_cases z : rA m 22 i = 0
    · rw [if_pos z, bd_s, bd_s, nI_1]
      rw [if_pos z] at this
      rw [show nI (cct m i) + 0 = nI (cct m i + 0) by rw [← nI_add]; rfl]
      exact this
    · rw [if_neg z, bd_s, bd_s, nI_1, nI_1]
      rw [if_neg z] at this
      exact this
theorem state_both {N : Nat} {c m : rs_T} {T : Nat → ts_T} {S E M : Nat → Nat} {F t : Nat} {w : Bool} {KK : Nat → Nat → kT} {ZZ : Nat → Nat → Int32} {QS QE : Nat → Nat} (hN : 1000 ≤ N) (h : IQ c m T S E M F t w KK ZZ QS QE) (z : Int32) : ∃ r, fx_Ma_state z c = some (r, c) ∧ fx_Md_state N z m = some (r, m) := by
  obtain ⟨⟨⟨q1, q2, q3, q4, q5, q6, q7, qA, qF, qP, qE, qW, qU, qN, qLn, qLt, qL7⟩, ⟨-, -, -, ⟨pp, w4, w5, w6, w7⟩, -, -, -⟩, ⟨sz, z1, z2, z3, z4⟩, g1, g2, g3, g4, g5, g6, g7, g8, g9⟩, hR⟩ := h
  have m1 : ∀ x y : Int32, x ∈ ([y] : List Int32) ↔ x = y := fun x y => List.mem_singleton
  unfold fx_Ma_state fx_Md_state
  simp only [m1]
  by_cases e0 : z = 0
  · exact ⟨rI m 9, by rw [if_pos e0, g1], by rw [if_pos e0]⟩
  rw [if_neg e0, if_neg e0]
  by_cases e1 : z = 1
  · exact ⟨rI m 10, by rw [if_pos e1, g2], by rw [if_pos e1]⟩
  rw [if_neg e1, if_neg e1]
  by_cases e2 : z = 2
  · rw [if_pos e2, if_pos e2, g1]
    by_cases h9 : rI m 9 = 1
    · obtain ⟨G, f, at_, r, b, s, hR0, -⟩ := hR h9
      exact ⟨rI m 12, by rw [if_pos h9, hR0.2.2.2.1, hR0.2.2.2.2], by rw [if_pos h9]⟩
    · exact ⟨0, by rw [if_neg h9], by rw [if_neg h9]⟩
  rw [if_neg e2, if_neg e2]
  by_cases e3 : z = 3
  · rw [if_pos e3, if_pos e3, g4]
    rcases g5 with y | ⟨f, hf, y⟩
    · rw [y]
      exact ⟨0, by rw [if_pos rfl], by rw [if_neg (by decide)]⟩
    · have hf40 : f < 40 := by have := hf.1; omega
      rw [y]
      exact ⟨rA m 21 f, by rw [if_neg (fun x => (nI_m1 (by omega)).mp x), gd_k hf40 (by omega), nI_clamp (by omega), g6 f hf40], by rw [if_pos (z_le (by omega)), gd_k hf40 (by omega), nI_clamp (by omega)]⟩
  rw [if_neg e3, if_neg e3]
  by_cases e4 : z = 4
  · exact ⟨rI m 11, by rw [if_pos e4, g3], by rw [if_pos e4]⟩
  rw [if_neg e4, if_neg e4]
  by_cases e5 : z = 5
  · exact ⟨nI F, by rw [if_pos e5, q3], by rw [if_pos e5, q4]⟩
  rw [if_neg e5, if_neg e5]
  by_cases e6 : z = 6
  · exact ⟨nI t, by rw [if_pos e6, q5], by rw [if_pos e6, q6]⟩
  rw [if_neg e6, if_neg e6]
  by_cases e7 : z = 7
  · rw [if_pos e7, if_pos e7, q7]
    cases w with
    | false => exact ⟨0, by rw [(qN rfl).2.1], by rw [show b2 false = 0 from rfl, if_pos rfl]⟩
    | true =>
      obtain ⟨f, -, -, hu1, -, -, -, hu5, hu6⟩ := qU rfl
      exact ⟨rI m 3, by rw [hu6.2.2.2.1, hu5.2.2.2.1], by rw [show b2 true = 1 from rfl, if_neg (by decide)]⟩
  rw [if_neg e7, if_neg e7]
  by_cases e8 : z = 8
  · rw [if_pos e8, if_pos e8, q7]
    unfold fx_Wr_ownOperands
    cases w with
    | false => exact ⟨0, by rw [(qN rfl).2.1, if_pos rfl, bn_s], by rw [show b2 false = 0 from rfl, if_pos rfl]⟩
    | true =>
      obtain ⟨f, eF, eE, hu1, -, -, -, hu5, hu6⟩ := qU rfl
      have hb : tb_ok t (T t) := (hu1.2.2 t (by have := (qP f (by omega)).2.2.2.2.2.2; omega) (Nat.le_refl _)).2.2.2.2.1
      have hmt := mw_top hu5 hb
      have hht := c_ht hu6 hb
      obtain ⟨h2, h3, h4, h5, h6, h7, h8, hl, hw, hf, hr, hN⟩ := hu6
      obtain ⟨n1, n2, n3, n4, n5, n6⟩ := hmt
      have hle := lw_ht hw
      exact ⟨nI ((T t).2.2.1 - t_ht (vm m) (T t).1), by rw [if_neg (by rw [h5]; exact nI_ne0 (by omega) (by omega)), hht, bn_s, h6, nI_sub hle, bn_s], by rw [show b2 true = 1 from rfl, if_neg (by decide), mi_s n1, bn_s, gd_k (by first | omega | (simp only [rN_wI, rN_wA, rN_wL]; omega)) (by first | omega | (simp only [rN_wI, rN_wA, rN_wL]; omega)), nI_clamp (by omega), n3]⟩
  rw [if_neg e8, if_neg e8]
  by_cases e9 : z = 9
  · rw [if_pos e9, if_pos e9, q7]
    unfold fx_Wr_isDead
    cases w with
    | false => exact ⟨0, by rw [(qN rfl).2.1, if_pos (by decide), bn_s, if_pos rfl], by rw [show b2 false = 0 from rfl, if_pos rfl]⟩
    | true =>
      obtain ⟨f, eF, eE, hu1, -, -, -, hu5, hu6⟩ := qU rfl
      have hb : tb_ok t (T t) := (hu1.2.2 t (by have := (qP f (by omega)).2.2.2.2.2.2; omega) (Nat.le_refl _)).2.2.2.2.1
      have hmt := mw_top hu5 hb
      obtain ⟨h2, h3, h4, h5, h6, h7, h8, hl, hw, hf, hr, hN⟩ := hu6
      obtain ⟨n1, n2, n3, n4, n5, n6⟩ := hmt
      have hlen : ¬ nI ((T t).1.length + 1) ≤ (0 : Int32) := fun y => by
        have : (T t).1.length + 1 ≤ 0 := (le_lit (k := 0) (show (T t).1.length + 1 < 2 ^ 31 by omega) (by omega)).mp y
        omega
      have hdd := wc_dd hl
      rw [← t_dd_l] at hdd
      rw [h5, if_neg hlen, nI_pred, gd_k (by first | omega | (simp only [rN_wI, rN_wA, rN_wL]; omega)) (by first | omega | (simp only [rN_wI, rN_wA, rN_wL]; omega)), nI_clamp (by omega), hdd, show b2 true = 1 from rfl, if_neg (show ¬ (1 : Int32) = 0 by decide), mi_s n1, bn_s, gd_k (by first | omega | (simp only [rN_wI, rN_wA, rN_wL]; omega)) (by first | omega | (simp only [rN_wI, rN_wA, rN_wL]; omega)), nI_clamp (by omega), n4]
      cases t_dd (T t) with
      | false => exact ⟨0, by rw [show b2 false = 0 from rfl, if_pos rfl, bn_s, if_pos rfl], by rw [show b2 false = 0 from rfl, if_pos rfl]⟩
      | true => exact ⟨1, by rw [show b2 true = 1 from rfl, if_neg (by decide), bn_s, if_neg (by decide)], by rw [show b2 true = 1 from rfl, if_neg (by decide)]⟩
  rw [if_neg e9, if_neg e9]
  by_cases e10 : z = 10
  · exact ⟨nI pp, by rw [if_pos e10, w6], by rw [if_pos e10, w7]⟩
  rw [if_neg e10, if_neg e10]
  by_cases e11 : z = 11
  · refine ⟨nI (cct m F), by rw [if_pos e11, z3], ?_⟩
    have hco := co_loop (N := N) (m := m) q1 q4 F N 0 (by omega) (by omega)
    have hco : fx_Md_compiledOnes_b4 N N 0 0 m = some (nI (cct m F), m) := hco
    unfold fx_Md_compiledOnes
    rw [if_pos e11, hco, bn_s]
  · exact ⟨-1, by rw [if_neg e11], by rw [if_neg e11]⟩
theorem result_both {c m : rs_T} {F : Nat} {w : Bool} (h : rG c m F w) (z : Int32) : ∃ r, fx_Ma_result z c = some (r, c) ∧ fx_Md_result z m = some (r, m) := by
  obtain ⟨g1, g2, g3, g4, g5, g6, g7, g8, g9⟩ := h
  unfold fx_Ma_result fx_Md_result
  by_cases h0 : z < 0
  · refine ⟨0, by rw [if_pos h0], ?_⟩
    by_cases h2 : rI m 9 = 2
    · rw [if_pos h2, if_pos h0]
    · rw [if_neg h2]
  · rw [if_neg h0]
    by_cases h2 : rI m 9 = 2
    · obtain ⟨k, k1, k2, k3, k4⟩ := g7 h2
      rw [if_pos h2, if_neg h0, k2, k3]
      by_cases h3 : nI k ≤ z
      · exact ⟨0, by rw [if_pos h3], by rw [if_pos h3]⟩
      · have hz : ¬ nI 8 < z := fun y => h3 (by
          have y1 := Int32.lt_iff_toInt_lt.mp y
          refine Int32.le_iff_toInt_le.mpr ?_
          have y2 : (nI k).toInt = (k : Int) := nI_toInt (by omega)
          have y3 : (nI 8).toInt = (8 : Int) := nI_toInt (by omega)
          omega)
        obtain ⟨j, hj, rfl⟩ := sm_of (k := 8) (by omega) h0 hz
        have hjk : j < k := by
          by_cases y : k ≤ j
          · exact absurd ((nI_leI (by omega) (by omega)).mpr y) h3
          · omega
        exact ⟨rL m 3 j, by rw [if_neg h3, gd_k (by first | omega | (simp only [rN_wI, rN_wA, rN_wL]; omega)) (by first | omega | (simp only [rN_wI, rN_wA, rN_wL]; omega)), nI_clamp (by omega), k4 j hjk], by rw [if_neg h3, gd_k (by first | omega | (simp only [rN_wI, rN_wA, rN_wL]; omega)) (by first | omega | (simp only [rN_wI, rN_wA, rN_wL]; omega)), nI_clamp (by omega)]⟩
    · have h3 : rI c 10 ≤ z := by
        rw [g8 h2]
        have y0 : ¬ z.toInt < (0 : Int32).toInt := fun y => h0 (Int32.lt_iff_toInt_lt.mpr y)
        refine Int32.le_iff_toInt_le.mpr ?_
        omega
      exact ⟨0, by rw [if_pos h3], by rw [if_neg h2]⟩
