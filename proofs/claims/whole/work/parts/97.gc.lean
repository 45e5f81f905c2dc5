-- ===== to the next step =====
def IQ (c m : rs_T) (T : Nat → ts_T) (S E M : Nat → Nat) (F t : Nat) (w : Bool) (KK : Nat → Nat → kT) (ZZ : Nat → Nat → Int32) (QS QE : Nat → Nat) : Prop := IB c m T S E M F t w KK ZZ QS QE ∧ (rI m 9 = 1 → ∃ G f at_ r b s, R0 c m (vm m) T S E M F w KK G f at_ r b s ∧ stp (v_o (vm m) at_))
theorem muT_le {c m : rs_T} {T : Nat → ts_T} {S E M : Nat → Nat} {F t : Nat} {w : Bool} {KK : Nat → Nat → kT} {ZZ : Nat → Nat → Int32} {QS QE : Nat → Nat} {G : List fr_T} {f at_ b s : Nat} {r : Bool} (h : IB c m T S E M F t w KK ZZ QS QE) (hR : R0 c m (vm m) T S E M F w KK G f at_ r b s) : muT M G f at_ ≤ 170000 := by
  obtain ⟨x1, x2, x3, x4, x5, x6, x7, x8, x9, x10, x11, x12, x13, x14, x15, x16, x17, -⟩ := cx h hR
  have h1 := muL_le hR.1
  have h2 : (M f + 2) * (600 - at_) ≤ (M f + 2) * 600 := Nat.mul_le_mul_left _ (by omega)
  unfold muT
  omega
theorem PC_all {N : Nat} {c m : rs_T} {T : Nat → ts_T} {S E M : Nat → Nat} {F t : Nat} {w : Bool} {KK : Nat → Nat → kT} {ZZ : Nat → Nat → Int32} {QS QE : Nat → Nat} {G : List fr_T} {f at_ b s : Nat} {r : Bool} (h : IB c m T S E M F t w KK ZZ QS QE) (hR : R0 c m (vm m) T S E M F w KK G f at_ r b s) (hs1 : rI m 9 = 1) (hN : 1000 ≤ N) (ho : ¬ stp (v_o (vm m) at_)) : PC N c m T S E M F t w KK ZZ QS QE (muT M G f at_) := by
  have ho : v_o (vm m) at_ ∈ ([2, 3, 5, 11] : List Int32) := Classical.byContradiction ho
  simp only [List.mem_cons, List.not_mem_nil, or_false] at ho
  rcases ho with z | z | z | z
  · exact PC_23 h hR hs1 (Or.inl z)
  · exact PC_23 h hR hs1 (Or.inr z)
  · exact PC_5 h hR hs1 hN z
  · by_cases e : at_ = E f - 1
    · exact PC_fin h hR hs1 hN z e
    · exact PC_11 h hR hs1 z e
theorem R0_vst {N : Nat} {c m : rs_T} {T : Nat → ts_T} {S E M : Nat → Nat} {F t : Nat} {w : Bool} {KK : Nat → Nat → kT} {ZZ : Nat → Nat → Int32} {QS QE : Nat → Nat} {G : List fr_T} {f at_ b s : Nat} {r : Bool} (h : IB c m T S E M F t w KK ZZ QS QE) (hR : R0 c m (vm m) T S E M F w KK G f at_ r b s) (hs1 : rI m 9 = 1) (ho : stp (v_o (vm m) at_)) : vst N c := by
  obtain ⟨x1, x2, x3, x4, x5, x6, x7, x8, x9, x10, x11, x12, x13, x14, x15, x16, x17, -⟩ := cx h hR
  obtain ⟨-, ⟨hfC, -, -, -, -, -, b7, -, b9, b10⟩, -⟩ := id hR
  refine Or.inr ⟨b7, ?_⟩
  cases r with
  | false =>
    obtain ⟨c18', c20, c17⟩ := b9 rfl
    refine Or.inl ⟨c17, sp_reg x6 x5 hfC.2.2.2.2.2.1, sf_0 x6 x5 x2 c18' x3 x4 ?_⟩
    rw [(x1.1 at_).1]; exact ho
  | true =>
    obtain ⟨b101, b102⟩ := b10 rfl
    obtain ⟨sz, z1, z2, z3, z4, z5, z6, z7, z8⟩ := rg_ctx h hfC
    obtain ⟨k1, w0, k2, k3, k4, k5⟩ := z8
    refine Or.inr ⟨sp_reg x6 x5 hfC.2.2.2.2.2.1, (KK f at_).1, w0, (KK f at_).2.1, by omega, ?_, k2, b102, k5 ho, by omega⟩
    rw [z1]
    exact sp_next x6 x5 b101 (by omega) (by omega)
theorem mp_0 {N : Nat} (m : rs_T) : mp N 0 m m := fun _ => rfl
theorem ps_all {N : Nat} {T : Nat → ts_T} {S E M : Nat → Nat} {F t : Nat} {w : Bool} {KK : Nat → Nat → kT} {ZZ : Nat → Nat → Int32} {QS QE : Nat → Nat} (hN : 1000 ≤ N) : ∀ (mu mu0 : Nat), mu0 ≤ mu → ∀ (c m : rs_T) (G : List fr_T) (f at_ : Nat) (r : Bool) (b s : Nat), IB c m T S E M F t w KK ZZ QS QE → R0 c m (vm m) T S E M F w KK G f at_ r b s → rI m 9 = 1 → muT M G f at_ ≤ mu0 → ∃ c1 m1 k kp, vl N k c c1 ∧ mp N kp m m1 ∧ k ≤ mu0 ∧ kp ≤ 2 * mu0 ∧ IQ c1 m1 T S E M F t w KK ZZ QS QE ∧ vst N c1 ∧ ∀ n, fx_Md_pass_b0 N (n + 1) m1 = some m1 := by
  intro mu
  induction mu with
  | zero =>
    intro mu0 h0 c m G f at_ r b s h hR hs1 hmu
    by_cases ho : stp (v_o (vm m) at_)
    · obtain ⟨x1, x2, x3, x4, x5, x6, x7, x8, x9, x10, x11, x12, x13, x14, x15, x16, x17, -⟩ := cx h hR
      exact ⟨c, m, 0, 0, rfl, mp_0 m, by omega, by omega, ⟨h, fun _ => ⟨G, f, at_, r, b, s, hR, ho⟩⟩, R0_vst h hR hs1 ho, fun n => ps_stop x14 (by omega) (Or.inr ho)⟩
    · obtain ⟨c1, m1, k, kp, -, -, -, -, hk, -⟩ := PC_all h hR hs1 hN ho
      omega
  | succ mu ih =>
    intro mu0 h0 c m G f at_ r b s h hR hs1 hmu
    by_cases ho : stp (v_o (vm m) at_)
    · obtain ⟨x1, x2, x3, x4, x5, x6, x7, x8, x9, x10, x11, x12, x13, x14, x15, x16, x17, -⟩ := cx h hR
      exact ⟨c, m, 0, 0, rfl, mp_0 m, by omega, by omega, ⟨h, fun _ => ⟨G, f, at_, r, b, s, hR, ho⟩⟩, R0_vst h hR hs1 ho, fun n => ps_stop x14 (by omega) (Or.inr ho)⟩
    · obtain ⟨c1, m1, k, kp, e1, e2, e3, e4, hk, e5⟩ := PC_all h hR hs1 hN ho
      by_cases h9 : rI m1 9 = 1
      · rcases e5 with e5 | ⟨G1, f1, at1, r1, b1, s1, e5, e6⟩
        · exact absurd h9 e5
        · obtain ⟨c2, m2, k2, kp2, d1, d2, d3, d4, d5, d6, d7⟩ := ih (mu0 - k - 1) (by omega) c1 m1 G1 f1 at1 r1 b1 s1 e4 e5 h9 (by omega)
          exact ⟨c2, m2, k + k2, kp2 + kp, vl_tr e1 d1, mp_tr e3 d2, by omega, by omega, d5, d6, d7⟩
      · refine ⟨c1, m1, k, kp, e1, e3, by omega, by omega, ⟨e4, fun z => absurd z h9⟩, Or.inl ?_, fun n => ps_off h9⟩
        rw [e4.2.2.2.1]; exact h9
theorem ps_IR {N : Nat} {c m : rs_T} {T : Nat → ts_T} {S E M : Nat → Nat} {F t : Nat} {w : Bool} {KK : Nat → Nat → kT} {ZZ : Nat → Nat → Int32} {QS QE : Nat → Nat} (hN : 1000 ≤ N) (h : IR c m T S E M F t w KK ZZ QS QE) : ∃ c1 m1 k kp, vl N k c c1 ∧ mp N kp m m1 ∧ k ≤ 170000 ∧ kp ≤ 340000 ∧ IQ c1 m1 T S E M F t w KK ZZ QS QE ∧ vst N c1 ∧ ∀ n, fx_Md_pass_b0 N (n + 1) m1 = some m1 := by
  by_cases h9 : rI m 9 = 1
  · obtain ⟨G, f, at_, r, b, s, hR⟩ := h.2 h9
    exact ps_all hN 170000 170000 (Nat.le_refl _) c m G f at_ r b s h.1 hR h9 (muT_le h.1 hR)
  · refine ⟨c, m, 0, 0, rfl, mp_0 m, by omega, by omega, ⟨h.1, fun z => absurd z h9⟩, Or.inl ?_, fun n => ps_off h9⟩
    rw [h.1.2.2.2.1]; exact h9
-- one more step is counted
theorem IB_in {c m : rs_T} {T : Nat → ts_T} {S E M : Nat → Nat} {F t : Nat} {w : Bool} {KK : Nat → Nat → kT} {ZZ : Nat → Nat → Int32} {QS QE : Nat → Nat} {G : List fr_T} {f at_ b s : Nat} {r : Bool} (h : IB c m T S E M F t w KK ZZ QS QE) (hR : R0 c m (vm m) T S E M F w KK G f at_ r b s) : IB (wI c 13 (rI c 13 + 1)) (wI m 11 (rI m 11 + 1)) T S E M F t w KK ZZ QS QE ∧ R0 (wI c 13 (rI c 13 + 1)) (wI m 11 (rI m 11 + 1)) (vm m) T S E M F w KK G f at_ r b s := by
  obtain ⟨a1, a2, ⟨sz, z1, z2, z3, z4⟩, g1, g2, g3, g4, g5, g6, g7, g8, g9⟩ := h
  obtain ⟨r1, ⟨hfC, b2', b3, b4, b5, b6, b7, b8, b9, b10⟩, r3, r4, r5⟩ := hR
  have ec : ∀ k, ¬ k = 13 → rI (wI c 13 (rI c 13 + 1)) k = rI c k := fun k hk => rI_wn hk
  have em : ∀ k, ¬ k = 11 → rI (wI m 11 (rI m 11 + 1)) k = rI m k := fun k hk => rI_wn hk
  have hrW : rW (wI c 13 (rI c 13 + 1)) (wI m 11 (rI m 11 + 1)) (vm m) T S E M F w KK G f b s := rW_keep (c := c) (m := m) (c1 := wI c 13 (rI c 13 + 1)) (m1 := wI m 11 (rI m 11 + 1)) (fun f hf => ⟨rfl, hf⟩) (fun _ _ _ _ _ => rfl) (fun _ _ _ _ _ => rfl) (fun _ _ => rfl) (fun _ _ => rfl) (fun _ _ => rfl) (by have := hfC.2.2.2.2.2.2.2.1; omega) r1
  obtain ⟨w1, w2, w3, ⟨pp, w4, w5, w6, w7⟩, ⟨kk, w8, w9, w10, w11⟩, w12, w13⟩ := a2
  refine ⟨⟨pb_congr a1 (fun q _ _ => ec q (by omega)) (fun _ _ _ _ => rfl) (fun q _ => em q (by omega)) (fun _ _ _ => rfl) (ln_e a1 rfl), ⟨w1, w2, w3, ⟨pp, w4, w5, by rw [ec 9 (by decide)]; exact w6, by rw [em 7 (by decide)]; exact w7⟩, ⟨kk, w8, by rw [ec 0 (by decide)]; exact w9, by rw [em 8 (by decide)]; exact w10, w11⟩, by rw [ec 1 (by decide), em 17 (by decide)]; exact w12, by rw [em 17 (by decide)]; exact w13⟩, ⟨sz, by rw [ec 19 (by decide)]; exact z1, ?_, ?_, fun f hf => ?_⟩, ?_, ?_, ?_, ?_, ?_, g6, fun z => ?_, fun z => ?_, g9⟩, hrW, ⟨hfC, b2', ?_, ?_, ?_, ?_, ?_, b8, fun z => ?_, fun z => ?_⟩, r3, ?_, ?_⟩
  · rw [(csz_c (m := m) (m1 := wI m 11 (rI m 11 + 1)) (fun x => rfl) F).1]; exact z2
  · rw [ec 20 (by decide), (csz_c (m := m) (m1 := wI m 11 (rI m 11 + 1)) (S := S) (E := E) (fun x => rfl) F).2]; exact z3
  · rcases z4 f hf with y | ⟨y1, y2, y3, y4, y5, y6⟩
    · exact Or.inl y
    · obtain ⟨hWf, -, hE, -⟩ := pb_Wf a1 y1
      exact Or.inr ⟨y1, y2, y3, kok_c (c := c) hWf.2.2.1 hE (fun j x hj => rfl) y4, y5, y6⟩
  · rw [ec 11 (by decide), em 9 (by decide)]; exact g1
  · rw [ec 12 (by decide), em 10 (by decide)]; exact g2
  · rw [rI_ws, rI_ws, g3]
  · rw [ec 15 (by decide), em 18 (by decide)]; exact g4
  · rw [em 18 (by decide)]; exact g5
  · rw [em 9 (by decide)] at z
    rw [ec 10 (by decide), em 16 (by decide)]; exact g7 z
  · rw [em 9 (by decide)] at z
    rw [ec 10 (by decide)]; exact g8 z
  · rw [em 13 (by decide)]; exact b3
  · rw [em 14 (by decide)]; exact b4
  · rw [ec 18 (by decide)]; exact b5
  · rw [em 15 (by decide)]; exact b6
  · rw [ec 16 (by decide)]; exact b7
  · rw [ec 17 (by decide)]; exact b9 z
  · rw [ec 17 (by decide)]; exact b10 z
  · rw [ec 14 (by decide)]; exact r4
  · rw [em 12 (by decide)]; exact r5
