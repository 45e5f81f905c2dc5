theorem lk_step_to {c c1 c2 : rs_T} {V V2 : vw_T} {t : Nat} {T : ts_T} (h : lk_step c c1 V t T) (ho : v_o V2 t = v_o V t) (ha : v_a V2 t = v_a V t) (h10 : ∀ x, rA c2 10 x = rA c1 10 x) (h11 : ∀ x, rA c2 11 x = rA c1 11 x) : lk_step c c2 V2 t T := by
  obtain ⟨k1, k2, k3, k4, k5⟩ := h
  refine ⟨fun x hx hq => ?_, fun x hx hq => ?_, fun o k hk => ?_, fun o => ?_, fun o => ?_⟩
  · rw [h10]; exact k1 x hx (by rw [← ho]; exact hq)
  · rw [h11]; exact k2 x hx (by rw [← ho]; exact hq)
  · rw [ho] at o; rw [ha] at hk
    have := k3 o k hk
    unfold lk_br at this ⊢
    rw [h10]; exact this
  · rw [ho] at o
    have := k4 o
    unfold lk_end at this ⊢
    cases hL : T.1 with
    | nil => rw [hL] at this; simp only [] at this ⊢; rw [h10]; exact this
    | cons q L =>
      rw [hL] at this
      simp only [] at this ⊢
      obtain ⟨b1, b2, b3, b4⟩ := this
      refine ⟨by rw [h10]; exact b1, by rw [h10]; exact b2, fun z => by rw [h11]; exact b3 z, fun z => ?_⟩
      obtain ⟨x, x1, x2, x3⟩ := b4 z
      exact ⟨x, x1, by rw [h11]; exact x2, by rw [h10]; exact x3⟩
  · rw [ho] at o
    have := k5 o
    unfold lk_else at this ⊢
    cases hL : T.1 with
    | nil => trivial
    | cons q L =>
      rw [hL] at this
      simp only [] at this ⊢
      exact ⟨by rw [h11]; exact this.1, by rw [h11]; exact this.2⟩
theorem cz_r (c1 : rs_T) (t : Nat) (o a b : Int32) : (∀ j x, ¬ j = 7 → ¬ j = 8 → ¬ j = 9 → rA (cz_c c1 t o a b) j x = rA c1 j x) ∧ (∀ q, ¬ q = 4 → rI (cz_c c1 t o a b) q = rI c1 q) ∧ (∀ j x, rL (cz_c c1 t o a b) j x = rL c1 j x) ∧ rI (cz_c c1 t o a b) 4 = nI (t + 1) ∧ (∀ x, rA (cz_c c1 t o a b) 7 x = if x = t then o else rA c1 7 x) ∧ (∀ x, rA (cz_c c1 t o a b) 8 x = if x = t then a else rA c1 8 x) ∧ (∀ x, rA (cz_c c1 t o a b) 9 x = if x = t then b else rA c1 9 x) := by
  unfold cz_c
  refine ⟨fun j x h1 h2 h3 => ?_, fun q h => ?_, fun j x => ?_, ?_, fun x => ?_, fun x => ?_, fun x => ?_⟩
  · simp (disch := omega) only [bn_s, bv_s, bd_s, gb_0, gb_1, rI_ws, rI_wn, rI_wA, rI_wL, rA_wI, rA_wL, rL_wI, rL_wA, rA_wss, rA_wn, rA_wsn, rL_wss, rL_wn, rL_wsn, rN_wI, rN_wA, rN_wL]
  · simp (disch := omega) only [bn_s, bv_s, bd_s, gb_0, gb_1, rI_ws, rI_wn, rI_wA, rI_wL, rA_wI, rA_wL, rL_wI, rL_wA, rA_wss, rA_wn, rA_wsn, rL_wss, rL_wn, rL_wsn, rN_wI, rN_wA, rN_wL]
  · simp (disch := omega) only [bn_s, bv_s, bd_s, gb_0, gb_1, rI_ws, rI_wn, rI_wA, rI_wL, rA_wI, rA_wL, rL_wI, rL_wA, rA_wss, rA_wn, rA_wsn, rL_wss, rL_wn, rL_wsn, rN_wI, rN_wA, rN_wL]
  · simp (disch := omega) only [bn_s, bv_s, bd_s, gb_0, gb_1, rI_ws, rI_wn, rI_wA, rI_wL, rA_wI, rA_wL, rL_wI, rL_wA, rA_wss, rA_wn, rA_wsn, rL_wss, rL_wn, rL_wsn, rN_wI, rN_wA, rN_wL]
  · by_cases e : x = t
    · subst e; simp (disch := omega) only [bn_s, bv_s, bd_s, gb_0, gb_1, rI_ws, rI_wn, rI_wA, rI_wL, rA_wI, rA_wL, rL_wI, rL_wA, rA_wss, rA_wn, rA_wsn, rL_wss, rL_wn, rL_wsn, rN_wI, rN_wA, rN_wL, if_true]
    · simp (disch := omega) only [bn_s, bv_s, bd_s, gb_0, gb_1, rI_ws, rI_wn, rI_wA, rI_wL, rA_wI, rA_wL, rL_wI, rL_wA, rA_wss, rA_wn, rA_wsn, rL_wss, rL_wn, rL_wsn, rN_wI, rN_wA, rN_wL, if_neg e]
  · by_cases e : x = t
    · subst e; simp (disch := omega) only [bn_s, bv_s, bd_s, gb_0, gb_1, rI_ws, rI_wn, rI_wA, rI_wL, rA_wI, rA_wL, rL_wI, rL_wA, rA_wss, rA_wn, rA_wsn, rL_wss, rL_wn, rL_wsn, rN_wI, rN_wA, rN_wL, if_true]
    · simp (disch := omega) only [bn_s, bv_s, bd_s, gb_0, gb_1, rI_ws, rI_wn, rI_wA, rI_wL, rA_wI, rA_wL, rL_wI, rL_wA, rA_wss, rA_wn, rA_wsn, rL_wss, rL_wn, rL_wsn, rN_wI, rN_wA, rN_wL, if_neg e]
  · by_cases e : x = t
    · subst e; simp (disch := omega) only [bn_s, bv_s, bd_s, gb_0, gb_1, rI_ws, rI_wn, rI_wA, rI_wL, rA_wI, rA_wL, rL_wI, rL_wA, rA_wss, rA_wn, rA_wsn, rL_wss, rL_wn, rL_wsn, rN_wI, rN_wA, rN_wL, if_true]
    · simp (disch := omega) only [bn_s, bv_s, bd_s, gb_0, gb_1, rI_ws, rI_wn, rI_wA, rI_wL, rA_wI, rA_wL, rL_wI, rL_wA, rA_wss, rA_wn, rA_wsn, rL_wss, rL_wn, rL_wsn, rN_wI, rN_wA, rN_wL, if_neg e]
-- what the reference's end leaves
theorem mz_r (m1 : rs_T) (f t : Nat) (o a b : Int32) (s ms : Nat) : (∀ q, ¬ q = 1 → rI (mz_m m1 f t o a b s ms) q = rI m1 q) ∧ (∀ j x, ¬ j = 1 → ¬ j = 5 → ¬ j = 6 → ¬ j = 7 → ¬ j = 8 → rA (mz_m m1 f t o a b s ms) j x = rA m1 j x) ∧ (∀ j x, rL (mz_m m1 f t o a b s ms) j x = rL m1 j x) ∧ rI (mz_m m1 f t o a b s ms) 1 = nI (t + 1) ∧ rA (mz_m m1 f t o a b s ms) 1 f = nI (t + 1 - s) ∧ rA (mz_m m1 f t o a b s ms) 5 f = nI ms ∧ (∀ x, ¬ x = f → rA (mz_m m1 f t o a b s ms) 1 x = rA m1 1 x ∧ rA (mz_m m1 f t o a b s ms) 5 x = rA m1 5 x) := by
  unfold mz_m
  refine ⟨fun q h => ?_, fun j x h1 h2 h3 h4 h5 => ?_, fun j x => ?_, ?_, ?_, ?_, fun x h => ⟨?_, ?_⟩⟩
  all_goals simp (disch := omega) only [bn_s, bv_s, bd_s, gb_0, gb_1, rI_ws, rI_wn, rI_wA, rI_wL, rA_wI, rA_wL, rL_wI, rL_wA, rA_wss, rA_wn, rA_wsn, rL_wss, rL_wn, rL_wsn, rN_wI, rN_wA, rN_wL]
theorem mze_r (m1 : rs_T) (f t : Nat) (o a b : Int32) (s : Nat) : (∀ q, ¬ q = 1 → ¬ q = 2 → rI (mz_e m1 f t o a b s) q = rI m1 q) ∧ (∀ j x, ¬ j = 1 → ¬ j = 6 → ¬ j = 7 → ¬ j = 8 → rA (mz_e m1 f t o a b s) j x = rA m1 j x) ∧ (∀ j x, rL (mz_e m1 f t o a b s) j x = rL m1 j x) ∧ rI (mz_e m1 f t o a b s) 1 = nI (t + 1) ∧ rI (mz_e m1 f t o a b s) 2 = 0 ∧ rA (mz_e m1 f t o a b s) 1 f = nI (t + 1 - s) ∧ (∀ x, ¬ x = f → rA (mz_e m1 f t o a b s) 1 x = rA m1 1 x) := by
  unfold mz_e
  refine ⟨fun q h h2 => ?_, fun j x h1 h3 h4 h5 => ?_, fun j x => ?_, ?_, ?_, ?_, fun x h => ?_⟩
  all_goals simp (disch := omega) only [bn_s, bv_s, bd_s, gb_0, gb_1, rI_ws, rI_wn, rI_wA, rI_wL, rA_wI, rA_wL, rL_wI, rL_wA, rA_wss, rA_wn, rA_wsn, rL_wss, rL_wn, rL_wsn, rN_wI, rN_wA, rN_wL]
-- code arrays of both after one instruction
theorem pb_A_nx {c m c1 m2 : rs_T} {t : Nat} {o a b : Int32} {w : Nat} (hA : pb_A c m) (h7 : ∀ j x, 6 < j → j < 10 → rA c1 j x = rA c j x) (h0 : ∀ j x, j < 3 → rA c1 j x = rA c j x) (hv : vm m2 = v_set (vm m) t o a b w) (hp : ∀ j x, 2 ≤ j → j ≤ 4 → rA m2 j x = rA m j x) : pb_A (cz_c c1 t o a b) m2 := by
  obtain ⟨z1, z2, z3, z4, z5, z6, z7⟩ := cz_r c1 t o a b
  have e6 : ∀ i, rA m2 6 i = if i = t then o else rA m 6 i := fun i => by
    have : v_o (vm m2) i = v_o (v_set (vm m) t o a b w) i := by rw [hv]
    by_cases e : i = t
    · subst e; rw [if_pos rfl]; rw [vs_o] at this; exact this
    · rw [if_neg e]; exact this.trans (pk_un e)
  have e7 : ∀ i, rA m2 7 i = if i = t then a else rA m 7 i := fun i => by
    have : v_a (vm m2) i = v_a (v_set (vm m) t o a b w) i := by rw [hv]
    by_cases e : i = t
    · subst e; rw [if_pos rfl]; rw [vs_a] at this; exact this
    · rw [if_neg e]; exact this.trans (pk_un e)
  have e8 : ∀ i, rA m2 8 i = if i = t then b else rA m 8 i := fun i => by
    have : v_b (vm m2) i = v_b (v_set (vm m) t o a b w) i := by rw [hv]
    by_cases e : i = t
    · subst e; rw [if_pos rfl]; rw [vs_b] at this; exact this
    · rw [if_neg e]; exact this.trans (pk_un e)
  refine ⟨fun i => ⟨?_, ?_, ?_⟩, fun f => ⟨?_, ?_, ?_⟩⟩
  · rw [z5, e6, h7 7 i (by decide) (by decide), (hA.1 i).1]
  · rw [z6, e7, h7 8 i (by decide) (by decide), (hA.1 i).2.1]
  · rw [z7, e8, h7 9 i (by decide) (by decide), (hA.1 i).2.2]
  · rw [z1 0 f (by decide) (by decide) (by decide), h0 0 f (by decide), hp 2 f (by decide) (by decide)]; exact (hA.2 f).1
  · rw [z1 1 f (by decide) (by decide) (by decide), h0 1 f (by decide), hp 3 f (by decide) (by decide)]; exact (hA.2 f).2.1
  · rw [z1 2 f (by decide) (by decide) (by decide), h0 2 f (by decide), hp 4 f (by decide) (by decide)]; exact (hA.2 f).2.2
theorem mf_keep {m m2 : rs_T} {F : Nat} (h : mf_ok m F) (hp : ∀ j x, 2 ≤ j → j ≤ 4 → rA m2 j x = rA m j x) : mf_ok m2 F := by
  refine ⟨h.1, fun f hf => ?_⟩
  obtain ⟨p1, p2, p3, p4, p5, p6⟩ := h.2 f hf
  have e1 : v_p (vm m2) f = v_p (vm m) f := by show (rA m2 2 f).toNatClampNeg = (rA m 2 f).toNatClampNeg; rw [hp 2 f (by decide) (by decide)]
  have e2 : v_r (vm m2) f = v_r (vm m) f := by show (rA m2 3 f).toNatClampNeg = (rA m 3 f).toNatClampNeg; rw [hp 3 f (by decide) (by decide)]
  have e3 : v_c (vm m2) f = v_c (vm m) f := by show (rA m2 4 f).toNatClampNeg = (rA m 4 f).toNatClampNeg; rw [hp 4 f (by decide) (by decide)]
  rw [e1, e2, e3, hp 2 f (by decide) (by decide), hp 3 f (by decide) (by decide), hp 4 f (by decide) (by decide)]
  exact ⟨p1, p2, p3, p4, p5, p6⟩
-- both take the instruction in the same way
theorem cd_same {V : vw_T} {f t w1 w2 : Nat} {o a b : Int32} {T T1 T2 : ts_T} (hl : lw_L V t T.1 T.2.2.1) (h1 : t_nx (v_set V t o a b w1) f t T = some T1) (h2 : t_nx (v_set V t o a b w2) f t T = some T2) : T1 = T2 ∧ (o ∈ ([2, 3, 4] : List Int32) → w1 = w2) := by
  by_cases ho : o ∈ ([2, 3, 4] : List Int32)
  · have key : ∀ w T', t_nx (v_set V t o a b w) f t T = some T' → ∃ more, (o = 4 → more = 1) ∧ (¬ o = 4 → more = 0) ∧ t_begin (v_set V t o a b w) t T more = some T' := fun w T' h => by
      simp only [List.mem_cons, List.not_mem_nil, or_false] at ho
      rcases nx_cases h with ⟨z, -, -⟩ | ⟨-, h⟩
      · rw [vs_o] at z; rw [z] at ho; exact absurd ho (by decide)
      · rcases h with ⟨z, -⟩ | ⟨z, h⟩ | ⟨z, h⟩ | ⟨z, -⟩ | ⟨z, -⟩ | ⟨z, -⟩ | ⟨z, -⟩ | ⟨z, -⟩ | ⟨z, -⟩ | ⟨z, -⟩ | ⟨z, -⟩ | ⟨z, -⟩
        · rw [vs_o] at z; rw [z] at ho; exact absurd ho (by decide)
        · rw [vs_o] at z
          refine ⟨0, fun e => ?_, fun _ => rfl, h⟩
          rw [e] at z; exact absurd z (by decide)
        · rw [vs_o] at z
          exact ⟨1, fun _ => rfl, fun e => absurd z e, h⟩
        · rw [vs_o] at z; rw [z] at ho; exact absurd ho (by decide)
        · rw [vs_o] at z; rw [z] at ho; exact absurd ho (by decide)
        · rw [vs_o] at z; rw [z] at ho; exact absurd ho (by decide)
        · rw [vs_o] at z; rw [z] at ho; exact absurd ho (by decide)
        · rw [vs_o] at z; rw [z] at ho; exact absurd ho (by decide)
        · rw [vs_o] at z; rw [z] at ho; exact absurd ho (by decide)
        · rw [vs_o] at z; rw [z] at ho; exact absurd ho (by decide)
        · rw [vs_o] at z; rw [z] at ho; exact absurd ho (by decide)
        · rw [vs_o] at z
          refine absurd ?_ z
          simp only [List.mem_cons, List.not_mem_nil, or_false]
          rcases ho with e | e | e <;> simp [e]
    obtain ⟨q1, a1, a2, g1⟩ := key w1 T1 h1
    obtain ⟨q2, b1, b2, g2⟩ := key w2 T2 h2
    have eq : q1 = q2 := by
      by_cases e : o = 4
      · rw [a1 e, b1 e]
      · rw [a2 e, b2 e]
    subst eq
    obtain ⟨x, y, x1, x2, x3, x4, x5, x6, x7⟩ := begin_some g1
    obtain ⟨x', y', y1, y2, y3, y4, y5, y6, y7⟩ := begin_some g2
    rw [vs_a] at x3 y3
    have ex : x = x' := (nI_eq (by omega) (by omega)).mp (x3.symm.trans y3)
    subst ex
    rw [vs_w, tk_view (v_set_eq ..) hl] at x6 y6
    rw [tk_view (v_set_eq ..) hl] at x7 y7
    exact ⟨x7.trans y7.symm, fun _ => x6.trans y6.symm⟩
  · rw [nx_w (w1 := w2) hl ho, h2] at h1
    exact ⟨(Option.some.inj h1).symm, fun z => absurd z ho⟩
