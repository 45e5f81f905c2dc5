-- ===== labels of live places, as the compiler finds them =====
theorem lw_lr (V : vw_T) (f : Nat) (L : List lb_T) (k : Nat) : lw (v_r V f) (lr V f L k) = t_want V f L k := by
  unfold lr t_want
  cases L[k]? <;> rfl
theorem lr_some {V : vw_T} {f : Nat} {L : List lb_T} {k : Nat} {x : kl_T} (h : lr V f L k = some x) : ∃ q : lb_T, L[k]? = some q ∧ x = (q.1, v_w V q.1, t_want V f L k, decide (v_o V q.1 = 3)) := by
  unfold lr at h
  cases hq : L[k]? with
  | none => rw [hq] at h; cases h
  | some q =>
    rw [hq] at h
    exact ⟨q, rfl, (Option.some.inj h).symm⟩
theorem ty_mem {V : vw_T} {T : Nat → ts_T} {f s e ms i : Nat} (h : ty_F V T f s e ms) (hi : s ≤ i) (he : i ≤ e) {q : lb_T} (hq : q ∈ (T i).1) : s ≤ q.1 ∧ q.1 < i ∧ (∃ x y : Nat, x ≤ 4 ∧ y ≤ 4 ∧ v_a V q.1 = nI x ∧ v_b V q.1 = nI y) ∧ v_o V q.1 ∈ ([2, 3, 4] : List Int32) ∧ v_w V q.1 ≤ (T i).2.2.1 := by
  obtain ⟨h1, -, h3, -⟩ := h.2.2 i hi he
  obtain ⟨g1, g2, g3, g4, -⟩ := lw_get h1 q hq
  refine ⟨(h3 q hq).1, g1, g2, ?_, g4⟩
  rcases g3 with z | z | z <;> (rw [z]; decide)
theorem lkb_of {c m : rs_T} {T : Nat → ts_T} {f s e ms i k F : Nat} (h : pb_W c m T f s e ms) (hA : pb_A c m) (hF : cf_ok c (vm m) F) (hf : f < F) (he : e ≤ 512 ∧ e ≤ rN c 0 ∧ rN c 0 ≤ 1500) (hi : s ≤ i) (hi2 : i < e) (ho : v_o (vm m) i = 12 ∨ v_o (vm m) i = 13 ∨ v_o (vm m) i = 6) (hk : t_n (v_a (vm m) i) (T i).1.length = some k) : lkb c f (v_r (vm m) f) (lr (vm m) f (T i).1 k) i := by
  have hl := cl_br h hi hi2 ho hk
  unfold bg_L at hl
  rw [List.getElem?_map] at hl
  have hF40 := hF.1
  refine ⟨(hF.2 f hf).2.1, by omega, ?_⟩
  unfold lr
  cases hq : (T i).1[k]? with
  | none => rw [hq] at hl; exact hl
  | some q =>
    rw [hq] at hl
    have hmem : q ∈ (T i).1 := List.mem_of_getElem? hq
    obtain ⟨m1, m2, ⟨x, y, hx, hy, m3, m4⟩, m5, m6⟩ := ty_mem h.2.2.1 hi (by omega) hmem
    have hw : t_want (vm m) f (T i).1 k = if v_o (vm m) q.1 = 3 then (v_a (vm m) q.1).toNatClampNeg else (v_b (vm m) q.1).toNatClampNeg := by
      unfold t_want; rw [hq]
    refine ⟨hl, by omega, h.2.2.2.2.2 q.1 m1 (by omega) m5, fun z => ?_, fun z => ?_⟩
    · have z3 : v_o (vm m) q.1 = 3 := of_decide_eq_true z
      refine ⟨(hA.1 q.1).1.trans z3, ?_⟩
      show rA c 8 q.1 = nI (t_want (vm m) f (T i).1 k)
      rw [hw, if_pos z3, m3, nI_clamp (by omega)]
      exact (hA.1 q.1).2.1.trans m3
    · have z3 : ¬ v_o (vm m) q.1 = 3 := of_decide_eq_false z
      obtain ⟨j, j1, j2, -, -, j5, -⟩ := cl_end (N := 600) h he.1 (by omega) m1 (by omega) m5
      refine ⟨fun y => z3 ((hA.1 q.1).1.symm.trans y), ?_, j, by omega, j5⟩
      show rA c 9 q.1 = nI (t_want (vm m) f (T i).1 k)
      rw [hw, if_neg z3, m4, nI_clamp (by omega)]
      exact (hA.1 q.1).2.2.trans m4
-- the entries behind a TABLE
theorem tab_ty {V : vw_T} {T : Nat → ts_T} {f s e ms i a : Nat} (h : ty_F V T f s e ms) (hi : s ≤ i) (ha : t_n (v_a V i) 20 = some a) (ho : v_o V i = 14) (hl : tl (T i)) (hie : i < e) (hfin : (T e).2.2.2.1 = 0) : 1 ≤ (T i).2.2.1 ∧ ∀ j, j ≤ a → i + 1 + j < e ∧ v_o V (i + 1 + j) = 6 ∧ (T (i + 1 + j)).1 = (T i).1 ∧ (T (i + 1 + j)).2.1 = (T i).2.1 ∧ (T (i + 1 + j)).2.2.1 = (T i).2.2.1 - 1 ∧ (T (i + 1 + j)).2.2.2.1 = a + 1 - j ∧ ∃ k, t_n (v_a V (i + 1 + j)) (T i).1.length = some k ∧ t_want V f (T i).1 k ≤ (T i).2.2.1 - 1 ∧ (∀ x, (T (i + 1 + j)).2.2.2.2 = some x → x ≤ (T i).2.2.1 - 1) ∧ (0 < j → ∃ k0, t_n (v_a V (i + 1)) (T i).1.length = some k0 ∧ t_want V f (T i).1 k = t_want V f (T i).1 k0 ∧ (T (i + 1 + j)).2.2.2.2 = some (t_want V f (T i).1 k0)) := by
  have hx := h.2.1
  have hT1 : 1 ≤ (T i).2.2.1 ∧ T (i + 1) = ((T i).1, (T i).2.1, (T i).2.2.1 - 1, a + 1, none) := by
    rcases nx_cases (hx i hi hie) with ⟨o, -, -⟩ | ⟨-, hc⟩
    · rw [ho] at o; exact absurd o (by decide)
    · rcases hc with ⟨o, -⟩ | ⟨o, -⟩ | ⟨o, -⟩ | ⟨o, -⟩ | ⟨o, -⟩ | ⟨o, -⟩ | ⟨o, -⟩ | ⟨o, k, hk, hh, e2⟩ | ⟨o, -⟩ | ⟨o, -⟩ | ⟨o, -⟩ | ⟨o, -⟩
      · rw [ho] at o; exact absurd o (by decide)
      · rw [ho] at o; exact absurd o (by decide)
      · rw [ho] at o; exact absurd o (by decide)
      · rw [ho] at o; exact absurd o (by decide)
      · rw [ho] at o; exact absurd o (by decide)
      · rw [ho] at o; exact absurd o (by decide)
      · rw [ho] at o; exact absurd o (by decide)
      · rw [ha] at hk
        have := Option.some.inj hk
        subst this
        rw [tl_tk hl hh] at e2
        have := tl_has hl hh
        exact ⟨by omega, e2⟩
      · rw [ho] at o; exact absurd o (by decide)
      · rw [ho] at o; exact absurd o (by decide)
      · rw [ho] at o; exact absurd o (by decide)
      · rw [ho] at o; exact absurd o (by decide)
  refine ⟨hT1.1, ?_⟩
  have step : ∀ j, j ≤ a → (T (i + 1 + j)).1 = (T i).1 → (T (i + 1 + j)).2.1 = (T i).2.1 → (T (i + 1 + j)).2.2.1 = (T i).2.2.1 - 1 → (T (i + 1 + j)).2.2.2.1 = a + 1 - j → i + 1 + j ≤ e → (∀ x, (T (i + 1 + j)).2.2.2.2 = some x → x ≤ (T i).2.2.1 - 1) → i + 1 + j < e ∧ v_o V (i + 1 + j) = 6 ∧ ∃ k, t_n (v_a V (i + 1 + j)) (T i).1.length = some k ∧ t_want V f (T i).1 k ≤ (T i).2.2.1 - 1 ∧ (∀ x, (T (i + 1 + j)).2.2.2.2 = some x → t_want V f (T i).1 k = x) ∧ (j < a → T (i + 1 + (j + 1)) = ((T i).1, (T i).2.1, (T i).2.2.1 - 1, a + 1 - (j + 1), some (t_want V f (T i).1 k))) := by
    intro j hj e1 e2 e3 e4 hle hsm
    have hlt : i + 1 + j < e := by
      by_cases z : i + 1 + j = e
      · rw [z, hfin] at e4; omega
      · omega
    have hd : t_dd (T (i + 1 + j)) = false := by
      have hd0 := tl_dd hl
      unfold t_dd at hd0 ⊢
      rw [e1, e2]; exact hd0
    rcases nx_cases (hx (i + 1 + j) (by omega) hlt) with ⟨o, -, hc⟩ | ⟨hel, -⟩
    · refine ⟨hlt, o, ?_⟩
      obtain ⟨k, k1, k2, k3, k4⟩ := entry_some hc
      rw [e1] at k1 k2 k3
      refine ⟨k, k1, ?_, k3, fun hja => ?_⟩
      · cases hq : (T (i + 1 + j)).2.2.2.2 with
        | none =>
          have k2 := k2 hq
          unfold t_has at k2
          rw [hd, e1, e3] at k2
          have : t_ht V (T i).1 + t_want V f (T i).1 k ≤ (T i).2.2.1 - 1 := by simpa using k2
          omega
        | some x =>
          rw [k3 x hq]
          exact hsm x hq
      · rcases k4 with ⟨z, -⟩ | ⟨-, z⟩
        · omega
        · rw [show i + 1 + (j + 1) = i + 1 + j + 1 by omega, z, e1, e2, e3, e4]
          rfl
    · rw [e4] at hel; omega
  intro j
  induction j with
  | zero =>
    intro _
    have e1 : (T (i + 1 + 0)) = ((T i).1, (T i).2.1, (T i).2.2.1 - 1, a + 1, none) := hT1.2
    obtain ⟨g1, g2, k, g3, g4, g5, g6⟩ := step 0 (Nat.zero_le _) (by rw [e1]) (by rw [e1]) (by rw [e1]) (by rw [e1]; rfl) (by omega) (fun x hx => by rw [e1] at hx; cases hx)
    exact ⟨g1, g2, by rw [e1], by rw [e1], by rw [e1], by rw [e1]; rfl, k, g3, g4, fun x hx => (by rw [e1] at hx; cases hx), fun z => by omega⟩
  | succ j ih =>
    intro hj
    obtain ⟨h1, h2, h3, h4, h5, h6, k, h7, h8, h9, h10⟩ := ih (by omega)
    obtain ⟨g1, g2, k', g3, g4, g5, g6⟩ := step j (by omega) h3 h4 h5 h6 (by omega) h9
    have hkk : k' = k := by rw [h7] at g3; exact (Option.some.inj g3).symm
    subst hkk
    have e1 := g6 (by omega)
    obtain ⟨s1, s2, k2, s3, s4, s5, s6⟩ := step (j + 1) hj (by rw [e1]) (by rw [e1]) (by rw [e1]) (by rw [e1]) (by omega) (fun x hx => by rw [e1] at hx; have := Option.some.inj hx; omega)
    have s5' := s5 (t_want V f (T i).1 k') (by rw [e1])
    refine ⟨s1, s2, by rw [e1], by rw [e1], by rw [e1], by rw [e1], k2, s3, s4, fun x hx => by rw [e1] at hx; have := Option.some.inj hx; omega, fun _ => ?_⟩
    by_cases z : j = 0
    · subst z
      exact ⟨k', h7, s5', by rw [e1]⟩
    · obtain ⟨k0, t1, t2, t3⟩ := h10 (by omega)
      exact ⟨k0, t1, s5'.trans t2, by rw [e1, t2]⟩
