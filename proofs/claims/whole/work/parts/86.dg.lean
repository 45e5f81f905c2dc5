-- ===== the class's links, place by place =====
def lk_e2 (c : rs_T) (V : vw_T) (T : Nat → ts_T) (s i : Nat) : Prop := match (T i).1 with
  | [] => rA c 10 i = -1
  | q :: _ => rA c 10 i = nI q.1 ∧ rA c 10 q.1 = nI i ∧ s ≤ q.1 ∧ (q.2.1 = false → rA c 11 q.1 = -1) ∧ (q.2.1 = true → ∃ x : Nat, s ≤ x ∧ x < i ∧ v_o V x = 5 ∧ (∃ r L, (T x).1 = r :: L ∧ r.1 = q.1) ∧ rA c 11 q.1 = nI x ∧ rA c 10 x = nI i)
def lk_at (c : rs_T) (V : vw_T) (T : Nat → ts_T) (s i : Nat) : Prop := ((v_o V i = 12 ∨ v_o V i = 13 ∨ v_o V i = 6) → ∀ k, t_n (v_a V i) (T i).1.length = some k → lk_br c (T i).1 k i) ∧ (v_o V i = 11 → lk_e2 c V T s i) ∧ (v_o V i = 5 → lk_else c (T i).1 i)
-- an open label's ELSE
def lk_op (c : rs_T) (V : vw_T) (T : Nat → ts_T) (s t : Nat) : Prop := ∀ q ∈ (T t).1, (q.2.1 = true → ∃ x : Nat, s ≤ x ∧ x < t ∧ v_o V x = 5 ∧ (∃ r L, (T x).1 = r :: L ∧ r.1 = q.1) ∧ rA c 11 q.1 = nI x) ∧ (q.2.1 = false → rA c 11 q.1 = -1)
theorem i52 : ¬ (5 : Int32) = 2 := by decide
-- the places below the function stay
theorem lk_low {c c1 : rs_T} {V : vw_T} {T : Nat → ts_T} {s t : Nat} (h : lk_step c c1 V t (T t)) (ht : t < 512) (hst : s ≤ t) (hh : hs_L V T s t) (ho : lk_op c V T s t) (x : Nat) (hx : x < s) : rA c1 10 x = rA c 10 x ∧ rA c1 11 x = rA c 11 x := by
  refine ⟨h.1 x (by omega) (fun q L hq _ => ?_), h.2.1 x (by omega) (fun q L hq _ => ?_)⟩
  · have hm : q ∈ (T t).1 := by rw [hq]; exact List.mem_cons_self
    have := (hh q hm).1
    refine ⟨by omega, fun z => ?_⟩
    cases he : q.2.1
    · rw [(ho q hm).2 he] at z
      exact (m1_nI (by omega)).mp z
    · obtain ⟨x0, x1, x2, -, -, x5⟩ := (ho q hm).1 he
      rw [x5] at z
      have := (nI_eq (by omega) (by omega)).mp z
      omega
  · have hm : q ∈ (T t).1 := by rw [hq]; exact List.mem_cons_self
    have := (hh q hm).1
    omega
theorem lk_nx {c c1 : rs_T} {V : vw_T} {T : Nat → ts_T} {s t : Nat} (h : lk_step c c1 V t (T t)) (ht : t < 512) (hst : s ≤ t) (hl : ∀ i, s ≤ i → i ≤ t → lw_L V i (T i).1 (T i).2.2.1) (hso : ls_L (T t).1) (hh : hs_L V T s t) (hs2 : ∀ i, s ≤ i → i < t → ∀ q ∈ (T i).1, s ≤ q.1) (ho : lk_op c V T s t) (hne : v_o V t = 5 → ∀ q L, (T t).1 = q :: L → q.2.1 = false) (ha : ∀ i, s ≤ i → i < t → lk_at c V T s i) : ∀ i, s ≤ i → i < t + 1 → lk_at c1 V T s i := by
  obtain ⟨k1, k2, k3, k4, k5⟩ := h
  -- the beginning of a label is BLOCK, LOOP or IF
  have hbeg : ∀ i, s ≤ i → i ≤ t → ∀ q ∈ (T i).1, q.1 < i ∧ (v_o V q.1 = 2 ∨ v_o V q.1 = 3 ∨ v_o V q.1 = 4) := fun i h1 h2 q hq => ⟨(lw_get (hl i h1 h2) q hq).1, (lw_get (hl i h1 h2) q hq).2.2.1⟩
  -- a place that is neither t, nor the inner label's beginning, nor its ELSE
  have l10 : ∀ x : Nat, x < t → (v_o V t = 11 → ∀ q L, (T t).1 = q :: L → ¬ x = q.1 ∧ (v_o V x = 5 → ∀ r M, (T x).1 = r :: M → s ≤ x → ¬ r.1 = q.1)) → rA c1 10 x = rA c 10 x := fun x hx hq => by
    refine k1 x (by omega) (fun q L e o => ?_)
    obtain ⟨z1, z2⟩ := hq o q L e
    have hm : q ∈ (T t).1 := by rw [e]; exact List.mem_cons_self
    refine ⟨z1, fun z => ?_⟩
    cases he : q.2.1
    · rw [(ho q hm).2 he] at z
      exact (m1_nI (by omega)).mp z
    · obtain ⟨x0, x1, x2, x3, ⟨r, M, x4, x6⟩, x5⟩ := (ho q hm).1 he
      rw [x5] at z
      have e0 := (nI_eq (by omega) (by omega)).mp z
      subst e0
      exact z2 x3 r M x4 x1 x6
  have nob : ∀ {o : Int32}, (o = 2 ∨ o = 3 ∨ o = 4) → ¬ o = 12 ∧ ¬ o = 13 ∧ ¬ o = 6 ∧ ¬ o = 11 ∧ ¬ o = 5 := fun h => by
    rcases h with rfl | rfl | rfl <;> decide
  intro i hi1 hi2
  rcases Nat.lt_or_ge i t with hit | hit
  · obtain ⟨a1, a2, a3⟩ := ha i hi1 hit
    -- link of i itself
    have own : ¬ v_o V i = 5 → ¬ (v_o V i = 2 ∨ v_o V i = 3 ∨ v_o V i = 4) → rA c1 10 i = rA c 10 i := fun n5 nb => l10 i hit (fun _ q L e => by
      have hm : q ∈ (T t).1 := by rw [e]; exact List.mem_cons_self
      exact ⟨fun z => nb (by rw [z]; exact (hbeg t hst (Nat.le_refl _) q hm).2), fun z => absurd z n5⟩)
    refine ⟨fun o k hk => ?_, fun o => ?_, fun o => ?_⟩
    · have := a1 o k hk
      unfold lk_br at this ⊢
      rw [own (fun z => by rw [z] at o; rcases o with o | o | o <;> exact absurd o (by decide)) (fun z => by
        obtain ⟨n1, n2, n3, -, -⟩ := nob z
        rcases o with o | o | o
        · exact n1 o
        · exact n2 o
        · exact n3 o)]
      exact this
    · have := a2 o
      have ow := own (by rw [o]; decide) (fun z => (nob z).2.2.2.1 o)
      unfold lk_e2 at this ⊢
      cases hT : (T i).1 with
      | nil => rw [hT] at this; simp only [] at this ⊢; rw [ow]; exact this
      | cons q L =>
        rw [hT] at this
        simp only [] at this ⊢
        obtain ⟨b1, b2, b3, b4, b5⟩ := this
        have hq : q ∈ (T i).1 := by rw [hT]; exact List.mem_cons_self
        obtain ⟨c1', c2'⟩ := hbeg i hi1 (by omega) q hq
        -- q is closed, what is open at t is another
        have other : ∀ r M, (T t).1 = r :: M → ¬ q.1 = r.1 := fun r M e => (hh r (by rw [e]; exact List.mem_cons_self)).2.1 i hi1 hit o q L hT
        have e11 : rA c1 11 q.1 = rA c 11 q.1 := k2 q.1 (by omega) (fun r M e _ => other r M e)
        refine ⟨by rw [ow]; exact b1, ?_, b3, fun z => by rw [e11]; exact b4 z, fun z => ?_⟩
        · rw [l10 q.1 (by omega) (fun _ r M e => ⟨other r M e, fun z => absurd z (nob c2').2.2.2.2⟩)]
          exact b2
        · obtain ⟨x, x1, x2, x3, ⟨r, M, x4, x6⟩, x5, x7⟩ := b5 z
          refine ⟨x, x1, x2, x3, ⟨r, M, x4, x6⟩, by rw [e11]; exact x5, ?_⟩
          rw [l10 x (by omega) (fun _ r2 M2 e => ⟨fun z2 => ?_, fun _ r3 M3 e3 _ z3 => ?_⟩)]
          · exact x7
          · have := (hbeg t hst (Nat.le_refl _) r2 (by rw [e]; exact List.mem_cons_self)).2
            rw [← z2, x3] at this
            exact absurd this (by decide)
          · rw [x4] at e3
            cases e3
            exact other r2 M2 e (x6.symm.trans z3)
    · have := a3 o
      unfold lk_else at this ⊢
      cases hT : (T i).1 with
      | nil => trivial
      | cons q L =>
        rw [hT] at this
        simp only [] at this ⊢
        have hq : q ∈ (T i).1 := by rw [hT]; exact List.mem_cons_self
        obtain ⟨c1', c2'⟩ := hbeg i hi1 (by omega) q hq
        refine ⟨?_, ?_⟩
        · rw [k2 q.1 (by omega) (fun r M e o5 z => ?_)]
          · exact this.1
          · -- r is open at t and has no ELSE yet
            have hr : r ∈ (T t).1 := by rw [e]; exact List.mem_cons_self
            have z1 := (hh r hr).2.2 i hi1 hit o q L hT z
            rw [hne o5 r M e] at z1
            exact Bool.false_ne_true z1
        · rw [k2 i (by omega) (fun r M e o5 z => ?_)]
          · exact this.2
          · have hr : r ∈ (T t).1 := by rw [e]; exact List.mem_cons_self
            have := (hbeg t hst (Nat.le_refl _) r hr).2
            rw [← z, o] at this
            exact absurd this (by decide)
  · have : i = t := by omega
    subst this
    refine ⟨k3, fun o => ?_, k5⟩
    have := k4 o
    unfold lk_end at this
    unfold lk_e2
    cases hT : (T i).1 with
    | nil => rw [hT] at this; exact this
    | cons q L =>
      rw [hT] at this
      simp only [] at this ⊢
      obtain ⟨b1, b2, b4, b5⟩ := this
      have hq : q ∈ (T i).1 := by rw [hT]; exact List.mem_cons_self
      refine ⟨b1, b2, (hh q hq).1, b4, fun z => ?_⟩
      obtain ⟨x, hx, y1, y2⟩ := b5 z
      obtain ⟨x0, x1, x2, x3, x4, x5⟩ := (ho q hq).1 z
      have e11 : rA c1 11 q.1 = rA c 11 q.1 := k2 q.1 (by have := (hbeg i hst (Nat.le_refl _) q hq).1; omega) (fun r M e o5 => by rw [o] at o5; exact absurd o5 (by decide))
      rw [e11, x5] at y1
      have e0 := (nI_eq (by omega) (by omega)).mp y1
      subst e0
      exact ⟨x0, x1, x2, x3, x4, by rw [e11]; exact x5, y2⟩
