-- the height laid at t matters to a beginning alone
theorem nx_w {V : vw_T} {f t w1 w2 : Nat} {o a b : Int32} {T : ts_T} (hl : lw_L V t T.1 T.2.2.1) (ho : ¬ o ∈ ([2, 3, 4] : List Int32)) : t_nx (v_set V t o a b w2) f t T = t_nx (v_set V t o a b w1) f t T := by
  have hv0 : v_eq (v_set V t o a b w1) (v_set V t o a b w2) t := by
    refine ⟨fun i hi => ?_, Eq.trans rfl rfl, Eq.trans rfl rfl, Eq.trans rfl rfl⟩
    obtain ⟨x1, x2, x3, x4⟩ := (v_set_eq V t o a b w1).1 i hi
    obtain ⟨y1, y2, y3, y4⟩ := (v_set_eq V t o a b w2).1 i hi
    exact ⟨y1.trans x1.symm, y2.trans x2.symm, y3.trans x3.symm, y4.trans x4.symm⟩
  have hl1 := lw_view (v_set_eq V t o a b w1) hl
  simp only [List.mem_cons, List.not_mem_nil, or_false, not_or] at ho
  have hel : t_else (v_set V t o a b w2) f T = t_else (v_set V t o a b w1) f T := by
    unfold t_else
    cases hL : T.1 with
    | nil => rfl
    | cons q L =>
      have hq : q.1 < t := by rw [hL] at hl; exact hl.1
      obtain ⟨z1, z2, z3, z4⟩ := hv0.1 q.1 hq
      simp only []
      rw [done_view hv0 hl1, z1, z2, z4]
  have hen : t_end (v_set V t o a b w2) f T = t_end (v_set V t o a b w1) f T := by
    unfold t_end
    cases hL : T.1 with
    | nil => rfl
    | cons q L =>
      have hq : q.1 < t := by rw [hL] at hl; exact hl.1
      obtain ⟨z1, z2, z3, z4⟩ := hv0.1 q.1 hq
      simp only []
      rw [done_view hv0 hl1, z1, z2, z3, z4]
  have hent : t_entry (v_set V t o a b w2) f t T = t_entry (v_set V t o a b w1) f t T := by
    unfold t_entry
    rw [vs_a, vs_a]
    cases t_n a T.1.length with
    | none => rfl
    | some k => simp only []; rw [want_view hv0 hl1, has_view hv0 hl1, in_eq hv0 hl1]
  have hpl : t_plain (v_set V t o a b w2) f t T = t_plain (v_set V t o a b w1) f t T := by
    unfold t_plain
    rw [vs_o, vs_o, vs_a, vs_a]
    cases t_ar o with
    | none => rfl
    | some q =>
      simp only []
      have : t_lim (v_set V t o a b w2) f o a = t_lim (v_set V t o a b w1) f o a := Eq.trans rfl rfl
      rw [this, tu_view hv0 hl1]
  unfold t_nx
  rw [vs_o, vs_o, vs_a, vs_a, vs_b, vs_b, hel, hen, hent, hpl, in_eq hv0 hl1, hv0.2.1, hv0.2.2.1]
  simp only [want_view hv0 hl1, has_view hv0 hl1, tk_view hv0 hl1, tu_view hv0 hl1, ho, or_self, if_false]
theorem fin_w {V : vw_T} {f t w1 w2 : Nat} {o a b : Int32} {T : ts_T} (hl : lw_L V t T.1 T.2.2.1) (h : t_fin (v_set V t o a b w1) f t T) : t_fin (v_set V t o a b w2) f t T := by
  refine ⟨by rw [vs_o]; have := h.1; rw [vs_o] at this; exact this, h.2.1, h.2.2.1, ?_⟩
  have := h.2.2.2
  rw [done_view (v_set_eq ..) hl] at this ⊢
  exact this
-- ===== the program, in both =====
-- ghosts: S starts, E ends, M most operands
def pb_A (c m : rs_T) : Prop := (∀ i, rA c 7 i = rA m 6 i ∧ rA c 8 i = rA m 7 i ∧ rA c 9 i = rA m 8 i) ∧ ∀ f, rA c 0 f = rA m 2 f ∧ rA c 1 f = rA m 3 f ∧ rA c 2 f = rA m 4 f
def pb_1 (c m : rs_T) (f s e ms t : Nat) : Prop := rA c 4 f = nI s ∧ rA m 0 f = nI s ∧ rA m 1 f = nI (e - s) ∧ rA c 3 f = nI ms ∧ rA m 5 f = nI ms ∧ ms ≤ 5000 ∧ s ≤ e ∧ e ≤ t
def pb_H (c : rs_T) (V : vw_T) (s e : Nat) : Prop := ∀ i, s ≤ i → i < e → v_o V i ∈ ([2, 3, 4] : List Int32) → rA c 12 i = nI (v_w V i)
-- a whole function
def pb_W (c m : rs_T) (T : Nat → ts_T) (f s e ms : Nat) : Prop := s < e ∧ rA c 5 f = nI (e - 1) ∧ ty_F (vm m) T f s (e - 1) ms ∧ t_fin (vm m) f (e - 1) (T (e - 1)) ∧ (∀ i, s ≤ i → i < e → lk_at c (vm m) T s i) ∧ pb_H c (vm m) s e
-- the function that is written
def pb_U (c m : rs_T) (T : Nat → ts_T) (f s t ms : Nat) : Prop := ty_F (vm m) T f s t ms ∧ (∀ i, s ≤ i → i < t → lk_at c (vm m) T s i) ∧ lk_op c (vm m) T s t ∧ pb_H c (vm m) s t ∧ mw_T m f t (T t) ∧ cw_T c (vm m) f t (T t)
def pb (c m : rs_T) (T : Nat → ts_T) (S E M : Nat → Nat) (F t : Nat) (w : Bool) : Prop := F ≤ 40 ∧ t ≤ 512 ∧ rI c 2 = nI F ∧ rI m 0 = nI F ∧ rI c 4 = nI t ∧ rI m 1 = nI t ∧ rI m 2 = b2 w ∧ pb_A c m ∧ mf_ok m F ∧ (∀ f, f < F → pb_1 c m f (S f) (E f) (M f) t) ∧ (∀ f, f + 1 < F → E f ≤ S (f + 1)) ∧
  (∀ f, f < F → (w = true → f + 1 < F) → pb_W c m T f (S f) (E f) (M f)) ∧
  (w = true → ∃ f, F = f + 1 ∧ E f = t ∧ pb_U c m T f (S f) t (M f)) ∧
  (w = false → rI c 3 = -1 ∧ rI c 5 = 0 ∧ rI c 6 = 0 ∧ rI c 7 = 0) ∧ ln_ok c.2.2.2 ∧ t ≤ rN c 0 ∧ ∀ i, rN c 0 ≤ i → rA c 7 i = 0
theorem pb_cf {c m : rs_T} {F : Nat} (hA : pb_A c m) (hF : mf_ok m F) : cf_ok c (vm m) F := by
  refine ⟨hF.1, fun f hf => ?_⟩
  obtain ⟨p1, p2, p3, p4, p5, p6⟩ := hF.2 f hf
  obtain ⟨q1, q2, q3⟩ := hA.2 f
  exact ⟨q1.trans p1, q2.trans p2, q3.trans p3, p4, p5, p6⟩
theorem pb_mono {c m : rs_T} {T : Nat → ts_T} {S E M : Nat → Nat} {F t : Nat} {w : Bool} (h : pb c m T S E M F t w) : ∀ (f g : Nat), f < g → g < F → E f ≤ S g := by
  obtain ⟨-, -, -, -, -, -, -, -, -, h1, h2, -⟩ := h
  intro f g
  induction g with
  | zero => intro h; omega
  | succ g ih =>
    intro hf hg
    rcases Nat.lt_or_ge f g with z | z
    · have a1 := ih z (by omega)
      have a2 := (h1 g (by omega)).2.2.2.2.2.2.1
      have a3 := h2 g hg
      omega
    · have : f = g := by omega
      subst this; exact h2 f hg
-- what else the other parts rest on
def fr_C (c c2 : rs_T) : Prop := (∀ q, (q < 2 ∨ 8 < q) → rI c2 q = rI c q) ∧ (∀ j x, (j = 6 ∨ 14 < j) → rA c2 j x = rA c j x) ∧ (∀ j x, rL c2 j x = rL c j x) ∧ rN c2 2 = rN c 2
def fr_M (m m2 : rs_T) : Prop := (∀ q, 6 < q → rI m2 q = rI m q) ∧ (∀ j x, 15 < j → rA m2 j x = rA m j x) ∧ ∀ j x, rL m2 j x = rL m j x
-- a whole function stays whole when nothing below its end changes
theorem pb_W_keep {c m c2 m2 : rs_T} {T T2 : Nat → ts_T} {f s e ms : Nat} (h : pb_W c m T f s e ms) (hv : v_eq (vm m) (vm m2) e) (hT : ∀ i, i < e → T2 i = T i) (h5 : rA c2 5 f = rA c 5 f) (h10 : ∀ x, x < e → rA c2 10 x = rA c 10 x ∧ rA c2 11 x = rA c 11 x ∧ rA c2 12 x = rA c 12 x) (he : e ≤ 512) : pb_W c2 m2 T2 f s e ms := by
  obtain ⟨h0, h1, h2, h3, h4, h6⟩ := h
  have hb : ∀ i, s ≤ i → i < e → ∀ q ∈ (T i).1, s ≤ q.1 ∧ q.1 < i := fun i a1 a2 q hq => ⟨(h2.2.2 i a1 (by omega)).2.2.1 q hq |>.1, (lw_get (h2.2.2 i a1 (by omega)).1 q hq).1⟩
  refine ⟨h0, h5.trans h1, ty_view (v_eq_mono hv (by omega)) (fun i a1 a2 => hT i (by omega)) h2 (by omega), ?_, fun i a1 a2 => ?_, fun i a1 a2 o => ?_⟩
  · obtain ⟨z1, z2, z3, z4⟩ := h3
    rw [hT (e - 1) (by omega)]
    refine ⟨(hv.1 (e - 1) (by omega)).1.trans z1, z2, z3, ?_⟩
    rw [done_view (v_eq_mono hv (by omega)) (h2.2.2 (e - 1) (by omega) (Nat.le_refl _)).1]
    exact z4
  · obtain ⟨k1, k2, k3⟩ := h4 i a1 a2
    obtain ⟨e1, e2, e3, e4⟩ := hv.1 i a2
    obtain ⟨l1, l2, l3⟩ := h10 i a2
    refine ⟨fun o k hk => ?_, fun o => ?_, fun o => ?_⟩
    · rw [e2, hT i a2] at hk
      rw [e1] at o
      have := k1 o k hk
      unfold lk_br at this ⊢
      rw [hT i a2, l1]; exact this
    · rw [e1] at o
      have := k2 o
      unfold lk_e2 at this ⊢
      rw [hT i a2]
      cases hL : (T i).1 with
      | nil => rw [hL] at this; simp only [] at this ⊢; rw [l1]; exact this
      | cons q L =>
        rw [hL] at this
        simp only [] at this ⊢
        obtain ⟨b1, b2, b3, b4, b5⟩ := this
        have hq := hb i a1 a2 q (by rw [hL]; exact List.mem_cons_self)
        obtain ⟨n1, n2, n3⟩ := h10 q.1 (by omega)
        refine ⟨by rw [l1]; exact b1, by rw [n1]; exact b2, b3, fun z => by rw [n2]; exact b4 z, fun z => ?_⟩
        obtain ⟨x, x1, x2, x3, x4, x5, x6⟩ := b5 z
        refine ⟨x, x1, x2, (hv.1 x (by omega)).1.trans x3, by rw [hT x (by omega)]; exact x4, by rw [n2]; exact x5, by rw [(h10 x (by omega)).1]; exact x6⟩
    · rw [e1] at o
      have := k3 o
      unfold lk_else at this ⊢
      rw [hT i a2]
      cases hL : (T i).1 with
      | nil => trivial
      | cons q L =>
        rw [hL] at this
        simp only [] at this ⊢
        have hq := hb i a1 a2 q (by rw [hL]; exact List.mem_cons_self)
        exact ⟨by rw [(h10 q.1 (by omega)).2.1]; exact this.1, by rw [l2]; exact this.2⟩
  · obtain ⟨e1, e2, e3, e4⟩ := hv.1 i a2
    rw [(h10 i a2).2.2, e4]
    exact h6 i a1 a2 (by rw [← e1]; exact o)
