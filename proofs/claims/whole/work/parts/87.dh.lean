theorem lk_op_nx {c c1 : rs_T} {V : vw_T} {T : Nat → ts_T} {f s t : Nat} (hx : t_nx V f t (T t) = some (T (t + 1))) (h : lk_step c c1 V t (T t)) (hst : s ≤ t) (hl : lw_L V t (T t).1 (T t).2.2.1) (hso : ls_L (T t).1) (ho : lk_op c V T s t) (hf : ∀ q ∈ (T (t + 1)).1, q.2.1 = false → rA c1 11 q.1 = -1) : lk_op c1 V T s (t + 1) := by
  obtain ⟨k1, k2, k3, k4, k5⟩ := h
  intro q hq
  refine ⟨fun he => ?_, hf q hq⟩
  have keep : ∀ r ∈ (T t).1, r.2.1 = true → r.1 = q.1 → (v_o V t = 5 → ∀ q2 L, (T t).1 = q2 :: L → ¬ r.1 = q2.1) → ∃ x : Nat, s ≤ x ∧ x < t + 1 ∧ v_o V x = 5 ∧ (∃ r L, (T x).1 = r :: L ∧ r.1 = q.1) ∧ rA c1 11 q.1 = nI x := fun r hr e1 e2 e3 => by
    obtain ⟨x, x1, x2, x3, x4, x5⟩ := (ho r hr).1 e1
    have hrt := (lw_get hl r hr).1
    refine ⟨x, x1, by omega, x3, by rw [← e2]; exact x4, ?_⟩
    rw [← e2, k2 r.1 (by omega) (fun q2 L e o5 => e3 o5 q2 L e)]
    exact x5
  rcases nx_lab hx with ⟨o, e⟩ | ⟨o, r, L, e1, e4, e5, e⟩ | ⟨o, r, L, e1, e⟩ | ⟨o, e⟩
  · rw [e] at hq
    rcases List.mem_cons.mp hq with z | z
    · subst z; exact absurd he Bool.false_ne_true
    · refine keep q z he rfl (fun o5 => ?_)
      rw [o5] at o; exact absurd o (by decide)
  · rw [e] at hq
    rcases List.mem_cons.mp hq with z | z
    · subst z
      refine ⟨t, hst, by omega, o, ⟨r, L, e1, rfl⟩, ?_⟩
      have := k5 o
      unfold lk_else at this
      rw [e1] at this
      exact this.1
    · refine keep q (by rw [e1]; exact List.mem_cons_of_mem _ z) he rfl (fun _ q2 L2 e2 => ?_)
      rw [e1] at e2 hso
      cases e2
      have := hso.1 q z
      omega
  · rw [e] at hq
    refine keep q (by rw [e1]; exact List.mem_cons_of_mem _ hq) he rfl (fun o5 => ?_)
    rw [o] at o5; exact absurd o5 (by decide)
  · simp only [List.mem_cons, List.not_mem_nil, or_false, not_or] at o
    rcases e with e | e
    · rw [e] at hq
      exact keep q hq he rfl (fun o5 => absurd o5 o.2.2.2.1)
    · rw [e] at hq
      obtain ⟨r, hr, z1, z2⟩ := in_mem hq
      exact keep r hr (by rw [z2]; exact he) z1 (fun o5 => absurd o5 o.2.2.2.1)
theorem wc_oth {V : vw_T} {c : rs_T} : ∀ {L : List lb_T} {d0 : Bool}, wc_L V c L d0 → ∀ q ∈ L, q.2.1 = false → rA c 11 q.1 = -1 := by
  intro L
  induction L with
  | nil => intro d0 _ q hq; cases hq
  | cons r L ih =>
    intro d0 h q hq he
    rcases List.mem_cons.mp hq with e | e
    · subst e; exact h.2.2.2.2.2.2.1 he
    · exact ih h.2.2.2.2.2.2.2.2 q e he
-- ===== a function's code, typed =====
-- s: its start, e: its end (so far), T: what the writer knew at each place
def ty_F (V : vw_T) (T : Nat → ts_T) (f s e ms : Nat) : Prop := T s = t_0 ∧ (∀ i, s ≤ i → i < e → t_nx V f i (T i) = some (T (i + 1))) ∧ ∀ i, s ≤ i → i ≤ e → lw_L V i (T i).1 (T i).2.2.1 ∧ ls_L (T i).1 ∧ hs_L V T s i ∧ (T i).2.2.1 ≤ ms ∧ tb_ok i (T i) ∧ ∀ x, (T i).2.2.2.2 = some x → t_has V (T i) x = true
theorem ty_0 {V : vw_T} {T : Nat → ts_T} {f s ms : Nat} (h : T s = t_0) (hs : s ≤ 512) : ty_F V T f s s ms := by
  refine ⟨h, fun i h1 h2 => by omega, fun i h1 h2 => ?_⟩
  have : i = s := by omega
  subst this
  rw [h]
  refine ⟨trivial, trivial, ?_, Nat.zero_le _, ⟨hs, Nat.zero_le _, Nat.zero_le _, by show 0 ≤ 21; omega⟩, fun x hx => ?_⟩
  · intro q hq
    rw [h] at hq
    cases hq
  · cases hx
-- over a view that agrees below e
theorem v_eq_mono {V V2 : vw_T} {t t2 : Nat} (h : v_eq V V2 t2) (ht : t ≤ t2) : v_eq V V2 t := ⟨fun i hi => h.1 i (by omega), h.2⟩
theorem in_eq {T : ts_T} {V V2 : vw_T} {t : Nat} (hv : v_eq V V2 t) (hl : lw_L V t T.1 T.2.2.1) : t_die V2 T = t_die V T := by
  unfold t_die
  rw [ht_view hv hl]
theorem tu_view {V V2 : vw_T} {t n k : Nat} {T : ts_T} (hv : v_eq V V2 t) (hl : lw_L V t T.1 T.2.2.1) : t_tu V2 T n k = t_tu V T n k := by
  unfold t_tu
  rw [has_view hv hl, tk_view hv hl]
theorem nx_view {V V2 : vw_T} {f i : Nat} {T : ts_T} (hv : v_eq V V2 (i + 1)) (hl : lw_L V i T.1 T.2.2.1) : t_nx V2 f i T = t_nx V f i T := by
  have hv0 := v_eq_mono hv (Nat.le_succ i)
  obtain ⟨e1, e2, e3, e4⟩ := hv.1 i (Nat.lt_succ_self i)
  have hb : ∀ more, t_begin V2 i T more = t_begin V i T more := fun more => by
    unfold t_begin
    rw [e2, e3]
    cases t_n (v_a V i) 4 with
    | none => rfl
    | some x =>
      cases t_n (v_b V i) 4 with
      | none => rfl
      | some y => simp only []; rw [has_view hv0 hl, tk_view hv0 hl, e4]
  have hel : t_else V2 f T = t_else V f T := by
    unfold t_else
    cases hL : T.1 with
    | nil => rfl
    | cons q L =>
      have hq : q.1 < i := by rw [hL] at hl; exact hl.1
      obtain ⟨w1, w2, w3, w4⟩ := hv0.1 q.1 hq
      simp only []
      rw [done_view hv0 hl, w1, w2, w4]
  have hen : t_end V2 f T = t_end V f T := by
    unfold t_end
    cases hL : T.1 with
    | nil => rfl
    | cons q L =>
      have hq : q.1 < i := by rw [hL] at hl; exact hl.1
      obtain ⟨w1, w2, w3, w4⟩ := hv0.1 q.1 hq
      simp only []
      rw [done_view hv0 hl, w1, w2, w3, w4]
  have hent : t_entry V2 f i T = t_entry V f i T := by
    unfold t_entry
    rw [e2]
    cases t_n (v_a V i) T.1.length with
    | none => rfl
    | some k => simp only []; rw [want_view hv0 hl, has_view hv0 hl, in_eq hv0 hl]
  have hpl : t_plain V2 f i T = t_plain V f i T := by
    unfold t_plain
    rw [e1, e2]
    cases t_ar (v_o V i) with
    | none => rfl
    | some q =>
      simp only []
      have : t_lim V2 f (v_o V i) (v_a V i) = t_lim V f (v_o V i) (v_a V i) := by
        unfold t_lim
        rw [hv.2.1, hv.2.2.2]
      rw [this, tu_view hv0 hl]
  unfold t_nx
  rw [e1, e2, e3, hb 0, hb 1, hel, hen, hent, hpl, in_eq hv0 hl, hv.2.1, hv.2.2.1]
  simp only [want_view hv0 hl, has_view hv0 hl, tk_view hv0 hl, tu_view hv0 hl]
theorem hs_view {V V2 : vw_T} {T : Nat → ts_T} {s t : Nat} (hv : v_eq V V2 t) (h : hs_L V T s t) : hs_L V2 T s t := by
  intro q hq
  obtain ⟨a1, a2, a3⟩ := h q hq
  refine ⟨a1, fun i h1 h2 o => a2 i h1 h2 (by rw [← (hv.1 i h2).1]; exact o), fun i h1 h2 o => a3 i h1 h2 (by rw [← (hv.1 i h2).1]; exact o)⟩
theorem ty_view {V V2 : vw_T} {T T2 : Nat → ts_T} {f s e ms : Nat} (hv : v_eq V V2 e) (hT : ∀ i, s ≤ i → i ≤ e → T2 i = T i) (h : ty_F V T f s e ms) (hse : s ≤ e) : ty_F V2 T2 f s e ms := by
  obtain ⟨h1, h2, h3⟩ := h
  refine ⟨by rw [hT s (Nat.le_refl _) hse]; exact h1, fun i a1 a2 => ?_, fun i a1 a2 => ?_⟩
  · rw [hT i a1 (by omega), hT (i + 1) (by omega) (by omega), nx_view (v_eq_mono hv (by omega)) (h3 i a1 (by omega)).1]
    exact h2 i a1 a2
  · obtain ⟨g1, g2, g3, g4, g5, g6⟩ := h3 i a1 a2
    have hvi := v_eq_mono hv a2
    rw [hT i a1 a2]
    refine ⟨lw_view hvi g1, g2, ?_, g4, g5, fun x hx => by rw [has_view hvi g1]; exact g6 x hx⟩
    intro q hq
    rw [hT i a1 a2] at hq
    obtain ⟨a3, a4, a5⟩ := hs_view hvi g3 q hq
    exact ⟨a3, fun j b1 b2 o r L hr => a4 j b1 b2 o r L (by rw [← hT j b1 (by omega)]; exact hr), fun j b1 b2 o r L hr => a5 j b1 b2 o r L (by rw [← hT j b1 (by omega)]; exact hr)⟩
-- one instruction more
theorem ty_nx {V : vw_T} {T : Nat → ts_T} {f s t ms ms2 : Nat} (h : ty_F V T f s t ms) (hst : s ≤ t) (hx : t_nx V f t (T t) = some (T (t + 1))) (hl : lw_L V (t + 1) (T (t + 1)).1 (T (t + 1)).2.2.1) (hm : ms ≤ ms2) (hm2 : (T (t + 1)).2.2.1 ≤ ms2) (ht : t < 512) (hf : f < 40) (hr : ∀ g, g ≤ f → v_r V g ≤ 8) : ty_F V T f s (t + 1) ms2 := by
  obtain ⟨h1, h2, h3⟩ := h
  refine ⟨h1, fun i a1 a2 => ?_, fun i a1 a2 => ?_⟩
  · rcases Nat.lt_or_ge i t with z | z
    · exact h2 i a1 z
    · have : i = t := by omega
      subst this; exact hx
  · rcases Nat.lt_or_ge i (t + 1) with z | z
    · obtain ⟨g1, g2, g3, g4, g5, g6⟩ := h3 i a1 (by omega)
      exact ⟨g1, g2, g3, Nat.le_trans g4 hm, g5, g6⟩
    · have : i = t + 1 := by omega
      subst this
      obtain ⟨g1, g2, g3, g4, g5, g6⟩ := h3 t hst (Nat.le_refl _)
      exact ⟨hl, ls_nx hx g1 g2, hs_nx hx hst (fun i b1 b2 => (h3 i b1 b2).1) g2 g3, hm2, nx_b hx g1 g5 ht hf hr, first_nx hx g6⟩
