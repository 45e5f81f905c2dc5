-- ===== which places are live =====
def tl (T : ts_T) : Prop := (∀ q ∈ T.1, q.2.2 = false) ∧ T.2.1 = false ∧ T.2.2.2.1 = 0
-- below a label lie the labels that were there where it began
def ds_L (T : Nat → ts_T) (s : Nat) : List lb_T → Bool → Prop
  | [], _ => True
  | q :: L, d => (T q.1).1 = L ∧ (T q.1).2.1 = d ∧ (T q.1).2.2.2.1 = 0 ∧ s ≤ q.1 ∧ ds_L T s L d
theorem ds_in {T : Nat → ts_T} {s : Nat} {L : List lb_T} {d x : Bool} (h : ds_L T s L d) : ds_L T s (l_in L x) (l_d0 L d x) := by
  cases L with
  | nil => trivial
  | cons q L => exact h
theorem ds_nx {V : vw_T} {f s t : Nat} {T : Nat → ts_T} (h : t_nx V f t (T t) = some (T (t + 1))) (hs : s ≤ t) (hd : ds_L T s (T t).1 (T t).2.1) : ds_L T s (T (t + 1)).1 (T (t + 1)).2.1 := by
  have htu : ∀ n k : Nat, t_tu V (T t) n k = some (T (t + 1)) → ds_L T s (T (t + 1)).1 (T (t + 1)).2.1 := fun n k h => by
    unfold t_tu at h
    cases hh : t_has V (T t) n
    · rw [hh] at h; cases h
    · rw [hh] at h
      have e := (Option.some.inj h).symm
      rw [e]; exact hd
  have hdie : T (t + 1) = t_die V (T t) → ds_L T s (T (t + 1)).1 (T (t + 1)).2.1 := fun e => by
    unfold t_die at e
    rw [t_in_eq] at e
    rw [e]; exact ds_in hd
  rcases nx_cases h with ⟨o, -, h⟩ | ⟨hel, h⟩
  · obtain ⟨k, hk, -, -, ⟨-, e⟩ | ⟨-, e⟩⟩ := entry_some h
    · exact hdie e
    · rw [e]; exact hd
  · rcases h with ⟨o, e⟩ | ⟨o, h⟩ | ⟨o, h⟩ | ⟨o, h⟩ | ⟨o, h⟩ | ⟨o, k, -, -, e⟩ | ⟨o, k, -, h⟩ | ⟨o, k, hk, -, e⟩ | ⟨o, -, e⟩ | ⟨o, g, hg, h⟩ | ⟨o, x, y, hx, hy, h⟩ | ⟨o, h⟩
    · exact hdie e
    · obtain ⟨x, y, -, -, -, -, -, -, e⟩ := begin_some h
      rw [e]; exact ⟨rfl, rfl, hel, hs, hd⟩
    · obtain ⟨x, y, -, -, -, -, -, -, e⟩ := begin_some h
      rw [e]; exact ⟨rfl, rfl, hel, hs, hd⟩
    · obtain ⟨q, L, hL, -, -, -, e⟩ := else_some h
      rw [hL] at hd
      rw [e]; exact hd
    · obtain ⟨q, L, hL, -, -, e⟩ := end_some h
      rw [hL] at hd
      rw [e]; exact hd.2.2.2.2
    · exact hdie e
    · exact htu _ _ h
    · rw [e]; exact hd
    · exact hdie e
    · exact htu _ _ h
    · exact htu _ _ h
    · obtain ⟨n, k, -, -, h⟩ := plain_some h
      exact htu _ _ h
theorem ds_all {V : vw_T} {T : Nat → ts_T} {f s e ms : Nat} (h : ty_F V T f s e ms) : ∀ i, s ≤ i → i ≤ e → ds_L T s (T i).1 (T i).2.1 := by
  intro i hi
  induction i with
  | zero =>
    intro _
    have : s = 0 := by omega
    subst this
    rw [h.1]; trivial
  | succ i ih =>
    intro he
    by_cases z : s = i + 1
    · subst z; rw [h.1]; trivial
    · exact ds_nx (h.2.1 i (by omega) (by omega)) (by omega) (ih (by omega) (by omega))
theorem ds_tl {T : Nat → ts_T} {s : Nat} : ∀ {L : List lb_T} {d : Bool}, ds_L T s L d → (∀ q ∈ L, q.2.2 = false) → d = false → ∀ q ∈ L, tl (T q.1) := by
  intro L
  induction L with
  | nil => intro d _ _ _ q hq; cases hq
  | cons r L ih =>
    intro d h hf hd q hq
    obtain ⟨h1, h2, h3, -, h5⟩ := h
    rcases List.mem_cons.mp hq with e | e
    · rw [e]; exact ⟨by rw [h1]; exact fun x hx => hf x (List.mem_cons_of_mem _ hx), by rw [h2]; exact hd, h3⟩
    · exact ih h5 (fun x hx => hf x (List.mem_cons_of_mem _ hx)) hd q e
theorem ds_dr {T : Nat → ts_T} {s : Nat} : ∀ {L : List lb_T} {d : Bool} {k : Nat} {q : lb_T}, ds_L T s L d → L[k]? = some q → (T q.1).1 = L.drop (k + 1) ∧ (T q.1).2.1 = d ∧ (T q.1).2.2.2.1 = 0 ∧ s ≤ q.1 := by
  intro L
  induction L with
  | nil => intro d k q _ h; simp at h
  | cons r L ih =>
    intro d k q h hk
    obtain ⟨h1, h2, h3, h4, h5⟩ := h
    cases k with
    | zero =>
      have e : r = q := by simpa using hk
      subst e
      exact ⟨by rw [h1]; rfl, h2, h3, h4⟩
    | succ k =>
      have hk2 : L[k]? = some q := by simpa using hk
      have := ih h5 hk2
      exact ⟨by rw [this.1]; rfl, this.2⟩
theorem tl_0 : tl t_0 := ⟨fun q hq => (by cases hq), rfl, rfl⟩
theorem tl_dd {T : ts_T} (h : tl T) : t_dd T = false := by
  obtain ⟨h1, h2, -⟩ := h
  unfold t_dd
  cases hL : T.1 with
  | nil => exact h2
  | cons q L => exact h1 q (by rw [hL]; exact List.mem_cons_self)
theorem tl_has {V : vw_T} {T : ts_T} {n : Nat} (h : tl T) (hh : t_has V T n = true) : t_ht V T.1 + n ≤ T.2.2.1 := by
  unfold t_has at hh
  rw [tl_dd h] at hh
  simpa using hh
theorem tl_tk {V : vw_T} {T : ts_T} {n : Nat} (h : tl T) (hh : t_has V T n = true) : t_tk V T n = T.2.2.1 - n := by
  have := tl_has h hh
  unfold t_tk
  exact Nat.max_eq_right (by omega)
theorem tl_tu {V : vw_T} {T T2 : ts_T} {n k : Nat} (h : tl T) (hh : t_tu V T n k = some T2) : n ≤ T.2.2.1 ∧ T2 = (T.1, T.2.1, T.2.2.1 - n + k, 0, none) ∧ tl T2 := by
  unfold t_tu at hh
  cases hb : t_has V T n
  · rw [hb] at hh; cases hh
  · rw [hb] at hh
    have e := (Option.some.inj hh).symm
    have := tl_has h hb
    rw [tl_tk h hb] at e
    exact ⟨by omega, e, by rw [e]; exact ⟨h.1, h.2.1, rfl⟩⟩
theorem tl_die {V : vw_T} {T : ts_T} : ¬ tl (t_die V T) := by
  intro h
  unfold t_die at h
  rw [t_in_eq] at h
  obtain ⟨h1, h2, -⟩ := h
  cases hL : T.1 with
  | nil =>
    rw [hL] at h2
    have h2 : true = false := h2
    cases h2
  | cons q L =>
    rw [hL] at h1
    have : true = false := h1 (q.1, q.2.1, true) List.mem_cons_self
    cases this
theorem tl_dead {V : vw_T} {f t : Nat} {T T2 : ts_T} (hn : ¬ tl T) (h : t_nx V f t T = some T2) (h5 : ¬ v_o V t = 5) (h11 : ¬ v_o V t = 11) : ¬ tl T2 := by
  have htu : ∀ n k : Nat, T.2.2.2.1 = 0 → t_tu V T n k = some T2 → ¬ tl T2 := fun n k hel h z => by
    unfold t_tu at h
    cases hh : t_has V T n
    · rw [hh] at h; cases h
    · rw [hh] at h
      have e := (Option.some.inj h).symm
      rw [e] at z
      exact hn ⟨z.1, z.2.1, hel⟩
  rcases nx_cases h with ⟨o, hne, h⟩ | ⟨hel, h⟩
  · obtain ⟨k, hk, -, -, ⟨-, e⟩ | ⟨h1, e⟩⟩ := entry_some h
    · rw [e]; exact tl_die
    · rw [e]
      intro z
      have z3 : T.2.2.2.1 - 1 = 0 := z.2.2
      omega
  · rcases h with ⟨o, e⟩ | ⟨o, h⟩ | ⟨o, h⟩ | ⟨o, h⟩ | ⟨o, h⟩ | ⟨o, k, -, -, e⟩ | ⟨o, k, -, h⟩ | ⟨o, k, hk, -, e⟩ | ⟨o, -, e⟩ | ⟨o, g, hg, h⟩ | ⟨o, x, y, hx, hy, h⟩ | ⟨o, h⟩
    · rw [e]; exact tl_die
    · obtain ⟨x, y, -, -, -, -, -, -, e⟩ := begin_some h
      rw [e]
      exact fun z => hn ⟨fun q hq => z.1 q (List.mem_cons_of_mem _ hq), z.2.1, hel⟩
    · obtain ⟨x, y, -, -, -, -, -, -, e⟩ := begin_some h
      rw [e]
      exact fun z => hn ⟨fun q hq => z.1 q (List.mem_cons_of_mem _ hq), z.2.1, hel⟩
    · exact absurd o h5
    · exact absurd o h11
    · rw [e]; exact tl_die
    · exact htu _ _ hel h
    · rw [e]
      intro z
      have z3 : k + 1 = 0 := z.2.2
      omega
    · rw [e]; exact tl_die
    · exact htu _ _ hel h
    · exact htu _ _ hel h
    · obtain ⟨n, k, -, -, h⟩ := plain_some h
      exact htu _ _ hel h
-- behind the END of a label, behind its ELSE: live if its beginning was
theorem tl_end {V : vw_T} {f s t b : Nat} {T : Nat → ts_T} (h : t_nx V f t (T t) = some (T (t + 1))) (hd : ds_L T s (T t).1 (T t).2.1) (ho : v_o V t = 11) {q : lb_T} {L : List lb_T} (hq : (T t).1 = q :: L) (hb : q.1 = b) : T (t + 1) = ((T b).1, (T b).2.1, v_w V b + (v_b V b).toNatClampNeg, 0, none) ∧ (tl (T (t + 1)) ↔ tl (T b)) := by
  rcases nx_cases h with ⟨o, -, -⟩ | ⟨-, h⟩
  · rw [ho] at o; exact absurd o (by decide)
  · have h2 : t_end V f (T t) = some (T (t + 1)) := by
      rcases h with ⟨o, e⟩ | ⟨o, h⟩ | ⟨o, h⟩ | ⟨o, h⟩ | ⟨o, h⟩ | ⟨o, k, -, -, e⟩ | ⟨o, k, -, h⟩ | ⟨o, k, hk, -, e⟩ | ⟨o, -, e⟩ | ⟨o, g, hg, h⟩ | ⟨o, x, y, hx, hy, h⟩ | ⟨o, h⟩
      · rw [ho] at o; exact absurd o (by decide)
      · rw [ho] at o; exact absurd o (by decide)
      · rw [ho] at o; exact absurd o (by decide)
      · rw [ho] at o; exact absurd o (by decide)
      · exact h
      · rw [ho] at o; exact absurd o (by decide)
      · rw [ho] at o; exact absurd o (by decide)
      · rw [ho] at o; exact absurd o (by decide)
      · rw [ho] at o; exact absurd o (by decide)
      · rw [ho] at o; exact absurd o (by decide)
      · rw [ho] at o; exact absurd o (by decide)
      · rw [ho] at o; exact absurd o (by decide)
    obtain ⟨r, L2, hL, -, -, e⟩ := end_some h2
    rw [hq] at hL hd
    obtain ⟨rfl, rfl⟩ := List.cons.inj hL
    subst hb
    obtain ⟨d1, d2, d3, -, -⟩ := hd
    rw [← d1, ← d2] at e
    refine ⟨e, ?_⟩
    rw [e]
    exact ⟨fun z => ⟨z.1, z.2.1, d3⟩, fun z => ⟨z.1, z.2.1, rfl⟩⟩
theorem tl_else {V : vw_T} {f s t b : Nat} {T : Nat → ts_T} (h : t_nx V f t (T t) = some (T (t + 1))) (hd : ds_L T s (T t).1 (T t).2.1) (ho : v_o V t = 5) {q : lb_T} {L : List lb_T} (hq : (T t).1 = q :: L) (hb : q.1 = b) : T (t + 1) = ((b, true, false) :: (T b).1, (T b).2.1, v_w V b + (v_a V b).toNatClampNeg, 0, none) ∧ (tl (T (t + 1)) ↔ tl (T b)) := by
  rcases nx_cases h with ⟨o, -, -⟩ | ⟨-, h⟩
  · rw [ho] at o; exact absurd o (by decide)
  · have h2 : t_else V f (T t) = some (T (t + 1)) := by
      rcases h with ⟨o, e⟩ | ⟨o, h⟩ | ⟨o, h⟩ | ⟨o, h⟩ | ⟨o, h⟩ | ⟨o, k, -, -, e⟩ | ⟨o, k, -, h⟩ | ⟨o, k, hk, -, e⟩ | ⟨o, -, e⟩ | ⟨o, g, hg, h⟩ | ⟨o, x, y, hx, hy, h⟩ | ⟨o, h⟩
      · rw [ho] at o; exact absurd o (by decide)
      · rw [ho] at o; exact absurd o (by decide)
      · rw [ho] at o; exact absurd o (by decide)
      · exact h
      · rw [ho] at o; exact absurd o (by decide)
      · rw [ho] at o; exact absurd o (by decide)
      · rw [ho] at o; exact absurd o (by decide)
      · rw [ho] at o; exact absurd o (by decide)
      · rw [ho] at o; exact absurd o (by decide)
      · rw [ho] at o; exact absurd o (by decide)
      · rw [ho] at o; exact absurd o (by decide)
      · rw [ho] at o; exact absurd (show (5 : Int32) ∈ ([0, 2, 3, 4, 5, 6, 11, 12, 13, 14, 15, 16, 17] : List Int32) by decide) o
    obtain ⟨r, L2, hL, -, -, -, e⟩ := else_some h2
    rw [hq] at hL hd
    obtain ⟨rfl, rfl⟩ := List.cons.inj hL
    subst hb
    obtain ⟨d1, d2, d3, -, -⟩ := hd
    rw [← d1, ← d2] at e
    refine ⟨e, ?_⟩
    rw [e]
    refine ⟨fun z => ⟨fun q hq => z.1 q (List.mem_cons_of_mem _ hq), z.2.1, d3⟩, fun z => ⟨fun q hq => ?_, z.2.1, rfl⟩⟩
    rcases List.mem_cons.mp hq with e | e
    · rw [e]
    · exact z.1 q e
