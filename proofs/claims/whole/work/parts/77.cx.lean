-- what the class's checks may change
def c1_ok (c c1 : rs_T) (f t w ms : Nat) : Prop := (∀ q, ¬ q = 3 → ¬ q = 5 → ¬ q = 6 → ¬ q = 7 → ¬ q = 8 → rI c1 q = rI c q) ∧ (∀ j x, (j < 3 ∨ j = 4 ∨ 5 < j ∧ j < 10 ∨ 14 < j) → rA c1 j x = rA c j x) ∧ (∀ x, ¬ x = f → rA c1 3 x = rA c 3 x) ∧ rA c1 3 f = nI ms ∧ (∀ x, ¬ x = t → rA c1 12 x = rA c 12 x) ∧ (rA c1 12 t).toNatClampNeg = w ∧ ∀ j x, rL c1 j x = rL c j x
def c1_T (c1 : rs_T) (V : vw_T) (f t : Nat) (T : ts_T) : Prop := rI c1 3 = nI f ∧ rI c1 5 = nI (T.1.length + 1) ∧ rI c1 6 = nI T.2.2.1 ∧ rI c1 7 = nI T.2.2.2.1 ∧
  (¬ T.2.2.2.1 = 0 → match T.2.2.2.2 with
    | none => rI c1 8 = -1
    | some x => rI c1 8 = nI x ∧ x ≤ 8) ∧ wc_L V c1 T.1 T.2.1 ∧ lw_L V (t + 1) T.1 T.2.2.1
-- links: what the class keeps of a place beside the code
def lk_br (c : rs_T) (L : List lb_T) (k i : Nat) : Prop := rA c 10 i = (match L[k]? with | none => -1 | some q => nI q.1)
def lk_end (c : rs_T) (L : List lb_T) (i : Nat) : Prop := match L with
  | [] => rA c 10 i = -1
  | q :: _ => rA c 10 i = nI q.1 ∧ rA c 10 q.1 = nI i ∧ (q.2.1 = false → rA c 11 q.1 = -1) ∧ (q.2.1 = true → ∃ x : Nat, x < 1500 ∧ rA c 11 q.1 = nI x ∧ rA c 10 x = nI i)
def lk_else (c : rs_T) (L : List lb_T) (i : Nat) : Prop := match L with
  | [] => True
  | q :: _ => rA c 11 q.1 = nI i ∧ rA c 11 i = nI q.1
-- the places of links that one instruction may change: its own; at END also those of its beginning and of its ELSE; at ELSE 'other' of its beginning
def lk_step (c c1 : rs_T) (V : vw_T) (t : Nat) (T : ts_T) : Prop :=
  (∀ x, ¬ x = t → (∀ q L, T.1 = q :: L → v_o V t = 11 → ¬ x = q.1 ∧ ¬ rA c 11 q.1 = nI x) → rA c1 10 x = rA c 10 x) ∧
  (∀ x, ¬ x = t → (∀ q L, T.1 = q :: L → v_o V t = 5 → ¬ x = q.1) → rA c1 11 x = rA c 11 x) ∧
  ((v_o V t = 12 ∨ v_o V t = 13 ∨ v_o V t = 6) → ∀ k, t_n (v_a V t) T.1.length = some k → lk_br c1 T.1 k t) ∧
  (v_o V t = 11 → lk_end c1 T.1 t) ∧ (v_o V t = 5 → lk_else c1 T.1 t)
def c_ph (c : rs_T) (V : vw_T) (f t : Nat) (o a b : Int32) (T : ts_T) (ms : Nat) (r : Option (Int32 × rs_T)) : Prop :=
  (r = some (0, c) ∧ ∀ w, t_nx (v_set V t o a b w) f t T = none ∧ ¬ t_fin (v_set V t o a b w) f t T) ∨
  (∃ (c1 : rs_T) (T2 : ts_T) (w : Nat), r = some (1, c1) ∧ t_nx (v_set V t o a b w) f t T = some T2 ∧ c1_ok c c1 f t w (max ms T2.2.2.1) ∧ c1_T c1 (v_set V t o a b w) f t T2 ∧ lk_step c c1 (v_set V t o a b w) t T ∧ (∀ x, rA c1 5 x = rA c 5 x)) ∨
  (∃ (c1 : rs_T) (w : Nat), r = some (1, c1) ∧ t_fin (v_set V t o a b w) f t T ∧ c1_ok c c1 f t w ms ∧ rI c1 3 = -1 ∧ rI c1 5 = 0 ∧ rI c1 6 = 0 ∧ rI c1 7 = 0 ∧ rA c1 5 f = nI t ∧ (∀ x, ¬ x = f → rA c1 5 x = rA c 5 x) ∧ lk_step c c1 (v_set V t o a b w) t T)
theorem wc_view {V V2 : vw_T} {t : Nat} {c : rs_T} (hv : v_eq V V2 t) : ∀ {L : List lb_T} {d0 : Bool} {h : Nat}, lw_L V t L h → wc_L V c L d0 → wc_L V2 c L d0 := by
  intro L
  induction L with
  | nil => intro d0 h _ hm; exact hm
  | cons q L ih =>
    intro d0 h hl hm
    obtain ⟨e1, e2, e3, e4⟩ := hv.1 q.1 hl.1
    obtain ⟨m1, m2, m3, m4, m5, m6, m7, m8, m9⟩ := hm
    exact ⟨m1, m2, by rw [e4]; exact m3, by rw [e1]; exact m4, by rw [e2]; exact m5, by rw [e3]; exact m6, m7, m8, ih hl.2.2.2.2.2 m9⟩
-- what the labels rest on
theorem wc_keep {V : vw_T} {c c2 : rs_T} {t : Nat} : ∀ {L : List lb_T} {d0 : Bool} {h : Nat}, lw_L V t L h → (∀ j i, 13 ≤ j → j ≤ 14 → i ≤ L.length → rA c2 j i = rA c j i) → (∀ j x, 7 ≤ j → j ≤ 12 → ¬ j = 10 → x < t → rA c2 j x = rA c j x) → wc_L V c L d0 → wc_L V c2 L d0 := by
  intro L
  induction L with
  | nil =>
    intro d0 h _ hk _ hm
    exact ⟨(hk 13 0 (by decide) (by decide) (Nat.le_refl _)).trans hm.1, (hk 14 0 (by decide) (by decide) (Nat.le_refl _)).trans hm.2⟩
  | cons q L ih =>
    intro d0 h hl hk hx hm
    obtain ⟨m1, m2, m3, m4, m5, m6, m7, m8, m9⟩ := hm
    have hq := hl.1
    refine ⟨(hk 13 _ (by decide) (by decide) (Nat.le_refl _)).trans m1, (hk 14 _ (by decide) (by decide) (Nat.le_refl _)).trans m2, (hx 12 _ (by decide) (by decide) (by decide) hq).trans m3, (hx 7 _ (by decide) (by decide) (by decide) hq).trans m4, (hx 8 _ (by decide) (by decide) (by decide) hq).trans m5, (hx 9 _ (by decide) (by decide) (by decide) hq).trans m6, ?_, ?_, ?_⟩
    · rw [hx 11 _ (by decide) (by decide) (by decide) hq]; exact m7
    · rw [hx 11 _ (by decide) (by decide) (by decide) hq]; exact m8
    · exact ih hl.2.2.2.2.2 (fun j i h1 h2 h3 => hk j i h1 h2 (Nat.le_succ_of_le h3)) hx m9
theorem wc_die {V : vw_T} {c c2 : rs_T} {t : Nat} {L : List lb_T} {d0 d : Bool} {h : Nat} (hl : lw_L V t L h) (hm : wc_L V c L d0) (hk : ∀ i, i ≤ L.length → rA c2 13 i = rA c 13 i) (hk2 : ∀ i, i < L.length → rA c2 14 i = rA c 14 i) (hd : rA c2 14 L.length = b2 d) (hx : ∀ j x, 7 ≤ j → j ≤ 12 → ¬ j = 10 → x < t → rA c2 j x = rA c j x) : wc_L V c2 (l_in L d) (l_d0 L d0 d) := by
  cases L with
  | nil => exact ⟨(hk 0 (Nat.le_refl _)).trans hm.1, hd⟩
  | cons q L =>
    obtain ⟨m1, m2, m3, m4, m5, m6, m7, m8, m9⟩ := hm
    have hq := hl.1
    refine ⟨(hk _ (Nat.le_refl _)).trans m1, hd, (hx 12 _ (by decide) (by decide) (by decide) hq).trans m3, (hx 7 _ (by decide) (by decide) (by decide) hq).trans m4, (hx 8 _ (by decide) (by decide) (by decide) hq).trans m5, (hx 9 _ (by decide) (by decide) (by decide) hq).trans m6, ?_, ?_, ?_⟩
    · rw [hx 11 _ (by decide) (by decide) (by decide) hq]; exact m7
    · rw [hx 11 _ (by decide) (by decide) (by decide) hq]; exact m8
    · refine wc_keep hl.2.2.2.2.2 (fun j i h1 h2 h3 => ?_) hx m9
      rcases (show j = 13 ∨ j = 14 by omega) with rfl | rfl
      · exact hk i (Nat.le_succ_of_le h3)
      · exact hk2 i (Nat.lt_succ_of_le h3)
