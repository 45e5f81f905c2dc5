-- ===== the reference's code(): one step of the typing =====
def vm (m : rs_T) : vw_T := (rA m 6, rA m 7, rA m 8, fun i => (rA m 9 i).toNatClampNeg, fun f => (rA m 2 f).toNatClampNeg, fun f => (rA m 3 f).toNatClampNeg, fun f => (rA m 4 f).toNatClampNeg)
-- the functions' numbers are small
def mf_ok (m : rs_T) (F : Nat) : Prop := F ≤ 40 ∧ ∀ f, f < F → rA m 2 f = nI (v_p (vm m) f) ∧ rA m 3 f = nI (v_r (vm m) f) ∧ rA m 4 f = nI (v_c (vm m) f) ∧ v_p (vm m) f ≤ 8 ∧ v_r (vm m) f ≤ 8 ∧ v_c (vm m) f ≤ 8
-- the reference writes function f, t instructions are there, it knows T
def mw_T (m : rs_T) (f t : Nat) (T : ts_T) : Prop := rI m 0 = nI (f + 1) ∧ rI m 1 = nI t ∧ rI m 2 = 1 ∧ rI m 3 = nI (T.1.length + 1) ∧ rI m 4 = nI T.2.2.2.1 ∧
  (¬ T.2.2.2.1 = 0 → match T.2.2.2.2 with
    | none => rI m 6 = 1
    | some x => rI m 6 = 0 ∧ rI m 5 = nI x ∧ x ≤ 8) ∧ wm_L (vm m) f m T.1 T.2.1 T.2.2.1 ∧ lw_L (vm m) t T.1 T.2.2.1
-- bounds that go with it
def tb_ok (t : Nat) (T : ts_T) : Prop := t ≤ 512 ∧ T.1.length ≤ t ∧ T.2.2.1 ≤ 8 * t ∧ T.2.2.2.1 ≤ 21
theorem mw_top {m : rs_T} {f t : Nat} {T : ts_T} (h : mw_T m f t T) (hb : tb_ok t T) : mt_T m T.1.length (t_ht (vm m) T.1) (T.2.2.1 - t_ht (vm m) T.1) (t_dd T) := by
  obtain ⟨h1, h2, h3, h4, h5, h6, h7, h8⟩ := h
  obtain ⟨b1, b2, b3, b4⟩ := hb
  obtain ⟨e1, e2, e3⟩ := wm_top h7 h8
  have := lw_ht h8
  exact ⟨h4, e1, e2, e3, by omega, by omega⟩
theorem t_has_eq {V : vw_T} {T : ts_T} {n t : Nat} (hl : lw_L V t T.1 T.2.2.1) : t_has V T n = (t_dd T || decide (n ≤ T.2.2.1 - t_ht V T.1)) := by
  unfold t_has
  have := lw_ht hl
  congr 1
  exact decide_eq_decide.mpr (by omega)
theorem t_tk_eq {V : vw_T} {T : ts_T} {n t : Nat} (hl : lw_L V t T.1 T.2.2.1) : t_tk V T n = t_ht V T.1 + (T.2.2.1 - t_ht V T.1 - n) := by
  unfold t_tk
  have := lw_ht hl
  omega
-- the view with one instruction more
def v_set (V : vw_T) (t : Nat) (o a b : Int32) (w : Nat) : vw_T := (upd V.1 t o, upd V.2.1 t a, upd V.2.2.1 t b, (fun i => if i = t then w else V.2.2.2.1 i), V.2.2.2.2)
theorem v_set_eq (V : vw_T) (t : Nat) (o a b : Int32) (w : Nat) : v_eq V (v_set V t o a b w) t := by
  refine ⟨fun i hi => ⟨?_, ?_, ?_, ?_⟩, Eq.trans rfl rfl, Eq.trans rfl rfl, Eq.trans rfl rfl⟩
  · exact pk_un (by omega)
  · exact pk_un (by omega)
  · exact pk_un (by omega)
  · show (if i = t then w else _) = _
    rw [if_neg (by omega)]; rfl
theorem vs_o (V : vw_T) (t : Nat) (o a b : Int32) (w : Nat) : v_o (v_set V t o a b w) t = o := pk_us
theorem vs_a (V : vw_T) (t : Nat) (o a b : Int32) (w : Nat) : v_a (v_set V t o a b w) t = a := pk_us
theorem vs_b (V : vw_T) (t : Nat) (o a b : Int32) (w : Nat) : v_b (v_set V t o a b w) t = b := pk_us
theorem vs_w (V : vw_T) (t : Nat) (o a b : Int32) (w : Nat) : v_w (v_set V t o a b w) t = w := if_pos rfl
theorem vs_p (V : vw_T) (t : Nat) (o a b : Int32) (w : Nat) : v_p (v_set V t o a b w) = v_p V := Eq.trans rfl rfl
theorem vs_r (V : vw_T) (t : Nat) (o a b : Int32) (w : Nat) : v_r (v_set V t o a b w) = v_r V := Eq.trans rfl rfl
theorem vs_c (V : vw_T) (t : Nat) (o a b : Int32) (w : Nat) : v_c (v_set V t o a b w) = v_c V := Eq.trans rfl rfl
theorem l_in_dd (L : List lb_T) (d0 : Bool) : l_in L (l_dd L d0) = L ∧ l_d0 L d0 (l_dd L d0) = d0 := by cases L <;> exact ⟨rfl, rfl⟩
theorem t_dd_l (T : ts_T) : t_dd T = l_dd T.1 T.2.1 := Eq.trans rfl rfl
theorem lw_h {V : vw_T} {t : Nat} {L : List lb_T} {h h2 : Nat} (hl : lw_L V t L h) (hh : t_ht V L ≤ h2) : lw_L V t L h2 := by
  cases L with
  | nil => trivial
  | cons q L => exact ⟨hl.1, hl.2.1, hl.2.2.1, hh, hl.2.2.2.2⟩
theorem ht_view {V V2 : vw_T} {t h : Nat} {L : List lb_T} (hv : v_eq V V2 t) (hl : lw_L V t L h) : t_ht V2 L = t_ht V L := by
  cases L with
  | nil => rfl
  | cons q L => exact (hv.1 q.1 hl.1).2.2.2
theorem lw_get {V : vw_T} {t : Nat} : ∀ {L : List lb_T} {h : Nat}, lw_L V t L h → ∀ q ∈ L, q.1 < t ∧ (∃ x y : Nat, x ≤ 4 ∧ y ≤ 4 ∧ v_a V q.1 = nI x ∧ v_b V q.1 = nI y) ∧ (v_o V q.1 = 2 ∨ v_o V q.1 = 3 ∨ v_o V q.1 = 4) ∧ v_w V q.1 ≤ h ∧ (q.2.1 = true → v_o V q.1 = 4) := by
  intro L
  induction L with
  | nil => intro h _ q hq; cases hq
  | cons r L ih =>
    intro h hl q hq
    rcases List.mem_cons.mp hq with e | e
    · subst e; exact ⟨hl.1, hl.2.1, hl.2.2.1, hl.2.2.2.1, hl.2.2.2.2.1⟩
    · obtain ⟨a1, a2, a3, a4, a5⟩ := ih hl.2.2.2.2.2 q e
      exact ⟨a1, a2, a3, Nat.le_trans a4 hl.2.2.2.1, a5⟩
theorem want_view {V V2 : vw_T} {t h f k : Nat} {L : List lb_T} (hv : v_eq V V2 t) (hl : lw_L V t L h) : t_want V2 f L k = t_want V f L k := by
  unfold t_want
  cases hk : L[k]? with
  | none => simp only []; rw [hv.2.2.1]
  | some q =>
    have := (lw_get hl q (List.mem_of_getElem? hk)).1
    obtain ⟨e1, e2, e3, e4⟩ := hv.1 q.1 this
    simp only [e1, e2, e3]
theorem gives_view {V V2 : vw_T} {t h f : Nat} {L : List lb_T} (hv : v_eq V V2 t) (hl : lw_L V t L h) : t_gives V2 f L = t_gives V f L := by
  unfold t_gives
  cases L with
  | nil => simp only []; rw [hv.2.2.1]
  | cons q L => obtain ⟨e1, e2, e3, e4⟩ := hv.1 q.1 hl.1; simp only [e3]
theorem has_view {V V2 : vw_T} {t n : Nat} {T : ts_T} (hv : v_eq V V2 t) (hl : lw_L V t T.1 T.2.2.1) : t_has V2 T n = t_has V T n := by
  unfold t_has
  rw [ht_view hv hl]
theorem tk_view {V V2 : vw_T} {t n : Nat} {T : ts_T} (hv : v_eq V V2 t) (hl : lw_L V t T.1 T.2.2.1) : t_tk V2 T n = t_tk V T n := by
  unfold t_tk
  rw [ht_view hv hl]
theorem done_view {V V2 : vw_T} {t f : Nat} {T : ts_T} (hv : v_eq V V2 t) (hl : lw_L V t T.1 T.2.2.1) : t_done V2 f T = t_done V f T := by
  unfold t_done
  rw [ht_view hv hl, gives_view hv hl]
theorem want_le {V : vw_T} {t h f k : Nat} {L : List lb_T} (hl : lw_L V t L h) (hr : v_r V f ≤ 8) : t_want V f L k ≤ 8 := by
  unfold t_want
  cases hk : L[k]? with
  | none => exact hr
  | some q =>
    obtain ⟨x, y, hx, hy, e1, e2⟩ := (lw_get hl q (List.mem_of_getElem? hk)).2.1
    simp only [e1, e2]
    split
    · rw [nI_clamp (by omega)]; omega
    · rw [nI_clamp (by omega)]; omega
