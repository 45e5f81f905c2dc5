-- ===== the reference's writer: its inner label =====
def mt_T (m : rs_T) (k hh ow : Nat) (d : Bool) : Prop := rI m 3 = nI (k + 1) ∧ rA m 13 k = nI hh ∧ rA m 14 k = nI ow ∧ rA m 15 k = b2 d ∧ k < 1500 ∧ hh + ow < 1000000
theorem mi_s {m : rs_T} {k : Nat} (h : rI m 3 = nI (k + 1)) : fx_Md_inner m = some (nI k, m) := by
  unfold fx_Md_inner
  rw [h, nI_pred]
theorem b2_0 (d : Bool) : (b2 d = 0) ↔ d = false := by cases d <;> simp [b2]
theorem b2_1 (d : Bool) : (b2 d = 1) ↔ d = true := by cases d <;> simp [b2]
theorem b2_t : b2 true = 1 := rfl
theorem b2_f : b2 false = 0 := rfl
theorem m_has {m : rs_T} {k hh ow n : Nat} {d : Bool} (h : mt_T m k hh ow d) (hn : n < 1000000) : fx_Md_has (nI n) m = some (b2 (d || decide (n ≤ ow)), m) := by
  obtain ⟨h1, h2, h3, h4, h5, h6⟩ := h
  unfold fx_Md_has fx_Md_has_b25
  simp (disch := omega) only [mi_s h1, bn_s, bv_s, bd_s, gb_0, gb_1, rI_ws, rI_wn, rI_wA, rI_wL, rA_wI, rA_wL, rL_wI, rL_wA, rA_wss, rA_wn, rA_wsn, rL_wss, rL_wn, rL_wsn, rN_wI, rN_wA, rN_wL, lt_lit, lit_lt, le_lit, lit_le, eq_lit, nI_ltI, nI_leI, nI_eq, add_lit, lit_add, sub_lit, nI_add, nI_sub, nI_clamp, gd_k, nI_m1, m1_nI, h3, h4, b2_0]
  by_cases hq : n ≤ ow
  · simp [hq, b2]
  · cases d <;> simp [hq, b2]
theorem m_b36 {m : rs_T} {k : Nat} (v : Int32) (h5 : k < 1500) : fx_Md_take_b36 v (nI k) m = some (wA m 14 k v) := by
  unfold fx_Md_take_b36
  rw [gd_k (by omega) (by omega), nI_clamp (by omega)]
theorem m_tk1 {m : rs_T} {k hh ow n : Nat} {d : Bool} (h : mt_T m k hh ow d) (hn : n < 1000000) (hq : ow ≤ n) : fx_Md_take (nI n) m = some (wA m 14 k (nI 0)) := by
  obtain ⟨h1, h2, h3, h4, h5, h6⟩ := h
  have e : nI ow ≤ nI n := nI_le hq (by omega)
  unfold fx_Md_take
  rw [mi_s h1, bn_s, mi_s h1, bn_s, gd_k (by omega) (by omega), nI_clamp (by omega), h3, if_pos e, m_b36 _ h5, nI_0]
theorem m_tk2 {m : rs_T} {k hh ow n : Nat} {d : Bool} (h : mt_T m k hh ow d) (hn : n < 1000000) (hq : n < ow) : fx_Md_take (nI n) m = some (wA m 14 k (nI ow - nI n)) := by
  obtain ⟨h1, h2, h3, h4, h5, h6⟩ := h
  have e : ¬ nI ow ≤ nI n := nI_ge hq (by omega)
  unfold fx_Md_take
  rw [mi_s h1, bn_s, mi_s h1, bn_s, gd_k (by omega) (by omega), nI_clamp (by omega), h3, if_neg e, mi_s h1, bn_s, gd_k (by omega) (by omega), nI_clamp (by omega), h3, m_b36 _ h5]
theorem m_take {m : rs_T} {k hh ow n : Nat} {d : Bool} (h : mt_T m k hh ow d) (hn : n < 1000000) : fx_Md_take (nI n) m = some (wA m 14 k (nI (ow - n))) := by
  by_cases hq : ow ≤ n
  · rw [m_tk1 h hn hq, Nat.sub_eq_zero_of_le hq]
  · rw [m_tk2 h hn (Nat.lt_of_not_le hq), nI_sub (Nat.le_of_not_le hq)]
theorem m_turn {m : rs_T} {k hh ow n q : Nat} {d : Bool} (h : mt_T m k hh ow d) (hn : n < 1000000) : fx_Md_turn (nI n) (nI q) m = bif d || decide (n ≤ ow) then some (1, wA (wA m 14 k (nI (ow - n))) 14 k (nI (ow - n + q))) else some (0, m) := by
  obtain ⟨h1, h2, h3, h4, h5, h6⟩ := id h
  unfold fx_Md_turn
  rw [m_has h hn]
  have e1 : rI (wA m 14 k (nI (ow - n))) 3 = nI (k + 1) := h1
  cases hb : (d || decide (n ≤ ow))
  · simp [bn_s, b2]
  · simp (disch := omega) only [bn_s, bv_s, bd_s, gb_0, gb_1, rI_ws, rI_wn, rI_wA, rI_wL, rA_wI, rA_wL, rL_wI, rL_wA, rA_wss, rA_wn, rA_wsn, rL_wss, rL_wn, rL_wsn, rN_wI, rN_wA, rN_wL, b2_t, m_take h hn, mi_s e1, gd_k, nI_clamp, and_self, if_true, nI_add]
    simp
theorem m_die {m : rs_T} {k hh ow : Nat} {d : Bool} (h : mt_T m k hh ow d) : fx_Md_die m = some (wA (wA m 14 k 0) 15 k 1) := by
  obtain ⟨h1, h2, h3, h4, h5, h6⟩ := h
  have e1 : rI (wA m 14 k 0) 3 = nI (k + 1) := h1
  unfold fx_Md_die
  simp (disch := omega) only [mi_s h1, mi_s e1, bn_s, bv_s, bd_s, gb_0, gb_1, rI_ws, rI_wn, rI_wA, rI_wL, rA_wI, rA_wL, rL_wI, rL_wA, rA_wss, rA_wn, rA_wsn, rL_wss, rL_wn, rL_wsn, rN_wI, rN_wA, rN_wL, gd_k, nI_clamp]
theorem m_ends {m : rs_T} {k hh ow n : Nat} {d : Bool} (h : mt_T m k hh ow d) (hn : n < 1000000) : fx_Md_ends (nI n) m = bif d || decide (n ≤ ow) then some (1, wA (wA m 14 k 0) 15 k 1) else some (0, m) := by
  unfold fx_Md_ends
  rw [m_has h hn]
  cases hb : (d || decide (n ≤ ow))
  · simp [bn_s, b2]
  · simp [bn_s, bv_s, b2, m_die h]
theorem m_done {m : rs_T} {k hh ow g : Nat} {d : Bool} (h : mt_T m k hh ow d) (hg : rA m 12 k = nI g) (hg2 : g < 1000000) : fx_Md_isDone m = some (b2 (bif d then decide (ow ≤ g) else decide (ow = g)), m) := by
  obtain ⟨h1, h2, h3, h4, h5, h6⟩ := h
  unfold fx_Md_isDone fx_Md_isDone_b54
  simp (disch := omega) only [mi_s h1, bn_s, bv_s, bd_s, gb_0, gb_1, rI_ws, rI_wn, rI_wA, rI_wL, rA_wI, rA_wL, rL_wI, rL_wA, rA_wss, rA_wn, rA_wsn, rL_wss, rL_wn, rL_wsn, rN_wI, rN_wA, rN_wL, lt_lit, lit_lt, le_lit, lit_le, eq_lit, nI_ltI, nI_leI, nI_eq, add_lit, lit_add, sub_lit, nI_add, nI_sub, nI_clamp, gd_k, nI_m1, m1_nI, h3, h4, hg, b2_0]
  by_cases hq : ow = g
  · cases d <;> simp [hq, b2]
  · cases d
    · simp [hq, b2]
    · by_cases hz : g ≤ ow
      · have : ¬ ow ≤ g := by omega
        simp [hq, hz, this, b2]
      · have : ow ≤ g := by omega
        simp [hq, hz, this, b2]
-- the labels of the reference's writer
def wm_L (V : vw_T) (f : Nat) (m : rs_T) : List lb_T → Bool → Nat → Prop
  | [], d0, h => rA m 10 0 = 0 ∧ rA m 12 0 = nI (v_r V f) ∧ rA m 13 0 = nI 0 ∧ rA m 14 0 = nI h ∧ rA m 15 0 = b2 d0
  | q :: L, d0, h => rA m 10 (L.length + 1) = (bif q.2.1 then 5 else v_o V q.1) ∧ rA m 11 (L.length + 1) = v_a V q.1 ∧ rA m 12 (L.length + 1) = v_b V q.1 ∧ rA m 13 (L.length + 1) = nI (v_w V q.1) ∧ rA m 14 (L.length + 1) = nI (h - v_w V q.1) ∧ rA m 15 (L.length + 1) = b2 q.2.2 ∧ wm_L V f m L d0 (v_w V q.1)
-- labels that can be: begun before t, of a small shape, heights that fall
def lw_L (V : vw_T) (t : Nat) : List lb_T → Nat → Prop
  | [], _ => True
  | q :: L, h => q.1 < t ∧ (∃ x y : Nat, x ≤ 4 ∧ y ≤ 4 ∧ v_a V q.1 = nI x ∧ v_b V q.1 = nI y) ∧ (v_o V q.1 = 2 ∨ v_o V q.1 = 3 ∨ v_o V q.1 = 4) ∧ v_w V q.1 ≤ h ∧ (q.2.1 = true → v_o V q.1 = 4) ∧ lw_L V t L (v_w V q.1)
theorem lw_ht {V : vw_T} {t h : Nat} {L : List lb_T} (hl : lw_L V t L h) : t_ht V L ≤ h := by
  cases L with
  | nil => exact Nat.zero_le _
  | cons q L => exact hl.2.2.2.1
theorem lw_mono {V : vw_T} {t t2 : Nat} (ht : t ≤ t2) : ∀ {L : List lb_T} {h h2 : Nat}, h ≤ h2 → lw_L V t L h → lw_L V t2 L h2 := by
  intro L
  induction L with
  | nil => intro h h2 _ _; trivial
  | cons q L ih => intro h h2 hh hl; exact ⟨Nat.lt_of_lt_of_le hl.1 ht, hl.2.1, hl.2.2.1, Nat.le_trans hl.2.2.2.1 hh, hl.2.2.2.2.1, ih (Nat.le_refl _) hl.2.2.2.2.2⟩
-- the same labels over another view that agrees below t
def v_eq (V V2 : vw_T) (t : Nat) : Prop := (∀ i, i < t → v_o V2 i = v_o V i ∧ v_a V2 i = v_a V i ∧ v_b V2 i = v_b V i ∧ v_w V2 i = v_w V i) ∧ v_p V2 = v_p V ∧ v_r V2 = v_r V ∧ v_c V2 = v_c V
theorem lw_view {V V2 : vw_T} {t : Nat} (hv : v_eq V V2 t) : ∀ {L : List lb_T} {h : Nat}, lw_L V t L h → lw_L V2 t L h := by
  intro L
  induction L with
  | nil => intro h _; trivial
  | cons q L ih =>
    intro h hl
    obtain ⟨e1, e2, e3, e4⟩ := hv.1 q.1 hl.1
    refine ⟨hl.1, by rw [e2, e3]; exact hl.2.1, by rw [e1]; exact hl.2.2.1, by rw [e4]; exact hl.2.2.2.1, by rw [e1]; exact hl.2.2.2.2.1, by rw [e4]; exact ih hl.2.2.2.2.2⟩
theorem wm_view {V V2 : vw_T} {t f : Nat} {m : rs_T} (hv : v_eq V V2 t) : ∀ {L : List lb_T} {d0 : Bool} {h : Nat}, lw_L V t L h → wm_L V f m L d0 h → wm_L V2 f m L d0 h := by
  intro L
  induction L with
  | nil => intro d0 h _ hm; exact ⟨hm.1, by rw [hv.2.2.1]; exact hm.2.1, hm.2.2⟩
  | cons q L ih =>
    intro d0 h hl hm
    obtain ⟨e1, e2, e3, e4⟩ := hv.1 q.1 hl.1
    obtain ⟨m1, m2, m3, m4, m5, m6, m7⟩ := hm
    exact ⟨by rw [e1]; exact m1, by rw [e2]; exact m2, by rw [e3]; exact m3, by rw [e4]; exact m4, by rw [e4]; exact m5, m6, by rw [e4]; exact ih hl.2.2.2.2.2 m7⟩
-- only the places up to the labels' number count
theorem wm_keep {V : vw_T} {f : Nat} {m m2 : rs_T} : ∀ {L : List lb_T} {d0 : Bool} {h : Nat}, (∀ j i, 10 ≤ j → j ≤ 15 → i ≤ L.length → rA m2 j i = rA m j i) → wm_L V f m L d0 h → wm_L V f m2 L d0 h := by
  intro L
  induction L with
  | nil =>
    intro d0 h hk hm
    simp only [wm_L] at hm ⊢
    rw [hk 10 0 (by decide) (by decide) (Nat.le_refl _), hk 12 0 (by decide) (by decide) (Nat.le_refl _), hk 13 0 (by decide) (by decide) (Nat.le_refl _), hk 14 0 (by decide) (by decide) (Nat.le_refl _), hk 15 0 (by decide) (by decide) (Nat.le_refl _)]
    exact hm
  | cons q L ih =>
    intro d0 h hk hm
    simp only [wm_L] at hm ⊢
    have e : ∀ j, 10 ≤ j → j ≤ 15 → rA m2 j (L.length + 1) = rA m j (L.length + 1) := fun j h1 h2 => hk j _ h1 h2 (Nat.le_refl _)
    rw [e 10 (by decide) (by decide), e 11 (by decide) (by decide), e 12 (by decide) (by decide), e 13 (by decide) (by decide), e 14 (by decide) (by decide), e 15 (by decide) (by decide)]
    exact ⟨hm.1, hm.2.1, hm.2.2.1, hm.2.2.2.1, hm.2.2.2.2.1, hm.2.2.2.2.2.1, ih (fun j i h1 h2 h3 => hk j i h1 h2 (Nat.le_succ_of_le h3)) hm.2.2.2.2.2.2⟩
-- the inner label's dead flag, whichever it is
def l_dd (L : List lb_T) (d0 : Bool) : Bool := match L with
  | [] => d0
  | q :: _ => q.2.2
theorem wm_top {V : vw_T} {f t : Nat} {m : rs_T} {L : List lb_T} {d0 : Bool} {h : Nat} (hm : wm_L V f m L d0 h) (hl : lw_L V t L h) : rA m 13 L.length = nI (t_ht V L) ∧ rA m 14 L.length = nI (h - t_ht V L) ∧ rA m 15 L.length = b2 (l_dd L d0) := by
  cases L with
  | nil => exact ⟨hm.2.2.1, hm.2.2.2.1, hm.2.2.2.2⟩
  | cons q L => exact ⟨hm.2.2.2.1, hm.2.2.2.2.1, hm.2.2.2.2.2.1⟩
def l_in (L : List lb_T) (d : Bool) : List lb_T := match L with
  | [] => []
  | q :: L => (q.1, q.2.1, d) :: L
def l_d0 (L : List lb_T) (d0 d : Bool) : Bool := match L with
  | [] => d
  | _ :: _ => d0
theorem l_in_len (L : List lb_T) (d : Bool) : (l_in L d).length = L.length := by cases L <;> rfl
theorem t_in_eq (T : ts_T) (d : Bool) (h : Nat) : t_in T d h = (l_in T.1 d, l_d0 T.1 T.2.1 d, h, 0, none) := by
  unfold t_in l_in l_d0
  cases T.1 <;> rfl
theorem lw_in {V : vw_T} {t : Nat} {L : List lb_T} {d : Bool} {h : Nat} (hl : lw_L V t L h) : lw_L V t (l_in L d) h := by
  cases L with
  | nil => exact hl
  | cons q L => exact hl
-- the inner label gets other operands and another dead flag
theorem wm_set {V : vw_T} {f : Nat} {m m2 : rs_T} {L : List lb_T} {d0 d : Bool} {h h2 : Nat} (hm : wm_L V f m L d0 h) (hk : ∀ j i, 10 ≤ j → j ≤ 15 → i < L.length → rA m2 j i = rA m j i) (h0 : ∀ j, 10 ≤ j → j ≤ 13 → rA m2 j L.length = rA m j L.length) (h4 : rA m2 14 L.length = nI (h2 - t_ht V L)) (h5 : rA m2 15 L.length = b2 d) : wm_L V f m2 (l_in L d) (l_d0 L d0 d) h2 := by
  cases L with
  | nil => exact ⟨(h0 10 (by decide) (by decide)).trans hm.1, (h0 12 (by decide) (by decide)).trans hm.2.1, (h0 13 (by decide) (by decide)).trans hm.2.2.1, h4, h5⟩
  | cons q L =>
    refine ⟨(h0 10 (by decide) (by decide)).trans hm.1, (h0 11 (by decide) (by decide)).trans hm.2.1, (h0 12 (by decide) (by decide)).trans hm.2.2.1, (h0 13 (by decide) (by decide)).trans hm.2.2.2.1, h4, h5, ?_⟩
    exact wm_keep (fun j i h1 h2 h3 => hk j i h1 h2 (Nat.lt_succ_of_le h3)) hm.2.2.2.2.2.2
