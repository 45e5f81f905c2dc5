-- ===== the class's writer =====
def vc (c : rs_T) : vw_T := (rA c 7, rA c 8, rA c 9, fun i => (rA c 12 i).toNatClampNeg, fun f => (rA c 0 f).toNatClampNeg, fun f => (rA c 1 f).toNatClampNeg, fun f => (rA c 2 f).toNatClampNeg)
-- its labels
def wc_L (V : vw_T) (c : rs_T) : List lb_T → Bool → Prop
  | [], d0 => rA c 13 0 = -1 ∧ rA c 14 0 = b2 d0
  | q :: L, d0 => rA c 13 (L.length + 1) = nI q.1 ∧ rA c 14 (L.length + 1) = b2 q.2.2 ∧ rA c 12 q.1 = nI (v_w V q.1) ∧ rA c 7 q.1 = v_o V q.1 ∧ rA c 8 q.1 = v_a V q.1 ∧ rA c 9 q.1 = v_b V q.1 ∧ (q.2.1 = false → rA c 11 q.1 = -1) ∧ (q.2.1 = true → ∃ x : Nat, x < 1500 ∧ rA c 11 q.1 = nI x) ∧ wc_L V c L d0
-- the class writes function f, t instructions are there, it knows T
def cw_T (c : rs_T) (V : vw_T) (f t : Nat) (T : ts_T) : Prop := rI c 2 = nI (f + 1) ∧ rI c 3 = nI f ∧ rI c 4 = nI t ∧ rI c 5 = nI (T.1.length + 1) ∧ rI c 6 = nI T.2.2.1 ∧ rI c 7 = nI T.2.2.2.1 ∧
  (¬ T.2.2.2.1 = 0 → match T.2.2.2.2 with
    | none => rI c 8 = -1
    | some x => rI c 8 = nI x ∧ x ≤ 8) ∧ wc_L V c T.1 T.2.1 ∧ lw_L V t T.1 T.2.2.1 ∧ f < 40 ∧ rA c 1 f = nI (v_r V f) ∧ (t ≤ rN c 0 ∧ rN c 0 ≤ 1500 ∧ T.1.length + 1 ≤ rN c 1 ∧ rN c 1 ≤ 1501)
theorem c_ht {c : rs_T} {V : vw_T} {f t : Nat} {T : ts_T} (h : cw_T c V f t T) (hb : tb_ok t T) : fx_Wr_height c = some (nI (t_ht V T.1), c) := by
  obtain ⟨h2, h3, h4, h5, h6, h7, h8, hl, hw, hf, hr, hN⟩ := h
  obtain ⟨c1, c2, c3, c4⟩ := hb
  unfold fx_Wr_height
  rw [h5, nI_pred, gd_k (by omega) (by omega), bd_s, nI_clamp (by omega)]
  cases hL : T.1 with
  | nil => rw [hL] at hl; rw [show rA c 13 ([] : List lb_T).length = -1 from hl.1, if_pos rfl]; rfl
  | cons q L =>
    rw [hL] at hl hw
    have hq := hw.1
    have e : rA c 13 (q :: L).length = nI q.1 := hl.1
    have ne : ¬ nI q.1 = -1 := fun z => (nI_m1 (by omega)).mp z
    rw [e, if_neg ne, gd_k (by omega) (by omega), nI_clamp (by omega), hl.2.2.1]; rfl
theorem wc_dd {c : rs_T} {V : vw_T} {L : List lb_T} {d0 : Bool} (h : wc_L V c L d0) : rA c 14 L.length = b2 (l_dd L d0) := by
  cases L with
  | nil => exact h.2
  | cons q L => exact h.2.1
theorem c_has {c : rs_T} {V : vw_T} {f t n : Nat} {T : ts_T} (h : cw_T c V f t T) (hb : tb_ok t T) (hn : n < 1000) : fx_Wr_has (nI n) c = some (b2 (t_has V T n), c) := by
  have hht := c_ht h hb
  obtain ⟨h2, h3, h4, h5, h6, h7, h8, hl, hw, hf, hr, hN⟩ := h
  obtain ⟨c1, c2, c3, c4⟩ := hb
  have hth := lw_ht hw
  unfold fx_Wr_has fx_Wr_has_b27
  rw [h5, nI_pred, gd_k (by omega) (by omega), nI_clamp (by omega), wc_dd hl, t_has_eq hw, ← t_dd_l]
  cases hd : t_dd T
  · rw [b2_f, if_pos rfl, hht, bn_s, h6, nI_sub hth]
    by_cases e : T.2.2.1 - t_ht V T.1 < n
    · rw [if_pos (nI_lt e (by omega)), decide_eq_false (by omega)]; rfl
    · rw [if_neg (nI_nlt (by omega) (by omega)), decide_eq_true (by omega)]; rfl
  · rw [b2_t, if_neg i10]; rfl
theorem c_take {c : rs_T} {V : vw_T} {f t n : Nat} {T : ts_T} (h : cw_T c V f t T) (hb : tb_ok t T) (hn : n < 1000) : fx_Wr_take (nI n) c = some (wI c 6 (nI (t_tk V T n))) := by
  have hht := c_ht h hb
  obtain ⟨h2, h3, h4, h5, h6, h7, h8, hl, hw, hf, hr, hN⟩ := h
  obtain ⟨c1, c2, c3, c4⟩ := hb
  have hth := lw_ht hw
  unfold fx_Wr_take
  rw [hht, bn_s, h6]
  by_cases e : n ≤ T.2.2.1
  · rw [nI_sub e]
    by_cases e2 : t_ht V T.1 < T.2.2.1 - n
    · rw [if_pos (nI_lt e2 (by omega)), show t_tk V T n = T.2.2.1 - n by unfold t_tk; omega]
    · rw [if_neg (nI_nlt (by omega) (by omega)), show t_tk V T n = t_ht V T.1 by unfold t_tk; omega]
  · have hneg := pk_sneg (a := T.2.2.1) (b := n) (by omega) (by omega)
    have : ¬ nI (t_ht V T.1) < nI T.2.2.1 - nI n := fun z => by
      have y1 := Int32.lt_iff_toInt_lt.mp z
      have y2 := Int32.lt_iff_toInt_lt.mp hneg
      rw [nI_toInt (by omega)] at y1
      have y3 : (0 : Int32).toInt = 0 := by decide
      omega
    rw [if_neg this, show t_tk V T n = t_ht V T.1 by unfold t_tk; omega]
theorem c_put {c : rs_T} {f h k ms : Nat} (h3 : rI c 3 = nI f) (hf : f < 40) (h6 : rI c 6 = nI h) (hm : rA c 3 f = nI ms) (hb : h + k < 1000000) (hb2 : ms < 1000000) : fx_Wr_put (nI k) c = some (wA (wI c 6 (nI (h + k))) 3 f (nI (max ms (h + k)))) := by
  unfold fx_Wr_put
  rw [h3, gd_k (by omega) (by omega), gd_k (by omega) (by omega), nI_clamp (by omega), h6, hm, nI_add]
  by_cases e : ms < h + k
  · rw [if_pos (nI_lt e (by omega)), Nat.max_eq_right (by omega)]
  · rw [if_neg (nI_nlt (by omega) (by omega)), Nat.max_eq_left (by omega)]
theorem c_ex {c : rs_T} {V : vw_T} {f t n k ms : Nat} {T : ts_T} (h : cw_T c V f t T) (hb : tb_ok t T) (hn : n < 1000) (hk : k < 1000) (hm : rA c 3 f = nI ms) (hms : ms < 100000) : fx_Wr_exchanges (nI n) (nI k) c = bif t_has V T n then some (1, wA (wI (wI c 6 (nI (t_tk V T n))) 6 (nI (t_tk V T n + k))) 3 f (nI (max ms (t_tk V T n + k)))) else some (0, c) := by
  unfold fx_Wr_exchanges
  rw [c_has h hb hn, bn_s]
  cases hh : t_has V T n
  · rw [b2_f, if_pos rfl]; rfl
  · rw [b2_t, if_neg i10, c_take h hb hn, bv_s]
    obtain ⟨h2, h3, h4, h5, h6, h7, h8, hl, hw, hf, hr, hN⟩ := h
    obtain ⟨c1, c2, c3, c4⟩ := hb
    have hth := lw_ht hw
    have htk : t_tk V T n ≤ 8 * t := by rw [t_tk_eq hw]; omega
    rw [c_put (c := wI c 6 (nI (t_tk V T n))) (h := t_tk V T n) (f := f) (ms := ms) (by simp (disch := omega) only [bn_s, bv_s, bd_s, gb_0, gb_1, rI_ws, rI_wn, rI_wA, rI_wL, rA_wI, rA_wL, rL_wI, rL_wA, rA_wss, rA_wn, rA_wsn, rL_wss, rL_wn, rL_wsn, rN_wI, rN_wA, rN_wL]; exact h3) hf (by simp (disch := omega) only [bn_s, bv_s, bd_s, gb_0, gb_1, rI_ws, rI_wn, rI_wA, rI_wL, rA_wI, rA_wL, rL_wI, rL_wA, rA_wss, rA_wn, rA_wsn, rL_wss, rL_wn, rL_wsn, rN_wI, rN_wA, rN_wL]) (by simp (disch := omega) only [bn_s, bv_s, bd_s, gb_0, gb_1, rI_ws, rI_wn, rI_wA, rI_wL, rA_wI, rA_wL, rL_wI, rL_wA, rA_wss, rA_wn, rA_wsn, rL_wss, rL_wn, rL_wsn, rN_wI, rN_wA, rN_wL]; exact hm) (by omega) (by omega), bv_s]; rfl
theorem c_die {c : rs_T} {V : vw_T} {f t : Nat} {T : ts_T} (h : cw_T c V f t T) (hb : tb_ok t T) : fx_Wr_die c = some (wA (wI c 6 (nI (t_ht V T.1))) 14 T.1.length 1) := by
  have hht := c_ht h hb
  obtain ⟨h2, h3, h4, h5, h6, h7, h8, hl, hw, hf, hr, hN⟩ := h
  obtain ⟨c1, c2, c3, c4⟩ := hb
  unfold fx_Wr_die
  rw [hht, bn_s, h5, nI_pred, gd_k (by omega) (by omega), nI_clamp (by omega)]
-- labels by number
theorem wc_get {V : vw_T} {c : rs_T} : ∀ {L : List lb_T} {d0 : Bool}, wc_L V c L d0 → ∀ (k : Nat), k ≤ L.length → rA c 13 (L.length - k) = (match L[k]? with | none => -1 | some q => nI q.1) := by
  intro L
  induction L with
  | nil => intro d0 h k hk; have : k = 0 := by simpa using hk
           subst this; exact h.1
  | cons r L ih =>
    intro d0 h k hk
    cases k with
    | zero => exact h.1
    | succ k =>
      have e : (r :: L).length - (k + 1) = L.length - k := by simp
      rw [e, List.getElem?_cons_succ]
      exact ih h.2.2.2.2.2.2.2.2 k (by simpa using hk)
theorem wc_in {V : vw_T} {c : rs_T} : ∀ {L : List lb_T} {d0 : Bool}, wc_L V c L d0 → ∀ q ∈ L, rA c 12 q.1 = nI (v_w V q.1) ∧ rA c 7 q.1 = v_o V q.1 ∧ rA c 8 q.1 = v_a V q.1 ∧ rA c 9 q.1 = v_b V q.1 := by
  intro L
  induction L with
  | nil => intro d0 _ q hq; cases hq
  | cons r L ih =>
    intro d0 h q hq
    rcases List.mem_cons.mp hq with e | e
    · subst e; exact ⟨h.2.2.1, h.2.2.2.1, h.2.2.2.2.1, h.2.2.2.2.2.1⟩
    · exact ih h.2.2.2.2.2.2.2.2 q e
theorem c_wants {c : rs_T} {V : vw_T} {f t k : Nat} {T : ts_T} (h : cw_T c V f t T) (hb : tb_ok t T) (hk : k ≤ T.1.length) : fx_Wr_wantedBy (nI k) c = some (nI (t_want V f T.1 k), c) := by
  obtain ⟨h2, h3, h4, h5, h6, h7, h8, hl, hw, hf, hr, hN⟩ := h
  obtain ⟨c1, c2, c3, c4⟩ := hb
  unfold fx_Wr_wantedBy fx_Pr_wantedBy
  rw [h5, nI_pred, nI_sub hk, gd_k (by omega) (by omega), nI_clamp (by omega), wc_get hl k hk, h3]
  unfold t_want
  cases hq : T.1[k]? with
  | none =>
    simp only []
    rw [if_pos trivial, gd_k (by omega) (by omega), nI_clamp (by omega), hr, bn_s]
  | some q =>
    obtain ⟨g1, ⟨x, y, hx, hy, g2, g3⟩, g4, g5, g6⟩ := lw_get hw q (List.mem_of_getElem? hq)
    obtain ⟨e1, e2, e3, e4⟩ := wc_in hl q (List.mem_of_getElem? hq)
    have ne : ¬ nI q.1 = -1 := fun z => (nI_m1 (by omega)).mp z
    simp only []
    rw [if_neg ne, gd_k (by omega) (by omega), gd_k (by omega) (by omega), gd_k (by omega) (by omega), nI_clamp (by omega), e2, e3, e4, g2, g3, nI_clamp (by omega), nI_clamp (by omega)]
    by_cases hz : v_o V q.1 = 3
    · rw [if_pos hz, if_pos hz, bn_s]
    · rw [if_neg hz, if_neg hz, bn_s]
theorem c_label {c : rs_T} {V : vw_T} {f t : Nat} {T : ts_T} (h : cw_T c V f t T) (hb : tb_ok t T) (x : Int32) : (∃ k : Nat, k ≤ T.1.length ∧ x = nI k ∧ t_n x T.1.length = some k ∧ fx_Ma_isWithin x (rI c 5 - 1) c = some (1, c)) ∨ (t_n x T.1.length = none ∧ fx_Ma_isWithin x (rI c 5 - 1) c = some (0, c)) := by
  obtain ⟨h2, h3, h4, h5, -⟩ := h
  obtain ⟨c1, c2, c3, c4⟩ := hb
  rw [h5, nI_pred]
  rcases wi_C x T.1.length (by omega) c with ⟨j, hj, e1, e2⟩ | ⟨e1, e2⟩
  · exact Or.inl ⟨j, hj, e1, by rw [e1]; exact t_n_nI (by omega) hj, e2⟩
  · exact Or.inr ⟨t_n_none e1 (by omega), e2⟩
theorem c_ready {c : rs_T} {V : vw_T} {f t : Nat} {T : ts_T} (h : cw_T c V f t T) (hb : tb_ok t T) (hr8 : v_r V f ≤ 8) : fx_Wr_isReadyToEnd c = some (b2 (t_done V f T), c) := by
  have hht := c_ht h hb
  obtain ⟨h2, h3, h4, h5, h6, h7, h8, hl, hw, hf, hr, hN⟩ := h
  obtain ⟨c1, c2, c3, c4⟩ := hb
  have hth := lw_ht hw
  have hres : fx_Pr_resultsOf (rA c 13 T.1.length) (nI f) c = some (nI (t_gives V f T.1), c) ∧ t_gives V f T.1 ≤ 8 := by
    unfold fx_Pr_resultsOf t_gives
    cases hL : T.1 with
    | nil =>
      rw [hL] at hl
      rw [show rA c 13 ([] : List lb_T).length = -1 from hl.1, if_pos rfl, gd_k (by omega) (by omega), nI_clamp (by omega), hr]
      exact ⟨rfl, hr8⟩
    | cons q L =>
      rw [hL] at hl hw
      have e : rA c 13 (q :: L).length = nI q.1 := hl.1
      obtain ⟨x, y, hx, hy, g2, g3⟩ := hw.2.1
      have hq := hw.1
      have ne : ¬ nI q.1 = -1 := fun z => (nI_m1 (by omega)).mp z
      rw [e, if_neg ne, gd_k (by omega) (by omega), nI_clamp (by omega), hl.2.2.2.2.2.1, g3]
      simp only []
      rw [g3, nI_clamp (by omega)]
      exact ⟨rfl, by omega⟩
  unfold fx_Wr_isReadyToEnd
  rw [h5, nI_pred, gd_k (by omega) (by omega), nI_clamp (by omega), h3, hres.1, bn_s, hht, bn_s, bd_s, h5, nI_pred, gd_k (by omega) (by omega), nI_clamp (by omega), h6, nI_sub hth, wc_dd hl, ← t_dd_l]
  have hg := hres.2
  unfold t_done
  cases hd : t_dd T
  · rw [b2_f, if_pos rfl, cond_false]
    by_cases e : T.2.2.1 - t_ht V T.1 = t_gives V f T.1
    · rw [if_pos (by rw [e]), decide_eq_true e]; rfl
    · rw [if_neg (fun z => e ((nI_eq (by omega) (by omega)).mp z)), decide_eq_false e]; rfl
  · rw [b2_t, if_neg i10, cond_true]
    by_cases e : T.2.2.1 - t_ht V T.1 ≤ t_gives V f T.1
    · rw [if_neg (nI_nlt e (by omega)), decide_eq_true e]; rfl
    · rw [if_pos (nI_lt (by omega) (by omega)), decide_eq_false e]; rfl
