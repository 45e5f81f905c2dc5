-- ===== the reference's code(): one step of the typing =====
def vm (m : rs_T) : vw_T := (rA m 6, rA m 7, rA m 8, fun i => (rA m 9 i).toNatClampNeg, fun f => (rA m 2 f).toNatClampNeg, fun f => (rA m 3 f).toNatClampNeg, fun f => (rA m 4 f).toNatClampNeg)
-- the functions' numbers are small
def mf_ok (m : rs_T) (F : Nat) : Prop := F ≤ 40 ∧ ∀ f, f < F → rA m 2 f = nI (v_p (vm m) f) ∧ rA m 3 f = nI (v_r (vm m) f) ∧ rA m 4 f = nI (v_c (vm m) f) ∧ v_p (vm m) f ≤ 8 ∧ v_r (vm m) f ≤ 8 ∧ v_c (vm m) f ≤ 8
-- the reference writes function f, t instructions are there, it knows T
def mw_T (m : rs_T) (f t : Nat) (T : ts_T) : Prop := rI m 0 = nI (f + 1) ∧ rI m 1 = nI t ∧ rI m 2 = 1 ∧ rI m 3 = nI (T.1.length + 1) ∧ rI m 4 = nI T.2.2.2.1 ∧
  (¬ T.2.2.2.1 = 0 → match T.2.2.2.2 with
    | none => rI m 6 = 1
    | some x => rI m 6 = 0 ∧ rI m 5 = nI x ∧ x ≤ 8) ∧ wm_L (vm m) f m T.1 T.2.1 T.2.2.1 ∧ lw_L (vm m) t T.1 T.2.2.1
-- bounds that go with it
def tb_ok (t : Nat) (T : ts_T) : Prop := t ≤ 512 ∧ T.1.length ≤ t ∧ T.2.2.1 ≤ 8 * t ∧ T.2.2.2.1 ≤ 21
theorem mw_top {m : rs_T} {f t : Nat} {T : ts_T} (h : mw_T m f t T) (hb : tb_ok t T) : mt_T m T.1.length (t_ht (vm m) T.1) (T.2.2.1 - t_ht (vm m) T.1) (t_dd T) := by
  obtain ⟨h1, h2, h3, h4, h5, h6, h7, h8⟩ := h
  obtain ⟨b1, b2, b3, b4⟩ := hb
  obtain ⟨e1, e2, e3⟩ := wm_top h7 h8
  have := lw_ht h8
  exact ⟨h4, e1, e2, e3, by omega, by omega⟩
theorem t_has_eq {V : vw_T} {T : ts_T} {n t : Nat} (hl : lw_L V t T.1 T.2.2.1) : t_has V T n = (t_dd T || decide (n ≤ T.2.2.1 - t_ht V T.1)) := by
  unfold t_has
  have := lw_ht hl
  congr 1
  exact decide_eq_decide.mpr (by omega)
theorem t_tk_eq {V : vw_T} {T : ts_T} {n t : Nat} (hl : lw_L V t T.1 T.2.2.1) : t_tk V T n = t_ht V T.1 + (T.2.2.1 - t_ht V T.1 - n) := by
  unfold t_tk
  have := lw_ht hl
  omega
