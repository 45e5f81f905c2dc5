-- ===== the reference's writer, one instruction: what its checks leave =====
def m1_ok (m m1 : rs_T) (t w : Nat) : Prop := (∀ q, ¬ q = 3 → ¬ q = 4 → ¬ q = 5 → ¬ q = 6 → rI m1 q = rI m q) ∧ (∀ j x, (j < 9 ∨ 15 < j) → rA m1 j x = rA m j x) ∧ (∀ x, ¬ x = t → rA m1 9 x = rA m 9 x) ∧ ((rA m1 9 t).toNatClampNeg = w ∧ (rA m1 9 t = rA m 9 t ∨ 0 ≤ (rA m1 9 t).toInt)) ∧ ∀ j x, rL m1 j x = rL m j x
theorem vm_gen {m m1 m2 : rs_T} {t w : Nat} {o a b : Int32} (h : m1_ok m m1 t w) (h6 : ∀ x, rA m2 6 x = if x = t then o else rA m1 6 x) (h7 : ∀ x, rA m2 7 x = if x = t then a else rA m1 7 x) (h8 : ∀ x, rA m2 8 x = if x = t then b else rA m1 8 x) (h9 : ∀ x, rA m2 9 x = rA m1 9 x) (h2 : ∀ x, rA m2 2 x = rA m1 2 x) (h3 : ∀ x, rA m2 3 x = rA m1 3 x) (h4 : ∀ x, rA m2 4 x = rA m1 4 x) : vm m2 = v_set (vm m) t o a b w := by
  obtain ⟨-, k2, k3, k4, -⟩ := h
  have e6 : rA m2 6 = upd (rA m 6) t o := funext fun x => by
    rw [h6]; by_cases e : x = t
    · subst e; rw [if_pos rfl, pk_us]
    · rw [if_neg e, pk_un e, k2 6 x (Or.inl (by decide))]
  have e7 : rA m2 7 = upd (rA m 7) t a := funext fun x => by
    rw [h7]; by_cases e : x = t
    · subst e; rw [if_pos rfl, pk_us]
    · rw [if_neg e, pk_un e, k2 7 x (Or.inl (by decide))]
  have e8 : rA m2 8 = upd (rA m 8) t b := funext fun x => by
    rw [h8]; by_cases e : x = t
    · subst e; rw [if_pos rfl, pk_us]
    · rw [if_neg e, pk_un e, k2 8 x (Or.inl (by decide))]
  have e9 : (fun i => (rA m2 9 i).toNatClampNeg) = fun i => if i = t then w else (rA m 9 i).toNatClampNeg := funext fun x => by
    rw [h9]; by_cases e : x = t
    · subst e; rw [if_pos rfl]; exact k4.1
    · rw [if_neg e, k3 x e]
  have e2 : (fun g => (rA m2 2 g).toNatClampNeg) = fun g => (rA m 2 g).toNatClampNeg := funext fun x => by rw [h2, k2 2 x (Or.inl (by decide))]
  have e3 : (fun g => (rA m2 3 g).toNatClampNeg) = fun g => (rA m 3 g).toNatClampNeg := funext fun x => by rw [h3, k2 3 x (Or.inl (by decide))]
  have e4 : (fun g => (rA m2 4 g).toNatClampNeg) = fun g => (rA m 4 g).toNatClampNeg := funext fun x => by rw [h4, k2 4 x (Or.inl (by decide))]
  unfold vm v_set
  rw [e6, e7, e8, e9, e2, e3, e4]
theorem vm_mz {m m1 : rs_T} {f t w s ms : Nat} {o a b : Int32} (h : m1_ok m m1 t w) : vm (mz_m m1 f t o a b s ms) = v_set (vm m) t o a b w := by
  refine vm_gen h (fun x => ?_) (fun x => ?_) (fun x => ?_) (fun x => ?_) (fun x => ?_) (fun x => ?_) (fun x => ?_)
  · unfold mz_m
    by_cases e : x = t
    · subst e; simp (disch := omega) only [bn_s, bv_s, bd_s, gb_0, gb_1, rI_ws, rI_wn, rI_wA, rI_wL, rA_wI, rA_wL, rL_wI, rL_wA, rA_wss, rA_wn, rA_wsn, rL_wss, rL_wn, rL_wsn, rN_wI, rN_wA, rN_wL, if_true]
    · simp (disch := omega) only [bn_s, bv_s, bd_s, gb_0, gb_1, rI_ws, rI_wn, rI_wA, rI_wL, rA_wI, rA_wL, rL_wI, rL_wA, rA_wss, rA_wn, rA_wsn, rL_wss, rL_wn, rL_wsn, rN_wI, rN_wA, rN_wL, if_neg e]
  · unfold mz_m
    by_cases e : x = t
    · subst e; simp (disch := omega) only [bn_s, bv_s, bd_s, gb_0, gb_1, rI_ws, rI_wn, rI_wA, rI_wL, rA_wI, rA_wL, rL_wI, rL_wA, rA_wss, rA_wn, rA_wsn, rL_wss, rL_wn, rL_wsn, rN_wI, rN_wA, rN_wL, if_true]
    · simp (disch := omega) only [bn_s, bv_s, bd_s, gb_0, gb_1, rI_ws, rI_wn, rI_wA, rI_wL, rA_wI, rA_wL, rL_wI, rL_wA, rA_wss, rA_wn, rA_wsn, rL_wss, rL_wn, rL_wsn, rN_wI, rN_wA, rN_wL, if_neg e]
  · unfold mz_m
    by_cases e : x = t
    · subst e; simp (disch := omega) only [bn_s, bv_s, bd_s, gb_0, gb_1, rI_ws, rI_wn, rI_wA, rI_wL, rA_wI, rA_wL, rL_wI, rL_wA, rA_wss, rA_wn, rA_wsn, rL_wss, rL_wn, rL_wsn, rN_wI, rN_wA, rN_wL, if_true]
    · simp (disch := omega) only [bn_s, bv_s, bd_s, gb_0, gb_1, rI_ws, rI_wn, rI_wA, rI_wL, rA_wI, rA_wL, rL_wI, rL_wA, rA_wss, rA_wn, rA_wsn, rL_wss, rL_wn, rL_wsn, rN_wI, rN_wA, rN_wL, if_neg e]
  all_goals (unfold mz_m; simp (disch := omega) only [bn_s, bv_s, bd_s, gb_0, gb_1, rI_ws, rI_wn, rI_wA, rI_wL, rA_wI, rA_wL, rL_wI, rL_wA, rA_wss, rA_wn, rA_wsn, rL_wss, rL_wn, rL_wsn, rN_wI, rN_wA, rN_wL])
theorem vm_mze {m m1 : rs_T} {f t w s : Nat} {o a b : Int32} (h : m1_ok m m1 t w) : vm (mz_e m1 f t o a b s) = v_set (vm m) t o a b w := by
  refine vm_gen h (fun x => ?_) (fun x => ?_) (fun x => ?_) (fun x => ?_) (fun x => ?_) (fun x => ?_) (fun x => ?_)
  · unfold mz_e
    by_cases e : x = t
    · subst e; simp (disch := omega) only [bn_s, bv_s, bd_s, gb_0, gb_1, rI_ws, rI_wn, rI_wA, rI_wL, rA_wI, rA_wL, rL_wI, rL_wA, rA_wss, rA_wn, rA_wsn, rL_wss, rL_wn, rL_wsn, rN_wI, rN_wA, rN_wL, if_true]
    · simp (disch := omega) only [bn_s, bv_s, bd_s, gb_0, gb_1, rI_ws, rI_wn, rI_wA, rI_wL, rA_wI, rA_wL, rL_wI, rL_wA, rA_wss, rA_wn, rA_wsn, rL_wss, rL_wn, rL_wsn, rN_wI, rN_wA, rN_wL, if_neg e]
  · unfold mz_e
    by_cases e : x = t
    · subst e; simp (disch := omega) only [bn_s, bv_s, bd_s, gb_0, gb_1, rI_ws, rI_wn, rI_wA, rI_wL, rA_wI, rA_wL, rL_wI, rL_wA, rA_wss, rA_wn, rA_wsn, rL_wss, rL_wn, rL_wsn, rN_wI, rN_wA, rN_wL, if_true]
    · simp (disch := omega) only [bn_s, bv_s, bd_s, gb_0, gb_1, rI_ws, rI_wn, rI_wA, rI_wL, rA_wI, rA_wL, rL_wI, rL_wA, rA_wss, rA_wn, rA_wsn, rL_wss, rL_wn, rL_wsn, rN_wI, rN_wA, rN_wL, if_neg e]
  · unfold mz_e
    by_cases e : x = t
    · subst e; simp (disch := omega) only [bn_s, bv_s, bd_s, gb_0, gb_1, rI_ws, rI_wn, rI_wA, rI_wL, rA_wI, rA_wL, rL_wI, rL_wA, rA_wss, rA_wn, rA_wsn, rL_wss, rL_wn, rL_wsn, rN_wI, rN_wA, rN_wL, if_true]
    · simp (disch := omega) only [bn_s, bv_s, bd_s, gb_0, gb_1, rI_ws, rI_wn, rI_wA, rI_wL, rA_wI, rA_wL, rL_wI, rL_wA, rA_wss, rA_wn, rA_wsn, rL_wss, rL_wn, rL_wsn, rN_wI, rN_wA, rN_wL, if_neg e]
  all_goals (unfold mz_e; simp (disch := omega) only [bn_s, bv_s, bd_s, gb_0, gb_1, rI_ws, rI_wn, rI_wA, rI_wL, rA_wI, rA_wL, rL_wI, rL_wA, rA_wss, rA_wn, rA_wsn, rL_wss, rL_wn, rL_wsn, rN_wI, rN_wA, rN_wL])
-- the writer's words behind the checks
def m1_T (m1 : rs_T) (V : vw_T) (f t : Nat) (T : ts_T) : Prop := rI m1 3 = nI (T.1.length + 1) ∧ rI m1 4 = nI T.2.2.2.1 ∧
  (¬ T.2.2.2.1 = 0 → match T.2.2.2.2 with
    | none => rI m1 6 = 1
    | some x => rI m1 6 = 0 ∧ rI m1 5 = nI x ∧ x ≤ 8) ∧ wm_L V f m1 T.1 T.2.1 T.2.2.1 ∧ lw_L V (t + 1) T.1 T.2.2.1
theorem m_close {m m1 : rs_T} {f t w s ms : Nat} {o a b : Int32} {T T2 : ts_T} (h : mw_T m f t T) (hm : m1_ok m m1 t w) (h1 : m1_T m1 (v_set (vm m) t o a b w) f t T2) : mw_T (mz_m m1 f t o a b s ms) f (t + 1) T2 := by
  obtain ⟨h0, h2, h3, -⟩ := h
  obtain ⟨k3, k4, k5, k6, k7⟩ := h1
  have ev := vm_mz (f := f) (o := o) (a := a) (b := b) (s := s) (ms := ms) hm
  refine ⟨?_, ?_, ?_, ?_, ?_, ?_, ?_, ?_⟩
  · unfold mz_m; simp (disch := omega) only [bn_s, bv_s, bd_s, gb_0, gb_1, rI_ws, rI_wn, rI_wA, rI_wL, rA_wI, rA_wL, rL_wI, rL_wA, rA_wss, rA_wn, rA_wsn, rL_wss, rL_wn, rL_wsn, rN_wI, rN_wA, rN_wL]; rw [hm.1 0 (by decide) (by decide) (by decide) (by decide)]; exact h0
  · unfold mz_m; simp (disch := omega) only [bn_s, bv_s, bd_s, gb_0, gb_1, rI_ws, rI_wn, rI_wA, rI_wL, rA_wI, rA_wL, rL_wI, rL_wA, rA_wss, rA_wn, rA_wsn, rL_wss, rL_wn, rL_wsn, rN_wI, rN_wA, rN_wL]
  · unfold mz_m; simp (disch := omega) only [bn_s, bv_s, bd_s, gb_0, gb_1, rI_ws, rI_wn, rI_wA, rI_wL, rA_wI, rA_wL, rL_wI, rL_wA, rA_wss, rA_wn, rA_wsn, rL_wss, rL_wn, rL_wsn, rN_wI, rN_wA, rN_wL]; rw [hm.1 2 (by decide) (by decide) (by decide) (by decide)]; exact h3
  · unfold mz_m; simp (disch := omega) only [bn_s, bv_s, bd_s, gb_0, gb_1, rI_ws, rI_wn, rI_wA, rI_wL, rA_wI, rA_wL, rL_wI, rL_wA, rA_wss, rA_wn, rA_wsn, rL_wss, rL_wn, rL_wsn, rN_wI, rN_wA, rN_wL]; exact k3
  · unfold mz_m; simp (disch := omega) only [bn_s, bv_s, bd_s, gb_0, gb_1, rI_ws, rI_wn, rI_wA, rI_wL, rA_wI, rA_wL, rL_wI, rL_wA, rA_wss, rA_wn, rA_wsn, rL_wss, rL_wn, rL_wsn, rN_wI, rN_wA, rN_wL]; exact k4
  · have e5 : rI (mz_m m1 f t o a b s ms) 5 = rI m1 5 := by unfold mz_m; simp (disch := omega) only [bn_s, bv_s, bd_s, gb_0, gb_1, rI_ws, rI_wn, rI_wA, rI_wL, rA_wI, rA_wL, rL_wI, rL_wA, rA_wss, rA_wn, rA_wsn, rL_wss, rL_wn, rL_wsn, rN_wI, rN_wA, rN_wL]
    have e6 : rI (mz_m m1 f t o a b s ms) 6 = rI m1 6 := by unfold mz_m; simp (disch := omega) only [bn_s, bv_s, bd_s, gb_0, gb_1, rI_ws, rI_wn, rI_wA, rI_wL, rA_wI, rA_wL, rL_wI, rL_wA, rA_wss, rA_wn, rA_wsn, rL_wss, rL_wn, rL_wsn, rN_wI, rN_wA, rN_wL]
    rw [e5, e6]; exact k5
  · rw [ev]
    exact wm_keep (fun j i q1 q2 q3 => by unfold mz_m; simp (disch := omega) only [bn_s, bv_s, bd_s, gb_0, gb_1, rI_ws, rI_wn, rI_wA, rI_wL, rA_wI, rA_wL, rL_wI, rL_wA, rA_wss, rA_wn, rA_wsn, rL_wss, rL_wn, rL_wsn, rN_wI, rN_wA, rN_wL]) k6
  · rw [ev]; exact k7
-- what the checks answer
def m_ph (m : rs_T) (f t : Nat) (o a b : Int32) (T : ts_T) (r : Option (Int32 × rs_T)) : Prop :=
  (r = some (0, m) ∧ ∀ w, t_nx (v_set (vm m) t o a b w) f t T = none ∧ ¬ t_fin (v_set (vm m) t o a b w) f t T) ∨
  (∃ (m1 : rs_T) (T2 : ts_T) (w : Nat), r = some (1, m1) ∧ t_nx (v_set (vm m) t o a b w) f t T = some T2 ∧ m1_ok m m1 t w ∧ m1_T m1 (v_set (vm m) t o a b w) f t T2) ∨
  (∃ (m1 : rs_T) (w : Nat), r = some (1, m1) ∧ t_fin (v_set (vm m) t o a b w) f t T ∧ m1_ok m m1 t w ∧ rI m1 3 = 0)
