theorem p2_gb {c : rs_T} {V : vw_T} {f t ms : Nat} {o a b : Int32} {T : ts_T} {r : Option (Int32 × rs_T)} (h : c_p2 c V f t o a b T ms r) : c_p2 c V f t o a b T ms (bn r (fun r st => gb r (some (r, st)))) := by
  rcases h with ⟨e, h⟩ | ⟨m1, T2, w, e, h⟩ | ⟨m1, w, e, h⟩
  · rw [e, bn_s, gb_0]; exact Or.inl ⟨rfl, h⟩
  · rw [e, bn_s, gb_1]; exact Or.inr (Or.inl ⟨m1, T2, w, rfl, h⟩)
  · rw [e, bn_s, gb_1]; exact Or.inr (Or.inr ⟨m1, w, rfl, h⟩)
theorem p2_if {c : rs_T} {V : vw_T} {f t ms : Nat} {o a b : Int32} {T : ts_T} {r : Option (Int32 × rs_T)} (h : c_p2 c V f t o a b T ms r) : c_p2 c V f t o a b T ms (bn r (fun r st => if r = 0 then some (0, st) else some (1, st))) := by
  rcases h with ⟨e, h⟩ | ⟨m1, T2, w, e, h⟩ | ⟨m1, w, e, h⟩
  · rw [e, bn_s, if_pos rfl]; exact Or.inl ⟨rfl, h⟩
  · rw [e, bn_s, if_neg i10]; exact Or.inr (Or.inl ⟨m1, T2, w, rfl, h⟩)
  · rw [e, bn_s, if_neg i10]; exact Or.inr (Or.inr ⟨m1, w, rfl, h⟩)
-- the functions' numbers in the class
def cf_ok (c : rs_T) (V : vw_T) (F : Nat) : Prop := F ≤ 40 ∧ ∀ f, f < F → rA c 0 f = nI (v_p V f) ∧ rA c 1 f = nI (v_r V f) ∧ rA c 2 f = nI (v_c V f) ∧ v_p V f ≤ 8 ∧ v_r V f ≤ 8 ∧ v_c V f ≤ 8
theorem c_adm {c : rs_T} {V : vw_T} {f t ms : Nat} {o a b : Int32} {T : ts_T} (h : cw_T c V f t T) (hb : tb_ok t T) (hlt : t < rN c 0) (ht : t < 512) (hF : cf_ok c V (f + 1)) (hm : rA c 3 f = nI ms) (hms : ms < 100000) (hms2 : T.2.2.1 ≤ ms) (hso : ls_L T.1) (hfirst : ∀ x, T.2.2.2.2 = some x → t_has V T x = true) (hoth : ∀ (q : lb_T) (L : List lb_T) (x : Nat), T.1 = q :: L → q.2.1 = true → x < 1500 → rA c 11 q.1 = nI x → x < t ∧ ¬ x = q.1) (hLn : ln_ok c.2.2.2) : c_p2 c V f t o a b T ms (fx_Wr_admits o a b c) := by
  obtain ⟨h2, h3, h4, h5, h6, h7, h8, hl, hw, hf, hr, hN⟩ := id h
  obtain ⟨c1, c2, c3, c4⟩ := id hb
  obtain ⟨hF1, hF2⟩ := hF
  obtain ⟨p1, p2, p3, p4, p5, p6⟩ := hF2 f (Nat.lt_succ_self f)
  have no : (∀ w, t_nx (v_set V t o a b w) f t T = none) → (∀ w, ¬ t_fin (v_set V t o a b w) f t T) → c_p2 c V f t o a b T ms (some (0, c)) := fun g1 g2 => Or.inl ⟨rfl, fun w => ⟨g1 w, g2 w⟩⟩
  unfold fx_Wr_admits fx_Wr_admits_b13
  rw [h7]
  by_cases hel : T.2.2.2.1 = 0
  · have e0 : ¬ (0 : Int32) < nI T.2.2.2.1 := by rw [hel]; decide
    have e1 : nI T.2.2.2.1 ≤ 0 := by rw [hel]; decide
    rw [if_neg e0]
    by_cases o6 : o = 6
    · rw [if_pos o6, if_pos e1]
      refine no (fun w => ?_) (fun w => nf_op (by rw [o6]; decide))
      unfold t_nx
      rw [vs_o, if_pos o6, if_pos hel]
    rw [if_neg o6]
    by_cases g0 : o ∈ ([0] : List Int32)
    · rw [if_pos g0]
      simp only [List.mem_cons, List.not_mem_nil, or_false] at g0
      subst g0
      refine c_p12 (c_p_die h hb hel hm hms2 (by decide) ?_) hw (by decide) hLn hN.2.2.1 (fun _ _ e => by obtain ⟨s9, e1, e2⟩ := bv_some e; cases e2; exact nf_Wr_die e1)
      unfold t_nx
      rw [vs_o, hel]
      simp (decide := true) only [if_true, if_false]
    rw [if_neg g0]
    by_cases g2 : o ∈ ([2, 3] : List Int32)
    · rw [if_pos g2]
      simp only [List.mem_cons, List.not_mem_nil, or_false] at g2
      have e00 : (0 : Int32) = nI 0 := nI_0.symm
      rw [e00]
      refine p2_gb (c_p_begin (more := 0) h hb hlt ht hel hm hms (g2.elim Or.inl (fun z => Or.inr (Or.inl z))) (by omega) (fun w => ?_) (fun w => nf_op (by rcases g2 with rfl | rfl <;> decide)) hLn)
      unfold t_nx
      rw [vs_o, hel]
      rcases g2 with rfl | rfl <;> simp (decide := true) only [if_true, if_false]
    rw [if_neg g2]
    by_cases g4 : o ∈ ([4] : List Int32)
    · rw [if_pos g4]
      simp only [List.mem_cons, List.not_mem_nil, or_false] at g4
      subst g4
      refine p2_gb (c_p_begin (more := 1) h hb hlt ht hel hm hms (Or.inr (Or.inr rfl)) (by omega) (fun w => ?_) (fun w => nf_op (by decide)) hLn)
      unfold t_nx
      rw [vs_o, hel]
      simp (decide := true) only [if_true, if_false]
    rw [if_neg g4]
    by_cases g5 : o ∈ ([5] : List Int32)
    · rw [if_pos g5]
      simp only [List.mem_cons, List.not_mem_nil, or_false] at g5
      subst g5
      exact p2_gb (c_p12 (c_p_else h hb hlt ht hel hm hms p5 hso) hw (by decide) hLn hN.2.2.1 (fun _ _ e => nf_Wr_admitsElse e))
    rw [if_neg g5]
    by_cases g11 : o ∈ ([11] : List Int32)
    · rw [if_pos g11]
      simp only [List.mem_cons, List.not_mem_nil, or_false] at g11
      subst g11
      exact p2_gb (c_p12 (c_p_end h hb hlt ht hel hm hms p5 hoth) hw (by decide) hLn hN.2.2.1 (fun _ _ e => nf_Wr_admitsEnd e))
    rw [if_neg g11]
    by_cases g12 : o ∈ ([12] : List Int32)
    · rw [if_pos g12]
      simp only [List.mem_cons, List.not_mem_nil, or_false] at g12
      subst g12
      exact p2_gb (c_p12 (c_p_branch h hb hlt hel hm hms2 p5) hw (by decide) hLn hN.2.2.1 (fun _ _ e => nf_Wr_admitsBranch e))
    rw [if_neg g12]
    by_cases g13 : o ∈ ([13] : List Int32)
    · rw [if_pos g13]
      simp only [List.mem_cons, List.not_mem_nil, or_false] at g13
      subst g13
      exact p2_gb (c_p12 (c_p_brif h hb hlt hel hm hms p5) hw (by decide) hLn hN.2.2.1 (fun _ _ e => nf_Wr_admitsBranchIf e))
    rw [if_neg g13]
    by_cases g14 : o ∈ ([14] : List Int32)
    · rw [if_pos g14]
      simp only [List.mem_cons, List.not_mem_nil, or_false] at g14
      subst g14
      exact p2_gb (c_p12 (c_p_table h hb hel hm hms) hw (by decide) hLn hN.2.2.1 (fun _ _ e => nf_Wr_admitsTable e))
    rw [if_neg g14]
    by_cases g15 : o ∈ ([15] : List Int32)
    · rw [if_pos g15]
      simp only [List.mem_cons, List.not_mem_nil, or_false] at g15
      subst g15
      exact p2_gb (c_p12 (c_p_ret h hb hel hm hms2 p5) hw (by decide) hLn hN.2.2.1 (fun _ _ e => nf_Wr_admitsReturn e))
    rw [if_neg g15]
    by_cases g16 : o ∈ ([16] : List Int32)
    · rw [if_pos g16]
      simp only [List.mem_cons, List.not_mem_nil, or_false] at g16
      subst g16
      have hnx : ∀ w, t_nx (v_set V t 16 a b w) f t T = (match t_n a f with
        | none => none
        | some g => t_tu (v_set V t 16 a b w) T (v_p V g) (v_r V g)) := fun w => by
        unfold t_nx
        rw [vs_o, vs_a, hel, vs_p, vs_r]
        simp (decide := true) only [if_true, if_false]
        cases t_n a f <;> rfl
      by_cases ea : a < 0
      · rw [if_pos ea]
        refine no (fun w => ?_) (fun w => nf_op (by decide))
        rw [hnx w, t_n_none (fun j hj e => by rw [e] at ea; exact nI_pos (by omega) ea) (by omega)]
      rw [if_neg ea, h2]
      by_cases ea2 : nI (f + 1) ≤ a
      · rw [if_pos ea2]
        refine no (fun w => ?_) (fun w => nf_op (by decide))
        rw [hnx w, t_n_none (fun j hj e => by rw [e] at ea2; exact nI_ge (show j < f + 1 by omega) (by omega) ea2) (by omega)]
      rw [if_neg ea2]
      obtain ⟨g, hg, eg⟩ := sm_of (x := a) (k := f) (by omega) ea (fun z => ea2 (by
        have y1 := Int32.lt_iff_toInt_lt.mp z
        rw [Int32.le_iff_toInt_le]
        rw [nI_toInt (by omega)] at y1 ⊢
        omega))
      obtain ⟨q1, q2, q3, q4, q5, q6⟩ := hF2 g (by omega)
      rw [eg, gd_k (by omega) (by omega), gd_k (by omega) (by omega), nI_clamp (by omega), q1, q2, ← eg]
      refine p2_if (c_p12 (c_p_turn h hb hel (by omega) q5 hm hms (by decide) (fun w => ?_)) hw (by decide) hLn hN.2.2.1 (fun _ _ e => nf_Wr_exchanges e))
      rw [hnx w, eg, t_n_nI (by omega) hg]
    rw [if_neg g16]
    by_cases g17 : o ∈ ([17] : List Int32)
    · rw [if_pos g17]
      simp only [List.mem_cons, List.not_mem_nil, or_false] at g17
      subst g17
      have hnx : ∀ w, t_nx (v_set V t 17 a b w) f t T = (match t_n a 8, t_n b 8 with
        | some x, some y => t_tu (v_set V t 17 a b w) T (x + 1) y
        | _, _ => none) := fun w => by
        unfold t_nx
        rw [vs_o, vs_a, vs_b, hel]
        simp (decide := true) only [if_true, if_false]
        cases t_n a 8 <;> cases t_n b 8 <;> rfl
      rcases wi_C a 8 (by omega) c with ⟨x, hx, ex, e2⟩ | ⟨ex, e2⟩
      · have e3 : fx_Ma_isWithin a 8 c = some (1, c) := e2
        rw [e3, bn_s, if_neg i10]
        rcases wi_C b 8 (by omega) c with ⟨y, hy, ey, f2⟩ | ⟨ey, f2⟩
        · have f3 : fx_Ma_isWithin b 8 c = some (1, c) := f2
          have eq1 : a + 1 = nI (x + 1) := by rw [ex, nI_1]
          rw [f3, bn_s, if_neg i10, eq1]
          have := p2_if (c_p12 (c_p_turn (o := 17) (a := a) (b := b) h hb hel (show x + 1 ≤ 20 by omega) hy hm hms (by decide) (fun w => by rw [hnx w, ex, ey, t_n_nI (by omega) hx, t_n_nI (by omega) hy])) hw (by decide) hLn hN.2.2.1 (fun _ _ e => nf_Wr_exchanges e))
          rw [← ey] at this
          exact this
        · have f3 : fx_Ma_isWithin b 8 c = some (0, c) := f2
          rw [f3, bn_s, if_pos rfl]
          refine no (fun w => ?_) (fun w => nf_op (by decide))
          rw [hnx w, ex, t_n_nI (by omega) hx, t_n_none ey (by omega)]
      · have e3 : fx_Ma_isWithin a 8 c = some (0, c) := e2
        rw [e3, bn_s, if_pos rfl]
        refine no (fun w => ?_) (fun w => nf_op (by decide))
        rw [hnx w, t_n_none ex (by omega)]
    rw [if_neg g17]
    have ho2 : ¬ o ∈ ([0, 2, 3, 4, 5, 6, 11, 12, 13, 14, 15, 16, 17] : List Int32) := fun z => by
      simp only [List.mem_cons, List.not_mem_nil, or_false] at z g0 g2 g4 g5 g11 g12 g13 g14 g15 g16 g17
      rcases z with z | z | z | z | z | z | z | z | z | z | z | z | z
      · exact g0 z
      · exact g2 (Or.inl z)
      · exact g2 (Or.inr z)
      · exact g4 z
      · exact g5 z
      · exact o6 z
      · exact g11 z
      · exact g12 z
      · exact g13 z
      · exact g14 z
      · exact g15 z
      · exact g16 z
      · exact g17 z
    exact p2_gb (c_p12 (c_p_plain h hb hel hm hms ho2 p1 p3 p4 p6) hw (fun z => ho2 (by
      simp only [List.mem_cons, List.not_mem_nil, or_false] at z ⊢
      rcases z with z | z | z <;> simp [z])) hLn hN.2.2.1 (fun _ _ e => nf_Wr_admitsPlain e))
  · have e0 : (0 : Int32) < nI T.2.2.2.1 := (lit_lt (k := 0) (by omega) (by omega)).mpr (Nat.pos_of_ne_zero hel)
    have e1 : ¬ nI T.2.2.2.1 ≤ 0 := nI_nle (by omega) (by omega)
    rw [if_pos e0, if_neg e1]
    by_cases o6 : o = 6
    · rw [if_pos o6]
      subst o6
      exact p2_if (c_p12 (c_p_entry h hb hlt hel hm hms2 p5 hfirst) hw (by decide) hLn hN.2.2.1 (fun _ _ e => nf_Wr_admitsTableEntry e))
    · rw [if_neg o6]
      refine no (fun w => ?_) (fun w hq => hel hq.2.1)
      unfold t_nx
      rw [vs_o, if_neg o6, if_pos hel]
-- ===== the class's code() =====
def cz_c (c1 : rs_T) (t : Nat) (o a b : Int32) : rs_T := wI (wA (wA (wA c1 7 t o) 8 t a) 9 t b) 4 (nI (t + 1))
def c_cd (c : rs_T) (V : vw_T) (f t : Nat) (o a b : Int32) (T : ts_T) (ms : Nat) (r : Option (Int32 × rs_T)) : Prop :=
  ((∃ g, r = some (-1, wG c g) ∧ ln_ok g ∧ (t ≤ g 0 ∧ rN c 0 ≤ g 0) ∧ g 1 = rN c 1 ∧ g 2 = rN c 2) ∧ ∀ w, t_nx (v_set V t o a b w) f t T = none ∧ ¬ t_fin (v_set V t o a b w) f t T) ∨
  (∃ (c1 : rs_T) (T2 : ts_T) (w : Nat), r = some (nI (t + 1), cz_c c1 t o a b) ∧ t_nx (v_set V t o a b w) f t T = some T2 ∧ c1_ok c c1 f t w (max ms T2.2.2.1) ∧ c1_Z c1 (v_set V t o a b w) f t T2 ∧ lk_step c c1 (v_set V t o a b w) t T ∧ (∀ x, rA c1 5 x = rA c 5 x) ∧ ln_ok c1.2.2.2 ∧ (t + 1 ≤ rN c1 0 ∧ rN c 0 ≤ rN c1 0) ∧ rN c1 2 = rN c 2 ∧ T2.1.length + 1 ≤ rN c1 1) ∨
  (∃ (c1 : rs_T) (w : Nat), r = some (nI (t + 1), cz_c c1 t o a b) ∧ t_fin (v_set V t o a b w) f t T ∧ c1_ok c c1 f t w ms ∧ rI c1 3 = -1 ∧ rI c1 5 = 0 ∧ rI c1 6 = 0 ∧ rI c1 7 = 0 ∧ rA c1 5 f = nI t ∧ (∀ x, ¬ x = f → rA c1 5 x = rA c 5 x) ∧ lk_step c c1 (v_set V t o a b w) t T ∧ ln_ok c1.2.2.2 ∧ (t + 1 ≤ rN c1 0 ∧ rN c 0 ≤ rN c1 0) ∧ rN c1 2 = rN c 2)
theorem ca_code {c : rs_T} {V : vw_T} {f t ms : Nat} {T : ts_T} (o a b : Int32) (h : cw_T c V f t T) (hb : tb_ok t T) (ht : t < 512) (hF : cf_ok c V (f + 1)) (hm : rA c 3 f = nI ms) (hms : ms < 100000) (hms2 : T.2.2.1 ≤ ms) (hso : ls_L T.1) (hfirst : ∀ x, T.2.2.2.2 = some x → t_has V T x = true) (hoth : ∀ (q : lb_T) (L : List lb_T) (x : Nat), T.1 = q :: L → q.2.1 = true → x < 1500 → rA c 11 q.1 = nI x → x < t ∧ ¬ x = q.1) (hLn : ln_ok c.2.2.2) : c_cd c V f t o a b T ms (fx_Ma_code o a b c) := by
  obtain ⟨h2, h3, h4, h5, h6, h7, h8, hl, hw, hf, hr, hN⟩ := id h
  obtain ⟨g, m1, m2, m3, m4, m5⟩ := pr_mk h4 ht hLn hN.1
  have m20 := m2
  unfold ln_ok at m20
  have h' : cw_T (wG c g) V f t T := ⟨h2, h3, h4, h5, h6, h7, h8, wc_keep (c := c) (c2 := wG c g) hw (fun _ _ _ _ _ => rfl) (fun _ _ _ _ _ _ => rfl) hl, hw, hf, hr, by show t ≤ g 0 ∧ g 0 ≤ 1500 ∧ T.1.length + 1 ≤ g 1 ∧ g 1 ≤ 1501; omega⟩
  have hp := c_adm (c := wG c g) (o := o) (a := a) (b := b) h' hb m3.1 ht hF hm hms hms2 hso hfirst hoth m2
  unfold fx_Ma_code fx_Wr_write
  have n3 : ¬ rI c 3 = -1 := by rw [h3]; exact fun z => (nI_m1 (by have := hF.1; omega)).mp z
  rw [bd_s, if_neg n3, h4, m1, bn_s, if_neg i10]
  have w0 : rN (wG c g) 0 = g 0 := rfl
  have w2 : rN (wG c g) 2 = g 2 := rfl
  rcases hp with ⟨e, hp⟩ | ⟨c1, T2, w, e, p1, p2, p3, p4, p5, p6, p7, p8, p9⟩ | ⟨c1, w, e, p1, p2, p3, p4, p5, p6, p7, p8, p9, p10, p11, p12⟩
  · rw [e, bn_s, if_pos rfl, bn_s]
    exact Or.inl ⟨⟨g, rfl, m2, by omega, m4, m5⟩, hp⟩
  · have p60 := p6
    unfold ln_ok at p60
    have q0 : rN c1 0 = c1.2.2.2 0 := rfl
    rw [e, bn_s, if_neg i10, gd_k (by omega) (by omega), gd_k (by omega) (by omega), gd_k (by omega) (by omega), bn_s, nI_clamp (by omega), nI_1]
    exact Or.inr (Or.inl ⟨c1, T2, w, rfl, p1, p2, p3, p4, p5, p6, by omega, p8.trans m5, p9⟩)
  · have p60 := p10
    unfold ln_ok at p60
    have q0 : rN c1 0 = c1.2.2.2 0 := rfl
    rw [e, bn_s, if_neg i10, gd_k (by omega) (by omega), gd_k (by omega) (by omega), gd_k (by omega) (by omega), bn_s, nI_clamp (by omega), nI_1]
    exact Or.inr (Or.inr ⟨c1, w, rfl, p1, p2, p3, p4, p5, p6, p7, p8, p9, p10, by omega, p12.trans m5⟩)
