theorem lk_at_view {c : rs_T} {V V2 : vw_T} {T T2 : Nat → ts_T} {s i : Nat} (hv : v_eq V V2 (i + 1)) (hT : ∀ j, j ≤ i → T2 j = T j) (h : lk_at c V T s i) : lk_at c V2 T2 s i := by
  obtain ⟨k1, k2, k3⟩ := h
  obtain ⟨e1, e2, e3, e4⟩ := hv.1 i (Nat.lt_succ_self i)
  refine ⟨fun o k hk => ?_, fun o => ?_, fun o => ?_⟩
  · rw [e1] at o
    rw [e2, hT i (Nat.le_refl _)] at hk
    rw [hT i (Nat.le_refl _)]
    exact k1 o k hk
  · rw [e1] at o
    have := k2 o
    unfold lk_e2 at this ⊢
    rw [hT i (Nat.le_refl _)]
    cases hL : (T i).1 with
    | nil => rw [hL] at this; exact this
    | cons q L =>
      rw [hL] at this
      simp only [] at this ⊢
      obtain ⟨b1, b2, b3, b4, b5⟩ := this
      refine ⟨b1, b2, b3, b4, fun z => ?_⟩
      obtain ⟨x, x1, x2, x3, x4, x5⟩ := b5 z
      exact ⟨x, x1, x2, (hv.1 x (by omega)).1.trans x3, by rw [hT x (by omega)]; exact x4, x5⟩
  · rw [e1] at o
    rw [hT i (Nat.le_refl _)]
    exact k3 o
theorem lk_op_view {c : rs_T} {V V2 : vw_T} {T T2 : Nat → ts_T} {s t : Nat} (hv : v_eq V V2 t) (hT : ∀ j, j ≤ t → T2 j = T j) (h : lk_op c V T s t) : lk_op c V2 T2 s t := by
  intro q hq
  rw [hT t (Nat.le_refl _)] at hq
  refine ⟨fun z => ?_, (h q hq).2⟩
  obtain ⟨x, x1, x2, x3, x4, x5⟩ := (h q hq).1 z
  exact ⟨x, x1, x2, (hv.1 x x2).1.trans x3, by rw [hT x (by omega)]; exact x4, x5⟩
-- c1_Z over the reference's view
theorem c1_Z_to {c1 : rs_T} {V : vw_T} {f t w1 w2 : Nat} {o a b : Int32} {T T2 : ts_T} (h : c1_Z c1 (v_set V t o a b w2) f t T2) (hl : lw_L V t T.1 T.2.2.1) (hx : t_nx (v_set V t o a b w2) f t T = some T2) (hw : o ∈ ([2, 3, 4] : List Int32) → w1 = w2) : c1_Z c1 (v_set V t o a b w1) f t T2 := by
  by_cases ho : o ∈ ([2, 3, 4] : List Int32)
  · rw [hw ho]; exact h
  · obtain ⟨q1, q2, q3, q4, q5, q6, q7⟩ := h
    obtain ⟨h2, hl2⟩ := nx_old hx (lw_view (v_set_eq V t o a b w2) hl) (by rw [vs_o]; exact ho)
    have hv0 : v_eq (v_set V t o a b w2) (v_set V t o a b w1) t := by
      refine ⟨fun i hi => ?_, Eq.trans rfl rfl, Eq.trans rfl rfl, Eq.trans rfl rfl⟩
      obtain ⟨x1, x2, x3, x4⟩ := (v_set_eq V t o a b w1).1 i hi
      obtain ⟨y1, y2, y3, y4⟩ := (v_set_eq V t o a b w2).1 i hi
      exact ⟨x1.trans y1.symm, x2.trans y2.symm, x3.trans y3.symm, x4.trans y4.symm⟩
    refine ⟨q1, q2, q3, q4, q5, ?_, ?_⟩
    · rw [vs_o, vs_a, vs_b] at q6 ⊢
      exact wc_view hv0 hl2 q6
    · have := lw_view hv0 hl2
      refine lw_h (lw_mono (Nat.le_succ t) (Nat.le_refl _) this) ?_
      rw [ht_view hv0 hl2]
      exact lw_ht q7
theorem pb_wG {c m : rs_T} {T : Nat → ts_T} {S E M : Nat → Nat} {F t : Nat} {w : Bool} {g : Nat → Nat} (h : pb c m T S E M F t w) (hg : ln_ok g) (ht : t ≤ g 0 ∧ rN c 0 ≤ g 0) (h1 : g 1 = rN c 1) : pb (wG c g) m T S E M F t w := by
  obtain ⟨h1', h2, h3, h4, h5, h6, h7, hA, hF, hP, hE, hW, hU, hN, hLn, hLt, hL7⟩ := h
  refine ⟨h1', h2, h3, h4, h5, h6, h7, hA, hF, hP, hE, hW, fun z => ?_, hN, hg, ht.1, fun i hi => hL7 i (by have hi : g 0 ≤ i := hi; omega)⟩
  obtain ⟨f, e1, e2, u1, u2, u3, u4, u5, u6⟩ := hU z
  obtain ⟨a2, a3, a4, a5, a6, a7, a8, al, aw, af, ar, aN⟩ := u6
  have hg0 := hg
  unfold ln_ok at hg0
  exact ⟨f, e1, e2, u1, u2, u3, u4, u5, a2, a3, a4, a5, a6, a7, a8, wc_keep (c := c) (c2 := wG c g) aw (fun _ _ _ _ _ => rfl) (fun _ _ _ _ _ _ => rfl) al, aw, af, ar, by show t ≤ g 0 ∧ g 0 ≤ 1500 ∧ (T t).1.length + 1 ≤ g 1 ∧ g 1 ≤ 1501; omega⟩
theorem pb_code {c m : rs_T} {T : Nat → ts_T} {S E M : Nat → Nat} {F t : Nat} {w : Bool} (h : pb c m T S E M F t w) (ht : t < 512) (o a b : Int32) : ∃ (r : Int32) (c2 m2 : rs_T) (T2 : Nat → ts_T) (E2 M2 : Nat → Nat) (t2 : Nat) (w2 : Bool), fx_Ma_code o a b c = some (r, c2) ∧ fx_Md_code o a b m = some (r, m2) ∧ pb c2 m2 T2 S E2 M2 F t2 w2 ∧ t2 ≤ t + 1 ∧ fr_C c c2 ∧ fr_M m m2 := by
  have hmono := pb_mono h
  obtain ⟨h1, h2, h3, h4, h5, h6, h7, hA, hF, hP, hE, hW, hU, hN, hLn, hLt, hL7⟩ := id h
  cases w with
  | false =>
    obtain ⟨n1, n2, n3, n4⟩ := hN rfl
    refine ⟨-1, c, m, T, E, M, t, false, ?_, ?_, h, by omega, ⟨fun _ _ => rfl, fun _ _ _ => rfl, fun _ _ => rfl, rfl⟩, ⟨fun _ _ => rfl, fun _ _ _ => rfl, fun _ _ => rfl⟩⟩
    · unfold fx_Ma_code fx_Wr_write
      rw [bd_s, if_pos n1, bn_s]
    · unfold fx_Md_code
      rw [h7, b2_f, if_pos rfl]
  | true =>
    obtain ⟨f, rfl, hEt, hu⟩ := hU rfl
    obtain ⟨u1, u2, u3, u4, u5, u6⟩ := hu
    obtain ⟨p1, p2, p3, p4, p5, p6, p7, p8⟩ := hP f (Nat.lt_succ_self f)
    have hst : S f ≤ t := by rw [← hEt]; exact p7
    obtain ⟨g1, g2, g3, g4, g5, g6⟩ := u1.2.2 t hst (Nat.le_refl _)
    have hoth : ∀ (q : lb_T) (L : List lb_T) (x : Nat), (T t).1 = q :: L → q.2.1 = true → x < 1500 → rA c 11 q.1 = nI x → x < t ∧ ¬ x = q.1 := fun q L x hq he hx5 hx => by
      have hm : q ∈ (T t).1 := by rw [hq]; exact List.mem_cons_self
      obtain ⟨x0, x1, x2, x3, x4, x5⟩ := (u3 q hm).1 he
      rw [hx] at x5
      have e := (nI_eq (by omega) (by omega)).mp x5
      subst e
      refine ⟨x2, fun z => ?_⟩
      have := (lw_get g1 q hm).2.2.1
      rw [← z, x3] at this
      exact absurd this (by decide)
    have hmd := md_code (s := S f) (ms := M f) o a b u5 g5 ht hF p2 hst p5 (by omega)
    have hca := ca_code (ms := M f) o a b u6 g5 ht (pb_cf hA hF) p4 (by omega) g4 g2 g6 hoth hLn
    -- what stays, whatever is laid down
    have hold : ∀ (c1 m2 : rs_T) (T2 : Nat → ts_T) (w1 : Nat), vm m2 = v_set (vm m) t o a b w1 → lk_step c c1 (v_set (vm m) t o a b w1) t (T t) → (∀ i, i ≤ t → T2 i = T i) → (∀ x, ¬ x = f → rA c1 5 x = rA c 5 x) → (∀ x, ¬ x = t → rA c1 12 x = rA c 12 x) → ∀ g, g < f → pb_W (cz_c c1 t o a b) m2 T2 g (S g) (E g) (M g) := fun c1 m2 T2 w1 e1 e2 e3 e5 e4 g hg => by
      obtain ⟨z1, z2, z3, z4, z5, z6, z7⟩ := cz_r c1 t o a b
      have hEg := hmono g f hg (Nat.lt_succ_self f)
      have hW' := hW g (by omega) (fun _ => by omega)
      refine pb_W_keep hW' (by rw [e1]; exact v_eq_mono (v_set_eq ..) (by omega)) (fun i hi => e3 i (by omega)) (by rw [z1 5 g (by decide) (by decide) (by decide)]; exact e5 g (by omega)) (fun x hx => ?_) (by omega)
      have hlow := lk_low e2 ht hst (hs_view (v_set_eq ..) g3) (lk_op_view (v_set_eq ..) (fun _ _ => rfl) u3) x (by omega)
      exact ⟨by rw [z1 10 x (by decide) (by decide) (by decide)]; exact hlow.1, by rw [z1 11 x (by decide) (by decide) (by decide)]; exact hlow.2, by rw [z1 12 x (by decide) (by decide) (by decide)]; exact e4 x (by omega)⟩
    have hr8 : ∀ g, g ≤ f → v_r (vm m) g ≤ 8 := fun g hg => (hF.2 g (by omega)).2.2.2.2.1
    have nofin : ∀ {w' : Nat} {T' : ts_T}, t_fin (v_set (vm m) t o a b w') f t (T t) → ¬ t_nx (v_set (vm m) t o a b w') f t (T t) = some T' := fun {w'} {T'} hz hx => by
      have z1 := hz.1
      rcases nx_lab hx with ⟨z, -⟩ | ⟨z, -⟩ | ⟨-, q, L, z, -⟩ | ⟨z, -⟩
      · rw [z1] at z; exact absurd z (by decide)
      · rw [z1] at z; exact absurd z (by decide)
      · rw [hz.2.2.1] at z; cases z
      · rw [z1] at z; exact absurd (by decide) z
    rcases hmd with ⟨em, nm⟩ | ⟨m1, T1, w1, em, xm, om, tm⟩ | ⟨m1, w1, em, xm, om, lm⟩
    · rcases hca with ⟨⟨g, ec, g20, g21, g23, g22⟩, nc⟩ | ⟨c1, T2, w2, ec, xc, -⟩ | ⟨c1, w2, ec, xc, -⟩
      · exact ⟨-1, wG c g, m, T, E, M, t, true, ec, em, pb_wG h g20 g21 g23, by omega, ⟨fun _ _ => rfl, fun _ _ _ => rfl, fun _ _ => rfl, g22⟩, ⟨fun _ _ => rfl, fun _ _ _ => rfl, fun _ _ => rfl⟩⟩
      · rw [(nm w2).1] at xc; cases xc
      · exact absurd xc (nm w2).2
    · rcases hca with ⟨ec, nc⟩ | ⟨c1, T2, w2, ec, xc, oc, tc, kc, fc, ln1, ln2, ln3, ln4⟩ | ⟨c1, w2, ec, xc, -⟩
      · rw [(nc w1).1] at xm; cases xm
      · obtain ⟨eT, ew⟩ := cd_same g1 xm xc
        subst eT
        have tc' := c1_Z_to tc g1 xc ew
        have ln10 := ln1
        unfold ln_ok at ln10
        have ln0 : rN c1 0 = c1.2.2.2 0 := rfl
        have ln9 : rN c1 1 = c1.2.2.2 1 := rfl
        obtain ⟨z1, z2, z3, z4, z5, z6, z7⟩ := cz_r c1 t o a b
        obtain ⟨y1, y2, y3, y4, y5, y6, y7⟩ := mz_r m1 f t o a b (S f) (max (M f) T1.2.2.1)
        have ev := vm_mz (f := f) (o := o) (a := a) (b := b) (s := S f) (ms := max (M f) T1.2.2.1) om
        obtain ⟨o1, o2, o3, o4, o5, o6, o7⟩ := oc
        have hv := v_set_eq (vm m) t o a b w1
        have hTt : (fun i => if i = t + 1 then T1 else T i) t = T t := if_neg (by omega)
        have hT1 : (fun i => if i = t + 1 then T1 else T i) (t + 1) = T1 := if_pos rfl
        have hlo : ∀ i, i ≤ t → (fun i => if i = t + 1 then T1 else T i) i = T i := fun i hi => if_neg (by omega)
        generalize (fun i => if i = t + 1 then T1 else T i) = T' at hTt hT1 hlo
        have hp2 : ∀ j x, 2 ≤ j → j ≤ 4 → rA (mz_m m1 f t o a b (S f) (max (M f) T1.2.2.1)) j x = rA m j x := fun j x q1 q2 => by rw [y2 j x (by omega) (by omega) (by omega) (by omega) (by omega)]; exact om.2.1 j x (Or.inl (by omega))
        have kc' : lk_step c (cz_c c1 t o a b) (v_set (vm m) t o a b w1) t (T' t) := by
          rw [hTt]
          exact lk_step_to kc (by rw [vs_o, vs_o]) (by rw [vs_a, vs_a]) (fun x => z1 10 x (by decide) (by decide) (by decide)) (fun x => z1 11 x (by decide) (by decide) (by decide))
        have xm' : t_nx (v_set (vm m) t o a b w1) f t (T' t) = some (T' (t + 1)) := by rw [hTt, hT1]; exact xm
        obtain ⟨q1, q2, q3, q4, q5, q6, q7⟩ := tc'
        rw [vs_o, vs_a, vs_b] at q6
        have hty : ty_F (v_set (vm m) t o a b w1) T' f (S f) t (M f) := ty_view hv (fun i _ hi => hlo i hi) u1 hst
        have hty2 : ty_F (v_set (vm m) t o a b w1) T' f (S f) (t + 1) (max (M f) T1.2.2.1) := ty_nx hty hst xm' (by rw [hT1]; exact q7) (Nat.le_max_left _ _) (by rw [hT1]; exact Nat.le_max_right _ _) ht (by omega) (fun g hg => by rw [vs_r]; exact hr8 g hg)
        have hbb := (hty2.2.2 (t + 1) (by omega) (Nat.le_refl _)).2.2.2.2.1
        rw [hT1] at hbb
        obtain ⟨d1, d2, d3, d4⟩ := hbb
        have hge := hty.2.2
        have hla : ∀ i, S f ≤ i → i < t → lk_at c (v_set (vm m) t o a b w1) T' (S f) i := fun i i1 i2 => lk_at_view (v_eq_mono hv (by omega)) (fun j hj => hlo j (by omega)) (u2 i i1 i2)
        have hop : lk_op c (v_set (vm m) t o a b w1) T' (S f) t := lk_op_view hv hlo u3
        obtain ⟨r1, r2, r3, r4, r5, r6⟩ := hge t hst (Nat.le_refl _)
        have hla2 := lk_nx kc' ht hst (fun i i1 i2 => (hge i i1 i2).1) r2 r3 (fun i i1 i2 q hq => ((hge i i1 (by omega)).2.2.1 q hq).1) hop (fun o5 q L hq => by
          rcases nx_lab xm' with ⟨z, -⟩ | ⟨-, r, M', e1, -, e5, -⟩ | ⟨z, -⟩ | ⟨z, -⟩
          · rw [o5] at z; exact absurd z (by decide)
          · rw [hq] at e1; cases e1; exact e5
          · rw [o5] at z; exact absurd z (by decide)
          · rw [o5] at z; exact absurd (by decide) z) hla
        have hop2 : lk_op (cz_c c1 t o a b) (v_set (vm m) t o a b w1) T' (S f) (t + 1) := lk_op_nx xm' kc' hst r1 r2 hop (fun q hq he => by
          rw [hT1] at hq
          have := wc_oth q6 q hq he
          rw [z1 11 q.1 (by decide) (by decide) (by decide)]
          have e11 : rA (wA (wA (wA c1 7 t o) 8 t a) 9 t b) 11 q.1 = rA c1 11 q.1 := by simp (disch := omega) only [bn_s, bv_s, bd_s, gb_0, gb_1, rI_ws, rI_wn, rI_wA, rI_wL, rA_wI, rA_wL, rL_wI, rL_wA, rA_wss, rA_wn, rA_wsn, rL_wss, rL_wn, rL_wsn, rN_wI, rN_wA, rN_wL]
          rw [e11] at this
          exact this)
        refine ⟨nI (t + 1), cz_c c1 t o a b, mz_m m1 f t o a b (S f) (max (M f) T1.2.2.1), T', fun g => if g = f then t + 1 else E g, fun g => if g = f then max (M f) T1.2.2.1 else M g, t + 1, true, ec, em, ⟨h1, by omega, ?_, ?_, z4, y4, ?_, ?_, mf_keep hF hp2, fun g hg => ?_, fun g hg => ?_, fun g hg hg2 => ?_, fun _ => ⟨f, rfl, if_pos rfl, ?_⟩, fun z => absurd z.symm Bool.false_ne_true, ln1, ln2.1, fun i hi => ?_⟩, Nat.le_refl _, ⟨fun q hq => ?_, fun j x hj => ?_, fun j x => ?_, ln3⟩, ⟨fun q hq => ?_, fun j x hj => ?_, fun j x => ?_⟩⟩
        · rw [z2 2 (by decide), o1 2 (by decide) (by decide) (by decide) (by decide) (by decide)]; exact h3
        · rw [y1 0 (by decide), om.1 0 (by decide) (by decide) (by decide) (by decide)]; exact h4
        · rw [y1 2 (by decide), om.1 2 (by decide) (by decide) (by decide) (by decide)]; exact h7
        · exact pb_A_nx hA (fun j x q1 q2 => o2 j x (by omega)) (fun j x q1 => o2 j x (by omega)) ev hp2
        · by_cases e : g = f
          · subst e
            show pb_1 _ _ _ _ (if g = g then t + 1 else E g) (if g = g then _ else _) _
            rw [if_pos rfl, if_pos rfl]
            refine ⟨?_, ?_, y5, ?_, y6, by omega, by omega, Nat.le_refl _⟩
            · rw [z1 4 g (by decide) (by decide) (by decide), o2 4 g (by omega)]; exact p1
            · rw [y2 0 g (by decide) (by decide) (by decide) (by decide) (by decide), om.2.1 0 g (by omega)]; exact p2
            · rw [z1 3 g (by decide) (by decide) (by decide)]; exact o4
          · show pb_1 _ _ _ _ (if g = f then t + 1 else E g) (if g = f then _ else M g) _
            rw [if_neg e, if_neg e]
            obtain ⟨b1, b2, b3, b4, b5, b6, b7, b8⟩ := hP g hg
            refine ⟨?_, ?_, ?_, ?_, ?_, b6, b7, by omega⟩
            · rw [z1 4 g (by decide) (by decide) (by decide), o2 4 g (by omega)]; exact b1
            · rw [y2 0 g (by decide) (by decide) (by decide) (by decide) (by decide), om.2.1 0 g (by omega)]; exact b2
            · rw [(y7 g e).1, om.2.1 1 g (by omega)]; exact b3
            · rw [z1 3 g (by decide) (by decide) (by decide), o3 g e]; exact b4
            · rw [(y7 g e).2, om.2.1 5 g (by omega)]; exact b5
        · show (if g = f then t + 1 else E g) ≤ _
          rw [if_neg (by omega)]; exact hE g hg
        · have hgf : g < f := by have := hg2 rfl; omega
          show pb_W _ _ _ _ _ (if g = f then t + 1 else E g) (if g = f then _ else M g)
          rw [if_neg (by omega), if_neg (by omega)]
          exact hold c1 _ T' w1 ev (by rw [← hTt]; exact lk_step_to kc' rfl rfl (fun x => (z1 10 x (by decide) (by decide) (by decide)).symm) (fun x => (z1 11 x (by decide) (by decide) (by decide)).symm)) hlo (fun x _ => fc x) (fun x hx => o5 x hx) g hgf
        · show pb_U _ _ _ _ _ _ (if f = f then _ else M f)
          rw [if_pos rfl]
          refine ⟨by rw [ev]; exact hty2, by rw [ev]; exact hla2, by rw [ev]; exact hop2, ?_, ?_, ?_⟩
          · intro i i1 i2 oo
            rw [ev] at oo ⊢
            rw [z1 12 i (by decide) (by decide) (by decide)]
            rcases Nat.lt_or_ge i t with z | z
            · obtain ⟨e1, e2, e3, e4⟩ := hv.1 i z
              rw [o5 i (by omega), e4]
              exact u4 i i1 z (by rw [← e1]; exact oo)
            · have : i = t := by omega
              subst this
              rcases nx_lab xm with ⟨-, e⟩ | ⟨z5, -⟩ | ⟨z5, -⟩ | ⟨z5, -⟩
              · rw [e] at q6
                have := q6.2.2.1
                have e12 : rA (wA (wA (wA c1 7 i o) 8 i a) 9 i b) 12 i = rA c1 12 i := by simp (disch := omega) only [bn_s, bv_s, bd_s, gb_0, gb_1, rI_ws, rI_wn, rI_wA, rI_wL, rA_wI, rA_wL, rL_wI, rL_wA, rA_wss, rA_wn, rA_wsn, rL_wss, rL_wn, rL_wsn, rN_wI, rN_wA, rN_wL]
                rw [← e12]; exact this
              · rw [z5] at oo; exact absurd oo (by decide)
              · rw [z5] at oo; exact absurd oo (by decide)
              · refine absurd ?_ z5
                simp only [List.mem_cons, List.not_mem_nil, or_false] at oo ⊢
                rcases oo with oo | oo | oo <;> simp [oo]
          · rw [hT1]; exact m_close u5 om tm
          · rw [hT1, ev]
            refine ⟨?_, ?_, z4, ?_, ?_, ?_, ?_, ?_, q7, by omega, ?_, by show t + 1 ≤ rN c1 0 ∧ rN c1 0 ≤ 1500 ∧ T1.1.length + 1 ≤ rN c1 1 ∧ rN c1 1 ≤ 1501; omega⟩
            · rw [z2 2 (by decide), o1 2 (by decide) (by decide) (by decide) (by decide) (by decide)]; exact h3
            · rw [z2 3 (by decide)]; exact q1
            · rw [z2 5 (by decide)]; exact q2
            · rw [z2 6 (by decide)]; exact q3
            · rw [z2 7 (by decide)]; exact q4
            · rw [z2 8 (by decide)]; exact q5
            · unfold cz_c
              refine wc_keep2 (fun j i _ _ _ => ?_) (fun j _ _ _ r _ => ?_) q6
              · simp (disch := omega) only [bn_s, bv_s, bd_s, gb_0, gb_1, rI_ws, rI_wn, rI_wA, rI_wL, rA_wI, rA_wL, rL_wI, rL_wA, rA_wss, rA_wn, rA_wsn, rL_wss, rL_wn, rL_wsn, rN_wI, rN_wA, rN_wL]
              · simp (disch := omega) only [bn_s, bv_s, bd_s, gb_0, gb_1, rI_ws, rI_wn, rI_wA, rI_wL, rA_wI, rA_wL, rL_wI, rL_wA, rA_wss, rA_wn, rA_wsn, rL_wss, rL_wn, rL_wsn, rN_wI, rN_wA, rN_wL]
            · rw [z1 1 f (by decide) (by decide) (by decide), o2 1 f (by omega), vs_r]
              exact u6.2.2.2.2.2.2.2.2.2.2.1
        · have hi : rN c1 0 ≤ i := hi
          have e7 : rA (cz_c c1 t o a b) 7 i = rA c1 7 i := by unfold cz_c; simp (disch := omega) only [bn_s, bv_s, bd_s, gb_0, gb_1, rI_ws, rI_wn, rI_wA, rI_wL, rA_wI, rA_wL, rL_wI, rL_wA, rA_wss, rA_wn, rA_wsn, rL_wss, rL_wn, rL_wsn, rN_wI, rN_wA, rN_wL]
          rw [e7, o2 7 i (by omega)]; exact hL7 i (by omega)
        · rw [z2 q (by omega)]; exact o1 q (by omega) (by omega) (by omega) (by omega) (by omega)
        · rw [z1 j x (by omega) (by omega) (by omega)]; exact o2 j x (by omega)
        · rw [z3]; exact o7 j x
        · rw [y1 q (by omega)]; exact om.1 q (by omega) (by omega) (by omega) (by omega)
        · rw [y2 j x (by omega) (by omega) (by omega) (by omega) (by omega)]; exact om.2.1 j x (by omega)
        · rw [y3]; exact om.2.2.2.2 j x
      · exact absurd xm (nofin (fin_w (w2 := w1) g1 xc))
    · rcases hca with ⟨ec, nc⟩ | ⟨c1, T2, w2, ec, xc, -⟩ | ⟨c1, w2, ec, xc, oc, i3, i5, i6, i7, l5, l5', kc, ln1, ln2, ln3⟩
      · exact absurd xm (nc w1).2
      · exact absurd xc (nofin (fin_w (w2 := w2) g1 xm))
      · obtain ⟨z1, z2, z3, z4, z5, z6, z7⟩ := cz_r c1 t o a b
        obtain ⟨y1, y2, y3, y4, y5, y6, y7⟩ := mze_r m1 f t o a b (S f)
        have ev := vm_mze (f := f) (o := o) (a := a) (b := b) (s := S f) om
        obtain ⟨o1, o2, o3, o4, o5, o6, o7⟩ := oc
        have hv := v_set_eq (vm m) t o a b w1
        have hp2 : ∀ j x, 2 ≤ j → j ≤ 4 → rA (mz_e m1 f t o a b (S f)) j x = rA m j x := fun j x q1 q2 => by rw [y2 j x (by omega) (by omega) (by omega) (by omega)]; exact om.2.1 j x (Or.inl (by omega))
        have kc' : lk_step c (cz_c c1 t o a b) (v_set (vm m) t o a b w1) t (T t) := lk_step_to kc (by rw [vs_o, vs_o]) (by rw [vs_a, vs_a]) (fun x => z1 10 x (by decide) (by decide) (by decide)) (fun x => z1 11 x (by decide) (by decide) (by decide))
        have hty : ty_F (v_set (vm m) t o a b w1) T f (S f) t (M f) := ty_view hv (fun i _ hi => rfl) u1 hst
        have hge := hty.2.2
        have hla : ∀ i, S f ≤ i → i < t → lk_at c (v_set (vm m) t o a b w1) T (S f) i := fun i i1 i2 => lk_at_view (v_eq_mono hv (by omega)) (fun j hj => rfl) (u2 i i1 i2)
        have hop : lk_op c (v_set (vm m) t o a b w1) T (S f) t := lk_op_view hv (fun _ _ => rfl) u3
        obtain ⟨r1, r2, r3, r4, r5, r6⟩ := hge t hst (Nat.le_refl _)
        have ho11 : v_o (v_set (vm m) t o a b w1) t = 11 := xm.1
        have hla2 := lk_nx kc' ht hst (fun i i1 i2 => (hge i i1 i2).1) r2 r3 (fun i i1 i2 q hq => ((hge i i1 (by omega)).2.2.1 q hq).1) hop (fun o5 q L hq => by rw [ho11] at o5; exact absurd o5 (by decide)) hla
        refine ⟨nI (t + 1), cz_c c1 t o a b, mz_e m1 f t o a b (S f), T, fun g => if g = f then t + 1 else E g, M, t + 1, false, ec, em, ⟨h1, by omega, ?_, ?_, z4, y4, y5, ?_, mf_keep hF hp2, fun g hg => ?_, fun g hg => ?_, fun g hg _ => ?_, fun z => absurd z Bool.false_ne_true, fun _ => ⟨?_, ?_, ?_, ?_⟩, ln1, ln2.1, fun i hi => ?_⟩, Nat.le_refl _, ⟨fun q hq => ?_, fun j x hj => ?_, fun j x => ?_, ln3⟩, ⟨fun q hq => ?_, fun j x hj => ?_, fun j x => ?_⟩⟩
        · rw [z2 2 (by decide), o1 2 (by decide) (by decide) (by decide) (by decide) (by decide)]; exact h3
        · rw [y1 0 (by decide) (by decide), om.1 0 (by decide) (by decide) (by decide) (by decide)]; exact h4
        · exact pb_A_nx hA (fun j x q1 q2 => o2 j x (by omega)) (fun j x q1 => o2 j x (by omega)) ev hp2
        · by_cases e : g = f
          · subst e
            show pb_1 _ _ _ _ (if g = g then t + 1 else E g) _ _
            rw [if_pos rfl]
            refine ⟨?_, ?_, y6, ?_, ?_, p6, by omega, Nat.le_refl _⟩
            · rw [z1 4 g (by decide) (by decide) (by decide), o2 4 g (by omega)]; exact p1
            · rw [y2 0 g (by decide) (by decide) (by decide) (by decide), om.2.1 0 g (by omega)]; exact p2
            · rw [z1 3 g (by decide) (by decide) (by decide)]; exact o4
            · rw [y2 5 g (by decide) (by decide) (by decide) (by decide), om.2.1 5 g (by omega)]; exact p5
          · show pb_1 _ _ _ _ (if g = f then t + 1 else E g) _ _
            rw [if_neg e]
            obtain ⟨b1, b2, b3, b4, b5, b6, b7, b8⟩ := hP g hg
            refine ⟨?_, ?_, ?_, ?_, ?_, b6, b7, by omega⟩
            · rw [z1 4 g (by decide) (by decide) (by decide), o2 4 g (by omega)]; exact b1
            · rw [y2 0 g (by decide) (by decide) (by decide) (by decide), om.2.1 0 g (by omega)]; exact b2
            · rw [y7 g e, om.2.1 1 g (by omega)]; exact b3
            · rw [z1 3 g (by decide) (by decide) (by decide), o3 g e]; exact b4
            · rw [y2 5 g (by decide) (by decide) (by decide) (by decide), om.2.1 5 g (by omega)]; exact b5
        · show (if g = f then t + 1 else E g) ≤ _
          rw [if_neg (by omega)]; exact hE g hg
        · show pb_W _ _ _ _ _ (if g = f then t + 1 else E g) _
          by_cases e : g = f
          · subst e
            rw [if_pos rfl]
            refine ⟨by omega, ?_, by rw [ev]; exact hty, by rw [ev]; exact xm, by rw [ev]; exact hla2, ?_⟩
            · rw [z1 5 g (by decide) (by decide) (by decide)]; exact l5
            · intro i i1 i2 oo
              rw [ev] at oo ⊢
              rw [z1 12 i (by decide) (by decide) (by decide)]
              rcases Nat.lt_or_ge i t with z | z
              · obtain ⟨e1, e2, e3, e4⟩ := hv.1 i z
                rw [o5 i (by omega), e4]
                exact u4 i i1 z (by rw [← e1]; exact oo)
              · have : i = t := by omega
                subst this
                rw [ho11] at oo; exact absurd oo (by decide)
          · rw [if_neg e]
            exact hold c1 _ T w1 ev (lk_step_to kc' rfl rfl (fun x => (z1 10 x (by decide) (by decide) (by decide)).symm) (fun x => (z1 11 x (by decide) (by decide) (by decide)).symm)) (fun _ _ => rfl) l5' (fun x hx => o5 x hx) g (by omega)
        · rw [z2 3 (by decide)]; exact i3
        · rw [z2 5 (by decide)]; exact i5
        · rw [z2 6 (by decide)]; exact i6
        · rw [z2 7 (by decide)]; exact i7
        · have hi : rN c1 0 ≤ i := hi
          have e7 : rA (cz_c c1 t o a b) 7 i = rA c1 7 i := by unfold cz_c; simp (disch := omega) only [bn_s, bv_s, bd_s, gb_0, gb_1, rI_ws, rI_wn, rI_wA, rI_wL, rA_wI, rA_wL, rL_wI, rL_wA, rA_wss, rA_wn, rA_wsn, rL_wss, rL_wn, rL_wsn, rN_wI, rN_wA, rN_wL]
          rw [e7, o2 7 i (by omega)]; exact hL7 i (by omega)
        · rw [z2 q (by omega)]; exact o1 q (by omega) (by omega) (by omega) (by omega) (by omega)
        · rw [z1 j x (by omega) (by omega) (by omega)]; exact o2 j x (by omega)
        · rw [z3]; exact o7 j x
        · rw [y1 q (by omega) (by omega)]; exact om.1 q (by omega) (by omega) (by omega) (by omega)
        · rw [y2 j x (by omega) (by omega) (by omega) (by omega)]; exact om.2.1 j x (by omega)
        · rw [y3]; exact om.2.2.2.2 j x
