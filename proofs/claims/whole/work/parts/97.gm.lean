-- ===== code, function and drop again: what stays =====
theorem pK_rfl {c m : rs_T} {T : Nat → ts_T} {S E M : Nat → Nat} {F : Nat} {w : Bool} : pK c m c m T T S S E E M M F F w w := ⟨fun _ => Or.inl rfl, fun _ _ _ => ⟨rfl, rfl, rfl⟩, fun _ h1 h2 => ⟨h1, h2, rfl, rfl, rfl, fun _ _ => ⟨rfl, rfl, rfl, rfl, rfl, rfl, rfl⟩⟩⟩
theorem pK_wG {c m : rs_T} {g : Nat → Nat} {T : Nat → ts_T} {S E M : Nat → Nat} {F : Nat} {w : Bool} : pK c m (wG c g) m T T S S E E M M F F w w := ⟨fun _ => Or.inl rfl, fun _ _ _ => ⟨rfl, rfl, rfl⟩, fun _ h1 h2 => ⟨h1, h2, rfl, rfl, rfl, fun _ _ => ⟨rfl, rfl, rfl, rfl, rfl, rfl, rfl⟩⟩⟩
theorem pb_code2 {c m : rs_T} {T : Nat → ts_T} {S E M : Nat → Nat} {F t : Nat} {w : Bool} (h : pb c m T S E M F t w) (ht : t < 512) (o a b : Int32) : ∃ (r : Int32) (c2 m2 : rs_T) (T2 : Nat → ts_T) (E2 M2 : Nat → Nat) (t2 : Nat) (w2 : Bool), fx_Ma_code o a b c = some (r, c2) ∧ fx_Md_code o a b m = some (r, m2) ∧ pb c2 m2 T2 S E2 M2 F t2 w2 ∧ t2 ≤ t + 1 ∧ fr_C c c2 ∧ fr_M m m2 ∧ pK c m c2 m2 T T2 S S E E2 M M2 F F w w2 := by
  have hmono := pb_mono h
  obtain ⟨h1, h2, h3, h4, h5, h6, h7, hA, hF, hP, hE, hW, hU, hN, hLn, hLt, hL7⟩ := id h
  cases w with
  | false =>
    obtain ⟨n1, n2, n3, n4⟩ := hN rfl
    refine ⟨-1, c, m, T, E, M, t, false, ?_, ?_, h, by omega, ⟨fun _ _ => rfl, fun _ _ _ => rfl, fun _ _ => rfl, rfl⟩, ⟨fun _ _ => rfl, fun _ _ _ => rfl, fun _ _ => rfl⟩, pK_rfl⟩
    · unfold fx_Ma_code fx_Wr_write
      rw [bd_s, if_pos n1, bn_s]
    · unfold fx_Md_code
      rw [h7, b2_f, if_pos rfl]
  | true =>
    obtain ⟨f, rfl, hEt, hu⟩ := hU rfl
    obtain ⟨u1, u2, u3, u4, u5, u6⟩ := hu
    obtain ⟨p1, p2, p3, p4, p5, p6, p7, p8⟩ := hP f (Nat.lt_succ_self f)
    have hst : S f ≤ t := by rw [← hEt]; exact p7
    obtain ⟨g1, g2, g3, g4, g5, g6⟩ := u1.2.2 t hst (Nat.le_refl _)
    have hoth : ∀ (q : lb_T) (L : List lb_T) (x : Nat), (T t).1 = q :: L → q.2.1 = true → x < 1500 → rA c 11 q.1 = nI x → x < t ∧ ¬ x = q.1 := fun q L x hq he hx5 hx => by
      have hm : q ∈ (T t).1 := by rw [hq]; exact List.mem_cons_self
      obtain ⟨x0, x1, x2, x3, x4, x5⟩ := (u3 q hm).1 he
      rw [hx] at x5
      have e := (nI_eq (by omega) (by omega)).mp x5
      subst e
      refine ⟨x2, fun z => ?_⟩
      have := (lw_get g1 q hm).2.2.1
      rw [← z, x3] at this
      exact absurd this (by decide)
    have hmd := md_code (s := S f) (ms := M f) o a b u5 g5 ht hF p2 hst p5 (by omega)
    have hca := ca_code (ms := M f) o a b u6 g5 ht (pb_cf hA hF) p4 (by omega) g4 g2 g6 hoth hLn
    -- what stays, whatever is laid down
    have hold : ∀ (c1 m2 : rs_T) (T2 : Nat → ts_T) (w1 : Nat), vm m2 = v_set (vm m) t o a b w1 → lk_step c c1 (v_set (vm m) t o a b w1) t (T t) → (∀ i, i ≤ t → T2 i = T i) → (∀ x, ¬ x = f → rA c1 5 x = rA c 5 x) → (∀ x, ¬ x = t → rA c1 12 x = rA c 12 x) → ∀ g, g < f → pb_W (cz_c c1 t o a b) m2 T2 g (S g) (E g) (M g) := fun c1 m2 T2 w1 e1 e2 e3 e5 e4 g hg => by
      obtain ⟨z1, z2, z3, z4, z5, z6, z7⟩ := cz_r c1 t o a b
      have hEg := hmono g f hg (Nat.lt_succ_self f)
      have hW' := hW g (by omega) (fun _ => by omega)
      refine pb_W_keep hW' (by rw [e1]; exact v_eq_mono (v_set_eq ..) (by omega)) (fun i hi => e3 i (by omega)) (by rw [z1 5 g (by decide) (by decide) (by decide)]; exact e5 g (by omega)) (fun x hx => ?_) (by omega)
      have hlow := lk_low e2 ht hst (hs_view (v_set_eq ..) g3) (lk_op_view (v_set_eq ..) (fun _ _ => rfl) u3) x (by omega)
      exact ⟨by rw [z1 10 x (by decide) (by decide) (by decide)]; exact hlow.1, by rw [z1 11 x (by decide) (by decide) (by decide)]; exact hlow.2, by rw [z1 12 x (by decide) (by decide) (by decide)]; exact e4 x (by omega)⟩
    have hpk : ∀ (c1 m2 : rs_T) (T2 : Nat → ts_T) (E2 M2 : Nat → Nat) (w1 : Nat) (w2 : Bool), vm m2 = v_set (vm m) t o a b w1 → lk_step c c1 (v_set (vm m) t o a b w1) t (T t) → (∀ i, i ≤ t → T2 i = T i) → (∀ g, g < f → E2 g = E g ∧ M2 g = M g) → (∀ x, rA m2 9 x = rA m 9 x ∨ 0 ≤ (rA m2 9 x).toInt) → pK c m (cz_c c1 t o a b) m2 T T2 S S E E2 M M2 (f + 1) (f + 1) true w2 := fun c1 m2 T2 E2 M2 w1 w2 e1 e2 e3 e4 e5 => by
      obtain ⟨z1, z2, z3, z4, z5, z6, z7⟩ := cz_r c1 t o a b
      have hv := v_set_eq (vm m) t o a b w1
      rw [← e1] at hv
      refine ⟨e5, fun g hg _ => ⟨by rw [hv.2.1], by rw [hv.2.2.1], by rw [hv.2.2.2]⟩, fun g hg hg2 => ?_⟩
      have hgf : g < f := by have := hg2 rfl; omega
      have hEg := hmono g f hgf (Nat.lt_succ_self f)
      refine ⟨by omega, fun _ => by omega, rfl, (e4 g hgf).1, (e4 g hgf).2, fun i hi => ?_⟩
      obtain ⟨x1, x2, x3, x4⟩ := hv.1 i (by omega)
      have hlow := lk_low e2 ht hst (hs_view (v_set_eq ..) g3) (lk_op_view (v_set_eq ..) (fun _ _ => rfl) u3) i (by omega)
      exact ⟨e3 i (by omega), x1, x2, x3, x4, by rw [z1 10 i (by decide) (by decide) (by decide)]; exact hlow.1, by rw [z1 11 i (by decide) (by decide) (by decide)]; exact hlow.2⟩
    have hr8 : ∀ g, g ≤ f → v_r (vm m) g ≤ 8 := fun g hg => (hF.2 g (by omega)).2.2.2.2.1
    have nofin : ∀ {w' : Nat} {T' : ts_T}, t_fin (v_set (vm m) t o a b w') f t (T t) → ¬ t_nx (v_set (vm m) t o a b w') f t (T t) = some T' := fun {w'} {T'} hz hx => by
      have z1 := hz.1
      rcases nx_lab hx with ⟨z, -⟩ | ⟨z, -⟩ | ⟨-, q, L, z, -⟩ | ⟨z, -⟩
      · rw [z1] at z; exact absurd z (by decide)
      · rw [z1] at z; exact absurd z (by decide)
      · rw [hz.2.2.1] at z; cases z
      · rw [z1] at z; exact absurd (by decide) z
    rcases hmd with ⟨em, nm⟩ | ⟨m1, T1, w1, em, xm, om, tm⟩ | ⟨m1, w1, em, xm, om, lm⟩
    · rcases hca with ⟨⟨g, ec, g20, g21, g23, g22⟩, nc⟩ | ⟨c1, T2, w2, ec, xc, -⟩ | ⟨c1, w2, ec, xc, -⟩
      · exact ⟨-1, wG c g, m, T, E, M, t, true, ec, em, pb_wG h g20 g21 g23, by omega, ⟨fun _ _ => rfl, fun _ _ _ => rfl, fun _ _ => rfl, g22⟩, ⟨fun _ _ => rfl, fun _ _ _ => rfl, fun _ _ => rfl⟩, pK_wG⟩
      · rw [(nm w2).1] at xc; cases xc
      · exact absurd xc (nm w2).2
    · rcases hca with ⟨ec, nc⟩ | ⟨c1, T2, w2, ec, xc, oc, tc, kc, fc, ln1, ln2, ln3, ln4⟩ | ⟨c1, w2, ec, xc, -⟩
      · rw [(nc w1).1] at xm; cases xm
      · obtain ⟨eT, ew⟩ := cd_same g1 xm xc
        subst eT
        have tc' := c1_Z_to tc g1 xc ew
        have ln10 := ln1
        unfold ln_ok at ln10
        have ln0 : rN c1 0 = c1.2.2.2 0 := rfl
        have ln9 : rN c1 1 = c1.2.2.2 1 := rfl
        obtain ⟨z1, z2, z3, z4, z5, z6, z7⟩ := cz_r c1 t o a b
        obtain ⟨y1, y2, y3, y4, y5, y6, y7⟩ := mz_r m1 f t o a b (S f) (max (M f) T1.2.2.1)
        have ev := vm_mz (f := f) (o := o) (a := a) (b := b) (s := S f) (ms := max (M f) T1.2.2.1) om
        obtain ⟨o1, o2, o3, o4, o5, o6, o7⟩ := oc
        have hv := v_set_eq (vm m) t o a b w1
        have hTt : (fun i => if i = t + 1 then T1 else T i) t = T t := if_neg (by omega)
        have hT1 : (fun i => if i = t + 1 then T1 else T i) (t + 1) = T1 := if_pos rfl
        have hlo : ∀ i, i ≤ t → (fun i => if i = t + 1 then T1 else T i) i = T i := fun i hi => if_neg (by omega)
        generalize (fun i => if i = t + 1 then T1 else T i) = T' at hTt hT1 hlo
        have hp2 : ∀ j x, 2 ≤ j → j ≤ 4 → rA (mz_m m1 f t o a b (S f) (max (M f) T1.2.2.1)) j x = rA m j x := fun j x q1 q2 => by rw [y2 j x (by omega) (by omega) (by omega) (by omega) (by omega)]; exact om.2.1 j x (Or.inl (by omega))
        have kc' : lk_step c (cz_c c1 t o a b) (v_set (vm m) t o a b w1) t (T' t) := by
          rw [hTt]
          exact lk_step_to kc (by rw [vs_o, vs_o]) (by rw [vs_a, vs_a]) (fun x => z1 10 x (by decide) (by decide) (by decide)) (fun x => z1 11 x (by decide) (by decide) (by decide))
        have xm' : t_nx (v_set (vm m) t o a b w1) f t (T' t) = some (T' (t + 1)) := by rw [hTt, hT1]; exact xm
        obtain ⟨q1, q2, q3, q4, q5, q6, q7⟩ := tc'
        rw [vs_o, vs_a, vs_b] at q6
        have hty : ty_F (v_set (vm m) t o a b w1) T' f (S f) t (M f) := ty_view hv (fun i _ hi => hlo i hi) u1 hst
        have hty2 : ty_F (v_set (vm m) t o a b w1) T' f (S f) (t + 1) (max (M f) T1.2.2.1) := ty_nx hty hst xm' (by rw [hT1]; exact q7) (Nat.le_max_left _ _) (by rw [hT1]; exact Nat.le_max_right _ _) ht (by omega) (fun g hg => by rw [vs_r]; exact hr8 g hg)
        have hbb := (hty2.2.2 (t + 1) (by omega) (Nat.le_refl _)).2.2.2.2.1
        rw [hT1] at hbb
        obtain ⟨d1, d2, d3, d4⟩ := hbb
        have hge := hty.2.2
        have hla : ∀ i, S f ≤ i → i < t → lk_at c (v_set (vm m) t o a b w1) T' (S f) i := fun i i1 i2 => lk_at_view (v_eq_mono hv (by omega)) (fun j hj => hlo j (by omega)) (u2 i i1 i2)
        have hop : lk_op c (v_set (vm m) t o a b w1) T' (S f) t := lk_op_view hv hlo u3
        obtain ⟨r1, r2, r3, r4, r5, r6⟩ := hge t hst (Nat.le_refl _)
        have hla2 := lk_nx kc' ht hst (fun i i1 i2 => (hge i i1 i2).1) r2 r3 (fun i i1 i2 q hq => ((hge i i1 (by omega)).2.2.1 q hq).1) hop (fun o5 q L hq => by
          rcases nx_lab xm' with ⟨z, -⟩ | ⟨-, r, M', e1, -, e5, -⟩ | ⟨z, -⟩ | ⟨z, -⟩
          · rw [o5] at z; exact absurd z (by decide)
          · rw [hq] at e1; cases e1; exact e5
          · rw [o5] at z; exact absurd z (by decide)
          · rw [o5] at z; exact absurd (by decide) z) hla
        have hop2 : lk_op (cz_c c1 t o a b) (v_set (vm m) t o a b w1) T' (S f) (t + 1) := lk_op_nx xm' kc' hst r1 r2 hop (fun q hq he => by
          rw [hT1] at hq
          have := wc_oth q6 q hq he
          rw [z1 11 q.1 (by decide) (by decide) (by decide)]
          have e11 : rA (wA (wA (wA c1 7 t o) 8 t a) 9 t b) 11 q.1 = rA c1 11 q.1 := by simp (disch := omega) only [bn_s, bv_s, bd_s, gb_0, gb_1, rI_ws, rI_wn, rI_wA, rI_wL, rA_wI, rA_wL, rL_wI, rL_wA, rA_wss, rA_wn, rA_wsn, rL_wss, rL_wn, rL_wsn, rN_wI, rN_wA, rN_wL]
          rw [e11] at this
          exact this)
        have hx9 : ∀ x, rA m1 9 x = rA m 9 x ∨ 0 ≤ (rA m1 9 x).toInt := fun x => by
          by_cases e : x = t
          · subst e; exact om.2.2.2.1.2
          · exact Or.inl (om.2.2.1 x e)
        refine ⟨nI (t + 1), cz_c c1 t o a b, mz_m m1 f t o a b (S f) (max (M f) T1.2.2.1), T', fun g => if g = f then t + 1 else E g, fun g => if g = f then max (M f) T1.2.2.1 else M g, t + 1, true, ec, em, ⟨h1, by omega, ?_, ?_, z4, y4, ?_, ?_, mf_keep hF hp2, fun g hg => ?_, fun g hg => ?_, fun g hg hg2 => ?_, fun _ => ⟨f, rfl, if_pos rfl, ?_⟩, fun z => absurd z.symm Bool.false_ne_true, ln1, ln2.1, fun i hi => ?_⟩, Nat.le_refl _, ⟨fun q hq => ?_, fun j x hj => ?_, fun j x => ?_, ln3⟩, ⟨fun q hq => ?_, fun j x hj => ?_, fun j x => ?_⟩, hpk c1 _ T' _ _ w1 true ev (by rw [← hTt]; exact lk_step_to kc' rfl rfl (fun x => (z1 10 x (by decide) (by decide) (by decide)).symm) (fun x => (z1 11 x (by decide) (by decide) (by decide)).symm)) hlo (fun g hg => ⟨if_neg (by omega), if_neg (by omega)⟩) (fun x => by rw [y2 9 x (by decide) (by decide) (by decide) (by decide) (by decide)]; exact hx9 x)⟩
        · rw [z2 2 (by decide), o1 2 (by decide) (by decide) (by decide) (by decide) (by decide)]; exact h3
        · rw [y1 0 (by decide), om.1 0 (by decide) (by decide) (by decide) (by decide)]; exact h4
        · rw [y1 2 (by decide), om.1 2 (by decide) (by decide) (by decide) (by decide)]; exact h7
        · exact pb_A_nx hA (fun j x q1 q2 => o2 j x (by omega)) (fun j x q1 => o2 j x (by omega)) ev hp2
        · by_cases e : g = f
          · subst e
            show pb_1 _ _ _ _ (if g = g then t + 1 else E g) (if g = g then _ else _) _
            rw [if_pos rfl, if_pos rfl]
            refine ⟨?_, ?_, y5, ?_, y6, by omega, by omega, Nat.le_refl _⟩
            · rw [z1 4 g (by decide) (by decide) (by decide), o2 4 g (by omega)]; exact p1
            · rw [y2 0 g (by decide) (by decide) (by decide) (by decide) (by decide), om.2.1 0 g (by omega)]; exact p2
            · rw [z1 3 g (by decide) (by decide) (by decide)]; exact o4
          · show pb_1 _ _ _ _ (if g = f then t + 1 else E g) (if g = f then _ else M g) _
            rw [if_neg e, if_neg e]
            obtain ⟨b1, b2, b3, b4, b5, b6, b7, b8⟩ := hP g hg
            refine ⟨?_, ?_, ?_, ?_, ?_, b6, b7, by omega⟩
            · rw [z1 4 g (by decide) (by decide) (by decide), o2 4 g (by omega)]; exact b1
            · rw [y2 0 g (by decide) (by decide) (by decide) (by decide) (by decide), om.2.1 0 g (by omega)]; exact b2
            · rw [(y7 g e).1, om.2.1 1 g (by omega)]; exact b3
            · rw [z1 3 g (by decide) (by decide) (by decide), o3 g e]; exact b4
            · rw [(y7 g e).2, om.2.1 5 g (by omega)]; exact b5
        · show (if g = f then t + 1 else E g) ≤ _
          rw [if_neg (by omega)]; exact hE g hg
        · have hgf : g < f := by have := hg2 rfl; omega
          show pb_W _ _ _ _ _ (if g = f then t + 1 else E g) (if g = f then _ else M g)
          rw [if_neg (by omega), if_neg (by omega)]
          exact hold c1 _ T' w1 ev (by rw [← hTt]; exact lk_step_to kc' rfl rfl (fun x => (z1 10 x (by decide) (by decide) (by decide)).symm) (fun x => (z1 11 x (by decide) (by decide) (by decide)).symm)) hlo (fun x _ => fc x) (fun x hx => o5 x hx) g hgf
        · show pb_U _ _ _ _ _ _ (if f = f then _ else M f)
          rw [if_pos rfl]
          refine ⟨by rw [ev]; exact hty2, by rw [ev]; exact hla2, by rw [ev]; exact hop2, ?_, ?_, ?_⟩
          · intro i i1 i2 oo
            rw [ev] at oo ⊢
            rw [z1 12 i (by decide) (by decide) (by decide)]
            rcases Nat.lt_or_ge i t with z | z
            · obtain ⟨e1, e2, e3, e4⟩ := hv.1 i z
              rw [o5 i (by omega), e4]
              exact u4 i i1 z (by rw [← e1]; exact oo)
            · have : i = t := by omega
              subst this
              rcases nx_lab xm with ⟨-, e⟩ | ⟨z5, -⟩ | ⟨z5, -⟩ | ⟨z5, -⟩
              · rw [e] at q6
                have := q6.2.2.1
                have e12 : rA (wA (wA (wA c1 7 i o) 8 i a) 9 i b) 12 i = rA c1 12 i := by simp (disch := omega) only [bn_s, bv_s, bd_s, gb_0, gb_1, rI_ws, rI_wn, rI_wA, rI_wL, rA_wI, rA_wL, rL_wI, rL_wA, rA_wss, rA_wn, rA_wsn, rL_wss, rL_wn, rL_wsn, rN_wI, rN_wA, rN_wL]
                rw [← e12]; exact this
              · rw [z5] at oo; exact absurd oo (by decide)
              · rw [z5] at oo; exact absurd oo (by decide)
              · refine absurd ?_ z5
                simp only [List.mem_cons, List.not_mem_nil, or_false] at oo ⊢
                rcases oo with oo | oo | oo <;> simp [oo]
          · rw [hT1]; exact m_close u5 om tm
          · rw [hT1, ev]
            refine ⟨?_, ?_, z4, ?_, ?_, ?_, ?_, ?_, q7, by omega, ?_, by show t + 1 ≤ rN c1 0 ∧ rN c1 0 ≤ 1500 ∧ T1.1.length + 1 ≤ rN c1 1 ∧ rN c1 1 ≤ 1501; omega⟩
            · rw [z2 2 (by decide), o1 2 (by decide) (by decide) (by decide) (by decide) (by decide)]; exact h3
            · rw [z2 3 (by decide)]; exact q1
            · rw [z2 5 (by decide)]; exact q2
            · rw [z2 6 (by decide)]; exact q3
            · rw [z2 7 (by decide)]; exact q4
            · rw [z2 8 (by decide)]; exact q5
            · unfold cz_c
              refine wc_keep2 (fun j i _ _ _ => ?_) (fun j _ _ _ r _ => ?_) q6
              · simp (disch := omega) only [bn_s, bv_s, bd_s, gb_0, gb_1, rI_ws, rI_wn, rI_wA, rI_wL, rA_wI, rA_wL, rL_wI, rL_wA, rA_wss, rA_wn, rA_wsn, rL_wss, rL_wn, rL_wsn, rN_wI, rN_wA, rN_wL]
              · simp (disch := omega) only [bn_s, bv_s, bd_s, gb_0, gb_1, rI_ws, rI_wn, rI_wA, rI_wL, rA_wI, rA_wL, rL_wI, rL_wA, rA_wss, rA_wn, rA_wsn, rL_wss, rL_wn, rL_wsn, rN_wI, rN_wA, rN_wL]
            · rw [z1 1 f (by decide) (by decide) (by decide), o2 1 f (by omega), vs_r]
              exact u6.2.2.2.2.2.2.2.2.2.2.1
        · have hi : rN c1 0 ≤ i := hi
          have e7 : rA (cz_c c1 t o a b) 7 i = rA c1 7 i := by unfold cz_c; simp (disch := omega) only [bn_s, bv_s, bd_s, gb_0, gb_1, rI_ws, rI_wn, rI_wA, rI_wL, rA_wI, rA_wL, rL_wI, rL_wA, rA_wss, rA_wn, rA_wsn, rL_wss, rL_wn, rL_wsn, rN_wI, rN_wA, rN_wL]
          rw [e7, o2 7 i (by omega)]; exact hL7 i (by omega)
        · rw [z2 q (by omega)]; exact o1 q (by omega) (by omega) (by omega) (by omega) (by omega)
        · rw [z1 j x (by omega) (by omega) (by omega)]; exact o2 j x (by omega)
        · rw [z3]; exact o7 j x
        · rw [y1 q (by omega)]; exact om.1 q (by omega) (by omega) (by omega) (by omega)
        · rw [y2 j x (by omega) (by omega) (by omega) (by omega) (by omega)]; exact om.2.1 j x (by omega)
        · rw [y3]; exact om.2.2.2.2 j x
      · exact absurd xm (nofin (fin_w (w2 := w1) g1 xc))
    · rcases hca with ⟨ec, nc⟩ | ⟨c1, T2, w2, ec, xc, -⟩ | ⟨c1, w2, ec, xc, oc, i3, i5, i6, i7, l5, l5', kc, ln1, ln2, ln3⟩
      · exact absurd xm (nc w1).2
      · exact absurd xc (nofin (fin_w (w2 := w2) g1 xm))
      · obtain ⟨z1, z2, z3, z4, z5, z6, z7⟩ := cz_r c1 t o a b
        obtain ⟨y1, y2, y3, y4, y5, y6, y7⟩ := mze_r m1 f t o a b (S f)
        have ev := vm_mze (f := f) (o := o) (a := a) (b := b) (s := S f) om
        obtain ⟨o1, o2, o3, o4, o5, o6, o7⟩ := oc
        have hv := v_set_eq (vm m) t o a b w1
        have hp2 : ∀ j x, 2 ≤ j → j ≤ 4 → rA (mz_e m1 f t o a b (S f)) j x = rA m j x := fun j x q1 q2 => by rw [y2 j x (by omega) (by omega) (by omega) (by omega)]; exact om.2.1 j x (Or.inl (by omega))
        have kc' : lk_step c (cz_c c1 t o a b) (v_set (vm m) t o a b w1) t (T t) := lk_step_to kc (by rw [vs_o, vs_o]) (by rw [vs_a, vs_a]) (fun x => z1 10 x (by decide) (by decide) (by decide)) (fun x => z1 11 x (by decide) (by decide) (by decide))
        have hty : ty_F (v_set (vm m) t o a b w1) T f (S f) t (M f) := ty_view hv (fun i _ hi => rfl) u1 hst
        have hge := hty.2.2
        have hla : ∀ i, S f ≤ i → i < t → lk_at c (v_set (vm m) t o a b w1) T (S f) i := fun i i1 i2 => lk_at_view (v_eq_mono hv (by omega)) (fun j hj => rfl) (u2 i i1 i2)
        have hop : lk_op c (v_set (vm m) t o a b w1) T (S f) t := lk_op_view hv (fun _ _ => rfl) u3
        obtain ⟨r1, r2, r3, r4, r5, r6⟩ := hge t hst (Nat.le_refl _)
        have ho11 : v_o (v_set (vm m) t o a b w1) t = 11 := xm.1
        have hla2 := lk_nx kc' ht hst (fun i i1 i2 => (hge i i1 i2).1) r2 r3 (fun i i1 i2 q hq => ((hge i i1 (by omega)).2.2.1 q hq).1) hop (fun o5 q L hq => by rw [ho11] at o5; exact absurd o5 (by decide)) hla
        have hx9 : ∀ x, rA m1 9 x = rA m 9 x ∨ 0 ≤ (rA m1 9 x).toInt := fun x => by
          by_cases e : x = t
          · subst e; exact om.2.2.2.1.2
          · exact Or.inl (om.2.2.1 x e)
        refine ⟨nI (t + 1), cz_c c1 t o a b, mz_e m1 f t o a b (S f), T, fun g => if g = f then t + 1 else E g, M, t + 1, false, ec, em, ⟨h1, by omega, ?_, ?_, z4, y4, y5, ?_, mf_keep hF hp2, fun g hg => ?_, fun g hg => ?_, fun g hg _ => ?_, fun z => absurd z Bool.false_ne_true, fun _ => ⟨?_, ?_, ?_, ?_⟩, ln1, ln2.1, fun i hi => ?_⟩, Nat.le_refl _, ⟨fun q hq => ?_, fun j x hj => ?_, fun j x => ?_, ln3⟩, ⟨fun q hq => ?_, fun j x hj => ?_, fun j x => ?_⟩, hpk c1 _ T _ _ w1 false ev (lk_step_to kc' rfl rfl (fun x => (z1 10 x (by decide) (by decide) (by decide)).symm) (fun x => (z1 11 x (by decide) (by decide) (by decide)).symm)) (fun _ _ => rfl) (fun g hg => ⟨if_neg (by omega), rfl⟩) (fun x => by rw [y2 9 x (by decide) (by decide) (by decide) (by decide)]; exact hx9 x)⟩
        · rw [z2 2 (by decide), o1 2 (by decide) (by decide) (by decide) (by decide) (by decide)]; exact h3
        · rw [y1 0 (by decide) (by decide), om.1 0 (by decide) (by decide) (by decide) (by decide)]; exact h4
        · exact pb_A_nx hA (fun j x q1 q2 => o2 j x (by omega)) (fun j x q1 => o2 j x (by omega)) ev hp2
        · by_cases e : g = f
          · subst e
            show pb_1 _ _ _ _ (if g = g then t + 1 else E g) _ _
            rw [if_pos rfl]
            refine ⟨?_, ?_, y6, ?_, ?_, p6, by omega, Nat.le_refl _⟩
            · rw [z1 4 g (by decide) (by decide) (by decide), o2 4 g (by omega)]; exact p1
            · rw [y2 0 g (by decide) (by decide) (by decide) (by decide), om.2.1 0 g (by omega)]; exact p2
            · rw [z1 3 g (by decide) (by decide) (by decide)]; exact o4
            · rw [y2 5 g (by decide) (by decide) (by decide) (by decide), om.2.1 5 g (by omega)]; exact p5
          · show pb_1 _ _ _ _ (if g = f then t + 1 else E g) _ _
            rw [if_neg e]
            obtain ⟨b1, b2, b3, b4, b5, b6, b7, b8⟩ := hP g hg
            refine ⟨?_, ?_, ?_, ?_, ?_, b6, b7, by omega⟩
            · rw [z1 4 g (by decide) (by decide) (by decide), o2 4 g (by omega)]; exact b1
            · rw [y2 0 g (by decide) (by decide) (by decide) (by decide), om.2.1 0 g (by omega)]; exact b2
            · rw [y7 g e, om.2.1 1 g (by omega)]; exact b3
            · rw [z1 3 g (by decide) (by decide) (by decide), o3 g e]; exact b4
            · rw [y2 5 g (by decide) (by decide) (by decide) (by decide), om.2.1 5 g (by omega)]; exact b5
        · show (if g = f then t + 1 else E g) ≤ _
          rw [if_neg (by omega)]; exact hE g hg
        · show pb_W _ _ _ _ _ (if g = f then t + 1 else E g) _
          by_cases e : g = f
          · subst e
            rw [if_pos rfl]
            refine ⟨by omega, ?_, by rw [ev]; exact hty, by rw [ev]; exact xm, by rw [ev]; exact hla2, ?_⟩
            · rw [z1 5 g (by decide) (by decide) (by decide)]; exact l5
            · intro i i1 i2 oo
              rw [ev] at oo ⊢
              rw [z1 12 i (by decide) (by decide) (by decide)]
              rcases Nat.lt_or_ge i t with z | z
              · obtain ⟨e1, e2, e3, e4⟩ := hv.1 i z
                rw [o5 i (by omega), e4]
                exact u4 i i1 z (by rw [← e1]; exact oo)
              · have : i = t := by omega
                subst this
                rw [ho11] at oo; exact absurd oo (by decide)
          · rw [if_neg e]
            exact hold c1 _ T w1 ev (lk_step_to kc' rfl rfl (fun x => (z1 10 x (by decide) (by decide) (by decide)).symm) (fun x => (z1 11 x (by decide) (by decide) (by decide)).symm)) (fun _ _ => rfl) l5' (fun x hx => o5 x hx) g (by omega)
        · rw [z2 3 (by decide)]; exact i3
        · rw [z2 5 (by decide)]; exact i5
        · rw [z2 6 (by decide)]; exact i6
        · rw [z2 7 (by decide)]; exact i7
        · have hi : rN c1 0 ≤ i := hi
          have e7 : rA (cz_c c1 t o a b) 7 i = rA c1 7 i := by unfold cz_c; simp (disch := omega) only [bn_s, bv_s, bd_s, gb_0, gb_1, rI_ws, rI_wn, rI_wA, rI_wL, rA_wI, rA_wL, rL_wI, rL_wA, rA_wss, rA_wn, rA_wsn, rL_wss, rL_wn, rL_wsn, rN_wI, rN_wA, rN_wL]
          rw [e7, o2 7 i (by omega)]; exact hL7 i (by omega)
        · rw [z2 q (by omega)]; exact o1 q (by omega) (by omega) (by omega) (by omega) (by omega)
        · rw [z1 j x (by omega) (by omega) (by omega)]; exact o2 j x (by omega)
        · rw [z3]; exact o7 j x
        · rw [y1 q (by omega) (by omega)]; exact om.1 q (by omega) (by omega) (by omega) (by omega)
        · rw [y2 j x (by omega) (by omega) (by omega) (by omega)]; exact om.2.1 j x (by omega)
        · rw [y3]; exact om.2.2.2.2 j x
theorem pb_drop2 {c m : rs_T} {T : Nat → ts_T} {S E M : Nat → Nat} {F t : Nat} {w : Bool} (h : pb c m T S E M F t w) : (w = false ∧ fx_Ma_drop c = some (0, c) ∧ fx_Md_drop m = some (0, m)) ∨ ∃ (c2 m2 : rs_T) (f : Nat), w = true ∧ F = f + 1 ∧ fx_Ma_drop c = some (1, c2) ∧ fx_Md_drop m = some (1, m2) ∧ pb c2 m2 T S E M f (S f) false ∧ S f ≤ t ∧ fr_C c c2 ∧ fr_M m m2 ∧ pK c m c2 m2 T T S S E E M M F f w false := by
  have hmono := pb_mono h
  obtain ⟨h1, h2, h3, h4, h5, h6, h7, hA, hF, hP, hE, hW, hU, hN, hLn, hLt, hL7⟩ := id h
  cases w with
  | false =>
    obtain ⟨n3, -⟩ := hN rfl
    refine Or.inl ⟨rfl, ?_, ?_⟩
    · unfold fx_Ma_drop fx_Wr_abandon
      rw [if_pos n3, bn_s, gb_0]
    · unfold fx_Md_drop
      rw [h7, b2_f, if_pos rfl]
  | true =>
    obtain ⟨f, rfl, hEt, hu⟩ := hU rfl
    obtain ⟨p1, p2, p3, p4, p5, p6, p7, p8⟩ := hP f (Nat.lt_succ_self f)
    have c3 : rI c 3 = nI f := hu.2.2.2.2.2.2.1
    have n3 : ¬ rI c 3 = -1 := by rw [c3]; exact fun z => (nI_m1 (by omega)).mp z
    refine Or.inr ⟨wI (wI (wI (wI (wI (wI c 4 (nI (S f))) 2 (nI f)) 3 (-1)) 5 0) 6 0) 7 0, wI (wI (wI (wI m 0 (nI f)) 1 (nI (S f))) 2 0) 3 0, f, rfl, rfl, ?_, ?_, ?_, by omega, ?_, ?_, fun _ => Or.inl rfl, fun _ _ _ => ⟨rfl, rfl, rfl⟩, fun g h1 h2 => ⟨by have := h2 rfl; omega, fun z => absurd z Bool.false_ne_true, rfl, rfl, rfl, fun _ _ => ⟨rfl, rfl, rfl, rfl, rfl, rfl, rfl⟩⟩⟩
    · unfold fx_Ma_drop fx_Wr_abandon fx_Wr_stop
      rw [if_neg n3, c3, gd_k (by first | omega | (simp only [rN_wI, rN_wA, rN_wL]; omega)) (by first | omega | (simp only [rN_wI, rN_wA, rN_wL]; omega)), nI_clamp (by omega), p1, bv_s, bn_s, gb_1]
    · have n2 : ¬ rI m 2 = 0 := by rw [h7]; exact i10
      unfold fx_Md_drop
      rw [if_neg n2, h4, nI_pred, gd_k (by first | omega | (simp only [rN_wI, rN_wA, rN_wL]; omega)) (by first | omega | (simp only [rN_wI, rN_wA, rN_wL]; omega)), nI_clamp (by omega), p2]
    · have hvm : vm (wI (wI (wI (wI m 0 (nI f)) 1 (nI (S f))) 2 0) 3 0) = vm m := rfl
      refine ⟨by omega, by omega, ?_, ?_, ?_, ?_, ?_, hA, ?_, fun g hg => ?_, fun g hg => hE g (by omega), fun g hg _ => ?_, fun z => absurd z Bool.false_ne_true, fun _ => ⟨?_, ?_, ?_, ?_⟩, hLn, by show S f ≤ rN c 0; omega, hL7⟩
      · simp (disch := omega) only [bn_s, bv_s, bd_s, gb_0, gb_1, rI_ws, rI_wn, rI_wA, rI_wL, rA_wI, rA_wL, rL_wI, rL_wA, rA_wss, rA_wn, rA_wsn, rL_wss, rL_wn, rL_wsn, rN_wI, rN_wA, rN_wL]
      · simp (disch := omega) only [bn_s, bv_s, bd_s, gb_0, gb_1, rI_ws, rI_wn, rI_wA, rI_wL, rA_wI, rA_wL, rL_wI, rL_wA, rA_wss, rA_wn, rA_wsn, rL_wss, rL_wn, rL_wsn, rN_wI, rN_wA, rN_wL]
      · simp (disch := omega) only [bn_s, bv_s, bd_s, gb_0, gb_1, rI_ws, rI_wn, rI_wA, rI_wL, rA_wI, rA_wL, rL_wI, rL_wA, rA_wss, rA_wn, rA_wsn, rL_wss, rL_wn, rL_wsn, rN_wI, rN_wA, rN_wL]
      · simp (disch := omega) only [bn_s, bv_s, bd_s, gb_0, gb_1, rI_ws, rI_wn, rI_wA, rI_wL, rA_wI, rA_wL, rL_wI, rL_wA, rA_wss, rA_wn, rA_wsn, rL_wss, rL_wn, rL_wsn, rN_wI, rN_wA, rN_wL]
      · simp (disch := omega) only [bn_s, bv_s, bd_s, gb_0, gb_1, rI_ws, rI_wn, rI_wA, rI_wL, rA_wI, rA_wL, rL_wI, rL_wA, rA_wss, rA_wn, rA_wsn, rL_wss, rL_wn, rL_wsn, rN_wI, rN_wA, rN_wL]; rfl
      · exact ⟨by omega, fun g hg => hF.2 g (by omega)⟩
      · obtain ⟨b1, b2, b3, b4, b5, b6, b7, b8⟩ := hP g (by omega)
        have := hmono g f hg (Nat.lt_succ_self f)
        exact ⟨b1, b2, b3, b4, b5, b6, b7, this⟩
      · exact hW g (by omega) (fun _ => by omega)
      · simp (disch := omega) only [bn_s, bv_s, bd_s, gb_0, gb_1, rI_ws, rI_wn, rI_wA, rI_wL, rA_wI, rA_wL, rL_wI, rL_wA, rA_wss, rA_wn, rA_wsn, rL_wss, rL_wn, rL_wsn, rN_wI, rN_wA, rN_wL]
      · simp (disch := omega) only [bn_s, bv_s, bd_s, gb_0, gb_1, rI_ws, rI_wn, rI_wA, rI_wL, rA_wI, rA_wL, rL_wI, rL_wA, rA_wss, rA_wn, rA_wsn, rL_wss, rL_wn, rL_wsn, rN_wI, rN_wA, rN_wL]
      · simp (disch := omega) only [bn_s, bv_s, bd_s, gb_0, gb_1, rI_ws, rI_wn, rI_wA, rI_wL, rA_wI, rA_wL, rL_wI, rL_wA, rA_wss, rA_wn, rA_wsn, rL_wss, rL_wn, rL_wsn, rN_wI, rN_wA, rN_wL]
      · simp (disch := omega) only [bn_s, bv_s, bd_s, gb_0, gb_1, rI_ws, rI_wn, rI_wA, rI_wL, rA_wI, rA_wL, rL_wI, rL_wA, rA_wss, rA_wn, rA_wsn, rL_wss, rL_wn, rL_wsn, rN_wI, rN_wA, rN_wL]
    · refine ⟨fun q hq => ?_, fun j x hj => rfl, fun j x => rfl, rfl⟩
      simp (disch := omega) only [bn_s, bv_s, bd_s, gb_0, gb_1, rI_ws, rI_wn, rI_wA, rI_wL, rA_wI, rA_wL, rL_wI, rL_wA, rA_wss, rA_wn, rA_wsn, rL_wss, rL_wn, rL_wsn, rN_wI, rN_wA, rN_wL]
    · refine ⟨fun q hq => ?_, fun j x hj => rfl, fun j x => rfl⟩
      simp (disch := omega) only [bn_s, bv_s, bd_s, gb_0, gb_1, rI_ws, rI_wn, rI_wA, rI_wL, rA_wI, rA_wL, rL_wI, rL_wA, rA_wss, rA_wn, rA_wsn, rL_wss, rL_wn, rL_wsn, rN_wI, rN_wA, rN_wL]
