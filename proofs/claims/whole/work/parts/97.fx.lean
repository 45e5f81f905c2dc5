-- ===== one step: call, call by table =====
theorem nx_16 {V : vw_T} {f i : Nat} {T T2 : ts_T} (h : t_nx V f i T = some T2) (ho : v_o V i = 16) : ∃ g, t_n (v_a V i) f = some g ∧ t_tu V T (v_p V g) (v_r V g) = some T2 := by
  rcases nx_cases h with ⟨o, -, -⟩ | ⟨-, hc⟩
  · rw [ho] at o; exact absurd o (by decide)
  rcases hc with ⟨o, -⟩ | ⟨o, -⟩ | ⟨o, -⟩ | ⟨o, -⟩ | ⟨o, -⟩ | ⟨o, -⟩ | ⟨o, -⟩ | ⟨o, -⟩ | ⟨o, -⟩ | ⟨o, g, h1, h2⟩ | ⟨o, -⟩ | ⟨o, -⟩
  · rw [ho] at o; exact absurd o (by decide)
  · rw [ho] at o; exact absurd o (by decide)
  · rw [ho] at o; exact absurd o (by decide)
  · rw [ho] at o; exact absurd o (by decide)
  · rw [ho] at o; exact absurd o (by decide)
  · rw [ho] at o; exact absurd o (by decide)
  · rw [ho] at o; exact absurd o (by decide)
  · rw [ho] at o; exact absurd o (by decide)
  · rw [ho] at o; exact absurd o (by decide)
  · exact ⟨g, h1, h2⟩
  · rw [ho] at o; exact absurd o (by decide)
  · rw [ho] at o; exact absurd o (by decide)
theorem nx_17 {V : vw_T} {f i : Nat} {T T2 : ts_T} (h : t_nx V f i T = some T2) (ho : v_o V i = 17) : ∃ x y, t_n (v_a V i) 8 = some x ∧ t_n (v_b V i) 8 = some y ∧ t_tu V T (x + 1) y = some T2 := by
  rcases nx_cases h with ⟨o, -, -⟩ | ⟨-, hc⟩
  · rw [ho] at o; exact absurd o (by decide)
  rcases hc with ⟨o, -⟩ | ⟨o, -⟩ | ⟨o, -⟩ | ⟨o, -⟩ | ⟨o, -⟩ | ⟨o, -⟩ | ⟨o, -⟩ | ⟨o, -⟩ | ⟨o, -⟩ | ⟨o, -⟩ | ⟨o, x, y, h1, h2, h3⟩ | ⟨o, -⟩
  · rw [ho] at o; exact absurd o (by decide)
  · rw [ho] at o; exact absurd o (by decide)
  · rw [ho] at o; exact absurd o (by decide)
  · rw [ho] at o; exact absurd o (by decide)
  · rw [ho] at o; exact absurd o (by decide)
  · rw [ho] at o; exact absurd o (by decide)
  · rw [ho] at o; exact absurd o (by decide)
  · rw [ho] at o; exact absurd o (by decide)
  · rw [ho] at o; exact absurd o (by decide)
  · rw [ho] at o; exact absurd o (by decide)
  · exact ⟨x, y, h1, h2, h3⟩
  · rw [ho] at o; exact absurd o (by decide)
theorem SR_16 {N : Nat} {c m : rs_T} {T : Nat → ts_T} {S E M : Nat → Nat} {F t : Nat} {w : Bool} {KK : Nat → Nat → kT} {ZZ : Nat → Nat → Int32} {QS QE : Nat → Nat} {G : List fr_T} {f at_ b s : Nat} {r : Bool} {b' : Int32} (h : IB c m T S E M F t w KK ZZ QS QE) (hR : R0 c m (vm m) T S E M F w KK G f at_ r b s) (hs1 : rI m 9 = 1) (hN : 5000 ≤ N) (ho : v_o (vm m) at_ = 16) : SR N c m T S E M F t w 16 (v_a (vm m) at_) b' r := by
  obtain ⟨x1, x2, x3, x4, x5, x6, x7, x8, x9, x10, x11, x12, x13, x14, x15, x16, x17, -⟩ := cx h hR
  obtain ⟨p1, p2, p3, p4, p5, p6, p7, p8, p9, p10, p11, p12, p13⟩ := pctx h hR (by rw [ho]; decide)
  obtain ⟨g, hg1, hg2⟩ := nx_16 p5 ho
  obtain ⟨hg3, hg4⟩ := t_n_some (by omega) hg1
  obtain ⟨t1, t2, t3⟩ := tl_tu p6 hg2
  have hwf : wh_F F w f := hR.2.1.1.2.2.1
  have hg : wh_F F w g := ⟨by have := hwf.1; omega, fun z => by have := hwf.2 z; omega⟩
  obtain ⟨f1, f2, f3, f4, f5, f6, f7, f8, f9⟩ := pb_fn h.1 hg.1
  have h7 : rA c 7 at_ = 16 := (x1.1 at_).1.trans ho
  have h8 : rA c 8 at_ = nI g := (x1.1 at_).2.1.trans hg4
  refine SR_en (h0 := (T at_).2.2.1) (g := g) (mm := m) h hR hs1 hN hg (Nat.le_refl _) t1 p4 t3 (by rw [t2]) (m13_0 m) x13 ?_ (fun hr => ?_) (fun hr => ?_)
  · unfold msb
    rw [if_neg (by decide), if_neg (by decide), if_neg (by decide), if_neg (by decide), if_neg (by decide), if_neg (by decide), if_pos (by decide), hg4]
  · subst hr
    obtain ⟨r1, ⟨-, -, -, -, -, -, -, -, b9, -⟩, -⟩ := hR
    obtain ⟨c18', c20, c17⟩ := b9 rfl
    refine ⟨_, c18_0 c G.length at_, rfl, ?_⟩
    rw [sp_eq x6 x5 x2 c18' x3 x4, h7, if_pos (by decide), if_pos (by decide), if_pos (by decide), if_pos (by decide)]
    unfold fx_Sr_control fx_Sr_invoke
    rw [if_neg (by decide), if_neg (by decide), if_neg (by decide), if_neg (by decide), if_neg (by decide), if_neg (by decide), if_pos (by decide), gd_k (by first | omega | (simp only [rN_wI, rN_wA, rN_wL]; omega)) (by first | omega | (simp only [rN_wI, rN_wA, rN_wL]; omega)), nI_clamp (by omega), rA_wn (by decide), h8, gd_k x5 (by omega), gd_k (by first | omega | (simp only [rN_wI, rN_wA, rN_wL]; omega)) (by first | omega | (simp only [rN_wI, rN_wA, rN_wL]; omega)), nI_clamp (by omega), nI_clamp (by omega), rA_wn (by decide), c20, rA_wn (by decide), f1, nI_sub (by omega), show b + nm (vm m) f + (T at_).2.2.1 - v_p (vm m) g = b + nm (vm m) f + ((T at_).2.2.1 - v_p (vm m) g) by omega, bv_id, bv_id]
  · subst hr
    have hR1 := hR
    obtain ⟨r1, ⟨hfC, -⟩, -⟩ := hR1
    obtain ⟨sz0, z1, z2, z3, z4, z5, z6, z7, z8⟩ := rg_ctx h hfC
    obtain ⟨sz, y1', y2', y3', y4'⟩ := R0_tR h hR hs1
    unfold kcV at z5
    rw [ho, hg4, nI_clamp (by omega)] at z5
    obtain ⟨q1, p1', m1, m2, m3⟩ := z5.2.2.2.2.2.2.2.2.2.2.2.2.2.2.2.2.2.2.2.1 rfl
    have hqe : q1 + 1 ≤ QE f := by rw [m3] at z6; exact z6
    obtain ⟨c2, W2, e1, e2, e3, e4, e5, e6, e7⟩ := fill_run (N := N) (c := wI c 17 (rI c 17 + 1)) (V := vm m) (m := m) (s := s) (h := (T at_).2.2.1) (by omega) x1 y3' (Nat.le_refl _) (by omega) (mv_17 _ m1) (fV_keep x15 (by omega) (fun _ _ _ => rfl) (fun _ _ _ => rfl))
    have e4' : cY c c2 G.length b := ⟨fun k hk => (e4.1 k hk).trans (rI_wn hk), fun i x hx => e4.2.1 i x hx, fun i y hy => e4.2.2.1 i y hy, e4.2.2.2⟩
    obtain ⟨i1, i2, i3, i4, i5, i6⟩ := cY_ci e4' m2
    obtain ⟨t1', t2', t3', t4', t5', t6', t7', t8', t9', t10'⟩ := id e3
    refine ⟨sz, c2, _, q1, p1', W2, by omega, e1, e3, e4', e5, fun x y1 y2 => e6 x y1 y2, fun x hx => e7 x (fun z => by omega), m3, by omega, i2, ?_⟩
    rw [rp_eq (j := G.length) (by rw [rI_wn (by decide)]; exact t3') t4' (by first | omega | (simp only [rN_wI, rN_wA, rN_wL]; omega))]
    rw [rA_wI, rA_wI, rA_wI, i1, if_neg (by decide), if_pos (by decide), if_pos (by decide), if_pos (by decide)]
    unfold fx_Rr_control
    rw [if_neg (by decide), if_neg (by decide), if_neg (by decide), if_neg (by decide), if_neg (by decide), if_neg (by decide), if_pos (by decide), gd_k (by first | omega | (simp only [rN_wI, rN_wA, rN_wL]; omega)) (by first | omega | (simp only [rN_wI, rN_wA, rN_wL]; omega)), gd_k (by first | omega | (simp only [rN_wI, rN_wA, rN_wL]; omega)) (by first | omega | (simp only [rN_wI, rN_wA, rN_wL]; omega)), gd_k (by first | omega | (simp only [rN_wI, rN_wA, rN_wL]; omega)) (by first | omega | (simp only [rN_wI, rN_wA, rN_wL]; omega)), nI_clamp (by omega), nI_clamp (by omega), ga _ _ _ _ _ (by decide), i5, ga _ _ _ _ _ (by decide), t9', ga _ _ _ _ _ (by decide), i4, nI_add, ← Nat.add_assoc, bv_id]
theorem fd_both {N : Nat} {c m cc : rs_T} {T : Nat → ts_T} {S E M : Nat → Nat} {F t : Nat} {w : Bool} {P x y : Nat} (hpb : pb c m T S E M F t w) (hwb : wb c m F w) (hx : x ≤ 8) (hy : y ≤ 8) (h13 : rI m 13 = nI (P + 1)) (hP : P < 700) (hcI : ∀ k, k < 10 → rI cc k = rI c k) (hcA : ∀ i z, i < 17 → rA cc i z = rA c i z) : (∃ z : Nat, z ≤ 8 ∧ 6 ≤ z ∧ fx_Wo_find (rL m 2 P) (nI x) (nI y) cc = some (- nI z, cc) ∧ fx_Md_callTable N (nI x) (nI y) m = some (wI (wI (wI m 13 (nI P)) 9 3) 10 (nI z))) ∨ (∃ g, wh_F F w g ∧ v_p (vm m) g = x ∧ v_r (vm m) g = y ∧ fx_Wo_find (rL m 2 P) (nI x) (nI y) cc = some (nI g, cc) ∧ fx_Md_callTable N (nI x) (nI y) m = fx_Md_enter N (nI g) (wI m 13 (nI P))) := by
  obtain ⟨g0, eg⟩ : ∃ g, g = (rL m 2 P).toBitVec.toNat % 4294967296 := ⟨_, rfl⟩
  have hlow := low_lN (rL m 2 P)
  rw [← eg] at hlow
  have hg0 : g0 < 4294967296 := by omega
  have hcmp : (lg_cmp (lN g0) 30 < (0 : Int32)) ↔ g0 < 30 := by
    rw [lc_lt]
    exact pk_lLT (a := g0) (b := 30) (by omega) (by omega)
  by_cases z30 : g0 < 30
  · obtain ⟨b1, -⟩ := hwb
    obtain ⟨t1, t2⟩ := b1 g0 z30
    have hC0 : fx_Wo_find (rL m 2 P) (nI x) (nI y) cc = bn (fx_Pr_isWhole (rA m 16 g0) cc) (fun r6 st5 => if r6 = (0 : Int32) then (some ((-7), st5)) else (gd (rA m 16 g0) 40 (if (rA st5 0 (rA m 16 g0).toNatClampNeg) = (nI x) then (gd (rA m 16 g0) 40 (if (rA st5 1 (rA m 16 g0).toNatClampNeg) = (nI y) then (fx_Wo_find_b72 (rA m 16 g0) 1 st5) else (fx_Wo_find_b71 (rA m 16 g0) st5))) else (fx_Wo_find_b71 (rA m 16 g0) st5)))) := by
      unfold fx_Wo_find
      rw [hlow, bd_s, if_pos (hcmp.mpr z30), lN_i, gd_k z30 (by omega), bd_s, nI_clamp (by omega), hcA 15 g0 (by decide), t1]
    have hM0 : fx_Md_callTable N (nI x) (nI y) m = (if (0 : Int32) ≤ rA m 16 g0 then (gd (rA m 16 g0) 40 (if (rA m 2 (rA m 16 g0).toNatClampNeg) = nI x then (gd (rA m 16 g0) 40 (if (rA m 3 (rA m 16 g0).toNatClampNeg) = nI y then (fx_Md_enter N (rA m 16 g0) (wI m 13 (nI P))) else (fx_Md_callTable_b83 N (wI m 13 (nI P))))) else (fx_Md_callTable_b83 N (wI m 13 (nI P))))) else (some (wI (wI (wI m 13 (nI P)) 9 3) 10 7))) := by
      unfold fx_Md_callTable
      rw [m_pop h13 hP, bn_s, hlow, bd_s, if_neg (fun z => Int32.not_le.mpr (hcmp.mpr z30) z), lN_i, gd_k z30 (by omega), nI_clamp (by omega), rA_wI]
      unfold fx_Md_callTable_b28 fx_Md_traps
      rw [if_pos (hcmp.mpr z30), bv_id, bv_s]
      rfl
    have hisw : ∀ v : Int32, fx_Pr_isWhole (rA m 16 g0) c = some (v, c) → fx_Pr_isWhole (rA m 16 g0) cc = some (v, cc) := fun v hv => by
      unfold fx_Pr_isWhole at hv ⊢
      rw [hcI 2 (by decide), hcI 3 (by decide)]
      by_cases a1 : rA m 16 g0 < 0
      · rw [if_pos a1] at hv ⊢
        have := (Prod.mk.inj (Option.some.inj hv)).1
        rw [← this]
      · rw [if_neg a1] at hv ⊢
        by_cases a2 : rI c 2 ≤ rA m 16 g0
        · rw [if_pos a2] at hv ⊢
          have := (Prod.mk.inj (Option.some.inj hv)).1
          rw [← this]
        · rw [if_neg a2] at hv ⊢
          by_cases a3 : rA m 16 g0 = rI c 3
          · rw [if_pos a3] at hv ⊢
            have := (Prod.mk.inj (Option.some.inj hv)).1
            rw [← this]
          · rw [if_neg a3] at hv ⊢
            have := (Prod.mk.inj (Option.some.inj hv)).1
            rw [← this]
    rcases t2 with t2 | ⟨g, hg, t2⟩
    · have hw0 : fx_Pr_isWhole (rA m 16 g0) cc = some (0, cc) := by
        rw [t2]
        unfold fx_Pr_isWhole
        rw [if_pos (by decide)]
      refine Or.inl ⟨7, by omega, by omega, ?_, ?_⟩
      · rw [hC0, hw0, bn_s, if_pos rfl]
        rfl
      · rw [hM0, t2, if_neg (by decide)]
        rfl
    · have hg40 : g < 40 := by have := hg.1; have := hpb.1; omega
      obtain ⟨f1, f2, f3, f4, f5, f6, f7, f8, f9⟩ := pb_fn hpb hg.1
      have hw1 : fx_Pr_isWhole (rA m 16 g0) cc = some (1, cc) := by
        rcases iw_both hpb (rA m 16 g0) with ⟨g', -, e, e2, -⟩ | ⟨e, -, -⟩
        · exact hisw 1 e2
        · exact absurd t2 (e g hg)
      rw [hw1, bn_s, if_neg (by decide), t2, gd_k hg40 (by omega), nI_clamp (by omega), hcA 0 g (by decide), f1, hcA 1 g (by decide), f2] at hC0
      rw [t2, if_pos (z_le (by omega)), gd_k hg40 (by omega), nI_clamp (by omega), f4, f5] at hM0
      by_cases zx : v_p (vm m) g = x
      · rw [if_pos (by rw [zx]), gd_k hg40 (by omega)] at hC0 hM0
        by_cases zy : v_r (vm m) g = y
        · refine Or.inr ⟨g, hg, zx, zy, ?_, ?_⟩
          · rw [hC0, if_pos (by rw [zy])]
            unfold fx_Wo_find_b72
            rw [if_neg (by decide)]
          · rw [hM0, if_pos (by rw [zy])]
        · have hne : ¬ nI (v_r (vm m) g) = nI y := fun z => zy ((nI_eq (by omega) (by omega)).mp z)
          refine Or.inl ⟨8, by omega, by omega, ?_, ?_⟩
          · rw [hC0, if_neg hne]
            unfold fx_Wo_find_b71 fx_Wo_find_b72
            rw [if_pos rfl]
            rfl
          · rw [hM0, if_neg hne]
            unfold fx_Md_callTable_b83 fx_Md_traps
            rw [bv_s]
            rfl
      · have hne : ¬ nI (v_p (vm m) g) = nI x := fun z => zx ((nI_eq (by omega) (by omega)).mp z)
        refine Or.inl ⟨8, by omega, by omega, ?_, ?_⟩
        · rw [hC0, if_neg hne]
          unfold fx_Wo_find_b71 fx_Wo_find_b72
          rw [if_pos rfl]
          rfl
        · rw [hM0, if_neg hne]
          unfold fx_Md_callTable_b83 fx_Md_traps
          rw [bv_s]
          rfl
  · refine Or.inl ⟨6, by omega, by omega, ?_, ?_⟩
    · unfold fx_Wo_find
      rw [hlow, bd_s, if_neg (fun z => z30 (hcmp.mp z))]
      rfl
    · unfold fx_Md_callTable
      rw [m_pop h13 hP, bn_s, hlow, bd_s, if_pos (Int32.not_lt.mp (fun z => z30 (hcmp.mp z)))]
      unfold fx_Md_callTable_b28 fx_Md_traps
      rw [if_neg (fun z => z30 (hcmp.mp z)), bv_s]
      rfl
