-- ===== between two steps: each place =====
theorem sf_1 {N j i t : Nat} {c : rs_T} (h14 : rI c 14 = nI (j + 1)) (hj : j < 30) (h4 : rI c 4 = nI t) (h18 : rA c 18 j = nI i) (hi : i < t) (ht : t ≤ 512 ∧ t ≤ rN c 0 ∧ rN c 0 ≤ 1500 ∧ rN c 2 ≤ 3000) (ho : rA c 7 i ∈ ([2, 3] : List Int32) ∨ (rA c 7 i = 11 ∧ ¬ rA c 10 i = -1)) : fx_Sr_performFree N c = some (1, wA c 18 j (nI (i + 1))) := by
  unfold fx_Sr_performFree
  rw [h4, sp_next h14 hj h18 hi (by omega), bn_s, if_neg (fun z => (nI_m1 (by omega)).mp z), h14, nI_pred, bd_s, gd_k (by first | omega | (simp only [rN_wI, rN_wA, rN_wL]; omega)) (by first | omega | (simp only [rN_wI, rN_wA, rN_wL]; omega)), nI_clamp (by omega), bd_s]
  rcases ho with z | ⟨z, z2⟩
  · rw [if_pos z, gd_k (by first | omega | (simp only [rN_wI, rN_wA, rN_wL]; omega)) (by first | omega | (simp only [rN_wI, rN_wA, rN_wL]; omega)), nI_clamp (by omega), nI_1]
  · rw [z, if_neg (by decide), if_neg (by decide), if_pos (by decide), gd_k (by first | omega | (simp only [rN_wI, rN_wA, rN_wL]; omega)) (by first | omega | (simp only [rN_wI, rN_wA, rN_wL]; omega)), gd_k (by first | omega | (simp only [rN_wI, rN_wA, rN_wL]; omega)) (by first | omega | (simp only [rN_wI, rN_wA, rN_wL]; omega)), if_neg z2, nI_clamp (by omega), nI_1]
theorem sf_5 {N j i t e : Nat} {c : rs_T} (h14 : rI c 14 = nI (j + 1)) (hj : j < 30) (h4 : rI c 4 = nI t) (h18 : rA c 18 j = nI i) (hi : i < t) (ht : t ≤ 512 ∧ t ≤ rN c 0 ∧ rN c 0 ≤ 1500 ∧ rN c 2 ≤ 3000) (ho : rA c 7 i = 5) (he : rA c 10 i = nI e) : fx_Sr_performFree N c = some (1, wA c 18 j (nI (e + 1))) := by
  unfold fx_Sr_performFree
  rw [h4, sp_next h14 hj h18 hi (by omega), bn_s, if_neg (fun z => (nI_m1 (by omega)).mp z), h14, nI_pred, bd_s, gd_k (by first | omega | (simp only [rN_wI, rN_wA, rN_wL]; omega)) (by first | omega | (simp only [rN_wI, rN_wA, rN_wL]; omega)), nI_clamp (by omega), bd_s, ho, if_neg (by decide), if_pos (by decide), gd_k (by first | omega | (simp only [rN_wI, rN_wA, rN_wL]; omega)) (by first | omega | (simp only [rN_wI, rN_wA, rN_wL]; omega)), gd_k (by first | omega | (simp only [rN_wI, rN_wA, rN_wL]; omega)) (by first | omega | (simp only [rN_wI, rN_wA, rN_wL]; omega)), he, nI_clamp (by omega), nI_1]
theorem sf_11 {N j i t : Nat} {c : rs_T} (h14 : rI c 14 = nI (j + 1)) (hj : j < 30) (h4 : rI c 4 = nI t) (h18 : rA c 18 j = nI i) (hi : i < t) (ht : t ≤ 512 ∧ t ≤ rN c 0 ∧ rN c 0 ≤ 1500 ∧ rN c 2 ≤ 3000) (ho : rA c 7 i = 11) (he : rA c 10 i = -1) : fx_Sr_performFree N c = bv (fx_Sr_giveBack N (nI j) (wA c 18 j (nI (i + 1)))) (fun st14 => some (1, st14)) := by
  unfold fx_Sr_performFree
  rw [h4, sp_next h14 hj h18 hi (by omega), bn_s, if_neg (fun z => (nI_m1 (by omega)).mp z), h14, nI_pred, bd_s, gd_k (by first | omega | (simp only [rN_wI, rN_wA, rN_wL]; omega)) (by first | omega | (simp only [rN_wI, rN_wA, rN_wL]; omega)), nI_clamp (by omega), bd_s, ho, if_neg (by decide), if_neg (by decide), if_pos (by decide), gd_k (by first | omega | (simp only [rN_wI, rN_wA, rN_wL]; omega)) (by first | omega | (simp only [rN_wI, rN_wA, rN_wL]; omega)), gd_k (by first | omega | (simp only [rN_wI, rN_wA, rN_wL]; omega)) (by first | omega | (simp only [rN_wI, rN_wA, rN_wL]; omega)), he, if_pos rfl, nI_clamp (by omega), nI_1]
theorem sf_0 {N j i t : Nat} {c : rs_T} (h14 : rI c 14 = nI (j + 1)) (hj : j < 30) (h4 : rI c 4 = nI t) (h18 : rA c 18 j = nI i) (hi : i < t) (ht : t ≤ 512 ∧ t ≤ rN c 0 ∧ rN c 0 ≤ 1500 ∧ rN c 2 ≤ 3000) (ho : ¬ rA c 7 i ∈ ([2, 3, 5, 11] : List Int32)) : fx_Sr_performFree N c = some (0, c) := by
  unfold fx_Sr_performFree
  have hn : ∀ l : List Int32, (∀ x ∈ l, x ∈ ([2, 3, 5, 11] : List Int32)) → ¬ rA c 7 i ∈ l := fun l hl z => ho (hl _ z)
  rw [h4, sp_next h14 hj h18 hi (by omega), bn_s, if_neg (fun z => (nI_m1 (by omega)).mp z), h14, nI_pred, bd_s, gd_k (by first | omega | (simp only [rN_wI, rN_wA, rN_wL]; omega)) (by first | omega | (simp only [rN_wI, rN_wA, rN_wL]; omega)), nI_clamp (by omega), bd_s, if_neg (hn _ (by decide)), if_neg (hn _ (by decide)), if_neg (hn _ (by decide))]
theorem fill_bl {V : vw_T} {m c : rs_T} {N j b s n h sz q p q1 p1 : Nat} {W : Nat → Int32} (hb : b + n + h ≤ 220) (hp : pv c V) (ht : tR c j b sz q p) (hsz : q1 ≤ sz) (hm : mvf c n W 0 h q p q1 p1) (hf : fV c m V n W b s h) : ∃ c1 k, k ≤ h ∧ vl N k c c1 ∧ cY c c1 j b ∧ tR c1 j b sz q1 p1 ∧ fV c1 m V n (sl n) b s h := by
  have hle : q1 - q ≤ h := by
    have h1 := (mv_q hm).1
    have h2 := cn_le (ns n W) (h - 0) 0
    omega
  obtain ⟨c2, W2, e1, e2, e3, e4, e5, e6, e7⟩ := fill_run (N := N) (V := V) (m := m) (s := s) (h := h) hb hp ht (Nat.le_refl _) hsz hm hf
  exact ⟨c2, q1 - q, hle, e1, e4, e3, fV_congr e5 (fun x hx => (e6 x (Nat.zero_le _) hx).symm)⟩
theorem nx_23 {V : vw_T} {f i : Nat} {T T2 : ts_T} (h : t_nx V f i T = some T2) (ho : v_o V i = 2 ∨ v_o V i = 3) : t_begin V i T 0 = some T2 := by
  have hn : ∀ x : Int32, ¬ x = 2 → ¬ x = 3 → ¬ v_o V i = x := fun x h2 h3 e => by
    rcases ho with z | z
    · rw [z] at e; exact h2 e.symm
    · rw [z] at e; exact h3 e.symm
  rcases nx_cases h with ⟨o, -, -⟩ | ⟨-, hc⟩
  · exact absurd o (hn _ (by decide) (by decide))
  rcases hc with ⟨o, -⟩ | ⟨-, hb⟩ | ⟨o, -⟩ | ⟨o, -⟩ | ⟨o, -⟩ | ⟨o, -⟩ | ⟨o, -⟩ | ⟨o, -⟩ | ⟨o, -⟩ | ⟨o, -⟩ | ⟨o, -⟩ | ⟨o, -⟩
  · exact absurd o (hn _ (by decide) (by decide))
  · exact hb
  · exact absurd o (hn _ (by decide) (by decide))
  · exact absurd o (hn _ (by decide) (by decide))
  · exact absurd o (hn _ (by decide) (by decide))
  · exact absurd o (hn _ (by decide) (by decide))
  · exact absurd o (hn _ (by decide) (by decide))
  · exact absurd o (hn _ (by decide) (by decide))
  · exact absurd o (hn _ (by decide) (by decide))
  · exact absurd o (hn _ (by decide) (by decide))
  · exact absurd o (hn _ (by decide) (by decide))
  · refine absurd ?_ o
    rcases ho with z | z
    · rw [z]; decide
    · rw [z]; decide
theorem nx_5 {V : vw_T} {f i : Nat} {T T2 : ts_T} (h : t_nx V f i T = some T2) (ho : v_o V i = 5) : t_else V f T = some T2 := by
  have hn : ∀ x : Int32, ¬ x = 5 → ¬ v_o V i = x := fun x h2 e => by rw [ho] at e; exact h2 e.symm
  rcases nx_cases h with ⟨o, -, -⟩ | ⟨-, hc⟩
  · exact absurd o (hn _ (by decide))
  rcases hc with ⟨o, -⟩ | ⟨o, -⟩ | ⟨o, -⟩ | ⟨o, hb⟩ | ⟨o, -⟩ | ⟨o, -⟩ | ⟨o, -⟩ | ⟨o, -⟩ | ⟨o, -⟩ | ⟨o, -⟩ | ⟨o, -⟩ | ⟨o, -⟩
  · exact absurd o (hn _ (by decide))
  · rw [ho] at o; exact absurd o (by decide)
  · exact absurd o (hn _ (by decide))
  · exact hb
  · exact absurd o (hn _ (by decide))
  · exact absurd o (hn _ (by decide))
  · exact absurd o (hn _ (by decide))
  · exact absurd o (hn _ (by decide))
  · exact absurd o (hn _ (by decide))
  · exact absurd o (hn _ (by decide))
  · exact absurd o (hn _ (by decide))
  · rw [ho] at o; exact absurd (show (5 : Int32) ∈ ([0, 2, 3, 4, 5, 6, 11, 12, 13, 14, 15, 16, 17] : List Int32) by decide) o
theorem nx_11 {V : vw_T} {f i : Nat} {T T2 : ts_T} (h : t_nx V f i T = some T2) (ho : v_o V i = 11) : t_end V f T = some T2 := by
  have hn : ∀ x : Int32, ¬ x = 11 → ¬ v_o V i = x := fun x h2 e => by rw [ho] at e; exact h2 e.symm
  rcases nx_cases h with ⟨o, -, -⟩ | ⟨-, hc⟩
  · exact absurd o (hn _ (by decide))
  rcases hc with ⟨o, -⟩ | ⟨o, -⟩ | ⟨o, -⟩ | ⟨o, -⟩ | ⟨o, hb⟩ | ⟨o, -⟩ | ⟨o, -⟩ | ⟨o, -⟩ | ⟨o, -⟩ | ⟨o, -⟩ | ⟨o, -⟩ | ⟨o, -⟩
  · exact absurd o (hn _ (by decide))
  · rw [ho] at o; exact absurd o (by decide)
  · exact absurd o (hn _ (by decide))
  · exact absurd o (hn _ (by decide))
  · exact hb
  · exact absurd o (hn _ (by decide))
  · exact absurd o (hn _ (by decide))
  · exact absurd o (hn _ (by decide))
  · exact absurd o (hn _ (by decide))
  · exact absurd o (hn _ (by decide))
  · exact absurd o (hn _ (by decide))
  · rw [ho] at o; exact absurd (show (11 : Int32) ∈ ([0, 2, 3, 4, 5, 6, 11, 12, 13, 14, 15, 16, 17] : List Int32) by decide) o
-- BLOCK and LOOP
theorem PC_23 {N : Nat} {c m : rs_T} {T : Nat → ts_T} {S E M : Nat → Nat} {F t : Nat} {w : Bool} {KK : Nat → Nat → kT} {ZZ : Nat → Nat → Int32} {QS QE : Nat → Nat} {G : List fr_T} {f at_ b s : Nat} {r : Bool} (h : IB c m T S E M F t w KK ZZ QS QE) (hR : R0 c m (vm m) T S E M F w KK G f at_ r b s) (hs1 : rI m 9 = 1) (ho : v_o (vm m) at_ = 2 ∨ v_o (vm m) at_ = 3) : PC N c m T S E M F t w KK ZZ QS QE (muT M G f at_) := by
  obtain ⟨x1, x2, x3, x4, x5, x6, x7, x8, x9, x10, x11, x12, x13, x14, x15, x16, x17, -⟩ := cx h hR
  have ho11 : ¬ v_o (vm m) at_ = 11 := by rcases ho with z | z <;> rw [z] <;> decide
  obtain ⟨p1, p2, p3, p4, p5, p6, p7, p8, p9, p10, p11, p12, p13⟩ := pctx h hR ho11
  obtain ⟨px, py, hx4, hy4, ea, eb, hhas, hw, hT1⟩ := begin_some (nx_23 p5 ho)
  have hhx := tl_has p6 hhas
  rw [tl_tk p6 hhas] at hT1 hw
  have hl1 : tl (T (at_ + 1)) := by
    rw [hT1]
    refine ⟨fun r hr => ?_, p6.2.1, rfl⟩
    rcases List.mem_cons.mp hr with z | z
    · rw [z]
    · exact p6.1 r z
  have hT : (T (at_ + 1)).2.2.1 = (T at_).2.2.1 := by rw [hT1]; show (T at_).2.2.1 - (px + 0) + px = _; omega
  have hlen := (pb_Wf h.1 (show wh_F F w f from hR.2.1.1.2.2.1)).2.2.2.2.2.1
  have h7 : rA c 7 at_ ∈ ([2, 3] : List Int32) := by
    rw [(x1.1 at_).1]
    rcases ho with z | z <;> rw [z] <;> decide
  have h6 : rA m 6 at_ ∈ ([2, 3, 11] : List Int32) := by
    show v_o (vm m) at_ ∈ _
    rcases ho with z | z <;> rw [z] <;> decide
  refine PC_of (kp := 1) h hR hs1 (by omega) (mp_1 (e := E f) hs1 x14 (by omega) x7 x5 p7 p8 p9 hlen (by omega) (by omega) h6 (fun z => absurd z ho11)) (Nat.lt_succ_self _) p4 hl1 hT (fun hr => ?_) (fun hr => ?_)
  · subst hr
    obtain ⟨r1, ⟨-, -, -, -, -, -, -, -, b9, -⟩, -⟩ := hR
    exact sf_1 x6 x5 x2 (b9 rfl).1 x3 x4 (Or.inl h7)
  · subst hr
    have hR1 := hR
    obtain ⟨r1, ⟨hfC, -⟩, -⟩ := hR1
    obtain ⟨sz0, z1, z2, z3, z4, z5, z6, z7, z8⟩ := rg_ctx h hfC
    obtain ⟨sz, y1', y2', y3', y4'⟩ := R0_tR h hR hs1
    unfold kcV at z5
    rcases ho with z | z
    · rw [z] at z5
      obtain ⟨q1, p1', m1, m2⟩ := z5.2.2.2.2.2.2.2.2.2.2.2.2.2.2.2.2.2.2.2.2.2.1 rfl
      have hq : q1 ≤ QE f := by rw [m2] at z6; exact z6
      obtain ⟨c1, k, e1, e2, e3, e4, e5⟩ := fill_bl (N := N) (V := vm m) (m := m) (s := s) (by omega) x1 y4' (by omega) m1 x15
      exact ⟨c1, k, by omega, e2, e3, by rw [m2]; exact e4.2.2.2.2.2.1, by rw [m2]; exact e4.2.2.2.2.2.2.2.2.2, by rw [m2]; exact e5⟩
    · rw [z] at z5
      obtain ⟨q1, p1', m1, m2⟩ := z5.2.2.2.2.2.2.2.2.2.2.2.2.2.2.2.2.2.2.2.2.2.2.1 rfl
      exact fill_pe (N := N) (V := vm m) (m := m) (s := s) (by omega) x1 y4' (by omega) m1 m2 x15
-- the END of a label
theorem PC_11 {N : Nat} {c m : rs_T} {T : Nat → ts_T} {S E M : Nat → Nat} {F t : Nat} {w : Bool} {KK : Nat → Nat → kT} {ZZ : Nat → Nat → Int32} {QS QE : Nat → Nat} {G : List fr_T} {f at_ b s : Nat} {r : Bool} (h : IB c m T S E M F t w KK ZZ QS QE) (hR : R0 c m (vm m) T S E M F w KK G f at_ r b s) (hs1 : rI m 9 = 1) (ho : v_o (vm m) at_ = 11) (hE1 : ¬ at_ = E f - 1) : PC N c m T S E M F t w KK ZZ QS QE (muT M G f at_) := by
  obtain ⟨x1, x2, x3, x4, x5, x6, x7, x8, x9, x10, x11, x12, x13, x14, x15, x16, x17, -⟩ := cx h hR
  obtain ⟨-, ⟨⟨a1, a2, a3, a4, a5, a6, a7, a8, a9, a10, a11, a12⟩, -⟩, -⟩ := id hR
  obtain ⟨hWf, hf40, hE, -, h0s, hlen, -⟩ := pb_Wf h.1 a3
  have hnx := hWf.2.2.1.2.1 at_ a9 (by omega)
  obtain ⟨q, L, hL, hdn, -, -⟩ := end_some (nx_11 hnx ho)
  have hds := ds_all hWf.2.2.1 at_ a9 (by omega)
  obtain ⟨t1, t2⟩ := tl_end hnx hds ho hL rfl
  have hlq : tl (T q.1) := ds_tl hds a11.1 a11.2.1 q (by rw [hL]; exact List.mem_cons_self)
  have hT : (T (at_ + 1)).2.2.1 = (T at_).2.2.1 := by
    have := live_done (f := f) a11 (hWf.2.2.1.2.2 at_ a9 (by omega)).1 hdn
    rw [this, t1, hL]
    rfl
  have h10 : ¬ rA c 10 at_ = -1 := by
    have hlk := (hWf.2.2.2.2.1 at_ a9 a10).2.1 ho
    unfold lk_e2 at hlk
    rw [hL] at hlk
    rw [hlk.1]
    have := (ty_mem hWf.2.2.1 a9 (by omega) (show q ∈ (T at_).1 by rw [hL]; exact List.mem_cons_self)).2.1
    exact fun z => (nI_m1 (by omega)).mp z
  refine PC_of (kp := 1) h hR hs1 (by omega) (mp_1 (e := E f) hs1 x14 (by omega) x7 x5 a2 hf40 h0s hlen (by omega) (by omega) (by show v_o (vm m) at_ ∈ _; rw [ho]; decide) (fun _ => hE1)) (Nat.lt_succ_self _) (by omega) (t2.mpr hlq) hT (fun hr => ?_) (fun hr => ?_)
  · subst hr
    obtain ⟨r1, ⟨-, -, -, -, -, -, -, -, b9, -⟩, -⟩ := hR
    exact sf_1 x6 x5 x2 (b9 rfl).1 x3 x4 (Or.inr ⟨(x1.1 at_).1.trans ho, h10⟩)
  · subst hr
    have hR1 := hR
    obtain ⟨r1, ⟨hfC, -⟩, -⟩ := hR1
    obtain ⟨sz0, z1, z2, z3, z4, z5, z6, z7, z8⟩ := rg_ctx h hfC
    obtain ⟨sz, y1', y2', y3', y4'⟩ := R0_tR h hR hs1
    unfold kcV at z5
    rw [ho, decide_eq_false hE1] at z5
    obtain ⟨q1, p1', m1, m2⟩ := z5.2.2.2.2.2.2.2.2.2.2.2.2.2.2.2.2.2.2.2.2.2.2.2.2.2.1 rfl rfl
    exact fill_pe (N := N) (V := vm m) (m := m) (s := s) (by omega) x1 y4' (by omega) m1 m2 x15
