-- ===== one step: set and tee =====
theorem fV_set {c m c1 m1 : rs_T} {V : vw_T} {n b s h a : Nat} {W : Nat → Int32} {v : Int64} (hf : fV c m V n W b s h) (ha : a < n) (hb : b + n + h ≤ 900) (hW : ∀ x, x < h → ¬ W x = nI a) (hc : ∀ y, ¬ y = b + a → rL c1 2 y = rL c 2 y) (hm : ∀ y, ¬ y = s + a → rL m1 2 y = rL m 2 y) (hc1 : rL c1 2 (b + a) = v) (hm1 : rL m1 2 (s + a) = v) : fV c1 m1 V n W b s h := by
  refine ⟨fun x hx => ?_, fun x hx => ?_, hf.2.2⟩
  · by_cases e : x = a
    · subst e; rw [hc1, hm1]
    · rw [hc _ (by omega), hm _ (by omega)]; exact hf.1 x hx
  · rw [hm _ (by omega)]
    have he : ev c1 V b (W x) = ev c V b (W x) := by
      rcases hf.2.2 x hx with ⟨y, hy, e⟩ | e | ⟨k, hk, e⟩
      · have : ¬ y = a := fun z => by subst z; exact hW x hx e
        rw [e, ev_n (by omega), ev_n (by omega)]; exact hc _ (by omega)
      · rw [e, ev_n (by omega), ev_n (by omega)]; exact hc _ (by omega)
      · rw [e, ev_k hk.1, ev_k hk.1]
    rw [he]; exact hf.2.1 x hx
theorem fV_congr {c m : rs_T} {V : vw_T} {n b s h : Nat} {W W1 : Nat → Int32} (hf : fV c m V n W b s h) (e : ∀ x, x < h → W1 x = W x) : fV c m V n W1 b s h := ⟨hf.1, fun x hx => by rw [e x hx]; exact hf.2.1 x hx, fun x hx => by rw [e x hx]; exact hf.2.2 x hx⟩
-- set local a: operands that stood for it go to their slots, then the local is written (all in registers)
theorem set_run {N : Nat} {c m : rs_T} {V : vw_T} {j b s n h sz q p q1 p1 a : Nat} {W : Nat → Int32} (hb : b + n + (h + 1) ≤ 220) (hp : pv c V) (ht : tR c j b sz q p) (ha : a < n) (hq : q1 + 1 ≤ sz) (hm : mv c n W (fun j => decide (W j = nI a)) h 0 q p q1 p1) (hc : ci c q1 200 (nI p1) (nI a) (W h) 0 0) (hf : fV c m V n W b s (h + 1)) (hWh : ¬ W h = nI a) : ∃ c1, vl N (q1 - q + 1) c c1 ∧ cY c c1 j b ∧ rA c1 18 j = nI (q1 + 1) ∧ rI c1 17 = 0 ∧ (∀ m1, (∀ y, ¬ y = s + a → rL m1 2 y = rL m 2 y) → rL m1 2 (s + a) = rL m 2 (s + n + h) → fV c1 m1 V n (upd (kl n W (nI a)) h (W h)) b s (h + 1)) ∧ q1 - q ≤ h := by
  have hq1 := (mv_q hm).1
  have hcl := cn_le (fun j => decide (W j = nI a)) h 0
  obtain ⟨c2, e1, e2, e3, e4⟩ := mv_run (V := V) (m := m) (N := N) (j := j) (b := b) (s := s) (n := n) (h := h + 1) (sz := sz) (by omega) h 0 c q p q1 p1 W hp ht (by omega) (by omega) hm hf
  obtain ⟨W1, eW⟩ : ∃ W1, W1 = (fun x => if 0 ≤ x ∧ x < 0 + h ∧ decide (W x = nI a) = true then nI (n + x) else W x) := ⟨_, rfl⟩
  have e4 : fV c2 m V n W1 b s (h + 1) := by rw [eW]; exact e4
  have hW1 : ∀ x, x < h → W1 x = kl n W (nI a) x := fun x hx => by
    rw [eW]
    unfold kl
    by_cases z : W x = nI a
    · rw [if_pos z]
      show (if 0 ≤ x ∧ x < 0 + h ∧ decide (W x = nI a) = true then nI (n + x) else W x) = _
      rw [if_pos ⟨Nat.zero_le _, by omega, decide_eq_true z⟩]
    · rw [if_neg z]
      show (if 0 ≤ x ∧ x < 0 + h ∧ decide (W x = nI a) = true then nI (n + x) else W x) = _
      rw [if_neg (fun y => z (of_decide_eq_true y.2.2))]
  have hW1h : W1 h = W h := by
    rw [eW]
    show (if 0 ≤ h ∧ h < 0 + h ∧ decide (W h = nI a) = true then nI (n + h) else W h) = _
    rw [if_neg (fun y => by omega)]
  have hu := e4.2.2 h (Nat.lt_succ_self h)
  have hv := e4.2.1 h (Nat.lt_succ_self h)
  rw [hW1h] at hu hv
  have hs := mv_1 (N := N) (x := h) (h := h) e2 (cY_pv e3 hp) (by omega) hu (by omega) (show b + a < 220 by omega) (cY_ci e3 hc)
  obtain ⟨w1, w2⟩ := tR_w (to := a) (v := ev c2 V b (W h)) e2
  obtain ⟨c1, ec1⟩ : ∃ c1, c1 = wL (wA (wI c2 17 0) 18 j (nI (q1 + 1))) 2 (b + a) (ev c2 V b (W h)) := ⟨_, rfl⟩
  rw [← ec1] at hs w1 w2
  refine ⟨c1, vl_tr e1 (vl_1 hs), cY_tr e3 w2, w1.2.2.2.2.2.1, ?_, fun m1 hm1 hm2 => ?_, by omega⟩
  · have := w1.2.2.2.2.2.2.2.2.2
    rw [this, nI_0]
  · have hset := fV_set (c1 := c1) (m1 := m1) (v := rL m 2 (s + n + h)) e4 ha (by omega) (fun x hx => ?_) (fun y hy => ?_) hm1 ?_ hm2
    · refine fV_congr hset (fun x hx => ?_)
      by_cases z : x = h
      · subst z; rw [pk_us, hW1h]
      · rw [pk_un z, hW1 x (by omega)]
    · by_cases z : x = h
      · subst z; rw [hW1h]; exact hWh
      · rw [hW1 x (by omega)]
        unfold kl
        by_cases z2 : W x = nI a
        · rw [if_pos z2]
          intro y
          have := (nI_eq (by omega) (by omega)).mp y
          omega
        · rw [if_neg z2]; exact z2
    · rw [ec1, rL_wsn hy, rL_wA, rL_wI]
    · rw [ec1, rL_wss]; exact hv
theorem mv_17 {c : rs_T} (v : Int32) {n : Nat} {W : Nat → Int32} {P : Nat → Bool} {k i q p q1 p1 : Nat} (h : mv c n W P k i q p q1 p1) : mv (wI c 17 v) n W P k i q p q1 p1 := mv_inc (c := c) (c1 := wI c 17 v) (P := 0) (Q := q1) (X := 0) (Z := nI) (Z1 := nI) ⟨fun _ _ _ _ _ _ => rfl, fun _ _ _ _ _ => rfl, fun _ _ _ _ _ _ a => a, fun x hx => by omega⟩ (Nat.zero_le _) (Nat.le_refl _) h
theorem SR_set {N : Nat} {c m : rs_T} {T : Nat → ts_T} {S E M : Nat → Nat} {F t : Nat} {w : Bool} {KK : Nat → Nat → kT} {ZZ : Nat → Nat → Int32} {QS QE : Nat → Nat} {G : List fr_T} {f at_ b s : Nat} {r : Bool} {o b' : Int32} (h : IB c m T S E M F t w KK ZZ QS QE) (hR : R0 c m (vm m) T S E M F w KK G f at_ r b s) (hs1 : rI m 9 = 1) (ho : v_o (vm m) at_ = o) (hoo : o = 33 ∨ o = 34) : SR N c m T S E M F t w o (v_a (vm m) at_) b' r := by
  obtain ⟨k0, hk0⟩ : ∃ k0 : Nat, k0 = if o = 33 then 0 else 1 := ⟨_, rfl⟩
  have hb : t_ar o = some (1, k0) ∧ ¬ o ∈ ([0, 2, 3, 4, 5, 6, 11, 12, 13, 14, 15, 16, 17] : List Int32) ∧ ¬ o ∈ ([0, 4, 12, 13, 14, 15, 16, 17] : List Int32) ∧ o ∈ ([32, 33, 34] : List Int32) ∧ k0 ≤ 1 := by
    rcases hoo with rfl | rfl
    · rw [if_pos rfl] at hk0; subst hk0; decide
    · rw [if_neg (by decide)] at hk0; subst hk0; decide
  obtain ⟨k1, k2, k3, k4, k5⟩ := hb
  obtain ⟨p1, p2, p3, p4, p5⟩ := pl_ctx h hR ho k2 k1
  obtain ⟨x1, x2, x3, x4, x5, x6, x7, x8, x9, x10, x11, x12, x13, x14, x15, x16, x17, -⟩ := cx h hR
  obtain ⟨a, ha, ea⟩ := loc_a p5 k4 x16
  obtain ⟨h', hh⟩ : ∃ h', (T at_).2.2.1 = h' + 1 := ⟨(T at_).2.2.1 - 1, by omega⟩
  rw [hh] at x13 x15 x11 p3
  have hT : (T (at_ + 1)).2.2.1 = h' + k0 := by omega
  have h7 : rA c 7 at_ = o := (x1.1 at_).1.trans ho
  have h8 : rA c 8 at_ = v_a (vm m) at_ := (x1.1 at_).2.1
  have x13 : rI m 13 = nI (s + nm (vm m) f + h' + 1) := x13
  rw [ea] at h8 ⊢
  have hSf := Sf_1 hR
  obtain ⟨mm, emm⟩ : ∃ mm, mm = wI m 13 (nI (s + nm (vm m) f + h' + k0)) := ⟨_, rfl⟩
  have hmm : m13 m mm := by rw [emm]; exact m13_w _ (m13_0 m)
  obtain ⟨m1, em1⟩ : ∃ m1, m1 = wI (wL mm 2 (s + a) (rL m 2 (s + nm (vm m) f + h'))) 15 (nI (at_ + 1)) := ⟨_, rfl⟩
  have g1 : ∀ k, ¬ k = 13 → ¬ k = 15 → rI m1 k = rI m k := fun k a1 a2 => by rw [em1, rI_wn a2, rI_wL]; exact hmm.1 k a1
  have g2 : ∀ i x, rA m1 i x = rA m i x := fun i x => by rw [em1, rA_wI, rA_wL]; exact hmm.2.1 i x
  have g3 : ∀ i x, ¬ (i = 2 ∧ x = s + a) → rL m1 i x = rL m i x := fun i x hx => by rw [em1, rL_wI, rL_wL, if_neg hx]; exact hmm.2.2 i x
  have g4 : rL m1 2 (s + a) = rL m 2 (s + nm (vm m) f + h') := by rw [em1, rL_wI, rL_wss]
  have hmX : mX m m1 s := ⟨fun k _ _ _ a4 a5 => g1 k a4 a5, fun i x _ => g2 i x, fun x => ⟨g3 1 x (by omega), g3 3 x (by omega)⟩, fun y hy => g3 2 y (by omega)⟩
  have hlt : ¬ (220 : Int32) ≤ nI (b + a) := fun z => by
    have : 220 ≤ b + a := (lit_le (k := 220) (show b + a < 2 ^ 31 by omega) (by omega)).mp z
    omega
  refine SR_of (m1 := m1) (at1 := at_ + 1) h hR hs1 ?_ hmX (by omega) p1 p4 ?_ ?_ (g1 9 (by decide) (by decide)) (g1 10 (by decide) (by decide)) (fun hr => ?_) (fun hr => ?_)
  · rw [msb_s k3]
    unfold fx_Md_simple fx_Md_variable
    rcases hoo with rfl | rfl
    · rw [if_pos rfl] at hk0
      subst hk0
      rw [if_neg (by decide), if_neg (by decide), if_neg (by decide), if_neg (by decide), x7, nI_pred, gd_k (by first | omega | (simp only [rN_wI, rN_wA, rN_wL]; omega)) (by first | omega | (simp only [rN_wI, rN_wA, rN_wL]; omega)), bd_s, nI_clamp (by omega), x9, nI_add, if_neg (by decide), if_pos (by decide), m_pop x13 (by omega), bn_s, gd_k (by first | omega | (simp only [rN_wI, rN_wA, rN_wL]; omega)) (by first | omega | (simp only [rN_wI, rN_wA, rN_wL]; omega)), nI_clamp (by omega), bv_s, b155 (by simp (disch := omega) only [bn_s, bv_s, bd_s, gb_0, gb_1, rI_ws, rI_wn, rI_wA, rI_wL, rA_wI, rA_wL, rL_wI, rL_wA, rA_wss, rA_wn, rA_wsn, rL_wss, rL_wn, rL_wsn, rN_wI, rN_wA, rN_wL]; exact x14), em1, emm]
      rfl
    · rw [if_neg (by decide)] at hk0
      subst hk0
      have e : mm = m := by rw [emm]; exact wI_self x13
      rw [if_neg (by decide), if_neg (by decide), if_neg (by decide), if_neg (by decide), x7, nI_pred, gd_k (by first | omega | (simp only [rN_wI, rN_wA, rN_wL]; omega)) (by first | omega | (simp only [rN_wI, rN_wA, rN_wL]; omega)), bd_s, nI_clamp (by omega), x9, nI_add, if_neg (by decide), if_neg (by decide), if_pos (by decide), x13, nI_pred, gd_k (by first | omega | (simp only [rN_wI, rN_wA, rN_wL]; omega)) (by first | omega | (simp only [rN_wI, rN_wA, rN_wL]; omega)), gd_k (by first | omega | (simp only [rN_wI, rN_wA, rN_wL]; omega)) (by first | omega | (simp only [rN_wI, rN_wA, rN_wL]; omega)), nI_clamp (by omega), nI_clamp (by omega), bv_s, b155 (by simp (disch := omega) only [bn_s, bv_s, bd_s, gb_0, gb_1, rI_ws, rI_wn, rI_wA, rI_wL, rA_wI, rA_wL, rL_wI, rL_wA, rA_wss, rA_wn, rA_wsn, rL_wss, rL_wn, rL_wsn, rN_wI, rN_wA, rN_wL]; exact x14), em1, e]
  · rw [hT, em1, rI_wn (by decide), rI_wL, emm, rI_ws, ← Nat.add_assoc]
  · rw [em1, rI_ws]
  · subst hr
    obtain ⟨r1, ⟨-, -, -, -, -, -, -, -, b9, -⟩, -⟩ := hR
    obtain ⟨c18', c20, c17⟩ := b9 rfl
    rw [hh] at c20
    have v0 := sv (x := h') x15 (by omega) (by omega)
    obtain ⟨cc, ecc⟩ : ∃ cc, cc = wA (wA c 18 G.length (nI (at_ + 1))) 20 G.length (nI (b + nm (vm m) f + h' + k0)) := ⟨_, rfl⟩
    have hcc : c18 c cc G.length at_ := by rw [ecc]; exact c18_w _ (c18_0 c G.length at_)
    have d3 : ∀ i y, ¬ (i = 2 ∧ y = b + a) → rL (wL cc 2 (b + a) (rL m 2 (s + nm (vm m) f + h'))) i y = rL c i y := fun i y hy => by rw [rL_wL, if_neg hy]; exact hcc.2.2.2 i y
    have hcX : cX c (wL cc 2 (b + a) (rL m 2 (s + nm (vm m) f + h'))) G.length b := ⟨fun k _ _ _ _ => hcc.1 k, fun i x _ a1 a2 => hcc.2.2.1 i x a1 a2, fun x => ⟨d3 0 x (by omega), d3 3 x (by omega)⟩, fun y hy => d3 2 y (by omega)⟩
    refine ⟨wL cc 2 (b + a) (rL m 2 (s + nm (vm m) f + h')), ?_, hcX, wb_X h.2.1 hcX hmX (hcc.1 9) (fun x => hcc.2.2.1 16 x (by omega) (by omega)) (fun x => d3 1 x (by omega)) (g1 7 (by decide) (by decide)) (fun x => g2 17 x) (fun x => g3 0 x (by omega)), hcc.1 11, hcc.1 12, hcc.2.1, ?_, (hcc.1 17).trans c17, ?_⟩
    · rw [sp_eq x6 x5 x2 c18' x3 x4, h7]
      rcases hoo with rfl | rfl
      · rw [if_pos rfl] at hk0
        subst hk0
        rw [if_pos (by decide), if_pos (by decide), if_pos (by decide), if_neg (by decide), h8]
        unfold fx_Sr_useVariable fx_Ac_setValue
        rw [gd_k x5 (by omega), bd_s, nI_clamp (by omega), rA_wn (by decide), x8, nI_add, if_neg (by decide), if_neg (by decide), if_neg (by decide), if_pos (by decide), s_pop (P := b + nm (vm m) f + h') x5 (by rw [rA_wn (by decide)]; exact c20) (by omega), bn_s, if_neg (nI_pos (by omega)), if_neg hlt, gd_k (by first | omega | (simp only [rN_wI, rN_wA, rN_wL]; omega)) (by first | omega | (simp only [rN_wI, rN_wA, rN_wL]; omega)), nI_clamp (by omega), bv_s, rL_wA, v0, ecc]
        rfl
      · rw [if_neg (by decide)] at hk0
        subst hk0
        have hlt2 : ¬ (220 : Int32) ≤ nI (b + nm (vm m) f + h') := fun z => by
          have : 220 ≤ b + nm (vm m) f + h' := (lit_le (k := 220) (show b + nm (vm m) f + h' < 2 ^ 31 by omega) (by omega)).mp z
          omega
        have c20' : rA (wA c 18 G.length (nI (at_ + 1))) 20 G.length = nI (b + nm (vm m) f + h' + 1) := by rw [rA_wn (by decide)]; exact c20
        have e : cc = wA c 18 G.length (nI (at_ + 1)) := by
          rw [ecc]
          have hx : (fun q => bif Nat.beq q 20 then upd ((wA c 18 G.length (nI (at_ + 1))).2.1 20) G.length (nI (b + nm (vm m) f + h' + 1)) else (wA c 18 G.length (nI (at_ + 1))).2.1 q) = (wA c 18 G.length (nI (at_ + 1))).2.1 := by
            funext q
            by_cases z : q = 20
            · subst z
              show upd ((wA c 18 G.length (nI (at_ + 1))).2.1 20) G.length (nI (b + nm (vm m) f + h' + 1)) = (wA c 18 G.length (nI (at_ + 1))).2.1 20
              funext y
              by_cases z2 : y = G.length
              · subst z2
                rw [pk_us]
                exact c20'.symm
              · rw [pk_un z2]
            · rw [nb_f z]; rfl
          show ((wA c 18 G.length (nI (at_ + 1))).1, (fun q => bif Nat.beq q 20 then upd ((wA c 18 G.length (nI (at_ + 1))).2.1 20) G.length (nI (b + nm (vm m) f + h' + 1)) else (wA c 18 G.length (nI (at_ + 1))).2.1 q), (wA c 18 G.length (nI (at_ + 1))).2.2) = _
          rw [hx]
        rw [if_pos (by decide), if_pos (by decide), if_pos (by decide), if_neg (by decide), h8]
        unfold fx_Sr_useVariable fx_Ac_setValue fx_Ac_value
        rw [gd_k x5 (by omega), bd_s, nI_clamp (by omega), rA_wn (by decide), x8, nI_add, if_neg (by decide), if_neg (by decide), if_neg (by decide), if_neg (by decide), if_pos (by decide), gd_k x5 (by omega), c20', nI_pred, if_neg (nI_pos (by omega)), if_neg hlt2, gd_k (by first | omega | (simp only [rN_wI, rN_wA, rN_wL]; omega)) (by first | omega | (simp only [rN_wI, rN_wA, rN_wL]; omega)), nI_clamp (by omega), bn_s, if_neg (nI_pos (by omega)), if_neg hlt, gd_k (by first | omega | (simp only [rN_wI, rN_wA, rN_wL]; omega)) (by first | omega | (simp only [rN_wI, rN_wA, rN_wL]; omega)), nI_clamp (by omega), bv_s, rL_wA, v0, e]
    · rw [hT, rA_wL, ecc, rA_wss, ← Nat.add_assoc]
    · rw [hT]
      refine fV_set (v := rL m 2 (s + nm (vm m) f + h')) (fV_le (h1 := h' + k0) x15 (by omega)) ha (by omega) (fun x hx => ?_) (fun y hy => d3 2 y (by omega)) (fun y hy => g3 2 y (by omega)) (by rw [rL_wss]) g4
      intro z
      have := (nI_eq (by omega) (by omega)).mp (show nI (nm (vm m) f + x) = nI a from z)
      omega
  · subst hr
    have hR1 := hR
    obtain ⟨r1, ⟨hfC, -, -, -, -, -, -, -, -, b10⟩, -⟩ := hR1
    obtain ⟨b101, b102⟩ := b10 rfl
    obtain ⟨sz0, z1, z2, z3, z4, z5, z6, z7, z8⟩ := rg_ctx h hfC
    obtain ⟨sz, y1', y2', y3', y4'⟩ := R0_tR h hR hs1
    unfold kcV at z5
    rw [ho, hh, ea] at z5
    have hcase : ((KK f at_).2.2 h' = nI a ∧ ∃ W1, KK f (at_ + 1) = ((KK f at_).1, (KK f at_).2.1 + 1, W1) ∧ ∀ x, x < h' + k0 → W1 x = (KK f at_).2.2 x) ∨ (¬ (KK f at_).2.2 h' = nI a ∧ ∃ q1 p1, mv c (nm (vm m) f) (KK f at_).2.2 (fun j => decide ((KK f at_).2.2 j = nI a)) h' 0 (KK f at_).1 ((KK f at_).2.1 + 1) q1 p1 ∧ ci c q1 200 (nI p1) (nI a) ((KK f at_).2.2 h') 0 0 ∧ ∃ W1, KK f (at_ + 1) = (q1 + 1, 0, W1) ∧ ∀ x, x < h' + k0 → W1 x = upd (kl (nm (vm m) f) (KK f at_).2.2 (nI a)) h' ((KK f at_).2.2 h') x) := by
      rcases hoo with rfl | rfl
      · rw [if_pos rfl] at hk0
        subst hk0
        rcases z5.2.2.2.2.1 rfl with ⟨u1, u2⟩ | ⟨u1, q1, p1, u2, u3, u4⟩
        · exact Or.inl ⟨u1, _, u2, fun _ _ => rfl⟩
        · exact Or.inr ⟨u1, q1, p1, u2, u3, _, u4, fun x hx => by rw [pk_un (by omega)]⟩
      · rw [if_neg (by decide)] at hk0
        subst hk0
        rcases z5.2.2.2.2.2.1 rfl with ⟨u1, u2⟩ | ⟨u1, q1, p1, u2, u3, u4⟩
        · refine Or.inl ⟨u1, _, u2, fun x hx => ?_⟩
          by_cases z : x = h'
          · subst z; exact pk_us
          · exact pk_un z
        · exact Or.inr ⟨u1, q1, p1, u2, u3, _, u4, fun x hx => rfl⟩
    rcases hcase with ⟨u1, W1, u2, u3⟩ | ⟨u1, q1, p1, u2, u3, W1, u4, u5⟩
    · refine ⟨_, 0, by omega, rfl, rfl, cX_17 _ _ _ _, wb_X (s := s) h.2.1 (cX_17 c (rI c 17 + 1) G.length b) hmX (by rw [rI_wn (by decide)]) (fun x => rfl) (fun _ => rfl) (g1 7 (by decide) (by decide)) (fun x => g2 17 x) (fun x => g3 0 x (by omega)), by rw [rI_wn (by decide)], by rw [rI_wn (by decide)], ?_, ?_, ?_⟩
      · rw [u2]; exact b101
      · rw [u2, rI_ws, b102, nI_1]
      · rw [hT, u2]
        obtain ⟨v0, w0⟩ := gv (x := h') x15 (by omega)
        rw [u1, ev_n (by omega)] at v0
        have hsame : ∀ y, rL m1 2 y = rL m 2 y := fun y => by
          by_cases z : y = s + a
          · subst z; rw [g4, ← v0]; exact x15.1 a ha
          · exact g3 2 y (by omega)
        refine fV_congr (fV_keep (fV_le (h1 := h' + k0) x15 (by omega)) (by omega) (fun _ _ _ => rfl) (fun y _ _ => hsame y)) (fun x hx => u3 x hx)
    · have hle : q1 + 1 ≤ sz := by
        rw [u4] at z6
        have : q1 + 1 ≤ QE f := z6
        omega
      obtain ⟨c1, e1, e2, e3, e4, e5, e6⟩ := set_run (N := N) (V := vm m) (m := m) (s := s) (c := wI c 17 (rI c 17 + 1)) (by omega) x1 y3' ha hle (mv_17 _ u2) u3 (fV_keep x15 (by omega) (fun _ _ _ => rfl) (fun _ _ _ => rfl)) u1
      have e2' : cY c c1 G.length b := ⟨fun k hk => (e2.1 k hk).trans (rI_wn hk), fun i x hx => e2.2.1 i x hx, fun i y hy => e2.2.2.1 i y hy, e2.2.2.2.trans rfl⟩
      have hcX := cY_X e2'
      refine ⟨c1, _, ?_, e1, e2'.2.2.2, hcX, wb_X h.2.1 hcX hmX (e2'.1 9 (by decide)) (fun x => e2'.2.1 16 x (by omega)) (fun x => e2'.2.2.1 1 x (by omega)) (g1 7 (by decide) (by decide)) (fun x => g2 17 x) (fun x => g3 0 x (by omega)), e2'.1 11 (by decide), e2'.1 12 (by decide), ?_, ?_, ?_⟩
      · have := x11; omega
      · rw [u4]; exact e3
      · rw [u4, e4]; rfl
      · rw [hT, u4]
        exact fV_congr (fV_le (h1 := h' + k0) (e5 m1 (fun y hy => g3 2 y (by omega)) g4) (by omega)) (fun x hx => u5 x hx)
