-- ===== one step: return, branches =====
theorem pb_EL {c m : rs_T} {T : Nat → ts_T} {S E M : Nat → Nat} {F t : Nat} {w : Bool} (h : pb c m T S E M F t w) {f : Nat} (hf : f < F) : E f ≤ rN c 0 := by
  have hl := (pb_ln h).1
  obtain ⟨h1, h2, h3, h4, h5, h6, h7, h8, h9, h10, h11, h12, h13, h14⟩ := h
  obtain ⟨a1, a2, a3, a4, a5, a6, a7, a8⟩ := h10 f hf
  omega
theorem fill_run {V : vw_T} {m c : rs_T} {N j b s n h sz q p q1 p1 lo h0 : Nat} {W : Nat → Int32} (hb : b + n + h ≤ 220) (hp : pv c V) (ht : tR c j b sz q p) (hh : h0 ≤ h) (hq : q1 ≤ sz) (hm : mvf c n W lo h0 q p q1 p1) (hf : fV c m V n W b s h) : ∃ c2 W2, vl N (q1 - q) c c2 ∧ q1 - q ≤ 220 ∧ tR c2 j b sz q1 p1 ∧ cY c c2 j b ∧ fV c2 m V n W2 b s h ∧ (∀ x, lo ≤ x → x < h0 → W2 x = nI (n + x)) ∧ (∀ x, ¬ (lo ≤ x ∧ x < h0) → W2 x = W x) := by
  unfold mvf at hm
  have hq1 := (mv_q hm).1
  have hcl := cn_le (ns n W) (h0 - lo) lo
  by_cases hlo : lo ≤ h0
  · obtain ⟨c2, e1, e2, e3, e4⟩ := mv_run (V := V) (m := m) (N := N) (j := j) (b := b) (s := s) (n := n) (h := h) (sz := sz) hb (h0 - lo) lo c q p q1 p1 W hp ht (by omega) hq hm hf
    refine ⟨c2, _, e1, by omega, e2, e3, e4, fun x x1 x2 => ?_, fun x hx => ?_⟩
    · show (if lo ≤ x ∧ x < lo + (h0 - lo) ∧ ns n W x = true then nI (n + x) else W x) = _
      by_cases z : ns n W x = true
      · rw [if_pos ⟨x1, by omega, z⟩]
      · rw [if_neg (fun y => z y.2.2)]
        unfold ns at z
        simpa using z
    · show (if lo ≤ x ∧ x < lo + (h0 - lo) ∧ ns n W x = true then nI (n + x) else W x) = _
      rw [if_neg (fun y => hx ⟨y.1, by omega⟩)]
  · have e : h0 - lo = 0 := by omega
    rw [e] at hm
    obtain ⟨rfl, rfl⟩ := hm
    exact ⟨c, W, by rw [Nat.sub_self]; rfl, by omega, ht, cY_rfl _ _ _, hf, fun x x1 x2 => by omega, fun x _ => rfl⟩
theorem m_brf {N : Nat} {c m : rs_T} {T : Nat → ts_T} {f s E ms i k j : Nat} (hW : pb_W c m T f s E ms) (hE : E ≤ 512) (hN : 1000 ≤ N) (hi : s ≤ i) (hi2 : i < E) (hq : (T i).1[k]? = none) (hk : k ≤ 1000) (h12 : rI m 12 = nI (j + 1)) (hj : j < 30) (h18 : rA m 18 j = nI f) (hf : f < 40) (h0s : rA m 0 f = nI s) (h15 : rI m 15 = nI i) : fx_Md_branch N (nI k) m = fx_Md_back N m := by
  have hbg := cl_beg (N := N) hW ⟨j, hj, h12, h18, hf, h0s⟩ hE (by omega) hi hi2 (show k ≤ 2000 by omega)
  have hbq : (bg_L (T i))[k]? = none := by unfold bg_L; rw [List.getElem?_map, hq]; rfl
  rw [hbq] at hbg
  have hbg : fx_Md_beginOf N (nI i) (nI k) m = some (-1, m) := hbg
  unfold fx_Md_branch
  rw [h15, hbg, bn_s, if_neg (by decide), bv_id]
theorem m_out {N : Nat} {c m : rs_T} {T : Nat → ts_T} {f s E ms i j : Nat} (hW : pb_W c m T f s E ms) (hE : E ≤ 512) (hN : 1000 ≤ N) (hi : s ≤ i) (hi2 : i < E) (h12 : rI m 12 = nI (j + 1)) (hj : j < 30) (h18 : rA m 18 j = nI f) (hf : f < 40) (h0s : rA m 0 f = nI s) (h15 : rI m 15 = nI i) : ∀ (d fu k : Nat), k + d = (T i).1.length → d < fu → fx_Md_outermost_b2 N fu (nI k) m = some (nI (T i).1.length, m) := by
  have hlen : (T i).1.length ≤ 512 := by
    obtain ⟨tb1, tb2, -, -⟩ := (hW.2.2.1.2.2 i hi (by omega)).2.2.2.2.1
    omega
  intro d
  induction d with
  | zero =>
    intro fu k hk hfu
    obtain ⟨fu, rfl⟩ : ∃ g, fu = g + 1 := ⟨fu - 1, by omega⟩
    have hbg := cl_beg (N := N) hW ⟨j, hj, h12, h18, hf, h0s⟩ hE (by omega) hi hi2 (show k ≤ 2000 by omega)
    have hbq : (bg_L (T i))[k]? = none := by
      unfold bg_L
      rw [List.getElem?_map, List.getElem?_eq_none (by omega)]; rfl
    rw [hbq] at hbg
    have hbg : fx_Md_beginOf N (nI i) (nI k) m = some (-1, m) := hbg
    unfold fx_Md_outermost_b2
    rw [h15, hbg, bn_s, if_pos (by decide), show k = (T i).1.length by omega]
  | succ d ih =>
    intro fu k hk hfu
    obtain ⟨fu, rfl⟩ : ∃ g, fu = g + 1 := ⟨fu - 1, by omega⟩
    have hbg := cl_beg (N := N) hW ⟨j, hj, h12, h18, hf, h0s⟩ hE (by omega) hi hi2 (show k ≤ 2000 by omega)
    obtain ⟨q, hq⟩ : ∃ q, (T i).1[k]? = some q := ⟨_, List.getElem?_eq_getElem (by omega)⟩
    have hbq : (bg_L (T i))[k]? = some q.1 := by unfold bg_L; rw [List.getElem?_map, hq]; rfl
    rw [hbq] at hbg
    have hbg : fx_Md_beginOf N (nI i) (nI k) m = some (nI q.1, m) := hbg
    have hlt := (ty_mem hW.2.2.1 hi (by omega) (List.mem_of_getElem? hq)).2.1
    unfold fx_Md_outermost_b2
    rw [h15, hbg, bn_s, if_neg (nI_pos (by omega)), bd_s, nI_1]
    exact ih fu (k + 1) (by omega) (by omega)
theorem SR_ret {N : Nat} {c m mm : rs_T} {T : Nat → ts_T} {S E M : Nat → Nat} {F t : Nat} {w : Bool} {KK : Nat → Nat → kT} {ZZ : Nat → Nat → Int32} {QS QE : Nat → Nat} {G : List fr_T} {f at_ b s h0 : Nat} {r : Bool} {o a b' : Int32} (h : IB c m T S E M F t w KK ZZ QS QE) (hR : R0 c m (vm m) T S E M F w KK G f at_ r b s) (hs1 : rI m 9 = 1) (hN : 1000 ≤ N) (hh0 : h0 ≤ (T at_).2.2.1) (hr0 : v_r (vm m) f ≤ h0) (hmm : m13 m mm) (hmv : rI mm 13 = nI (s + nm (vm m) f + h0)) (hM : msb N o a b' m = fx_Md_back N mm)
    (hS : r = false → ∃ cc, c18 c cc G.length at_ ∧ cc.2.2.2 = c.2.2.2 ∧ rA cc 20 G.length = nI (b + nm (vm m) f + h0) ∧ fx_Sr_perform N c = fx_Sr_giveBack N (nI G.length) cc)
    (hG : r = true → ∃ sz c2 k2 q1 p1 W2, k2 ≤ 900 ∧ vl N k2 (wI c 17 (rI c 17 + 1)) c2 ∧ tR c2 G.length b sz q1 p1 ∧ cY c c2 G.length b ∧ fV c2 m (vm m) (nm (vm m) f) W2 b s h0 ∧ (∀ x, h0 - v_r (vm m) f ≤ x → x < h0 → W2 x = nI (nm (vm m) f + x)) ∧ q1 < sz ∧ ci c q1 15 (nI p1) 0 (nI (nm (vm m) f + h0 - v_r (vm m) f)) 0 0) : SR N c m T S E M F t w o a b' r := by
  obtain ⟨x1, x2, x3, x4, x5, x6, x7, x8, x9, x10, x11, x12, x13, x14, x15, x16, x17, -⟩ := cx h hR
  obtain ⟨-, ⟨⟨a1, a2, a3, a4, a5, a6, a7, a8, a9, a10, a11, a12⟩, -, -, -, -, -, -, -, b9, -⟩, -⟩ := id hR
  obtain ⟨f1, f2, f3, f4, f5, f6, f7, f8, f9⟩ := pb_fn h.1 a3.1
  cases r with
  | false =>
    obtain ⟨cc, s1, sn, s2, s3⟩ := hS rfl
    have c17 : rI cc 17 = 0 := (s1.1 17).trans (b9 rfl).2.2
    obtain ⟨m1, c1, l1, l2, l3, l4⟩ := lv_all (N := N) (cc := cc) h hR hs1 hN hh0 hr0 hmm hmv sn (fun k _ => s1.1 k) c17 (fun i x y1 y2 => s1.2.2.1 i x y1 y2) (fun i y _ => s1.2.2.2 i y) (fun i hi => by
      rw [s1.2.2.2]
      have := sv (x := h0 - v_r (vm m) f + i) x15 (by omega) (by omega)
      rw [← Nat.add_assoc, ← Nat.add_assoc] at this
      exact this)
    refine ⟨m1, c1, 0, KK, ZZ, QS, QE, by rw [hM]; exact l1, by omega, fun _ => ⟨c1, ?_, Or.inl l3, rfl⟩, fun z => (by cases z), l4⟩
    rw [s3]
    unfold fx_Sr_giveBack
    rw [gd_k (by first | omega | (simp only [rN_wI, rN_wA, rN_wL]; omega)) (by first | omega | (simp only [rN_wI, rN_wA, rN_wL]; omega)), gd_k (by first | omega | (simp only [rN_wI, rN_wA, rN_wL]; omega)) (by first | omega | (simp only [rN_wI, rN_wA, rN_wL]; omega)), nI_clamp (by omega), s1.2.2.1 17 _ (by omega) (by omega), a1, gd_k (by first | omega | (simp only [rN_wI, rN_wA, rN_wL]; omega)) (by first | omega | (simp only [rN_wI, rN_wA, rN_wL]; omega)), nI_clamp (by omega), s1.2.2.1 1 _ (by omega) (by omega), f2, s2, nI_sub (by omega), show b + nm (vm m) f + h0 - v_r (vm m) f = b + nm (vm m) f + (h0 - v_r (vm m) f) by omega, l2, bv_s]
  | true =>
    obtain ⟨sz, c2, k2, q1, p1, W2, w1, w2, w3, w4, w5, w6, w7, w8⟩ := hG rfl
    obtain ⟨t1, t2, t3, t4, t5, t6, t7, t8, t9, t10⟩ := id w3
    obtain ⟨i1, i2, i3, i4, i5, i6⟩ := cY_ci w4 w8
    obtain ⟨m1, c1, l1, l2, l3, l4⟩ := lv_all (N := N) (cc := wA (wI c2 17 0) 18 G.length (nI (q1 + 1))) h hR hs1 hN hh0 hr0 hmm hmv (w4.2.2.2) (fun k hk => by rw [rI_wA, rI_wn hk]; exact w4.1 k hk) (by rw [rI_wA, rI_ws]) (fun i x y1 y2 => by rw [rA_wA, if_neg y1, rA_wI]; exact w4.2.1 i x y1) (fun i y hy => by rw [rL_wA, rL_wI]; exact w4.2.2.1 i y hy) (fun i hi => by
      rw [rL_wA, rL_wI]
      have := w5.2.1 (h0 - v_r (vm m) f + i) (by omega)
      rw [w6 _ (by omega) (by omega), ev_n (by omega)] at this
      rw [show b + nm (vm m) f + (h0 - v_r (vm m) f) + i = b + (nm (vm m) f + (h0 - v_r (vm m) f + i)) by omega, this]
      congr 1
      omega)
    refine ⟨m1, c1, k2 + 1, KK, ZZ, QS, QE, by rw [hM]; exact l1, by omega, fun z => (by cases z), fun _ => vl_tr w2 (vl_1 (tR_vq w3 w7 i2 ?_ l3)), l4⟩
    rw [rp_eq (j := G.length) (by rw [rI_wn (by decide)]; exact t3) t4 (by first | omega | (simp only [rN_wI, rN_wA, rN_wL]; omega))]
    rw [rA_wI, rA_wI, rA_wI, i1, if_neg (by decide), if_pos (by decide), if_pos (by decide), if_pos (by decide)]
    unfold fx_Rr_control
    rw [if_neg (by decide), if_neg (by decide), if_neg (by decide), if_neg (by decide), if_neg (by decide), if_pos (by decide), gd_k (by first | omega | (simp only [rN_wI, rN_wA, rN_wL]; omega)) (by first | omega | (simp only [rN_wI, rN_wA, rN_wL]; omega)), gd_k (by first | omega | (simp only [rN_wI, rN_wA, rN_wL]; omega)) (by first | omega | (simp only [rN_wI, rN_wA, rN_wL]; omega)), nI_clamp (by omega), nI_clamp (by omega), ga _ _ _ _ _ (by decide), t9, ga _ _ _ _ _ (by decide), i4, nI_add, show b + (nm (vm m) f + h0 - v_r (vm m) f) = b + nm (vm m) f + (h0 - v_r (vm m) f) by omega, l2, bv_s]
theorem nx_15 {V : vw_T} {f i : Nat} {T T2 : ts_T} (h : t_nx V f i T = some T2) (ho : v_o V i = 15) : t_has V T (v_r V f) = true := by
  rcases nx_cases h with ⟨o, -, -⟩ | ⟨-, hc⟩
  · rw [ho] at o; exact absurd o (by decide)
  rcases hc with ⟨o, -⟩ | ⟨o, -⟩ | ⟨o, -⟩ | ⟨o, -⟩ | ⟨o, -⟩ | ⟨o, -⟩ | ⟨o, -⟩ | ⟨o, -⟩ | ⟨o, hh, -⟩ | ⟨o, -⟩ | ⟨o, -⟩ | ⟨o, -⟩
  · rw [ho] at o; exact absurd o (by decide)
  · rw [ho] at o; exact absurd o (by decide)
  · rw [ho] at o; exact absurd o (by decide)
  · rw [ho] at o; exact absurd o (by decide)
  · rw [ho] at o; exact absurd o (by decide)
  · rw [ho] at o; exact absurd o (by decide)
  · rw [ho] at o; exact absurd o (by decide)
  · rw [ho] at o; exact absurd o (by decide)
  · exact hh
  · rw [ho] at o; exact absurd o (by decide)
  · rw [ho] at o; exact absurd o (by decide)
  · rw [ho] at o; exact absurd o (by decide)
theorem nx_12 {V : vw_T} {f i : Nat} {T T2 : ts_T} (h : t_nx V f i T = some T2) (ho : v_o V i = 12) : ∃ k, t_n (v_a V i) T.1.length = some k ∧ t_has V T (t_want V f T.1 k) = true := by
  rcases nx_cases h with ⟨o, -, -⟩ | ⟨-, hc⟩
  · rw [ho] at o; exact absurd o (by decide)
  rcases hc with ⟨o, -⟩ | ⟨o, -⟩ | ⟨o, -⟩ | ⟨o, -⟩ | ⟨o, -⟩ | ⟨o, k, h1, h2, -⟩ | ⟨o, -⟩ | ⟨o, -⟩ | ⟨o, -⟩ | ⟨o, -⟩ | ⟨o, -⟩ | ⟨o, -⟩
  · rw [ho] at o; exact absurd o (by decide)
  · rw [ho] at o; exact absurd o (by decide)
  · rw [ho] at o; exact absurd o (by decide)
  · rw [ho] at o; exact absurd o (by decide)
  · rw [ho] at o; exact absurd o (by decide)
  · exact ⟨k, h1, h2⟩
  · rw [ho] at o; exact absurd o (by decide)
  · rw [ho] at o; exact absurd o (by decide)
  · rw [ho] at o; exact absurd o (by decide)
  · rw [ho] at o; exact absurd o (by decide)
  · rw [ho] at o; exact absurd o (by decide)
  · rw [ho] at o; exact absurd o (by decide)
theorem nx_13 {V : vw_T} {f i : Nat} {T T2 : ts_T} (h : t_nx V f i T = some T2) (ho : v_o V i = 13) : ∃ k, t_n (v_a V i) T.1.length = some k ∧ t_tu V T (t_want V f T.1 k + 1) (t_want V f T.1 k) = some T2 := by
  rcases nx_cases h with ⟨o, -, -⟩ | ⟨-, hc⟩
  · rw [ho] at o; exact absurd o (by decide)
  rcases hc with ⟨o, -⟩ | ⟨o, -⟩ | ⟨o, -⟩ | ⟨o, -⟩ | ⟨o, -⟩ | ⟨o, -⟩ | ⟨o, k, h1, h2⟩ | ⟨o, -⟩ | ⟨o, -⟩ | ⟨o, -⟩ | ⟨o, -⟩ | ⟨o, -⟩
  · rw [ho] at o; exact absurd o (by decide)
  · rw [ho] at o; exact absurd o (by decide)
  · rw [ho] at o; exact absurd o (by decide)
  · rw [ho] at o; exact absurd o (by decide)
  · rw [ho] at o; exact absurd o (by decide)
  · rw [ho] at o; exact absurd o (by decide)
  · exact ⟨k, h1, h2⟩
  · rw [ho] at o; exact absurd o (by decide)
  · rw [ho] at o; exact absurd o (by decide)
  · rw [ho] at o; exact absurd o (by decide)
  · rw [ho] at o; exact absurd o (by decide)
  · rw [ho] at o; exact absurd o (by decide)
-- everything that a branch needs of its place
theorem pctx {c m : rs_T} {T : Nat → ts_T} {S E M : Nat → Nat} {F t : Nat} {w : Bool} {KK : Nat → Nat → kT} {ZZ : Nat → Nat → Int32} {QS QE : Nat → Nat} {G : List fr_T} {f at_ b s : Nat} {r : Bool} (h : IB c m T S E M F t w KK ZZ QS QE) (hR : R0 c m (vm m) T S E M F w KK G f at_ r b s) (ho : ¬ v_o (vm m) at_ = 11) : pb_W c m T f (S f) (E f) (M f) ∧ E f ≤ 512 ∧ S f ≤ at_ ∧ at_ + 1 < E f ∧ t_nx (vm m) f at_ (T at_) = some (T (at_ + 1)) ∧ tl (T at_) ∧ rA m 18 G.length = nI f ∧ f < 40 ∧ rA m 0 f = nI (S f) ∧ (T at_).1.length ≤ 512 ∧ cf_ok c (vm m) F ∧ f < F ∧ pb_A c m := by
  have hcx := cx h hR
  obtain ⟨r1, ⟨⟨a1, a2, a3, a4, a5, a6, a7, a8, a9, a10, a11, a12⟩, -⟩, -⟩ := hR
  obtain ⟨hWf, hf40, hE, -, h0s, -⟩ := pb_Wf h.1 a3
  have hlt : at_ + 1 < E f := by
    rcases hcx.2.2.2.2.2.2.2.2.2.2.2.2.2.2.2.2.2 with z | z
    · exact z
    · exact absurd z ho
  obtain ⟨tb1, tb2, -, -⟩ := (hWf.2.2.1.2.2 at_ a9 (by omega)).2.2.2.2.1
  exact ⟨hWf, hE, a9, hlt, hWf.2.2.1.2.1 at_ a9 (by omega), a11, a2, hf40, h0s, by omega, pb_cf h.1.2.2.2.2.2.2.2.1 h.1.2.2.2.2.2.2.2.2.1, a3.1, h.1.2.2.2.2.2.2.2.1⟩
theorem SR_15 {N : Nat} {c m : rs_T} {T : Nat → ts_T} {S E M : Nat → Nat} {F t : Nat} {w : Bool} {KK : Nat → Nat → kT} {ZZ : Nat → Nat → Int32} {QS QE : Nat → Nat} {G : List fr_T} {f at_ b s : Nat} {r : Bool} {a b' : Int32} (h : IB c m T S E M F t w KK ZZ QS QE) (hR : R0 c m (vm m) T S E M F w KK G f at_ r b s) (hs1 : rI m 9 = 1) (hN : 1000 ≤ N) (ho : v_o (vm m) at_ = 15) : SR N c m T S E M F t w 15 a b' r := by
  obtain ⟨x1, x2, x3, x4, x5, x6, x7, x8, x9, x10, x11, x12, x13, x14, x15, x16, x17, -⟩ := cx h hR
  obtain ⟨p1, p2, p3, p4, p5, p6, p7, p8, p9, p10, p11, p12, p13⟩ := pctx h hR (by rw [ho]; decide)
  have hhas := tl_has p6 (nx_15 p5 ho)
  have h7 : rA c 7 at_ = 15 := (x1.1 at_).1.trans ho
  refine SR_ret (h0 := (T at_).2.2.1) (mm := m) h hR hs1 hN (Nat.le_refl _) (by omega) (m13_0 m) x13 ?_ (fun hr => ?_) (fun hr => ?_)
  · unfold msb ms_15 fx_Md_outermost
    have ho1 := m_out (N := N) p1 p2 hN p3 (by omega) x7 x5 p7 p8 p9 x14 (T at_).1.length N 0 (by omega) (by omega)
    have ho1 : fx_Md_outermost_b2 N N 0 m = some (nI (T at_).1.length, m) := ho1
    rw [if_neg (by decide), if_neg (by decide), if_neg (by decide), if_neg (by decide), if_neg (by decide), if_pos (by decide), ho1, bn_s, m_brf p1 p2 hN p3 (by omega) (List.getElem?_eq_none (Nat.le_refl _)) (by omega) x7 x5 p7 p8 p9 x14]
  · subst hr
    obtain ⟨r1, ⟨-, -, -, -, -, -, -, -, b9, -⟩, -⟩ := hR
    obtain ⟨c18', c20, c17⟩ := b9 rfl
    refine ⟨_, c18_0 c G.length at_, rfl, by rw [rA_wn (by decide)]; exact c20, ?_⟩
    rw [sp_eq x6 x5 x2 c18' x3 x4, h7, if_pos (by decide), if_pos (by decide), if_pos (by decide), if_pos (by decide)]
    unfold fx_Sr_control
    rw [if_neg (by decide), if_neg (by decide), if_neg (by decide), if_neg (by decide), if_neg (by decide), if_pos (by decide), bv_id]
  · subst hr
    have hR1 := hR
    obtain ⟨r1, ⟨hfC, -⟩, -⟩ := hR1
    obtain ⟨sz0, z1, z2, z3, z4, z5, z6, z7, z8⟩ := rg_ctx h hfC
    obtain ⟨sz, y1', y2', y3', y4'⟩ := R0_tR h hR hs1
    unfold kcV at z5
    rw [ho] at z5
    obtain ⟨q1, p1', m1, m2, m3⟩ := z5.2.2.2.2.2.2.2.2.2.2.2.2.2.2.2.2.2.2.1 rfl
    obtain ⟨c2, W2, e1, e2, e3, e4, e5, e6, e7⟩ := fill_run (N := N) (c := wI c 17 (rI c 17 + 1)) (V := vm m) (m := m) (s := s) (h := (T at_).2.2.1) (by omega) x1 y3' (Nat.le_refl _) (by omega) (mv_17 _ m1) (fV_keep x15 (by omega) (fun _ _ _ => rfl) (fun _ _ _ => rfl))
    have e4' : cY c c2 G.length b := ⟨fun k hk => (e4.1 k hk).trans (rI_wn hk), fun i x hx => e4.2.1 i x hx, fun i y hy => e4.2.2.1 i y hy, e4.2.2.2⟩
    exact ⟨sz, c2, _, q1, p1', W2, by omega, e1, e3, e4', e5, fun x x1 x2 => e6 x x1 x2, by omega, m2⟩
theorem SR_12 {N : Nat} {c m : rs_T} {T : Nat → ts_T} {S E M : Nat → Nat} {F t : Nat} {w : Bool} {KK : Nat → Nat → kT} {ZZ : Nat → Nat → Int32} {QS QE : Nat → Nat} {G : List fr_T} {f at_ b s : Nat} {r : Bool} {b' : Int32} (h : IB c m T S E M F t w KK ZZ QS QE) (hR : R0 c m (vm m) T S E M F w KK G f at_ r b s) (hs1 : rI m 9 = 1) (hN : 1000 ≤ N) (ho : v_o (vm m) at_ = 12) : SR N c m T S E M F t w 12 (v_a (vm m) at_) b' r := by
  obtain ⟨x1, x2, x3, x4, x5, x6, x7, x8, x9, x10, x11, x12, x13, x14, x15, x16, x17, -⟩ := cx h hR
  obtain ⟨p1, p2, p3, p4, p5, p6, p7, p8, p9, p10, p11, p12, p13⟩ := pctx h hR (by rw [ho]; decide)
  obtain ⟨k, hk1, hk2⟩ := nx_12 p5 ho
  have hhas := tl_has p6 hk2
  obtain ⟨hk3, hk4⟩ := t_n_some (by omega) hk1
  have h7 : rA c 7 at_ = 12 := (x1.1 at_).1.trans ho
  have hlb := lkb_of p1 p13 p11 p12 ⟨p2, pb_EL h.1 p12, x4.2.2.1⟩ p3 (by omega) (Or.inl ho) hk1
  have hmsb : msb N 12 (v_a (vm m) at_) b' m = fx_Md_branch N (nI k) m := by
    unfold msb
    rw [if_neg (by decide), if_neg (by decide), if_pos (by decide), hk4]
  have hSperf : r = false → fx_Sr_perform N c = fx_Sr_branch N (nI G.length) (nI at_) (wA c 18 G.length (nI (at_ + 1))) ∧ rA (wA c 18 G.length (nI (at_ + 1))) 20 G.length = nI (b + nm (vm m) f + (T at_).2.2.1) := by
    intro hr
    subst hr
    obtain ⟨r1, ⟨-, -, -, -, -, -, -, -, b9, -⟩, -⟩ := hR
    obtain ⟨c18', c20, c17⟩ := b9 rfl
    refine ⟨?_, by rw [rA_wn (by decide)]; exact c20⟩
    rw [sp_eq x6 x5 x2 c18' x3 x4, h7, if_pos (by decide), if_pos (by decide), if_pos (by decide), if_pos (by decide)]
    unfold fx_Sr_control
    rw [if_neg (by decide), if_neg (by decide), if_pos (by decide), bv_id]
  have hGrun : r = true → ∃ sz c2 k2 q1 p1 W2, k2 ≤ 900 ∧ vl N k2 (wI c 17 (rI c 17 + 1)) c2 ∧ tR c2 G.length b sz q1 p1 ∧ cY c c2 G.length b ∧ fV c2 m (vm m) (nm (vm m) f) W2 b s (T at_).2.2.1 ∧ (∀ x, x < t_ht (vm m) (T at_).1 → W2 x = nI (nm (vm m) f + x)) ∧ (∀ x, (T at_).2.2.1 - t_want (vm m) f (T at_).1 k ≤ x → x < (T at_).2.2.1 → W2 x = nI (nm (vm m) f + x)) ∧ q1 < sz ∧ brc c (nm (vm m) f) (v_r (vm m) f) (T at_).2.2.1 (ZZ f) (lr (vm m) f (T at_).1 k) q1 p1 := by
    intro hr
    subst hr
    have hR1 := hR
    obtain ⟨r1, ⟨hfC, -⟩, -⟩ := hR1
    obtain ⟨sz0, z1, z2, z3, z4, z5, z6, z7, z8⟩ := rg_ctx h hfC
    obtain ⟨sz, y1', y2', y3', y4'⟩ := R0_tR h hR hs1
    have hks := kok_s z4 p1.2.2.1 x16 rfl (by omega) at_ p3 (by omega) p6
    unfold kcV at z5
    rw [ho, hk4, nI_clamp (by omega)] at z5
    obtain ⟨q1, p1', m1, m2, m3⟩ := z5.2.2.2.2.2.2.2.2.2.2.2.2.2.2.2.1 rfl
    rw [lw_lr] at m1
    obtain ⟨c2, W2, e1, e2, e3, e4, e5, e6, e7⟩ := fill_run (N := N) (c := wI c 17 (rI c 17 + 1)) (V := vm m) (m := m) (s := s) (h := (T at_).2.2.1) (by omega) x1 y3' (Nat.le_refl _) (by omega) (mv_17 _ m1) (fV_keep x15 (by omega) (fun _ _ _ => rfl) (fun _ _ _ => rfl))
    have e4' : cY c c2 G.length b := ⟨fun k hk => (e4.1 k hk).trans (rI_wn hk), fun i x hx => e4.2.1 i x hx, fun i y hy => e4.2.2.1 i y hy, e4.2.2.2⟩
    refine ⟨sz, c2, _, q1, p1', W2, by omega, e1, e3, e4', e5, fun x hx => ?_, fun x x1 x2 => e6 x x1 x2, by omega, m2⟩
    rw [e7 x (fun z => by omega)]
    exact hks x hx
  cases hq : (T at_).1[k]? with
  | some q =>
    exact SR_br (pl := at_) (h0 := (T at_).2.2.1) (mm := m) h hR hs1 hN hq (by omega) (Nat.le_refl _) hhas (m13_0 m) x13 hmsb hlb (by omega) (fun hr => ⟨_, c18_0 c G.length at_, rfl, (hSperf hr).2, (hSperf hr).1⟩) hGrun
  | none =>
    have hw : t_want (vm m) f (T at_).1 k = v_r (vm m) f := by unfold t_want; rw [hq]
    have hlr : lr (vm m) f (T at_).1 k = none := by unfold lr; rw [hq]
    rw [hlr] at hlb
    refine SR_ret (h0 := (T at_).2.2.1) (mm := m) h hR hs1 hN (Nat.le_refl _) (by omega) (m13_0 m) x13 (by rw [hmsb, m_brf p1 p2 hN p3 (by omega) hq (by omega) x7 x5 p7 p8 p9 x14]) (fun hr => ⟨_, c18_0 c G.length at_, rfl, (hSperf hr).2, ?_⟩) (fun hr => ?_)
    · rw [(hSperf hr).1]
      have h10 : rA c 10 at_ = -1 := hlb.2.2
      unfold fx_Sr_branch
      rw [gd_k (by first | omega | (simp only [rN_wI, rN_wA, rN_wL]; omega)) (by first | omega | (simp only [rN_wI, rN_wA, rN_wL]; omega)), bd_s, nI_clamp (by omega), rA_wn (by decide), h10, if_pos rfl, bv_id]
    · obtain ⟨sz, c2, k2, q1, p1', W2, w1, w2, w3, w4, w5, w6, w7, w8, w9⟩ := hGrun hr
      rw [hlr] at w9
      exact ⟨sz, c2, k2, q1, p1', W2, w1, w2, w3, w4, w5, fun x y1 y2 => w7 x (by omega) y2, w8, w9⟩
