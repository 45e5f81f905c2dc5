-- ===== one step: branches to labels, the class =====
theorem s_br {N : Nat} {c : rs_T} {f r0 j b n h0 pl e v v2 : Nat} {x : kl_T} (hl : lkb c f r0 (some x) pl) (hpl : pl < rN c 0 ∧ rN c 0 ≤ 1500) (hj : j < 30) (h17 : rA c 17 j = nI f) (h19 : rA c 19 j = nI b) (h20 : rA c 20 j = nI (b + n + h0)) (h0p : rA c 0 f = nI v) (h2c : rA c 2 f = nI v2) (hn : n = v + v2) (hw : x.2.1 + x.2.2.1 ≤ h0) (hV : b + n + h0 ≤ 220) (hN : 1000 ≤ N) (he : (x.2.2.2 = true ∧ e = x.1) ∨ (x.2.2.2 = false ∧ rA c 10 x.1 = nI e)) (hee : e < 1000) : ∃ c2, fx_Sr_branch N (nI j) (nI pl) c = some c2 ∧ rA c2 18 j = nI (e + 1) ∧ rA c2 20 j = nI (b + n + (x.2.1 + x.2.2.1)) ∧ (∀ k, rI c2 k = rI c k) ∧ (∀ i y, ¬ (i = 18 ∧ y = j) → ¬ (i = 20 ∧ y = j) → rA c2 i y = rA c i y) ∧ (∀ i y, ¬ i = 2 → rL c2 i y = rL c i y) ∧ ∀ y, rL c2 2 y = cpy (rL c 2) (b + n + (h0 - x.2.2.1)) (b + n + x.2.1) x.2.2.1 y := by
  have hwb := wb_by hl
  obtain ⟨a1, a2, a3, a4, a5, a6, a7⟩ := hl
  have hwb : fx_Pr_wantedBy (nI x.1) (nI f) c = some (nI x.2.2.1, c) := by rw [a3] at hwb; exact hwb
  obtain ⟨c2, k1, k2, k3, k4, k5⟩ := c_move (N := N) (k := x.2.2.1) (to := b + n + x.2.1) (src := b + n + (h0 - x.2.2.1)) (c := c) (by omega) (by omega) hN
  have hn2 : rN c2 0 = rN c 0 := congrFun (nf_Ac_move k1) 0
  obtain ⟨c3, ec3⟩ : ∃ c3, c3 = wA c2 20 j (nI (b + n + (x.2.1 + x.2.2.1))) := ⟨_, rfl⟩
  have hn3 : rN c3 0 = rN c 0 := by rw [ec3]; exact hn2
  have h3 : ∀ i y, ¬ (i = 20 ∧ y = j) → rA c3 i y = rA c i y := fun i y hy => by rw [ec3, rA_wA, if_neg hy]; exact k3 i y
  refine ⟨wA c3 18 j (nI (e + 1)), ?_, by rw [rA_wss], by rw [rA_wn (by decide), ec3, rA_wss], fun k => by rw [rI_wA, ec3, rI_wA]; exact k2 k, fun i y y1 y2 => by rw [rA_wA, if_neg y1]; exact h3 i y y2, fun i y hi => by rw [rL_wA, ec3, rL_wA]; exact k4 i y hi, fun y => by rw [rL_wA, ec3, rL_wA]; exact k5 y⟩
  unfold fx_Sr_branch fx_Pr_allLocals fx_Sr_branch_b144
  rw [gd_k (by first | omega | (simp only [rN_wI, rN_wA, rN_wL]; omega)) (by first | omega | (simp only [rN_wI, rN_wA, rN_wL]; omega)), bd_s, nI_clamp (by omega), a3, if_neg (fun z => (nI_m1 (by omega)).mp z), gd_k (by first | omega | (simp only [rN_wI, rN_wA, rN_wL]; omega)) (by first | omega | (simp only [rN_wI, rN_wA, rN_wL]; omega)), bd_s, nI_clamp (by omega), h17, hwb, bn_s, gd_k (by first | omega | (simp only [rN_wI, rN_wA, rN_wL]; omega)) (by first | omega | (simp only [rN_wI, rN_wA, rN_wL]; omega)), gd_k (by first | omega | (simp only [rN_wI, rN_wA, rN_wL]; omega)) (by first | omega | (simp only [rN_wI, rN_wA, rN_wL]; omega)), gd_k (by first | omega | (simp only [rN_wI, rN_wA, rN_wL]; omega)) (by first | omega | (simp only [rN_wI, rN_wA, rN_wL]; omega)), nI_clamp (by omega), bn_s, gd_k (by first | omega | (simp only [rN_wI, rN_wA, rN_wL]; omega)) (by first | omega | (simp only [rN_wI, rN_wA, rN_wL]; omega)), bd_s, h0p, h2c, nI_add, ← hn, h19, nI_add, nI_clamp (by omega), a5, nI_add, gd_k (by first | omega | (simp only [rN_wI, rN_wA, rN_wL]; omega)) (by first | omega | (simp only [rN_wI, rN_wA, rN_wL]; omega)), h20, nI_sub (by omega), show b + n + h0 - x.2.2.1 = b + n + (h0 - x.2.2.1) by omega, k1, bv_s, gd_k (by first | omega | (simp only [rN_wI, rN_wA, rN_wL]; omega)) (by first | omega | (simp only [rN_wI, rN_wA, rN_wL]; omega)), nI_add, show b + n + x.2.1 + x.2.2.1 = b + n + (x.2.1 + x.2.2.1) by omega, ← ec3]
  unfold fx_Pr_isLoop
  rw [if_neg (fun z => (nI_m1 (by omega)).mp z), gd_k (by first | omega | (simp only [rN_wI, rN_wA, rN_wL]; omega)) (by first | omega | (simp only [rN_wI, rN_wA, rN_wL]; omega)), nI_clamp (by omega), h3 7 x.1 (by omega)]
  rcases he with ⟨u1, u2⟩ | ⟨u1, u2⟩
  · rw [if_pos (a6 u1).1, bn_s, if_neg (by decide), gd_k (by first | omega | (simp only [rN_wI, rN_wA, rN_wL]; omega)) (by first | omega | (simp only [rN_wI, rN_wA, rN_wL]; omega)), nI_1, u2]
  · rw [if_neg (a7 u1).1, bn_s, if_pos rfl, gd_k (by first | omega | (simp only [rN_wI, rN_wA, rN_wL]; omega)) (by first | omega | (simp only [rN_wI, rN_wA, rN_wL]; omega)), h3 10 x.1 (by omega), u2, gd_k (by first | omega | (simp only [rN_wI, rN_wA, rN_wL]; omega)) (by first | omega | (simp only [rN_wI, rN_wA, rN_wL]; omega)), nI_1]
theorem g_br {N : Nat} {c : rs_T} {j b n h0 sz q p e wd wt : Nat} {Ze : Int32} (ht : tR c j b sz q p) (hq : q < sz) (hc : ci c q 12 (nI p) (nI (n + wd)) (nI (n + h0 - wt)) (nI wt) Ze) (hw : wd + wt ≤ h0) (hV : b + n + h0 ≤ 220) (hN : 1000 ≤ N) : ∃ c2, vq N c c2 ∧ rA c2 18 j = Ze ∧ rI c2 17 = 0 ∧ cY c c2 j b ∧ ∀ y, rL c2 2 y = cpy (rL c 2) (b + n + (h0 - wt)) (b + n + wd) wt y := by
  obtain ⟨t1, t2, t3, t4, t5, t6, t7, t8, t9, t10⟩ := id ht
  obtain ⟨i1, i2, i3, i4, i5, i6⟩ := hc
  obtain ⟨c2, k1, k2, k3, k4, k5⟩ := c_move (N := N) (k := wt) (to := b + n + wd) (src := b + n + (h0 - wt)) (c := wA (wI c 17 0) 18 j (nI (q + 1))) (by omega) (by omega) hN
  have hn2 : rN c2 2 = rN c 2 := (congrFun (nf_Ac_move k1) 2).trans rfl
  have h17 : rI (wA c2 18 j Ze) 17 = 0 := by rw [rI_wA, k2, rI_wA, rI_ws]
  refine ⟨wA c2 18 j Ze, tR_vq ht hq i2 ?_ h17, by rw [rA_wss], h17, ⟨fun k hk => ?_, fun i y hy => ?_, fun i y hy => ?_, (nf_Ac_move k1).trans rfl⟩, fun y => ?_⟩
  · rw [rp_eq (j := j) (by rw [rI_wn (by decide)]; exact t3) t4 (by first | omega | (simp only [rN_wI, rN_wA, rN_wL]; omega))]
    rw [rA_wI, rA_wI, rA_wI, i1, if_neg (by decide), if_pos (by decide), if_pos (by decide), if_pos (by decide)]
    unfold fx_Rr_control fx_Rr_branch
    rw [if_neg (by decide), if_neg (by decide), if_pos (by decide), gd_k (by first | omega | (simp only [rN_wI, rN_wA, rN_wL]; omega)) (by first | omega | (simp only [rN_wI, rN_wA, rN_wL]; omega)), nI_clamp (by omega), ga _ _ _ _ _ (by decide), t9, bd_s, gd_k (by first | omega | (simp only [rN_wI, rN_wA, rN_wL]; omega)) (by first | omega | (simp only [rN_wI, rN_wA, rN_wL]; omega)), gd_k (by first | omega | (simp only [rN_wI, rN_wA, rN_wL]; omega)) (by first | omega | (simp only [rN_wI, rN_wA, rN_wL]; omega)), gd_k (by first | omega | (simp only [rN_wI, rN_wA, rN_wL]; omega)) (by first | omega | (simp only [rN_wI, rN_wA, rN_wL]; omega)), nI_clamp (by omega), ga _ _ _ _ _ (by decide), i4, nI_add, ga _ _ _ _ _ (by decide), i3, nI_add, ga _ _ _ _ _ (by decide), i5, show b + (n + h0 - wt) = b + n + (h0 - wt) by omega, show b + (n + wd) = b + n + wd by omega, k1, bv_s, gd_k (by first | omega | (simp only [rN_wI, rN_wA, rN_wL]; omega)) (by first | omega | (simp only [rN_wI, rN_wA, rN_wL]; omega)), gd_k (by first | omega | (simp only [rN_wI, rN_wA, rN_wL]; omega)) (by first | omega | (simp only [rN_wI, rN_wA, rN_wL]; omega)), k3, ga _ _ _ _ _ (by decide), i6, bv_s]
  · rw [rI_wA, k2, rI_wA, rI_wn hk]
  · rw [rA_wA, if_neg hy, k3, rA_wA, if_neg hy, rA_wI]
  · by_cases z : i = 2
    · subst z
      have hyb : y < b := by
        by_cases z2 : b ≤ y
        · exact absurd ⟨rfl, z2⟩ hy
        · omega
      rw [rL_wA, k5 y]
      unfold cpy
      rw [if_neg (fun z3 => by omega), rL_wA, rL_wI]
    · rw [rL_wA, k4 i y z, rL_wA, rL_wI]
  · rw [rL_wA, k5 y]
    unfold cpy
    by_cases z : b + n + wd ≤ y ∧ y < b + n + wd + wt
    · rw [if_pos z, if_pos z, rL_wA, rL_wI]
    · rw [if_neg z, if_neg z, rL_wA, rL_wI]
theorem cY_wb {c m c1 m1 : rs_T} {F : Nat} {w : Bool} {j b s : Nat} (h : wb c m F w) (hc : cY c c1 j b) (hm : mX m m1 s) (m7 : rI m1 7 = rI m 7) (m17 : ∀ x, rA m1 17 x = rA m 17 x) (mL : ∀ x, rL m1 0 x = rL m 0 x) : wb c1 m1 F w := wb_X h (cY_X hc) hm (hc.1 9 (by decide)) (fun x => hc.2.1 16 x (by omega)) (fun x => hc.2.2.1 1 x (by omega)) m7 m17 mL
theorem SR_br {N : Nat} {c m mm : rs_T} {T : Nat → ts_T} {S E M : Nat → Nat} {F t : Nat} {w : Bool} {KK : Nat → Nat → kT} {ZZ : Nat → Nat → Int32} {QS QE : Nat → Nat} {G : List fr_T} {f at_ b s h0 k pl : Nat} {r : Bool} {o a b' : Int32} {q : lb_T} (h : IB c m T S E M F t w KK ZZ QS QE) (hR : R0 c m (vm m) T S E M F w KK G f at_ r b s) (hs1 : rI m 9 = 1) (hN : 1000 ≤ N) (hq : (T at_).1[k]? = some q) (hk : k ≤ 1000) (hh0 : h0 ≤ (T at_).2.2.1) (hw : t_ht (vm m) (T at_).1 + t_want (vm m) f (T at_).1 k ≤ h0) (hmm : m13 m mm) (hmv : rI mm 13 = nI (s + nm (vm m) f + h0)) (hM : msb N o a b' m = fx_Md_branch N (nI k) mm) (hlb : lkb c f (v_r (vm m) f) (lr (vm m) f (T at_).1 k) pl) (hpl : pl < rN c 0)
    (hS : r = false → ∃ cc, c18 c cc G.length at_ ∧ cc.2.2.2 = c.2.2.2 ∧ rA cc 20 G.length = nI (b + nm (vm m) f + h0) ∧ fx_Sr_perform N c = fx_Sr_branch N (nI G.length) (nI pl) cc)
    (hG : r = true → ∃ sz c2 k2 q1 p1 W2, k2 ≤ 900 ∧ vl N k2 (wI c 17 (rI c 17 + 1)) c2 ∧ tR c2 G.length b sz q1 p1 ∧ cY c c2 G.length b ∧ fV c2 m (vm m) (nm (vm m) f) W2 b s h0 ∧ (∀ x, x < t_ht (vm m) (T at_).1 → W2 x = nI (nm (vm m) f + x)) ∧ (∀ x, h0 - t_want (vm m) f (T at_).1 k ≤ x → x < h0 → W2 x = nI (nm (vm m) f + x)) ∧ q1 < sz ∧ brc c (nm (vm m) f) (v_r (vm m) f) h0 (ZZ f) (lr (vm m) f (T at_).1 k) q1 p1) : SR N c m T S E M F t w o a b' r := by
  obtain ⟨x1, x2, x3, x4, x5, x6, x7, x8, x9, x10, x11, x12, x13, x14, x15, x16, x17, -⟩ := cx h hR
  obtain ⟨-, ⟨⟨a1, a2, a3, a4, a5, a6, a7, a8, a9, a10, a11, a12⟩, -⟩, -⟩ := id hR
  obtain ⟨hWf, hf40, hE, -, h0s, -⟩ := pb_Wf h.1 a3
  obtain ⟨f1, f2, f3, f4, f5, f6, f7, f8, f9⟩ := pb_fn h.1 a3.1
  have hA : pb_A c m := h.1.2.2.2.2.2.2.2.1
  have h9 := h.2.2.2.2.2.2.2.2.2.2.2
  have hvm : vm mm = vm m := vm_congr (fun i x _ => hmm.2.1 i x)
  have hWm : pb_W c mm T f (S f) (E f) (M f) := pb_W_keep hWf (by rw [hvm]; exact ⟨fun _ _ => ⟨rfl, rfl, rfl, rfl⟩, rfl, rfl, rfl⟩) (fun _ _ => rfl) rfl (fun _ _ => ⟨rfl, rfl, rfl⟩) hE
  have hAm : pb_A c mm := ⟨fun i => by rw [hmm.2.1, hmm.2.1, hmm.2.1]; exact hA.1 i, fun i => by rw [hmm.2.1, hmm.2.1, hmm.2.1]; exact hA.2 i⟩
  have hht : v_w (vm m) q.1 ≤ t_ht (vm m) (T at_).1 := ht_le (hWf.2.2.1.2.2 at_ a9 (by omega)).1 q (List.mem_of_getElem? hq)
  obtain ⟨m2, at1, u1, u2, u3, u4, u5, u6, u7, e, e1, e2, e3, e4, e5, e6, e7, e8, e9, e10⟩ := m_br (N := N) (c := c) (m := mm) (n := nm (vm m) f) (h0 := h0) (fs := s) (j := G.length) hWm hAm hE hN (fun x => by rw [hmm.2.1]; exact h9 x) a9 a10 a11 hq hk (by rw [hmm.1 12 (by decide)]; exact x7) x5 (by rw [hmm.2.1]; exact a2) hf40 (by rw [hmm.2.1]; exact h0s) (by rw [hmm.2.1]; exact a5) (by rw [hmm.2.1, hvm]; exact f4) (by rw [hmm.2.1, hvm]; exact f6) (by rw [hvm]) hmv (by rw [hmm.1 15 (by decide)]; exact x14) (by rw [hvm]; omega) (by omega)
  rw [hvm] at u2 u7 e5 e7 e10
  have g1 : ∀ k, ¬ k = 13 → ¬ k = 15 → rI m2 k = rI m k := fun k b1 b2 => (u4 k b1 b2).trans (hmm.1 k b1)
  have g2 : ∀ i x, rA m2 i x = rA m i x := fun i x => (u5 i x).trans (hmm.2.1 i x)
  have g3 : ∀ i x, ¬ i = 2 → rL m2 i x = rL m i x := fun i x hi => (u6 i x hi).trans (hmm.2.2 i x)
  have g4 : ∀ y, rL m2 2 y = cpy (rL m 2) (s + nm (vm m) f + (h0 - t_want (vm m) f (T at_).1 k)) (s + nm (vm m) f + v_w (vm m) q.1) (t_want (vm m) f (T at_).1 k) y := fun y => by
    rw [u7 y]
    unfold cpy
    rw [hmm.2.2, hmm.2.2]
  have hmX : mX m m2 s := ⟨fun k _ _ _ b1 b2 => g1 k b1 b2, fun i x _ => g2 i x, fun x => ⟨g3 1 x (by decide), g3 3 x (by decide)⟩, fun y hy => by
    rw [g4 y]; unfold cpy; rw [if_neg (fun z => by omega)]⟩
  have elr : lr (vm m) f (T at_).1 k = some (q.1, v_w (vm m) q.1, t_want (vm m) f (T at_).1 k, decide (v_o (vm m) q.1 = 3)) := by unfold lr; rw [hq]
  rw [elr] at hlb
  refine SR_of (m1 := m2) (at1 := at1) h hR hs1 (by rw [hM]; exact u1) hmX e2 e3 e4 (by rw [e5]; exact u2) u3 (g1 9 (by decide) (by decide)) (g1 10 (by decide) (by decide)) (fun hr => ?_) (fun hr => ?_)
  · obtain ⟨cc, s1, sn, s2, s3⟩ := hS hr
    have sn0 : rN cc 0 = rN c 0 := congrFun sn 0
    subst hr
    have hlbc := hlb
    have hb2 : lkb cc f (v_r (vm m) f) (some (q.1, v_w (vm m) q.1, t_want (vm m) f (T at_).1 k, decide (v_o (vm m) q.1 = 3))) pl := by
      obtain ⟨l1, l2, l3, l4, l5, l6, l7⟩ := hlbc
      refine ⟨?_, l2, ?_, by rw [sn0]; exact l4, ?_, fun z => ?_, fun z => ?_⟩
      · rw [s1.2.2.1 1 _ (by omega) (by omega)]; exact l1
      · rw [s1.2.2.1 10 _ (by omega) (by omega)]; exact l3
      · rw [s1.2.2.1 12 _ (by omega) (by omega)]; exact l5
      · rw [s1.2.2.1 7 _ (by omega) (by omega), s1.2.2.1 8 _ (by omega) (by omega)]; exact l6 z
      · rw [s1.2.2.1 7 _ (by omega) (by omega), s1.2.2.1 9 _ (by omega) (by omega), s1.2.2.1 10 _ (by omega) (by omega), sn0]; exact l7 z
    obtain ⟨c2, k1, k2, k3, k4, k5, k6, k7⟩ := s_br (N := N) (n := nm (vm m) f) (h0 := h0) (e := e) (b := b) (v := v_p (vm m) f) (v2 := v_c (vm m) f) hb2 (by rw [sn0]; exact ⟨hpl, x4.2.2.1⟩) x5 (by rw [s1.2.2.1 17 _ (by omega) (by omega)]; exact a1) (by rw [s1.2.2.1 19 _ (by omega) (by omega)]; exact a4) s2 (by rw [s1.2.2.1 0 _ (by omega) (by omega)]; exact f1) (by rw [s1.2.2.1 2 _ (by omega) (by omega)]; exact f3) rfl (by show v_w (vm m) q.1 + t_want (vm m) f (T at_).1 k ≤ h0; omega) (by omega) hN (by
      rcases e10 with ⟨z1, z2, -⟩ | ⟨z1, z2, -⟩
      · exact Or.inl ⟨decide_eq_true z1, z2⟩
      · exact Or.inr ⟨decide_eq_false z1, by rw [s1.2.2.1 10 _ (by omega) (by omega)]; exact z2⟩) (by omega)
    have d1 : ∀ k, rI c2 k = rI c k := fun k => (k4 k).trans (s1.1 k)
    have d2 : ∀ i y, ¬ (i = 18 ∧ y = G.length) → ¬ (i = 20 ∧ y = G.length) → rA c2 i y = rA c i y := fun i y y1 y2 => (k5 i y y1 y2).trans (s1.2.2.1 i y y1 y2)
    have d3 : ∀ i y, ¬ i = 2 → rL c2 i y = rL c i y := fun i y hi => (k6 i y hi).trans (s1.2.2.2 i y)
    have d4 : ∀ y, rL c2 2 y = cpy (rL c 2) (b + nm (vm m) f + (h0 - t_want (vm m) f (T at_).1 k)) (b + nm (vm m) f + v_w (vm m) q.1) (t_want (vm m) f (T at_).1 k) y := fun y => by
      rw [k7 y]
      unfold cpy
      rw [s1.2.2.2, s1.2.2.2]
    have hcX : cX c c2 G.length b := ⟨fun k _ _ _ _ => d1 k, fun i x _ y1 y2 => d2 i x y1 y2, fun x => ⟨d3 0 x (by decide), d3 3 x (by decide)⟩, fun y hy => by rw [d4 y]; unfold cpy; rw [if_neg (fun z => by omega)]⟩
    obtain ⟨-, ⟨-, -, -, -, -, -, -, -, b9, -⟩, -⟩ := hR
    refine ⟨c2, by rw [s3]; exact k1, hcX, wb_X h.2.1 hcX hmX (d1 9) (fun x => d2 16 x (by omega) (by omega)) (fun x => d3 1 x (by decide)) (g1 7 (by decide) (by decide)) (fun x => g2 17 x) (fun x => g3 0 x (by decide)), d1 11, d1 12, by rw [k2, e1], by rw [k3, e5], by rw [d1]; exact (b9 rfl).2.2, ?_⟩
    rw [e5]
    exact fV_br (fV_le x15 hh0) (by omega) (by omega) (fun x _ => rfl) (fun x _ _ => rfl) d4 g4
  · obtain ⟨sz, c2, k2, q1, p1, W2, w1, w2, w3, w4, w5, w6, w7, w8, w9⟩ := hG hr
    subst hr
    rw [elr] at w9
    obtain ⟨e', v1, v2, v3⟩ := w9
    have hee : e' = e := by
      rcases v2 with ⟨z1, z2⟩ | ⟨z1, z2⟩
      · rcases e10 with ⟨y1, y2, -⟩ | ⟨y1, -, -⟩
        · rw [z2, y2]
        · exact absurd (of_decide_eq_true z1) y1
      · rcases e10 with ⟨y1, -, -⟩ | ⟨y1, y2, -⟩
        · exact absurd y1 (of_decide_eq_false z1)
        · have : nI e' = nI e := z2.symm.trans y2
          exact (nI_eq (by omega) (by omega)).mp this
    subst hee
    obtain ⟨c3, k1, k3, k4, k5, k6⟩ := g_br (N := N) (n := nm (vm m) f) (h0 := h0) (e := e') (wd := v_w (vm m) q.1) (wt := t_want (vm m) f (T at_).1 k) w3 w8 (cY_ci w4 v3) (by omega) (by omega) hN
    obtain ⟨-, ⟨hfC, -⟩, -⟩ := id hR
    obtain ⟨sz0, z1, z2, z3, z4, z5, z6, z7, z8⟩ := rg_ctx h hfC
    obtain ⟨n1, n2, n3⟩ := z4.2.2.2 e' e8 (by omega) e7
    have hcY := cY_tr w4 k5
    rw [← e1] at n1 n2 n3
    refine ⟨c3, k2 + 1, by omega, vl_tr w2 (vl_1 k1), hcY.2.2.2, cY_X hcY, cY_wb h.2.1 hcY hmX (g1 7 (by decide) (by decide)) (fun x => g2 17 x) (fun x => g3 0 x (by decide)), hcY.1 11 (by decide), hcY.1 12 (by decide), by rw [k3, n1], by rw [k4, n2]; rfl, ?_⟩
    rw [e5, n3]
    exact fV_br w5 (by omega) (by omega) (fun x hx => w6 x (by omega)) (fun x y1 y2 => w7 x y1 y2) k6 g4
