-- ===== one step: calls =====
theorem en_M30 {N : Nat} {m : rs_T} {g : Nat} (h12 : rI m 12 = nI 30) : fx_Md_enter N (nI g) m = some (wI m 9 4) := by
  unfold fx_Md_enter fx_Md_enter_b25
  rw [h12, if_pos (show nI 30 = (30 : Int32) from rfl)]
theorem en_V30 {N : Nat} {c : rs_T} {g p v ms fr : Nat} (hg : g < 40) (h14 : rI c 14 = nI 30) (h0 : rA c 0 g = nI p) (h2 : rA c 2 g = nI v) (h3 : rA c 3 g = nI ms) : fx_Ac_enter_v N (nI g) (nI fr) c = some (wI c 11 4) := by
  unfold fx_Ac_enter_v fx_Pr_allLocals fx_Ac_enter_v_b57
  rw [gd_k hg (by omega), gd_k hg (by omega), nI_clamp (by omega), h0, h2, nI_add, bn_s, gd_k hg (by omega), bd_s, gd_k hg (by omega), h3, nI_add, bd_s, h14, if_pos (by decide)]
theorem SR_en {N : Nat} {c m mm : rs_T} {T : Nat → ts_T} {S E M : Nat → Nat} {F t : Nat} {w : Bool} {KK : Nat → Nat → kT} {ZZ : Nat → Nat → Int32} {QS QE : Nat → Nat} {G : List fr_T} {f at_ b s h0 g : Nat} {r : Bool} {o a b' : Int32} (h : IB c m T S E M F t w KK ZZ QS QE) (hR : R0 c m (vm m) T S E M F w KK G f at_ r b s) (hs1 : rI m 9 = 1) (hN : 5000 ≤ N) (hg : wh_F F w g) (hh0 : h0 ≤ (T at_).2.2.1) (hp : v_p (vm m) g ≤ h0) (hat : at_ + 1 < E f) (hl : tl (T (at_ + 1))) (hT : (T (at_ + 1)).2.2.1 = h0 - v_p (vm m) g + v_r (vm m) g) (hmm : m13 m mm) (hmv : rI mm 13 = nI (s + nm (vm m) f + h0)) (hM : msb N o a b' m = fx_Md_enter N (nI g) mm)
    (hS : r = false → ∃ cc, c18 c cc G.length at_ ∧ cc.2.2.2 = c.2.2.2 ∧ fx_Sr_perform N c = fx_Ac_enter_v N (nI g) (nI (b + nm (vm m) f + (h0 - v_p (vm m) g))) cc)
    (hG : r = true → ∃ sz c2 k2 q1 p1 W2, k2 ≤ 900 ∧ vl N k2 (wI c 17 (rI c 17 + 1)) c2 ∧ tR c2 G.length b sz q1 p1 ∧ cY c c2 G.length b ∧ fV c2 m (vm m) (nm (vm m) f) W2 b s h0 ∧ (∀ x, h0 - v_p (vm m) g ≤ x → x < h0 → W2 x = nI (nm (vm m) f + x)) ∧ (∀ x, x < h0 - v_p (vm m) g → W2 x = (KK f at_).2.2 x) ∧ KK f (at_ + 1) = (q1 + 1, 0, kw (nm (vm m) f) (KK f at_).2.2 (h0 - v_p (vm m) g)) ∧ q1 < sz ∧ rA c2 24 q1 = nI p1 ∧ fx_Rr_perform N (nI q1) (wI c2 17 0) = fx_Ac_enter_v N (nI g) (nI (b + nm (vm m) f + (h0 - v_p (vm m) g))) (wA (wI c2 17 0) 18 G.length (nI (q1 + 1)))) : SR N c m T S E M F t w o a b' r := by
  obtain ⟨x1, x2, x3, x4, x5, x6, x7, x8, x9, x10, x11, x12, x13, x14, x15, x16, x17, -⟩ := cx h hR
  obtain ⟨rw1, ⟨⟨a1, a2, a3, a4, a5, a6, a7, a8, a9, a10, a11, a12⟩, b2', b3, b4, b5, b6, b7, b8, b9, b10⟩, r3, r4, r5⟩ := id hR
  obtain ⟨hWg, hg40, hEg, h4g, h0g, hleng, h3g, h5g, hMg⟩ := pb_Wf h.1 hg
  obtain ⟨f1, f2, f3, f4, f5, f6, f7, f8, f9⟩ := pb_fn h.1 hg.1
  obtain ⟨hWf, -, hE, -⟩ := pb_Wf h.1 a3
  have hM1 := hM_1 h hR hat
  have hng : nm (vm m) g = v_p (vm m) g + v_c (vm m) g := rfl
  have hst : rI c 11 = 1 := by rw [h.2.2.2.1]; exact hs1
  have h22 : rA mm 22 g = 0 ∨ rA mm 22 g = 1 := by
    rw [hmm.2.1]
    obtain ⟨sz, -, -, -, z4⟩ := h.2.2.1
    rcases z4 g hg40 with y | y
    · exact Or.inl y.2
    · exact Or.inr y.2.2.1
  -- the class, in both cases: a state that makes the frame
  have hC : ∃ cc k0, cc.2.2.2 = c.2.2.2 ∧ (∀ k, ¬ k = 17 → rI cc k = rI c k) ∧ rI cc 17 = 0 ∧ (∀ i x, ¬ (i = 18 ∧ x = G.length) → ¬ (i = 20 ∧ x = G.length) → rA cc i x = rA c i x) ∧ (∀ i y, ¬ (i = 2 ∧ b ≤ y) → rL cc i y = rL c i y) ∧ (r = false → rA cc 18 G.length = nI (at_ + 1)) ∧ (r = true → rA cc 18 G.length = nI (KK f (at_ + 1)).1 ∧ (KK f (at_ + 1)).2.1 = 0 ∧ ∀ x, h0 - v_p (vm m) g ≤ x → (KK f (at_ + 1)).2.2 x = nI (nm (vm m) f + x)) ∧ fV cc m (vm m) (nm (vm m) f) (wf KK (nm (vm m) f) f (at_ + 1) r) b s (h0 - v_p (vm m) g) ∧ (∀ x, x < v_p (vm m) g → rL cc 2 (b + nm (vm m) f + (h0 - v_p (vm m) g) + x) = rL m 2 (s + nm (vm m) f + (h0 - v_p (vm m) g) + x)) ∧ k0 ≤ 901 ∧ ∀ ce, fx_Ac_enter_v N (nI g) (nI (b + nm (vm m) f + (h0 - v_p (vm m) g))) cc = some ce → rI ce 17 = 0 → (r = false → fx_Sr_perform N c = some ce) ∧ (r = true → vl N k0 (wI c 17 (rI c 17 + 1)) ce) := by
    cases r with
    | false =>
      obtain ⟨cc, s1, sn, s2⟩ := hS rfl
      refine ⟨cc, 0, sn, fun k _ => s1.1 k, (s1.1 17).trans (b9 rfl).2.2, fun i x y1 y2 => s1.2.2.1 i x y1 y2, fun i y _ => s1.2.2.2 i y, fun _ => s1.2.1, fun z => (by cases z), fV_keep (fV_le x15 (by omega)) (by omega) (fun y _ _ => s1.2.2.2 2 y) (fun _ _ _ => rfl), fun x hx => ?_, by omega, fun ce e1 _ => ⟨fun _ => by rw [s2]; exact e1, fun z => (by cases z)⟩⟩
      rw [s1.2.2.2]
      have := sv (x := h0 - v_p (vm m) g + x) x15 (by omega) (by omega)
      rw [← Nat.add_assoc, ← Nat.add_assoc] at this
      exact this
    | true =>
      obtain ⟨sz, c2, k2, q1, p1, W2, w1, w2, w3, w4, w5, w6, w7, w8, w9, w10, w11⟩ := hG rfl
      refine ⟨wA (wI c2 17 0) 18 G.length (nI (q1 + 1)), k2 + 1, w4.2.2.2, fun k hk => by rw [rI_wA, rI_wn hk]; exact w4.1 k hk, by rw [rI_wA, rI_ws], fun i x y1 y2 => by rw [rA_wA, if_neg y1, rA_wI]; exact w4.2.1 i x y1, fun i y hy => by rw [rL_wA, rL_wI]; exact w4.2.2.1 i y hy, fun z => (by cases z), fun _ => ⟨by rw [rA_wss, w8], by rw [w8], fun x hx => ?_⟩, ?_, fun x hx => ?_, by omega, fun ce e1 e2 => ⟨fun z => (by cases z), fun _ => vl_tr w2 (vl_1 (tR_vq w3 w9 w10 (by rw [w11]; exact e1) e2))⟩⟩
      · rw [w8]
        show kw (nm (vm m) f) (KK f at_).2.2 (h0 - v_p (vm m) g) x = _
        unfold kw
        rw [if_neg (by omega)]
      · refine fV_congr (fV_keep (fV_le w5 (by omega)) (by omega) (fun y _ _ => rfl) (fun _ _ _ => rfl)) (fun x hx => ?_)
        show (KK f (at_ + 1)).2.2 x = W2 x
        rw [w8, w7 x hx]
        show kw (nm (vm m) f) (KK f at_).2.2 (h0 - v_p (vm m) g) x = _
        unfold kw
        rw [if_pos hx]
      · rw [rL_wA, rL_wI]
        have := w5.2.1 (h0 - v_p (vm m) g + x) (by omega)
        rw [w6 _ (by omega) (by omega), ev_n (by omega)] at this
        rw [show b + nm (vm m) f + (h0 - v_p (vm m) g) + x = b + (nm (vm m) f + (h0 - v_p (vm m) g + x)) by omega, this]
        congr 1
        omega
  obtain ⟨cc, k0, cn, c1, c2, c3, c4, c5, c6, c7, c8, c9, c10⟩ := hC
  -- no room
  have hex : fx_Md_enter N (nI g) mm = some (wI mm 9 4) → fx_Ac_enter_v N (nI g) (nI (b + nm (vm m) f + (h0 - v_p (vm m) g))) cc = some (wI cc 11 4) → SR N c m T S E M F t w o a b' r := fun q1 q2 => by
    have h17 : rI (wI cc 11 4) 17 = 0 := by rw [rI_wn (by decide)]; exact c2
    obtain ⟨d1, d2⟩ := c10 _ q2 h17
    have hcX : cX c (wI cc 11 4) G.length b := ⟨fun k k1 k2 k3 k4 => by rw [rI_wn k2]; exact c1 k k4, fun i x _ y1 y2 => c3 i x y1 y2, fun x => ⟨c4 0 x (by omega), c4 3 x (by omega)⟩, fun y hy => c4 2 y (by omega)⟩
    have hmX : mX m (wI mm 9 4) s := ⟨fun k _ k2 _ k4 k5 => by rw [rI_wn k2]; exact hmm.1 k k4, fun i x _ => hmm.2.1 i x, fun x => ⟨hmm.2.2 1 x, hmm.2.2 3 x⟩, fun y _ => hmm.2.2 2 y⟩
    have hwb := wb_X h.2.1 hcX hmX (by rw [rI_wn (by decide)]; exact c1 9 (by decide)) (fun x => c3 16 x (by omega) (by omega)) (fun x => c4 1 x (by omega)) (by rw [rI_wn (by decide)]; exact hmm.1 7 (by decide)) (fun x => hmm.2.1 17 x) (fun x => hmm.2.2 0 x)
    obtain ⟨k1, -⟩ := IB_keep h hcX hmX hwb hs1 (by rw [rI_ws, rI_ws]) (by rw [rI_wn (by decide), rI_wn (by decide), c1 12 (by decide), hmm.1 10 (by decide)]; exact h.2.2.2.2.1) (by rw [rI_ws]; decide) cn
    refine ⟨_, wI cc 11 4, (bif r then k0 else 0), KK, ZZ, QS, QE, by rw [hM]; exact q1, ?_, fun hr => ⟨_, d1 hr, Or.inl h17, ?_⟩, fun hr => ?_, k1, fun z => by rw [rI_ws] at z; exact absurd z (by decide)⟩
    · cases r
      · exact Nat.zero_le _
      · show k0 ≤ 1000
        omega
    · subst hr; rfl
    · subst hr; exact d2 rfl
  by_cases hD : G.length + 1 = 30
  · exact hex (en_M30 (by rw [hmm.1 12 (by decide), x7, hD])) (en_V30 (p := v_p (vm m) g) (v := v_c (vm m) g) (ms := M g) hg40 (by rw [c1 14 (by decide), x6, hD]) (by rw [c3 0 g (by omega) (by omega)]; exact f1) (by rw [c3 2 g (by omega) (by omega)]; exact f3) (by rw [c3 3 g (by omega) (by omega)]; exact h3g))
  · obtain ⟨u1, u2⟩ := en_M (N := N) (m := mm) (g := g) (D := G.length + 1) (A := b + nm (vm m) f + M f) (s := s + nm (vm m) f + (h0 - v_p (vm m) g)) (p := v_p (vm m) g) (v := v_c (vm m) g) (ms := M g) (S0 := S g) (i := at_) hg40 (by omega) (by rw [hmm.1 12 (by decide)]; exact x7) (by rw [hmm.1 14 (by decide)]; exact b4) (by rw [hmv]; congr 1; omega) (by rw [hmm.1 15 (by decide)]; exact x14) (by rw [hmm.2.1]; exact f4) (by rw [hmm.2.1]; exact f6) (by rw [hmm.2.1]; exact h5g) (by rw [hmm.2.1]; exact h0g) f7 f9 hMg x10 (by omega) (by omega) h22
    obtain ⟨v1, v2⟩ := en_V (N := N) (c := cc) (g := g) (D := G.length) (A := b + nm (vm m) f + M f) (p := v_p (vm m) g) (v := v_c (vm m) g) (ms := M g) (S0 := S g) (fr := b + nm (vm m) f + (h0 - v_p (vm m) g)) hg40 (by omega) (by rw [c1 14 (by decide)]; exact x6) (by rw [c1 18 (by decide)]; exact b5) (by rw [c3 0 g (by omega) (by omega)]; exact f1) (by rw [c3 2 g (by omega) (by omega)]; exact f3) (by rw [c3 3 g (by omega) (by omega)]; exact h3g) (by rw [c3 4 g (by omega) (by omega)]; exact h4g) x10 (by omega) f7 f9 hMg (by omega)
    by_cases hroom : b + nm (vm m) f + M f + (v_p (vm m) g + v_c (vm m) g + M g) ≤ 220
    · obtain ⟨m1, m2, m3⟩ := u1 hroom
      obtain ⟨ce, e1, e2⟩ := v1 hroom
      obtain ⟨ck, KK1, ZZ1, QS1, QE1, r1, w1, w2, w3, w4, w5, w6, w7, w8, w9, w10, w11, w12, w13, w14, w15⟩ := st_en (N := N) (c := c) (m := m) (cb := wA cc 20 G.length (nI (b + nm (vm m) f + (h0 - v_p (vm m) g)))) (ce := ce) (mm := mm) (m1 := m1) h hs1 hN hg (show G.length + 1 < 30 by omega) (fun k hk => c1 k hk) (fun i x hi => by rw [rA_wn (by omega)]; exact c3 i x (by omega) (by omega)) (fun i y hi => c4 i y (by omega)) c2 e2 hmm m3 (by rw [hng]; exact hroom) ((nf_Ac_enter_v e1).trans cn)
      obtain ⟨n1, n2, n3, n4, n5, n6, n7, n8, n9, n10, n11, n12, n13, n14⟩ := m3
      obtain ⟨y1, y2, y3, y4, y5, y6, y7, y8, y9, y10, y11, y12, y13⟩ := e2
      have hce17 : rI ce 17 = 0 := (y4 17 (by decide) (by decide) (by decide)).trans c2
      obtain ⟨d1, d2⟩ := c10 ce e1 hce17
      have hcA : ∀ i x, 17 ≤ i → i ≤ 21 → x < G.length + 1 → ¬ (i = 20 ∧ x = G.length) → rA ck i x = rA cc i x := fun i x i1 i2 i3 i4 => by
        have e : rA ck i x = rA ce i x := by
          by_cases z : i = 21
          · subst z; exact w11 x (by omega)
          · exact w10 i x i1 (by omega) (by omega)
        rw [e, y10 i x (by omega), rA_wA, if_neg i4]
      have hcL : ∀ y, y < b + nm (vm m) f + M f → rL ck 2 y = rL cc 2 y := fun y hy => by rw [w12, y11 2 y (by omega), rL_wA]
      have hmL : ∀ y, y < s + nm (vm m) f + h0 → rL m1 2 y = rL m 2 y := fun y hy => by rw [n13 y (by omega)]; exact hmm.2.2 2 y
      have hmA : ∀ i x, 18 ≤ i → i ≤ 20 → x < G.length + 1 → rA m1 i x = rA m i x := fun i x i1 i2 i3 => by rw [n11 i x (by omega) (by omega)]; exact hmm.2.1 i x
      have hT0 := hWg.2.2.1.1
      have hKf : r = true → KK1 f = KK f := fun z => (w4 f (a12 z)).1
      have hwf : wf KK1 (nm (vm m) f) f (at_ + 1) r = wf KK (nm (vm m) f) f (at_ + 1) r := by
        unfold wf
        cases r with
        | false => rfl
        | true => rw [hKf rfl]
      refine ⟨m1, ck, (bif r then k0 + 1 else 1), KK1, ZZ1, QS1, QE1, by rw [hM]; exact m2, ?_, fun hr => ⟨ce, d1 hr, Or.inl hce17, ?_⟩, fun hr => ?_, w2, fun _ => ⟨(f, at_ + 1, r, b, s) :: G, g, S g, r1, b + nm (vm m) f + M f, s + nm (vm m) f + (h0 - v_p (vm m) g), ?_⟩⟩
      · cases r
        · show 1 ≤ 1000
          omega
        · show k0 + 1 ≤ 1000
          omega
      · subst hr; exact vl_1 w1
      · subst hr; exact vl_tr (d2 rfl) (vl_1 w1)
      · rw [w3]
        refine ⟨⟨⟨?_, ?_, a3, ?_, ?_, ?_, a7, a8, by show S f ≤ at_ + 1; omega, hat, hl, fun z => (w4 f (a12 z)).2⟩, rfl, ⟨h0 - v_p (vm m) g, rfl, hT, ?_, ?_, ?_, fun z => ?_, fun z => ⟨?_, ?_, fun x x1 x2 => ?_⟩⟩, hM1, ?_⟩, ⟨⟨?_, n6, hg, ?_, n7, w13, by omega, by rw [hng]; omega, Nat.le_refl _, hWg.1, by rw [hT0]; exact tl_0, fun z => (w15 z).2.2⟩, ⟨fun x hx => ?_, fun x hx => ?_, fun x hx => ?_⟩, ?_, ?_, ?_, n4, w5, ?_, fun z => ⟨w14 z, ?_, w6⟩, fun z => ⟨(w15 z).1, ?_⟩⟩, by show G.length + 1 < 30; omega, ?_, n2⟩
        · rw [hcA 17 _ (by decide) (by decide) (by omega) (by omega), c3 17 _ (by omega) (by omega)]; exact a1
        · rw [hmA 18 _ (by decide) (by decide) (by omega)]; exact a2
        · rw [hcA 19 _ (by decide) (by decide) (by omega) (by omega), c3 19 _ (by omega) (by omega)]; exact a4
        · rw [hmA 19 _ (by decide) (by decide) (by omega)]; exact a5
        · rw [hcA 21 _ (by decide) (by decide) (by omega) (by omega), c3 21 _ (by omega) (by omega)]; exact a6
        · show fV ck m1 (vm m) (nm (vm m) f) (wf KK1 (nm (vm m) f) f (at_ + 1) r) b s (h0 - v_p (vm m) g)
          rw [hwf]
          exact fV_keep c7 (by omega) (fun y z1 z2 => hcL y (by omega)) (fun y z1 z2 => hmL y (by omega))
        · show rA ck 20 G.length = _
          rw [w10 20 _ (by decide) (by decide) (by omega), y10 20 _ (by omega), rA_wss]
        · exact n8
        · show rA ck 18 G.length = _
          rw [hcA 18 _ (by decide) (by decide) (by omega) (by omega)]; exact c5 z
        · show rA ck 18 G.length = nI (KK1 f (at_ + 1)).1
          rw [hKf z, hcA 18 _ (by decide) (by decide) (by omega) (by omega)]; exact (c6 z).1
        · show (KK1 f (at_ + 1)).2.1 = 0
          rw [hKf z]; exact (c6 z).2.1
        · show (KK1 f (at_ + 1)).2.2 x = _
          rw [hKf z]; exact (c6 z).2.2 x x1
        · show rW ck m1 (vm m) T S E M F w KK1 G f b s
          exact rW_keep w4 (fun j x j1 j2 j3 => by rw [hcA j x j1 j2 (by omega) (by omega), c3 j x (by omega) (by omega)]) (fun j x j1 j2 j3 => hmA j x j1 (by omega) (by omega)) (fun x j1 => hmA 20 x (by decide) (by decide) (by omega)) (fun y hy => by rw [hcL y (by omega)]; exact c4 2 y (by omega)) (fun y hy => hmL y (by omega)) (by omega) rw1
        · show rA ck 17 (G.length + 1) = _
          rw [w10 17 _ (by decide) (by decide) (by omega)]; exact y5
        · show rA ck 19 (G.length + 1) = _
          rw [w10 19 _ (by decide) (by decide) (by omega)]; exact y7
        · rw [w12]
          by_cases z : x < v_p (vm m) g
          · rw [y12 x z (by rw [← hng]; exact hx), n13 _ (by omega), hmm.2.2]
            show rL cc 2 (b + nm (vm m) f + (h0 - v_p (vm m) g) + x) = _
            exact c8 x z
          · rw [y13 x (by omega) (by rw [← hng]; exact hx), n14 _ (by omega) (by rw [← hng]; omega)]
        · rw [hT0] at hx
          have hx : x < 0 := hx
          omega
        · rw [hT0] at hx
          have hx : x < 0 := hx
          omega
        · rw [n3, hT0]; rfl
        · rw [n1, ← hng]; congr 1; omega
        · rw [w9, y2, ← hng]; congr 1; omega
        · rw [hT0]; exact Nat.zero_le _
        · show rA ck 20 (G.length + 1) = _
          rw [w10 20 _ (by decide) (by decide) (by omega), y8, hT0]; rfl
        · rw [w6, (w15 z).2.1]; rfl
        · show rI ck 14 = nI (G.length + 1 + 1)
          rw [w8]; exact y1
    · exact hex (u2 hroom) (v2 hroom)
