-- ===== call, both =====
theorem call_both {N : Nat} {c m : rs_T} {T : Nat → ts_T} {S E M : Nat → Nat} {F t : Nat} {w : Bool} {KK : Nat → Nat → kT} {ZZ : Nat → Nat → Int32} {QS QE : Nat → Nat} (hN : 1000000 ≤ N) (h0 : IQ c m T S E M F t w KK ZZ QS QE) (z : Int32) : ∃ r c1 m1 KK1 ZZ1 QS1 QE1, fx_Ma_call N z c = some (r, c1) ∧ fx_Md_call N z m = some (r, m1) ∧ IQ c1 m1 T S E M F t w KK1 ZZ1 QS1 QE1 := by
  have h := h0.1
  rcases iw_both h.1 z with ⟨g, hg, rfl, i1, i2⟩ | ⟨-, i1, i2⟩
  case inr =>
    refine ⟨0, c, m, KK, ZZ, QS, QE, ?_, ?_, h0⟩
    · unfold fx_Ma_call
      rw [i1, bn_s, if_pos rfl]
    · unfold fx_Md_call
      rw [i2, bn_s, if_pos rfl]
  obtain ⟨hWg, hg40, hEg, h4g, h0g, hleng, h3g, h5g, hMg⟩ := pb_Wf h.1 hg
  obtain ⟨f1, f2, f3, f4, f5, f6, f7, f8, f9⟩ := pb_fn h.1 hg.1
  obtain ⟨a1, ⟨w1, w2, w3, ⟨pp, w4, w5, w6, w7⟩, ⟨kk, w8, w9, w10, w11⟩, w12, w13⟩, hcm, g1, g2, g3, g4, g5, g6, g7, g8, g9⟩ := id h
  have hng : nm (vm m) g = v_p (vm m) g + v_c (vm m) g := rfl
  by_cases hk : kk = v_p (vm m) g
  case neg =>
    refine ⟨0, c, m, KK, ZZ, QS, QE, ?_, ?_, h0⟩
    · unfold fx_Ma_call
      rw [i1, bn_s, if_neg (by decide), gd_k hg40 (by omega), nI_clamp (by omega), f1, w9, if_neg (fun y => hk ((nI_eq (by omega) (by omega)).mp y).symm)]
    · unfold fx_Md_call
      rw [i2, bn_s, if_neg (by decide), gd_k hg40 (by omega), nI_clamp (by omega), f4, w10, if_neg (fun y => hk ((nI_eq (by omega) (by omega)).mp y))]
  subst hk
  -- the class's state
  obtain ⟨cp, ecp⟩ : ∃ cp, cp = wI (wI (wI (wI (wI (wI (wI (wI (wI c 0 0) 15 (nI g)) 11 1) 13 0) 14 0) 18 0) 17 0) 10 0) 16 0 := ⟨_, rfl⟩
  have pI : ∀ k, ¬ k = 0 → ¬ k = 10 → ¬ k = 11 → ¬ (13 ≤ k ∧ k ≤ 18) → rI cp k = rI c k := fun k k1 k2 k3 k4 => by
    rw [ecp, rI_wn (by omega), rI_wn (by omega), rI_wn (by omega), rI_wn (by omega), rI_wn (by omega), rI_wn (by omega), rI_wn (by omega), rI_wn (by omega), rI_wn (by omega)]
  have pA : ∀ i x, rA cp i x = rA c i x := fun i x => by rw [ecp]; rfl
  have pL : ∀ i x, rL cp i x = rL c i x := fun i x => by rw [ecp]; rfl
  have p0 : rI cp 0 = 0 := by rw [ecp]; simp (disch := omega) only [bn_s, bv_s, bd_s, gb_0, gb_1, rI_ws, rI_wn, rI_wA, rI_wL, rA_wI, rA_wL, rL_wI, rL_wA, rA_wss, rA_wn, rA_wsn, rL_wss, rL_wn, rL_wsn, rN_wI, rN_wA, rN_wL]
  have p15 : rI cp 15 = nI g := by rw [ecp]; simp (disch := omega) only [bn_s, bv_s, bd_s, gb_0, gb_1, rI_ws, rI_wn, rI_wA, rI_wL, rA_wI, rA_wL, rL_wI, rL_wA, rA_wss, rA_wn, rA_wsn, rL_wss, rL_wn, rL_wsn, rN_wI, rN_wA, rN_wL]
  have p11 : rI cp 11 = 1 := by rw [ecp]; simp (disch := omega) only [bn_s, bv_s, bd_s, gb_0, gb_1, rI_ws, rI_wn, rI_wA, rI_wL, rA_wI, rA_wL, rL_wI, rL_wA, rA_wss, rA_wn, rA_wsn, rL_wss, rL_wn, rL_wsn, rN_wI, rN_wA, rN_wL]
  have p13 : rI cp 13 = 0 := by rw [ecp]; simp (disch := omega) only [bn_s, bv_s, bd_s, gb_0, gb_1, rI_ws, rI_wn, rI_wA, rI_wL, rA_wI, rA_wL, rL_wI, rL_wA, rA_wss, rA_wn, rA_wsn, rL_wss, rL_wn, rL_wsn, rN_wI, rN_wA, rN_wL]
  have p14 : rI cp 14 = nI 0 := by rw [ecp]; simp (disch := omega) only [bn_s, bv_s, bd_s, gb_0, gb_1, rI_ws, rI_wn, rI_wA, rI_wL, rA_wI, rA_wL, rL_wI, rL_wA, rA_wss, rA_wn, rA_wsn, rL_wss, rL_wn, rL_wsn, rN_wI, rN_wA, rN_wL]; rfl
  have p18 : rI cp 18 = nI 0 := by rw [ecp]; simp (disch := omega) only [bn_s, bv_s, bd_s, gb_0, gb_1, rI_ws, rI_wn, rI_wA, rI_wL, rA_wI, rA_wL, rL_wI, rL_wA, rA_wss, rA_wn, rA_wsn, rL_wss, rL_wn, rL_wsn, rN_wI, rN_wA, rN_wL]; rfl
  have p17 : rI cp 17 = 0 := by rw [ecp]; simp (disch := omega) only [bn_s, bv_s, bd_s, gb_0, gb_1, rI_ws, rI_wn, rI_wA, rI_wL, rA_wI, rA_wL, rL_wI, rL_wA, rA_wss, rA_wn, rA_wsn, rL_wss, rL_wn, rL_wsn, rN_wI, rN_wA, rN_wL]
  have p10 : rI cp 10 = 0 := by rw [ecp]; simp (disch := omega) only [bn_s, bv_s, bd_s, gb_0, gb_1, rI_ws, rI_wn, rI_wA, rI_wL, rA_wI, rA_wL, rL_wI, rL_wA, rA_wss, rA_wn, rA_wsn, rL_wss, rL_wn, rL_wsn, rN_wI, rN_wA, rN_wL]
  have p16 : rI cp 16 = 0 := by rw [ecp]; simp (disch := omega) only [bn_s, bv_s, bd_s, gb_0, gb_1, rI_ws, rI_wn, rI_wA, rI_wL, rA_wI, rA_wL, rL_wI, rL_wA, rA_wss, rA_wn, rA_wsn, rL_wss, rL_wn, rL_wsn, rN_wI, rN_wA, rN_wL]
  have hcall : fx_Ma_call N (nI g) c = bv (bv (fx_Ac_enter_a N (nI g) 0 cp) (fun st1 => some st1)) (fun st6 => bv (fx_Ma_doWhatIsNoStep N st6) (fun st7 => some (1, st7))) := by
    unfold fx_Ma_call fx_Ac_restart
    rw [i1, bn_s, if_neg (by decide), gd_k hg40 (by omega), nI_clamp (by omega), f1, w9, if_pos rfl, ← ecp]
  -- the reference's
  obtain ⟨mq, emq⟩ : ∃ mq, mq = wI (wI (wI (wI (wI (wI m 9 1) 11 0) 12 0) 13 0) 14 0) 16 0 := ⟨_, rfl⟩
  have qI : ∀ k, ¬ k = 9 → ¬ k = 11 → ¬ k = 12 → ¬ k = 13 → ¬ k = 14 → ¬ k = 16 → rI mq k = rI m k := fun k k1 k2 k3 k4 k5 k6 => by
    rw [emq, rI_wn (by omega), rI_wn (by omega), rI_wn (by omega), rI_wn (by omega), rI_wn (by omega), rI_wn (by omega)]
  have qA : ∀ i x, rA mq i x = rA m i x := fun i x => by rw [emq]; rfl
  have qL : ∀ i x, rL mq i x = rL m i x := fun i x => by rw [emq]; rfl
  obtain ⟨m2, l1, l2, l3, l4, l5, l6⟩ := mc_loop (N := N) (g := g) (p := v_p (vm m) g) (m := mq) f7 (by rw [qI 8 (by decide) (by decide) (by decide) (by decide) (by decide) (by decide)]; exact w10) (v_p (vm m) g) N 0 mq (by omega) (by omega) (by rw [emq]; simp (disch := omega) only [bn_s, bv_s, bd_s, gb_0, gb_1, rI_ws, rI_wn, rI_wA, rI_wL, rA_wI, rA_wL, rL_wI, rL_wA, rA_wss, rA_wn, rA_wsn, rL_wss, rL_wn, rL_wsn, rN_wI, rN_wA, rN_wL]; rfl) (fun _ _ => rfl) (fun _ _ => rfl) (fun _ _ _ => rfl) (fun y hy => by omega)
  obtain ⟨mp_, emp⟩ : ∃ mp_, mp_ = wI (wI (wI m2 8 0) 18 (nI g)) 15 0 := ⟨_, rfl⟩
  have hmcall : fx_Md_call N (nI g) m = bv (fx_Md_enter N (nI g) mp_) (fun st7 => bv (fx_Md_pass N st7) (fun st8 => some (1, st8))) := by
    unfold fx_Md_call
    rw [i2, bn_s, if_neg (by decide), gd_k hg40 (by omega), nI_clamp (by omega), f4, w10, if_pos rfl, ← emq, emp]
    exact l1
  have sI : ∀ k, ¬ k = 8 → ¬ k = 13 → ¬ k = 15 → ¬ k = 18 → rI mp_ k = rI mq k := fun k k1 k2 k3 k4 => by
    rw [emp, rI_wn k3, rI_wn k4, rI_wn k1]; exact l3 k k2
  have sIm : ∀ k, (k ≤ 7 ∨ k = 10 ∨ k = 17) → rI mp_ k = rI m k := fun k hk => by
    rw [sI k (by omega) (by omega) (by omega) (by omega), qI k (by omega) (by omega) (by omega) (by omega) (by omega) (by omega)]
  have sA : ∀ i x, rA mp_ i x = rA m i x := fun i x => by rw [emp]; show rA m2 i x = _; rw [l4, qA]
  have sL : ∀ i x, ¬ i = 2 → rL mp_ i x = rL m i x := fun i x hi => by rw [emp]; show rL m2 i x = _; rw [l5 i x hi, qL]
  have sV : ∀ y, y < v_p (vm m) g → rL mp_ 2 y = rL m 1 y := fun y hy => by rw [emp]; show rL m2 2 y = _; rw [l6 y hy, qL]
  have s8 : rI mp_ 8 = 0 := by rw [emp]; simp (disch := omega) only [bn_s, bv_s, bd_s, gb_0, gb_1, rI_ws, rI_wn, rI_wA, rI_wL, rA_wI, rA_wL, rL_wI, rL_wA, rA_wss, rA_wn, rA_wsn, rL_wss, rL_wn, rL_wsn, rN_wI, rN_wA, rN_wL]
  have s18 : rI mp_ 18 = nI g := by rw [emp]; simp (disch := omega) only [bn_s, bv_s, bd_s, gb_0, gb_1, rI_ws, rI_wn, rI_wA, rI_wL, rA_wI, rA_wL, rL_wI, rL_wA, rA_wss, rA_wn, rA_wsn, rL_wss, rL_wn, rL_wsn, rN_wI, rN_wA, rN_wL]
  have s15 : rI mp_ 15 = nI 0 := by rw [emp]; simp (disch := omega) only [bn_s, bv_s, bd_s, gb_0, gb_1, rI_ws, rI_wn, rI_wA, rI_wL, rA_wI, rA_wL, rL_wI, rL_wA, rA_wss, rA_wn, rA_wsn, rL_wss, rL_wn, rL_wsn, rN_wI, rN_wA, rN_wL]; rfl
  have s13 : rI mp_ 13 = nI (0 + v_p (vm m) g) := by rw [emp, Nat.zero_add]; simp (disch := omega) only [bn_s, bv_s, bd_s, gb_0, gb_1, rI_ws, rI_wn, rI_wA, rI_wL, rA_wI, rA_wL, rL_wI, rL_wA, rA_wss, rA_wn, rA_wsn, rL_wss, rL_wn, rL_wsn, rN_wI, rN_wA, rN_wL]; exact l2
  have s9 : rI mp_ 9 = 1 := by rw [sI 9 (by decide) (by decide) (by decide) (by decide), emq]; simp (disch := omega) only [bn_s, bv_s, bd_s, gb_0, gb_1, rI_ws, rI_wn, rI_wA, rI_wL, rA_wI, rA_wL, rL_wI, rL_wA, rA_wss, rA_wn, rA_wsn, rL_wss, rL_wn, rL_wsn, rN_wI, rN_wA, rN_wL]
  have s11 : rI mp_ 11 = 0 := by rw [sI 11 (by decide) (by decide) (by decide) (by decide), emq]; simp (disch := omega) only [bn_s, bv_s, bd_s, gb_0, gb_1, rI_ws, rI_wn, rI_wA, rI_wL, rA_wI, rA_wL, rL_wI, rL_wA, rA_wss, rA_wn, rA_wsn, rL_wss, rL_wn, rL_wsn, rN_wI, rN_wA, rN_wL]
  have s12 : rI mp_ 12 = nI 0 := by rw [sI 12 (by decide) (by decide) (by decide) (by decide), emq]; simp (disch := omega) only [bn_s, bv_s, bd_s, gb_0, gb_1, rI_ws, rI_wn, rI_wA, rI_wL, rA_wI, rA_wL, rL_wI, rL_wA, rA_wss, rA_wn, rA_wsn, rL_wss, rL_wn, rL_wsn, rN_wI, rN_wA, rN_wL]; rfl
  have s14 : rI mp_ 14 = nI 0 := by rw [sI 14 (by decide) (by decide) (by decide) (by decide), emq]; simp (disch := omega) only [bn_s, bv_s, bd_s, gb_0, gb_1, rI_ws, rI_wn, rI_wA, rI_wL, rA_wI, rA_wL, rL_wI, rL_wA, rA_wss, rA_wn, rA_wsn, rL_wss, rL_wn, rL_wsn, rN_wI, rN_wA, rN_wL]; rfl
  -- all but what runs
  have hIB : ∀ (x : Int32) (c1 m1 : rs_T), ¬ x = 2 → (∀ k, ¬ k = 11 → rI c1 k = rI cp k) → rI c1 11 = x → (∀ i y, rA c1 i y = rA c i y) → (∀ i y, rL c1 i y = rL c i y) → (∀ k, ¬ k = 9 → rI m1 k = rI mp_ k) → rI m1 9 = x → (∀ i y, rA m1 i y = rA m i y) → (∀ i y, ¬ i = 2 → rL m1 i y = rL m i y) → c1.2.2.2 = c.2.2.2 → IB c1 m1 T S E M F t w KK ZZ QS QE ∧ vm m1 = vm m := fun x c1 m1 hx y1 y2 y3 y4 y5 y6 y7 y8 y9 => by
    refine IB_mk h (fun k hk => by rw [y1 k (by omega), pI k (by omega) (by omega) (by omega) (by omega)]) (fun i x _ => y3 i x) (fun k hk => by rw [y5 k (by omega)]; exact sIm k (by omega)) (fun i x _ => y7 i x) ⟨fun k hk => ?_, fun k hk => ?_, fun i hi => ?_, ⟨pp, w4, w5, ?_, ?_⟩, ⟨0, by omega, ?_, ?_, fun i hi => by omega⟩, ?_, ?_⟩ ⟨?_, ?_, ?_, ?_, ?_, fun f hf => ?_, fun z => ?_, fun _ => ?_, fun x => ?_⟩ y9
    · rw [y3, y7]; exact w1 k hk
    · rw [y4, y8 0 k (by decide)]; exact w2 k hk
    · rw [y3, y7]; exact w3 i hi
    · rw [y1 9 (by decide), pI 9 (by decide) (by decide) (by decide) (by omega)]; exact w6
    · rw [y5 7 (by decide), sIm 7 (by omega)]; exact w7
    · rw [y1 0 (by decide), p0]; rfl
    · rw [y5 8 (by decide), s8]; rfl
    · rw [y1 1 (by decide), pI 1 (by decide) (by decide) (by decide) (by omega), y5 17 (by decide), sIm 17 (by omega)]; exact w12
    · rw [y5 17 (by decide), sIm 17 (by omega)]; exact w13
    · rw [y2, y6]
    · rw [y1 12 (by decide), pI 12 (by decide) (by decide) (by decide) (by omega), y5 10 (by decide), sIm 10 (by omega)]; exact g2
    · rw [y1 13 (by decide), p13, y5 11 (by decide), s11]
    · rw [y1 15 (by decide), p15, y5 18 (by decide), s18]
    · rw [y5 18 (by decide), s18]; exact Or.inr ⟨g, hg, rfl⟩
    · rw [y3, y7]; exact g6 f hf
    · rw [y6] at z; exact absurd z hx
    · rw [y1 10 (by decide), p10]
    · rw [y7]; exact g9 x
  obtain ⟨hp, hvp⟩ := hIB 1 cp mp_ (by decide) (fun _ _ => rfl) p11 pA pL (fun _ _ => rfl) s9 sA sL (by rw [ecp]; rfl)
  have h22 : rA mp_ 22 g = 0 ∨ rA mp_ 22 g = 1 := by
    rw [sA]
    obtain ⟨sz, -, -, -, z4⟩ := h.2.2.1
    rcases z4 g hg40 with y | y
    · exact Or.inl y.2
    · exact Or.inr y.2.2.1
  obtain ⟨u1, u2⟩ := en_M (N := N) (m := mp_) (g := g) (D := 0) (A := 0) (s := 0) (p := v_p (vm m) g) (v := v_c (vm m) g) (ms := M g) (S0 := S g) (i := 0) hg40 (by omega) s12 s14 s13 s15 (by rw [sA]; exact f4) (by rw [sA]; exact f6) (by rw [sA]; exact h5g) (by rw [sA]; exact h0g) f7 f9 hMg (by omega) (by omega) (by omega) h22
  obtain ⟨v1, v2⟩ := en_A (N := N) (c := cp) (g := g) (p := v_p (vm m) g) (v := v_c (vm m) g) (ms := M g) (S0 := S g) hg40 p14 p18 (by rw [pA]; exact f1) (by rw [pA]; exact f3) (by rw [pA]; exact h3g) (by rw [pA]; exact h4g) f7 f9 hMg (by omega)
  by_cases hroom : 0 + (v_p (vm m) g + v_c (vm m) g + M g) ≤ 220
  · obtain ⟨m1, e1, e2⟩ := u1 hroom
    obtain ⟨ce, d1, d2⟩ := v1 hroom
    obtain ⟨ck, KK1, ZZ1, QS1, QE1, r1, b1, b2, b3, b4, b5, b6, b7, b8, b9, b10, b11, b12, b13, b14, b15⟩ := st_en (N := N) (c := cp) (m := mp_) (cb := cp) (ce := ce) (mm := mp_) (m1 := m1) (D := 0) (A := 0) (s := 0) (p := v_p (vm m) g) (i := 0) hp s9 (by omega) hg (by omega) (fun _ _ => rfl) (fun _ _ _ => rfl) (fun _ _ _ => rfl) p17 (by rw [hvp, hng]; exact d2) (m13_0 mp_) (by rw [hvp, hng]; exact e2) (by rw [hvp, hng]; exact hroom) (nf_Ac_enter_a d1)
    rw [hvp] at b3
    obtain ⟨n1, n2, n3, n4, n5, n6, n7, n8, n9, n10, n11, n12, n13, n14⟩ := e2
    obtain ⟨y1, y2, y3, y4, y5, y6, y7, y8, y9, y10, y11, y12, y13⟩ := d2
    have hce17 : rI ce 17 = 0 := (y4 17 (by decide) (by decide) (by decide)).trans p17
    have hT0 := hWg.2.2.1.1
    have hIR : IR ck m1 T S E M F t w KK1 ZZ1 QS1 QE1 := by
      refine ⟨b2, fun _ => ⟨[], g, S g, r1, 0, 0, ?_⟩⟩
      rw [b3]
      refine ⟨⟨rfl, rfl⟩, ⟨⟨?_, n6, hg, ?_, n7, b13, Nat.le_refl _, by rw [hng]; exact by omega, Nat.le_refl _, hWg.1, by rw [hT0]; exact tl_0, fun z => (b15 z).2.2⟩, ⟨fun x hx => ?_, fun x hx => ?_, fun x hx => ?_⟩, ?_, ?_, ?_, n4, b5, ?_, fun z => ⟨b14 z, ?_, b6⟩, fun z => ⟨(b15 z).1, ?_⟩⟩, by show 0 < 30; omega, ?_, n2⟩
      · show rA ck 17 0 = _
        rw [b10 17 _ (by decide) (by decide) (by omega)]; exact y5
      · show rA ck 19 0 = _
        rw [b10 19 _ (by decide) (by decide) (by omega)]; exact y7
      · rw [b12]
        by_cases z : x < v_p (vm m) g
        · rw [y12 x z (by rw [← hng]; exact hx), n13 _ (by omega), Nat.zero_add, sV x z]
          show rL cp 0 x = _
          rw [pL]; exact w11 x z
        · rw [y13 x (by omega) (by rw [← hng]; exact hx), n14 _ (by omega) (by rw [← hng]; omega)]
      · rw [hT0] at hx
        have hx : x < 0 := hx
        omega
      · rw [hT0] at hx
        have hx : x < 0 := hx
        omega
      · rw [n3, hT0]; rfl
      · rw [n1, ← hng]; congr 1; omega
      · rw [b9, y2, ← hng]; congr 1; omega
      · rw [hT0]; exact Nat.zero_le _
      · show rA ck 20 0 = _
        rw [b10 20 _ (by decide) (by decide) (by omega), y8, hT0]; rfl
      · rw [b6, (b15 z).2.1]; rfl
      · rw [b8]; exact y1
    obtain ⟨c2, m3, k2, kp2, q1, q2, q3, q4, q5, q6, q7⟩ := ps_IR (N := N) (by omega) hIR
    refine ⟨1, c2, m3, KK1, ZZ1, QS1, QE1, ?_, ?_, q5⟩
    · rw [hcall, d1, bv_s, bv_s, dw_l (k := 1 + k2) (by omega) hN (Or.inl hce17) (vl_tr (vl_1 b1) q1) q6, bv_s]
    · rw [hmcall, e1, bv_s, pass_of q2 q7 (by omega), bv_s]
  · obtain ⟨q1, -⟩ := hIB 4 (wI cp 11 4) (wI mp_ 9 4) (by decide) (fun k hk => rI_wn hk) (by rw [rI_ws]) pA pL (fun k hk => rI_wn hk) (by rw [rI_ws]) sA sL (by show cp.2.2.2 = c.2.2.2; rw [ecp]; rfl)
    refine ⟨1, wI cp 11 4, wI mp_ 9 4, KK, ZZ, QS, QE, ?_, ?_, q1, fun z => ?_⟩
    · have hno : ¬ rI (wI cp 11 4) 11 = 1 := by rw [rI_ws]; decide
      rw [hcall, v2 hroom, bv_s, bv_s, dw_l (k := 0) (by omega) hN (Or.inr hno) rfl (Or.inl hno), bv_s]
    · rw [hmcall, u2 hroom, bv_s, pass_of (kp := 0) (mp_0 _) (fun n => ps_off (by rw [rI_ws]; decide)) (by omega), bv_s]
    · rw [rI_ws] at z; exact absurd z (by decide)
