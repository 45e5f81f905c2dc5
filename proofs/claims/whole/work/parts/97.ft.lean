-- ===== the reference's pass, one place at a time; IF =====
theorem ps_61 {N n i : Nat} {m : rs_T} (h9 : rI m 9 = 1) (h15 : rI m 15 = nI i) (hi : i < 1500) (ho : rA m 6 i ∈ ([2, 3, 5, 11] : List Int32)) : fx_Md_pass_b0 N (n + 1) m = fx_Md_pass_b61 N (fx_Md_pass_b0 N n) m := by
  have e : fx_Md_pass_b0 N (n + 1) m = if (rI m 9) = (1 : Int32) then (gd (rI m 15) 1500 (if (rA m 6 ((rI m 15).toNatClampNeg)) = (2 : Int32) then (fx_Md_pass_b61 N (fx_Md_pass_b0 N n) m) else (gd (rI m 15) 1500 (if (rA m 6 ((rI m 15).toNatClampNeg)) = (3 : Int32) then (fx_Md_pass_b61 N (fx_Md_pass_b0 N n) m) else (gd (rI m 15) 1500 (if (rA m 6 ((rI m 15).toNatClampNeg)) = (5 : Int32) then (fx_Md_pass_b61 N (fx_Md_pass_b0 N n) m) else (gd (rI m 15) 1500 (if (rA m 6 ((rI m 15).toNatClampNeg)) = (11 : Int32) then (fx_Md_pass_b61 N (fx_Md_pass_b0 N n) m) else (some m))))))))) else (some m) := Eq.trans rfl rfl
  rw [e, if_pos h9, h15, gd_k hi (by omega), nI_clamp (by omega), gd_k hi (by omega), gd_k hi (by omega), gd_k hi (by omega)]
  by_cases o2 : rA m 6 i = 2
  · rw [if_pos o2]
  rw [if_neg o2]
  by_cases o3 : rA m 6 i = 3
  · rw [if_pos o3]
  rw [if_neg o3]
  by_cases o5 : rA m 6 i = 5
  · rw [if_pos o5]
  rw [if_neg o5]
  by_cases o11 : rA m 6 i = 11
  · rw [if_pos o11]
  · simp only [List.mem_cons, List.not_mem_nil, or_false] at ho
    rcases ho with z | z | z | z
    · exact absurd z o2
    · exact absurd z o3
    · exact absurd z o5
    · exact absurd z o11
theorem ps_stop {N n i : Nat} {m : rs_T} (h15 : rI m 15 = nI i) (hi : i < 1500) (ho : ¬ rI m 9 = 1 ∨ ¬ rA m 6 i ∈ ([2, 3, 5, 11] : List Int32)) : fx_Md_pass_b0 N (n + 1) m = some m := by
  unfold fx_Md_pass_b0
  by_cases h9 : rI m 9 = 1
  · have ho : ¬ rA m 6 i ∈ ([2, 3, 5, 11] : List Int32) := by
      rcases ho with z | z
      · exact absurd h9 z
      · exact z
    have hn : ∀ x : Int32, x ∈ ([2, 3, 5, 11] : List Int32) → ¬ rA m 6 i = x := fun x hx e => by rw [e] at ho; exact ho hx
    rw [if_pos h9, h15, gd_k hi (by omega), nI_clamp (by omega), if_neg (hn 2 (by decide)), gd_k hi (by omega), if_neg (hn 3 (by decide)), gd_k hi (by omega), if_neg (hn 5 (by decide)), gd_k hi (by omega), if_neg (hn 11 (by decide))]
  · rw [if_neg h9]
theorem ps_off {N n : Nat} {m : rs_T} (h9 : ¬ rI m 9 = 1) : fx_Md_pass_b0 N (n + 1) m = some m := by
  unfold fx_Md_pass_b0
  rw [if_neg h9]
-- BLOCK, LOOP, the END of a label
theorem mp_1 {N i j f s e : Nat} {m : rs_T} (h9 : rI m 9 = 1) (h15 : rI m 15 = nI i) (hi : i < 1500) (h12 : rI m 12 = nI (j + 1)) (hj : j < 30) (h18 : rA m 18 j = nI f) (hf : f < 40) (h0 : rA m 0 f = nI s) (h1 : rA m 1 f = nI (e - s)) (hse : s < e) (he : e < 1000) (ho : rA m 6 i ∈ ([2, 3, 11] : List Int32)) (hie : rA m 6 i = 11 → ¬ i = e - 1) : mp N 1 m (wI m 15 (nI (i + 1))) := by
  intro n
  have ho4 : rA m 6 i ∈ ([2, 3, 5, 11] : List Int32) := by
    simp only [List.mem_cons, List.not_mem_nil, or_false] at ho ⊢
    rcases ho with z | z | z <;> simp [z]
  rw [ps_61 h9 h15 hi ho4]
  have h5 : ¬ rA m 6 i = 5 := fun z => by rw [z] at ho; exact absurd ho (by decide)
  unfold fx_Md_pass_b61 fx_Md_pass_b147 fx_Md_pass_b157
  rw [h12, nI_pred, gd_k (by first | omega | (simp only [rN_wI, rN_wA, rN_wL]; omega)) (by first | omega | (simp only [rN_wI, rN_wA, rN_wL]; omega)), bd_s, nI_clamp (by omega), h18, h15, gd_k hi (by omega), nI_clamp (by omega), if_neg h5, gd_k hi (by omega), gd_k (by first | omega | (simp only [rN_wI, rN_wA, rN_wL]; omega)) (by first | omega | (simp only [rN_wI, rN_wA, rN_wL]; omega)), gd_k (by first | omega | (simp only [rN_wI, rN_wA, rN_wL]; omega)) (by first | omega | (simp only [rN_wI, rN_wA, rN_wL]; omega)), nI_clamp (by omega), h0, h1, nI_add, show s + (e - s) = (e - 1) + 1 by omega, nI_pred, nI_1]
  by_cases z : rA m 6 i = 11
  · have : ¬ nI i = nI (e - 1) := fun y => hie z ((nI_eq (by omega) (by omega)).mp y)
    rw [if_pos z, if_neg this]
  · rw [if_neg z]
-- ELSE, and then the END of its label
theorem mp_5 {N i j f k : Nat} {m : rs_T} (h9 : rI m 9 = 1) (h15 : rI m 15 = nI i) (hi : i < 1400) (h12 : rI m 12 = nI (j + 1)) (hj : j < 30) (h18 : rA m 18 j = nI f) (ho : rA m 6 i = 5) (hend : fx_Md_endOf N (nI (i + 1)) 0 m = some (nI k, m)) : mp N 1 m (wI m 15 (nI k)) := by
  intro n
  rw [ps_61 h9 h15 (by omega) (by rw [ho]; decide)]
  unfold fx_Md_pass_b61 fx_Md_pass_b157
  rw [h12, nI_pred, gd_k (by first | omega | (simp only [rN_wI, rN_wA, rN_wL]; omega)) (by first | omega | (simp only [rN_wI, rN_wA, rN_wL]; omega)), bd_s, h15, gd_k (by first | omega | (simp only [rN_wI, rN_wA, rN_wL]; omega)) (by first | omega | (simp only [rN_wI, rN_wA, rN_wL]; omega)), nI_clamp (by omega), nI_clamp (by omega), ho, if_pos rfl, nI_1, hend, bn_s]
-- the END of the function
theorem ps_fin {N n i j f s e : Nat} {m : rs_T} (h9 : rI m 9 = 1) (h15 : rI m 15 = nI i) (hi : i < 1500) (h12 : rI m 12 = nI (j + 1)) (hj : j < 30) (h18 : rA m 18 j = nI f) (hf : f < 40) (h0 : rA m 0 f = nI s) (h1 : rA m 1 f = nI (e - s)) (hse : s < e) (he : e < 1000) (ho : rA m 6 i = 11) (hie : i = e - 1) : fx_Md_pass_b0 N (n + 1) m = bv (fx_Md_back N m) (fun st => fx_Md_pass_b0 N n st) := by
  rw [ps_61 h9 h15 hi (by rw [ho]; decide)]
  unfold fx_Md_pass_b61 fx_Md_pass_b157
  rw [h12, nI_pred, gd_k (by first | omega | (simp only [rN_wI, rN_wA, rN_wL]; omega)) (by first | omega | (simp only [rN_wI, rN_wA, rN_wL]; omega)), bd_s, nI_clamp (by omega), h18, h15, gd_k hi (by omega), nI_clamp (by omega), ho, if_neg (by decide), gd_k hi (by omega), if_pos rfl, gd_k (by first | omega | (simp only [rN_wI, rN_wA, rN_wL]; omega)) (by first | omega | (simp only [rN_wI, rN_wA, rN_wL]; omega)), gd_k (by first | omega | (simp only [rN_wI, rN_wA, rN_wL]; omega)) (by first | omega | (simp only [rN_wI, rN_wA, rN_wL]; omega)), nI_clamp (by omega), h0, h1, nI_add, show s + (e - s) = (e - 1) + 1 by omega, nI_pred, if_pos (by rw [hie])]
theorem mp_tr {N k k2 : Nat} {m m1 m2 : rs_T} (h1 : mp N k m m1) (h2 : mp N k2 m1 m2) : mp N (k2 + k) m m2 := fun n => by
  rw [← Nat.add_assoc, h1, h2]
theorem SC_of {N kp : Nat} {c m m1 m2 : rs_T} {T : Nat → ts_T} {S E M : Nat → Nat} {F t : Nat} {w : Bool} {KK : Nat → Nat → kT} {ZZ : Nat → Nat → Int32} {QS QE : Nat → Nat} {G : List fr_T} {f at_ b s at1 : Nat} {r : Bool} {o a b' : Int32} (h : IB c m T S E M F t w KK ZZ QS QE) (hR : R0 c m (vm m) T S E M F w KK G f at_ r b s) (hs1 : rI m 9 = 1) (hm0 : msb N o a b' m = some m2) (hkp : kp ≤ 2) (hmp : mp N kp m2 m1) (hmX : mX m m1 s) (ha : S f ≤ at1) (ha2 : at1 < E f) (hl : tl (T at1)) (h13 : rI m1 13 = nI (s + nm (vm m) f + (T at1).2.2.1)) (h15 : rI m1 15 = nI at1) (h9 : rI m1 9 = rI m 9) (h10 : rI m1 10 = rI m 10)
    (hS : r = false → ∃ c2, fx_Sr_perform N c = some c2 ∧ cX c c2 G.length b ∧ wb c2 m1 F w ∧ rI c2 11 = rI c 11 ∧ rI c2 12 = rI c 12 ∧ rA c2 18 G.length = nI at1 ∧ rA c2 20 G.length = nI (b + nm (vm m) f + (T at1).2.2.1) ∧ rI c2 17 = 0 ∧ fV c2 m1 (vm m) (nm (vm m) f) (sl (nm (vm m) f)) b s (T at1).2.2.1)
    (hG : r = true → ∃ c1 k, k ≤ 1000 ∧ vl N k (wI c 17 (rI c 17 + 1)) c1 ∧ c1.2.2.2 = c.2.2.2 ∧ cX c c1 G.length b ∧ wb c1 m1 F w ∧ rI c1 11 = rI c 11 ∧ rI c1 12 = rI c 12 ∧ rA c1 18 G.length = nI (KK f at1).1 ∧ rI c1 17 = nI (KK f at1).2.1 ∧ fV c1 m1 (vm m) (nm (vm m) f) (KK f at1).2.2 b s (T at1).2.2.1) : SC N c m T S E M F t w o a b' r := by
  have hg := h.2.2.2
  have hst : rI c 11 = 1 := by rw [hg.1]; exact hs1
  cases r with
  | false =>
    obtain ⟨c2, q1, q2, q3, q4, q5, q6, q7, q8, q9⟩ := hS rfl
    obtain ⟨k1, k2⟩ := R_top h hR q2 hmX q3 hs1 (by rw [q4]; exact hst) (by rw [h9]; exact hs1) (by rw [q5, h10]; exact hg.2.1) ha ha2 hl q9 h13 h15 (fun _ => ⟨q6, q7, q8⟩) (fun z => (by cases z)) (nf_Sr_perform q1)
    exact ⟨m2, m1, c2, 0, kp, KK, ZZ, QS, QE, hm0, hkp, hmp, by omega, fun _ => ⟨c2, q1, Or.inl q8, rfl⟩, fun z => (by cases z), k1, fun _ => ⟨G, f, at1, false, b, s, k2⟩⟩
  | true =>
    obtain ⟨c1, k, q0, q1, qn, q2, q3, q4, q5, q6, q7, q8⟩ := hG rfl
    obtain ⟨k1, k2⟩ := R_top h hR q2 hmX q3 hs1 (by rw [q4]; exact hst) (by rw [h9]; exact hs1) (by rw [q5, h10]; exact hg.2.1) ha ha2 hl q8 h13 h15 (fun z => (by cases z)) (fun _ => ⟨q6, q7⟩) qn
    exact ⟨m2, m1, c1, k, kp, KK, ZZ, QS, QE, hm0, hkp, hmp, q0, fun z => (by cases z), fun _ => q1, k1, fun _ => ⟨G, f, at1, true, b, s, k2⟩⟩
theorem nx_4 {V : vw_T} {f i : Nat} {T T2 : ts_T} (h : t_nx V f i T = some T2) (ho : v_o V i = 4) : t_begin V i T 1 = some T2 := by
  rcases nx_cases h with ⟨o, -, -⟩ | ⟨-, hc⟩
  · rw [ho] at o; exact absurd o (by decide)
  rcases hc with ⟨o, -⟩ | ⟨o, -⟩ | ⟨o, hb⟩ | ⟨o, -⟩ | ⟨o, -⟩ | ⟨o, -⟩ | ⟨o, -⟩ | ⟨o, -⟩ | ⟨o, -⟩ | ⟨o, -⟩ | ⟨o, -⟩ | ⟨o, -⟩
  · rw [ho] at o; exact absurd o (by decide)
  · rw [ho] at o; exact absurd o (by decide)
  · exact hb
  · rw [ho] at o; exact absurd o (by decide)
  · rw [ho] at o; exact absurd o (by decide)
  · rw [ho] at o; exact absurd o (by decide)
  · rw [ho] at o; exact absurd o (by decide)
  · rw [ho] at o; exact absurd o (by decide)
  · rw [ho] at o; exact absurd o (by decide)
  · rw [ho] at o; exact absurd o (by decide)
  · rw [ho] at o; exact absurd o (by decide)
  · rw [ho] at o; exact absurd (show (4 : Int32) ∈ ([0, 2, 3, 4, 5, 6, 11, 12, 13, 14, 15, 16, 17] : List Int32) by decide) o
theorem g_4 {N : Nat} {c : rs_T} {V : vw_T} {j b sz q p n x : Nat} {u z0 : Int32} (ht : tR c j b sz q p) (hp : pv c V) (hq : q < sz) (hu : wok V n x u) (hx : b + n + x < 220) (hc : ci c q 4 (nI p) 0 u 0 z0) : ∃ c2, vq N c c2 ∧ rA c2 18 j = (if (ev c V b u).toInt32 = 0 then z0 else nI (q + 1)) ∧ rI c2 17 = 0 ∧ cY c c2 j b ∧ ∀ y, rL c2 2 y = rL c 2 y := by
  obtain ⟨t1, t2, t3, t4, t5, t6, t7, t8, t9, t10⟩ := id ht
  obtain ⟨i1, i2, i3, i4, i5, i6⟩ := hc
  have hperf : fx_Rr_perform N (nI q) (wI c 17 0) = bn (fx_Rr_isZero (nI j) (nI q) (wA (wI c 17 0) 18 j (nI (q + 1)))) (fun r4 st3 => if r4 = (0 : Int32) then (some st3) else (gd (nI q) (rN st3 2) (gd (nI j) 30 (some (wA st3 18 (nI j).toNatClampNeg (rA st3 28 (nI q).toNatClampNeg)))))) := by
    rw [rp_eq (j := j) (by rw [rI_wn (by decide)]; exact t3) t4 (by first | omega | (simp only [rN_wI, rN_wA, rN_wL]; omega))]
    rw [rA_wI, rA_wI, rA_wI, i1, if_neg (by decide), if_pos (by decide), if_pos (by decide), if_pos (by decide)]
    unfold fx_Rr_control
    rw [if_neg (by decide), if_pos (by decide)]
  have hz : fx_Rr_isZero (nI j) (nI q) (wA (wI c 17 0) 18 j (nI (q + 1))) = some (if (ev c V b u).toInt32 = 0 then 1 else 0, wA (wI c 17 0) 18 j (nI (q + 1))) := by
    unfold fx_Rr_isZero
    rw [gd_k (by first | omega | (simp only [rN_wI, rN_wA, rN_wL]; omega)) (by first | omega | (simp only [rN_wI, rN_wA, rN_wL]; omega)), nI_clamp (by omega), ga _ _ _ _ _ (by decide), i4, gr (n := n) (x := x) hp t4 t9 hu hx, bn_s]
    by_cases e : (ev c V b u).toInt32 = 0
    · rw [if_pos e, if_pos e]
    · rw [if_neg e, if_neg e]
  by_cases e : (ev c V b u).toInt32 = 0
  · refine ⟨wA (wA (wI c 17 0) 18 j (nI (q + 1))) 18 j z0, tR_vq ht hq i2 ?_ ?_, by rw [rA_wss, if_pos e], ?_, ⟨fun k hk => ?_, fun i x hx => ?_, fun i y hy => rfl, rfl⟩, fun y => rfl⟩
    · rw [hperf, hz, bn_s, if_pos e, if_neg (by decide), gd_k (by first | omega | (simp only [rN_wI, rN_wA, rN_wL]; omega)) (by first | omega | (simp only [rN_wI, rN_wA, rN_wL]; omega)), gd_k (by first | omega | (simp only [rN_wI, rN_wA, rN_wL]; omega)) (by first | omega | (simp only [rN_wI, rN_wA, rN_wL]; omega)), nI_clamp (by omega), nI_clamp (by omega), ga _ _ _ _ _ (by decide), i6]
    · rw [rI_wA, rI_wA, rI_ws]
    · rw [rI_wA, rI_wA, rI_ws]
    · rw [rI_wA, rI_wA, rI_wn hk]
    · rw [rA_wA, if_neg hx, rA_wA, if_neg hx, rA_wI]
  · refine ⟨wA (wI c 17 0) 18 j (nI (q + 1)), tR_vq ht hq i2 ?_ ?_, by rw [rA_wss, if_neg e], ?_, ⟨fun k hk => ?_, fun i x hx => ?_, fun i y hy => rfl, rfl⟩, fun y => rfl⟩
    · rw [hperf, hz, bn_s, if_neg e, if_pos rfl]
    · rw [rI_wA, rI_ws]
    · rw [rI_wA, rI_ws]
    · rw [rI_wA, rI_wn hk]
    · rw [rA_wA, if_neg hx, rA_wI]
theorem SC_4 {N : Nat} {c m : rs_T} {T : Nat → ts_T} {S E M : Nat → Nat} {F t : Nat} {w : Bool} {KK : Nat → Nat → kT} {ZZ : Nat → Nat → Int32} {QS QE : Nat → Nat} {G : List fr_T} {f at_ b s : Nat} {r : Bool} {a b' : Int32} (h : IB c m T S E M F t w KK ZZ QS QE) (hR : R0 c m (vm m) T S E M F w KK G f at_ r b s) (hs1 : rI m 9 = 1) (hN : 1000 ≤ N) (ho : v_o (vm m) at_ = 4) : SC N c m T S E M F t w 4 a b' r := by
  obtain ⟨x1, x2, x3, x4, x5, x6, x7, x8, x9, x10, x11, x12, x13, x14, x15, x16, x17, -⟩ := cx h hR
  obtain ⟨p1, p2, p3, p4, p5, p6, p7, p8, p9, p10, p11, p12, p13⟩ := pctx h hR (by rw [ho]; decide)
  obtain ⟨px, py, hx4, hy4, ea, eb, hhas, hw, hT1⟩ := begin_some (nx_4 p5 ho)
  have hhx := tl_has p6 hhas
  rw [tl_tk p6 hhas] at hT1 hw
  have hl1 : tl (T (at_ + 1)) := by
    rw [hT1]
    refine ⟨fun r hr => ?_, p6.2.1, rfl⟩
    rcases List.mem_cons.mp hr with z | z
    · rw [z]
    · exact p6.1 r z
  have h7 : rA c 7 at_ = 4 := (x1.1 at_).1.trans ho
  obtain ⟨h', hh⟩ : ∃ h', (T at_).2.2.1 = h' + 1 := ⟨(T at_).2.2.1 - 1, by omega⟩
  have hT : (T (at_ + 1)).2.2.1 = h' := by rw [hT1]; show (T at_).2.2.1 - (px + 1) + px = h'; omega
  rw [hh] at x13 x15 x11 hhx hw
  have x13 : rI m 13 = nI (s + nm (vm m) f + h' + 1) := x13
  obtain ⟨-, -, -, -, -, hlen, -⟩ := pb_Wf h.1 (show wh_F F w f from hR.2.1.1.2.2.1)
  have hpbW := pb_Wf h.1 (show wh_F F w f from hR.2.1.1.2.2.1)
  obtain ⟨j, j1, j2, j3, j4, j5⟩ := cl_if (N := N) p1 p2 (by omega) p3 p4 ho
  obtain ⟨q, L, hq1, hq2, -⟩ := bg_cons j3
  have hjE : j + 1 < E f := by
    by_cases z : j = E f - 1
    · have hfin := p1.2.2.2.1
      rw [← z] at hfin
      have := hfin.2.2.1
      rw [hq1] at this
      cases this
    · omega
  have hxj := p1.2.2.1.2.1 j (by omega) (by omega)
  have hdj := ds_all p1.2.2.1 j (by omega) (by omega)
  -- behind the ELSE, or behind the END
  have hland : tl (T (j + 1)) ∧ (T (j + 1)).2.2.1 = h' ∧ lnp (vm m) T j := by
    rcases j4 with ⟨u1, u2⟩ | ⟨u1, u2, u3⟩
    · obtain ⟨t1, t2⟩ := tl_else hxj hdj u1 hq1 hq2
      have hl2 := t2.mpr p6
      refine ⟨hl2, ?_, Or.inr ⟨Or.inl u1, hl2⟩⟩
      rw [t1]
      show v_w (vm m) at_ + (v_a (vm m) at_).toNatClampNeg = h'
      rw [ea, nI_clamp (by omega), hw]; omega
    · obtain ⟨t1, t2⟩ := tl_end hxj hdj u1 hq1 hq2
      have hl2 := t2.mpr p6
      refine ⟨hl2, ?_, Or.inr ⟨Or.inr u1, hl2⟩⟩
      have hbeq : v_a (vm m) at_ = v_b (vm m) at_ := by
        have hend : t_end (vm m) f (T j) = some (T (j + 1)) := by
          rcases nx_cases hxj with ⟨o, -, -⟩ | ⟨-, hc⟩
          · rw [u1] at o; exact absurd o (by decide)
          rcases hc with ⟨o, -⟩ | ⟨o, -⟩ | ⟨o, -⟩ | ⟨o, -⟩ | ⟨o, hb⟩ | ⟨o, -⟩ | ⟨o, -⟩ | ⟨o, -⟩ | ⟨o, -⟩ | ⟨o, -⟩ | ⟨o, -⟩ | ⟨o, -⟩
          · rw [u1] at o; exact absurd o (by decide)
          · rw [u1] at o; exact absurd o (by decide)
          · rw [u1] at o; exact absurd o (by decide)
          · rw [u1] at o; exact absurd o (by decide)
          · exact hb
          · rw [u1] at o; exact absurd o (by decide)
          · rw [u1] at o; exact absurd o (by decide)
          · rw [u1] at o; exact absurd o (by decide)
          · rw [u1] at o; exact absurd o (by decide)
          · rw [u1] at o; exact absurd o (by decide)
          · rw [u1] at o; exact absurd o (by decide)
          · rw [u1] at o; exact absurd (show (11 : Int32) ∈ ([0, 2, 3, 4, 5, 6, 11, 12, 13, 14, 15, 16, 17] : List Int32) by decide) o
        obtain ⟨q', L', hL', -, he, -⟩ := end_some hend
        rw [hq1] at hL'
        obtain ⟨rfl, rfl⟩ := List.cons.inj hL'
        rw [hq2] at he
        refine he ho ?_
        have hlk := (p1.2.2.2.2.1 j (by omega) (by omega)).2.1 u1
        unfold lk_e2 at hlk
        rw [hq1] at hlk
        cases hf : q.2.1 with
        | false => rfl
        | true =>
          obtain ⟨x, -, xlt, -, -, hxx, -⟩ := hlk.2.2.2.2 hf
          rw [hq2, u2] at hxx
          exact absurd hxx.symm (fun z => (nI_m1 (by omega)).mp z)
      rw [t1]
      show v_w (vm m) at_ + (v_b (vm m) at_).toNatClampNeg = h'
      rw [← hbeq, ea, nI_clamp (by omega), hw]; omega
  obtain ⟨hl2, hT2, hln⟩ := hland
  -- the reference
  have hmsb : msb N 4 a b' m = some (wI (wI m 13 (nI (s + nm (vm m) f + h'))) 15 (nI (if (rL m 2 (s + nm (vm m) f + h')).toInt32 = 0 then (if v_o (vm m) j = 5 then j + 1 else j) else at_ + 1))) := by
    unfold msb fx_Md_condition fx_Md_condition_b51
    have hW2 : pb_W c (wI m 13 (nI (s + nm (vm m) f + h'))) T f (S f) (E f) (M f) := p1
    obtain ⟨j', w1, w2, w3, w4, w5⟩ := cl_if (N := N) hW2 p2 (by omega) p3 p4 ho
    have hjj : j' = j := by
      rcases j4 with ⟨u1, u2⟩ | ⟨u1, u2, u3⟩
      · rcases w4 with ⟨v1, v2⟩ | ⟨v1, v2, v3⟩
        · rw [u2] at v2; exact ((nI_eq (by omega) (by omega)).mp v2).symm
        · rw [u2] at v2; exact absurd v2 (fun z => (nI_m1 (by omega)).mp z)
      · rcases w4 with ⟨v1, v2⟩ | ⟨v1, v2, v3⟩
        · rw [u2] at v2; exact absurd v2.symm (fun z => (nI_m1 (by omega)).mp z)
        · rw [u3] at v3; exact ((nI_eq (by omega) (by omega)).mp v3).symm
    subst hjj
    rw [if_neg (by decide), if_pos (by decide), m_pop x13 (by omega), bn_s, m_true, bn_s, rI_wn (by decide), x14, nI_1, w5, bn_s]
    have h6j : rA (wI m 13 (nI (s + nm (vm m) f + h'))) 6 j' = v_o (vm m) j' := rfl
    by_cases e : (rL m 2 (s + nm (vm m) f + h')).toInt32 = 0
    · rw [if_pos e, if_pos rfl, if_pos e, gd_k (by first | omega | (simp only [rN_wI, rN_wA, rN_wL]; omega)) (by first | omega | (simp only [rN_wI, rN_wA, rN_wL]; omega)), nI_clamp (by omega), h6j]
      by_cases e5 : v_o (vm m) j' = 5
      · rw [if_pos e5, if_pos e5, nI_1]
      · rw [if_neg e5, if_neg e5]
    · rw [if_neg e, if_neg (by decide), if_neg e]
      first
        | rfl
        | (rw [rI_wn (by decide), x14, nI_1])
        | (rw [x14, nI_1])
  obtain ⟨at1, eat⟩ : ∃ at1, at1 = if (rL m 2 (s + nm (vm m) f + h')).toInt32 = 0 then j + 1 else at_ + 1 := ⟨_, rfl⟩
  have hat : S f ≤ at1 ∧ at1 < E f ∧ tl (T at1) ∧ (T at1).2.2.1 = h' := by
    by_cases e : (rL m 2 (s + nm (vm m) f + h')).toInt32 = 0
    · rw [if_pos e] at eat; subst eat; exact ⟨by omega, hjE, hl2, hT2⟩
    · rw [if_neg e] at eat; subst eat; exact ⟨by omega, p4, hl1, hT⟩
  obtain ⟨hat1, hat2, hat3, hat4⟩ := hat
  have e9 : ∀ k, ¬ k = 13 → ¬ k = 15 → rI (wI (wI m 13 (nI (s + nm (vm m) f + h'))) 15 (nI at1)) k = rI m k := fun k hk hk2 => by rw [rI_wn hk2, rI_wn hk]
  have hmX : mX m (wI (wI m 13 (nI (s + nm (vm m) f + h'))) 15 (nI at1)) s := ⟨fun k _ _ _ a a2 => e9 k a a2, fun _ _ _ => rfl, fun _ => ⟨rfl, rfl⟩, fun _ _ => rfl⟩
  have hmp : ∃ kp, kp ≤ 2 ∧ mp N kp (wI (wI m 13 (nI (s + nm (vm m) f + h'))) 15 (nI (if (rL m 2 (s + nm (vm m) f + h')).toInt32 = 0 then (if v_o (vm m) j = 5 then j + 1 else j) else at_ + 1))) (wI (wI m 13 (nI (s + nm (vm m) f + h'))) 15 (nI at1)) := by
    by_cases e : (rL m 2 (s + nm (vm m) f + h')).toInt32 = 0
    · rw [if_pos e]
      rw [if_pos e] at eat
      rcases j4 with ⟨u1, u2⟩ | ⟨u1, u2, u3⟩
      · rw [if_pos u1, eat]
        exact ⟨0, by omega, fun n => rfl⟩
      · rw [if_neg (by rw [u1]; decide), eat]
        refine ⟨1, by omega, ?_⟩
        have := mp_1 (N := N) (i := j) (j := G.length) (f := f) (s := S f) (e := E f) (m := wI (wI m 13 (nI (s + nm (vm m) f + h'))) 15 (nI j)) (by rw [rI_wn (by decide), rI_wn (by decide)]; exact hs1) (by rw [rI_ws]) (by omega) (by rw [rI_wn (by decide), rI_wn (by decide)]; exact x7) x5 p7 p8 p9 hlen (by omega) (by omega) (by show v_o (vm m) j ∈ _; rw [u1]; decide) (fun _ => by omega)
        rw [wI_wI] at this
        exact this
    · rw [if_neg e]
      rw [if_neg e] at eat
      rw [eat]
      exact ⟨0, by omega, fun n => rfl⟩
  obtain ⟨kp, hkp, hmp⟩ := hmp
  refine SC_of (at1 := at1) h hR hs1 hmsb hkp hmp hmX hat1 hat2 hat3 (by rw [hat4, rI_wn (by decide), rI_ws]) (by rw [rI_ws]) (e9 9 (by decide) (by decide)) (e9 10 (by decide) (by decide)) (fun hr => ?_) (fun hr => ?_)
  · subst hr
    obtain ⟨r1, ⟨-, -, -, -, -, -, -, -, b9, -⟩, -⟩ := hR
    obtain ⟨c18', c20, c17⟩ := b9 rfl
    rw [hh] at c20
    have v0 := sv (x := h') x15 (by omega) (by omega)
    have s1 := c18_w (nI (b + nm (vm m) f + h')) (c18_0 c G.length at_)
    obtain ⟨cc, ecc⟩ : ∃ cc, cc = wA (wA c 18 G.length (nI (at_ + 1))) 20 G.length (nI (b + nm (vm m) f + h')) := ⟨_, rfl⟩
    have hnc : rN cc 0 = rN c 0 := by rw [ecc]; rfl
    have hEL := pb_EL h.1 p12
    rw [← ecc] at s1
    have hperf : fx_Sr_perform N c = some (if (rL m 2 (s + nm (vm m) f + h')).toInt32 = 0 then wA cc 18 G.length (nI (j + 1)) else cc) := by
      rw [sp_eq x6 x5 x2 c18' x3 x4, h7, if_pos (by decide), if_pos (by decide), if_pos (by decide), if_pos (by decide)]
      unfold fx_Sr_control fx_Sr_beginIf fx_Sr_beginIf_b45
      rw [if_neg (by decide), if_pos (by decide), s_pop (P := b + nm (vm m) f + h') x5 (by rw [rA_wn (by decide)]; exact c20) (by omega), bn_s, rL_wA, v0, ← ecc, bv_id]
      by_cases e : (rL m 2 (s + nm (vm m) f + h')).toInt32 = 0
      · rw [if_pos e, if_pos e, gd_k (by first | omega | (simp only [rN_wI, rN_wA, rN_wL]; omega)) (by first | omega | (simp only [rN_wI, rN_wA, rN_wL]; omega)), nI_clamp (by omega), s1.2.2.1 11 _ (by omega) (by omega), s1.2.2.1 10 _ (by omega) (by omega), bd_s]
        rcases j4 with ⟨u1, u2⟩ | ⟨u1, u2, u3⟩
        · rw [u2, if_neg (fun z => (nI_m1 (by omega)).mp z), gd_k (by first | omega | (simp only [rN_wI, rN_wA, rN_wL]; omega)) (by first | omega | (simp only [rN_wI, rN_wA, rN_wL]; omega)), nI_clamp (by omega), nI_1]
        · rw [u2, if_pos rfl, gd_k (by first | omega | (simp only [rN_wI, rN_wA, rN_wL]; omega)) (by first | omega | (simp only [rN_wI, rN_wA, rN_wL]; omega)), u3, gd_k (by first | omega | (simp only [rN_wI, rN_wA, rN_wL]; omega)) (by first | omega | (simp only [rN_wI, rN_wA, rN_wL]; omega)), nI_clamp (by omega), nI_1]
      · rw [if_neg e, if_neg e]
    obtain ⟨c2, ec2⟩ : ∃ c2, c2 = if (rL m 2 (s + nm (vm m) f + h')).toInt32 = 0 then wA cc 18 G.length (nI (j + 1)) else cc := ⟨_, rfl⟩
    rw [← ec2] at hperf
    have d1 : ∀ k, rI c2 k = rI c k := fun k => by
      rw [ec2]
      by_cases e : (rL m 2 (s + nm (vm m) f + h')).toInt32 = 0
      · rw [if_pos e, rI_wA]; exact s1.1 k
      · rw [if_neg e]; exact s1.1 k
    have d2 : ∀ i x, ¬ (i = 18 ∧ x = G.length) → ¬ (i = 20 ∧ x = G.length) → rA c2 i x = rA c i x := fun i x y1 y2 => by
      rw [ec2]
      by_cases e : (rL m 2 (s + nm (vm m) f + h')).toInt32 = 0
      · rw [if_pos e, rA_wA, if_neg y1]; exact s1.2.2.1 i x y1 y2
      · rw [if_neg e]; exact s1.2.2.1 i x y1 y2
    have d3 : ∀ i y, rL c2 i y = rL c i y := fun i y => by
      rw [ec2]
      by_cases e : (rL m 2 (s + nm (vm m) f + h')).toInt32 = 0
      · rw [if_pos e, rL_wA]; exact s1.2.2.2 i y
      · rw [if_neg e]; exact s1.2.2.2 i y
    have hcX : cX c c2 G.length b := ⟨fun k _ _ _ _ => d1 k, fun i x _ y1 y2 => d2 i x y1 y2, fun x => ⟨d3 0 x, d3 3 x⟩, fun y _ => d3 2 y⟩
    refine ⟨c2, hperf, hcX, wb_X (s := s) h.2.1 hcX hmX (d1 9) (fun x => d2 16 x (by omega) (by omega)) (fun x => d3 1 x) (e9 7 (by decide) (by decide)) (fun _ => rfl) (fun _ => rfl), d1 11, d1 12, ?_, ?_, (d1 17).trans c17, ?_⟩
    · rw [ec2, eat]
      by_cases e : (rL m 2 (s + nm (vm m) f + h')).toInt32 = 0
      · rw [if_pos e, if_pos e, rA_wss]
      · rw [if_neg e, if_neg e]; exact s1.2.1
    · rw [hat4, ec2]
      by_cases e : (rL m 2 (s + nm (vm m) f + h')).toInt32 = 0
      · rw [if_pos e, rA_wn (by decide), ecc, rA_wss]
      · rw [if_neg e, ecc, rA_wss]
    · rw [hat4]
      exact fV_keep (fV_le x15 (Nat.le_succ _)) (by omega) (fun y _ _ => d3 2 y) (fun _ _ _ => rfl)
  · subst hr
    have hR1 := hR
    obtain ⟨r1, ⟨hfC, -⟩, -⟩ := hR1
    obtain ⟨sz0, z1, z2, z3, z4, z5, z6, z7, z8⟩ := rg_ctx h hfC
    obtain ⟨sz, y1', y2', y3', y4'⟩ := R0_tR h hR hs1
    unfold kcV at z5
    rw [ho, hh] at z5
    obtain ⟨q1, p1', e0, he0, hlk0, m1, m2, m3⟩ := z5.2.2.2.2.2.2.2.2.2.2.2.2.2.2.2.2.2.2.2.2.2.2.2.1 rfl
    have m1 : mvf c (nm (vm m) f) (KK f at_).2.2 0 h' (KK f at_).1 ((KK f at_).2.1 + 1) q1 p1' := m1
    have m2 : ci c q1 4 (nI p1') 0 ((KK f at_).2.2 h') 0 (ZZ f e0) := m2
    have hqe : q1 + 1 ≤ QE f := by rw [m3] at z6; exact z6
    have hej : e0 = j := by
      rcases j4 with ⟨u1, u2⟩ | ⟨u1, u2, u3⟩
      · rcases hlk0 with ⟨v1, v2⟩ | v1
        · rw [u2] at v1; exact absurd v1 (fun z => (nI_m1 (by omega)).mp z)
        · rw [u2] at v1; exact ((nI_eq (by omega) (by omega)).mp v1).symm
      · rcases hlk0 with ⟨v1, v2⟩ | v1
        · rw [u3] at v2; exact ((nI_eq (by omega) (by omega)).mp v2).symm
        · rw [u2] at v1; exact absurd v1.symm (fun z => (nI_m1 (by omega)).mp z)
    subst hej
    obtain ⟨c2, W2, e1, e2, e3, e4, e5, e6, e7⟩ := fill_run (N := N) (c := wI c 17 (rI c 17 + 1)) (V := vm m) (m := m) (s := s) (h := h' + 1) (by omega) x1 y3' (Nat.le_succ _) (by omega) (mv_17 _ m1) (fV_keep x15 (by omega) (fun _ _ _ => rfl) (fun _ _ _ => rfl))
    have e4' : cY c c2 G.length b := ⟨fun k hk => (e4.1 k hk).trans (rI_wn hk), fun i x hx => e4.2.1 i x hx, fun i y hy => e4.2.2.1 i y hy, e4.2.2.2⟩
    have hv := e5.2.1 h' (Nat.lt_succ_self _)
    have hW2 : W2 h' = (KK f at_).2.2 h' := e7 h' (fun z => by omega)
    obtain ⟨c3, v1, v2, v3, v4, v5⟩ := g_4 (N := N) (V := vm m) e3 (cY_pv e4' x1) (by omega) (e5.2.2 h' (Nat.lt_succ_self _)) (by omega) (by rw [hW2]; exact cY_ci e4' m2)
    rw [hv] at v2
    have hcY := cY_tr e4' v4
    obtain ⟨n1, n2, n3⟩ := z4.2.2.2 e0 (by omega) (by omega) hln
    have hK : rA c3 18 G.length = nI (KK f at1).1 ∧ (KK f at1).2.1 = 0 ∧ (KK f at1).2.2 = sl (nm (vm m) f) := by
      by_cases e : (rL m 2 (s + nm (vm m) f + h')).toInt32 = 0
      · rw [if_pos e] at eat
        have v2 : rA c3 18 G.length = ZZ f e0 := by rw [v2]; exact if_pos e
        rw [v2, eat, n1]; exact ⟨rfl, n2, n3⟩
      · rw [if_neg e] at eat
        have v2 : rA c3 18 G.length = nI (q1 + 1) := by rw [v2]; exact if_neg e
        rw [v2, eat, m3]; exact ⟨rfl, rfl, rfl⟩
    refine ⟨c3, _, ?_, vl_tr e1 (vl_1 v1), hcY.2.2.2, cY_X hcY, cY_wb h.2.1 hcY hmX (e9 7 (by decide) (by decide)) (fun _ => rfl) (fun _ => rfl), hcY.1 11 (by decide), hcY.1 12 (by decide), hK.1, by rw [hK.2.1, v3]; rfl, ?_⟩
    · omega
    · rw [hat4, hK.2.2]
      exact fV_congr (fV_keep (fV_le e5 (Nat.le_succ _)) (by omega) (fun y _ _ => v5 y) (fun _ _ _ => rfl)) (fun x hx => (e6 x (Nat.zero_le _) hx).symm)
