-- ===== one step: anything that stays in its frame; traps; moves =====
theorem SR_of {N : Nat} {c m m1 : rs_T} {T : Nat → ts_T} {S E M : Nat → Nat} {F t : Nat} {w : Bool} {KK : Nat → Nat → kT} {ZZ : Nat → Nat → Int32} {QS QE : Nat → Nat} {G : List fr_T} {f at_ b s at1 : Nat} {r : Bool} {o a b' : Int32} (h : IB c m T S E M F t w KK ZZ QS QE) (hR : R0 c m (vm m) T S E M F w KK G f at_ r b s) (hs1 : rI m 9 = 1) (hm1 : msb N o a b' m = some m1) (hmX : mX m m1 s) (ha : S f ≤ at1) (ha2 : at1 < E f) (hl : tl (T at1)) (h13 : rI m1 13 = nI (s + nm (vm m) f + (T at1).2.2.1)) (h15 : rI m1 15 = nI at1) (h9 : rI m1 9 = rI m 9) (h10 : rI m1 10 = rI m 10)
    (hS : r = false → ∃ c2, fx_Sr_perform N c = some c2 ∧ cX c c2 G.length b ∧ wb c2 m1 F w ∧ rI c2 11 = rI c 11 ∧ rI c2 12 = rI c 12 ∧ rA c2 18 G.length = nI at1 ∧ rA c2 20 G.length = nI (b + nm (vm m) f + (T at1).2.2.1) ∧ rI c2 17 = 0 ∧ fV c2 m1 (vm m) (nm (vm m) f) (sl (nm (vm m) f)) b s (T at1).2.2.1)
    (hG : r = true → ∃ c1 k, k ≤ 1000 ∧ vl N k (wI c 17 (rI c 17 + 1)) c1 ∧ c1.2.2.2 = c.2.2.2 ∧ cX c c1 G.length b ∧ wb c1 m1 F w ∧ rI c1 11 = rI c 11 ∧ rI c1 12 = rI c 12 ∧ rA c1 18 G.length = nI (KK f at1).1 ∧ rI c1 17 = nI (KK f at1).2.1 ∧ fV c1 m1 (vm m) (nm (vm m) f) (KK f at1).2.2 b s (T at1).2.2.1) : SR N c m T S E M F t w o a b' r := by
  have hg := h.2.2.2
  have hst : rI c 11 = 1 := by rw [hg.1]; exact hs1
  cases r with
  | false =>
    obtain ⟨c2, q1, q2, q3, q4, q5, q6, q7, q8, q9⟩ := hS rfl
    obtain ⟨k1, k2⟩ := R_top h hR q2 hmX q3 hs1 (by rw [q4]; exact hst) (by rw [h9]; exact hs1) (by rw [q5, h10]; exact hg.2.1) ha ha2 hl q9 h13 h15 (fun _ => ⟨q6, q7, q8⟩) (fun z => (by cases z)) (nf_Sr_perform q1)
    exact ⟨m1, c2, 0, KK, ZZ, QS, QE, hm1, by omega, fun _ => ⟨c2, q1, Or.inl q8, rfl⟩, fun z => (by cases z), k1, fun _ => ⟨G, f, at1, false, b, s, k2⟩⟩
  | true =>
    obtain ⟨c1, k, q0, q1, qn, q2, q3, q4, q5, q6, q7, q8⟩ := hG rfl
    obtain ⟨k1, k2⟩ := R_top h hR q2 hmX q3 hs1 (by rw [q4]; exact hst) (by rw [h9]; exact hs1) (by rw [q5, h10]; exact hg.2.1) ha ha2 hl q8 h13 h15 (fun z => (by cases z)) (fun _ => ⟨q6, q7⟩) qn
    exact ⟨m1, c1, k, KK, ZZ, QS, QE, hm1, q0, fun z => (by cases z), fun _ => q1, k1, fun _ => ⟨G, f, at1, true, b, s, k2⟩⟩
theorem SR_trap {N : Nat} {c m m1 : rs_T} {T : Nat → ts_T} {S E M : Nat → Nat} {F t : Nat} {w : Bool} {KK : Nat → Nat → kT} {ZZ : Nat → Nat → Int32} {QS QE : Nat → Nat} {j b s : Nat} {r : Bool} {o a b' x : Int32} (h : IB c m T S E M F t w KK ZZ QS QE) (hs1 : rI m 9 = 1) (hm1 : msb N o a b' m = some m1) (hmX : mX m m1 s) (h9 : rI m1 9 = 3) (h10 : rI m1 10 = x)
    (hS : r = false → ∃ c2, fx_Sr_perform N c = some c2 ∧ cX c c2 j b ∧ wb c2 m1 F w ∧ rI c2 11 = 3 ∧ rI c2 12 = x)
    (hG : r = true → ∃ c1 k, k ≤ 1000 ∧ vl N k (wI c 17 (rI c 17 + 1)) c1 ∧ c1.2.2.2 = c.2.2.2 ∧ cX c c1 j b ∧ wb c1 m1 F w ∧ rI c1 11 = 3 ∧ rI c1 12 = x) : SR N c m T S E M F t w o a b' r := by
  cases r with
  | false =>
    obtain ⟨c2, q1, q2, q3, q4, q5⟩ := hS rfl
    obtain ⟨k1, k2⟩ := IB_keep h q2 hmX q3 hs1 (by rw [q4, h9]) (by rw [q5, h10]) (by rw [h9]; decide) (nf_Sr_perform q1)
    exact ⟨m1, c2, 0, KK, ZZ, QS, QE, hm1, by omega, fun _ => ⟨c2, q1, Or.inr (by rw [q4]; decide), rfl⟩, fun z => (by cases z), k1, fun z => by rw [h9] at z; exact absurd z (by decide)⟩
  | true =>
    obtain ⟨c1, k, q0, q1, qn, q2, q3, q4, q5⟩ := hG rfl
    obtain ⟨k1, k2⟩ := IB_keep h q2 hmX q3 hs1 (by rw [q4, h9]) (by rw [q5, h10]) (by rw [h9]; decide) qn
    exact ⟨m1, c1, k, KK, ZZ, QS, QE, hm1, q0, fun z => (by cases z), fun _ => q1, k1, fun z => by rw [h9] at z; exact absurd z (by decide)⟩
-- a frame in registers, ready for what stands at q with p steps paid
def tR (c : rs_T) (j b sz q p : Nat) : Prop := rI c 11 = 1 ∧ rI c 16 = 0 ∧ rI c 14 = nI (j + 1) ∧ j < 30 ∧ rA c 21 j = b2 true ∧ rA c 18 j = nI q ∧ rI c 19 = nI sz ∧ (sz ≤ rN c 2 ∧ rN c 2 ≤ 3000) ∧ rA c 19 j = nI b ∧ rI c 17 = nI p
-- only the running frame's place, what is paid, and values at or above b
def cY (c c1 : rs_T) (j b : Nat) : Prop := (∀ k, ¬ k = 17 → rI c1 k = rI c k) ∧ (∀ i x, ¬ (i = 18 ∧ x = j) → rA c1 i x = rA c i x) ∧ (∀ i y, ¬ (i = 2 ∧ b ≤ y) → rL c1 i y = rL c i y) ∧ c1.2.2.2 = c.2.2.2
theorem cY_tr {c c1 c2 : rs_T} {j b : Nat} (h1 : cY c c1 j b) (h2 : cY c1 c2 j b) : cY c c2 j b := ⟨fun k a => (h2.1 k a).trans (h1.1 k a), fun i x a => (h2.2.1 i x a).trans (h1.2.1 i x a), fun i y a => (h2.2.2.1 i y a).trans (h1.2.2.1 i y a), h2.2.2.2.trans h1.2.2.2⟩
theorem cY_rfl (c : rs_T) (j b : Nat) : cY c c j b := ⟨fun _ _ => rfl, fun _ _ _ => rfl, fun _ _ _ => rfl, rfl⟩
theorem cY_X {c c1 : rs_T} {j b : Nat} (h : cY c c1 j b) : cX c c1 j b := ⟨fun k _ _ _ a => h.1 k a, fun i x _ a _ => h.2.1 i x a, fun x => ⟨h.2.2.1 0 x (by omega), h.2.2.1 3 x (by omega)⟩, fun y hy => h.2.2.1 2 y (by omega)⟩
theorem cY_pv {c c1 : rs_T} {V : vw_T} {j b : Nat} (h : cY c c1 j b) (hp : pv c V) : pv c1 V := ⟨fun i => by rw [h.2.1 7 i (by omega), h.2.1 8 i (by omega), h.2.1 9 i (by omega)]; exact hp.1 i, by rw [show rN c1 0 = rN c 0 from congrFun h.2.2.2 0]; exact ⟨fun i hi => by rw [h.2.1 7 i (by omega)]; exact hp.2.1 i hi, hp.2.2⟩⟩
theorem cY_inc {c c1 : rs_T} {j b Q : Nat} {Z : Nat → Int32} (h : cY c c1 j b) : inc c c1 Z Z 0 Q 512 := ⟨fun i x _ _ _ _ => h.2.1 i x (by omega), fun x _ _ _ _ => h.2.1 28 x (by omega), fun x e _ _ _ _ a => (h.2.1 28 x (by omega)).trans a, fun x _ => ⟨h.2.1 10 x (by omega), h.2.1 11 x (by omega)⟩⟩
theorem cY_ci {c c1 : rs_T} {j b q : Nat} {o w to x y z : Int32} (h : cY c c1 j b) (hc : ci c q o w to x y z) : ci c1 q o w to x y z := by
  obtain ⟨a1, a2, a3, a4, a5, a6⟩ := hc
  exact ⟨(h.2.1 23 q (by omega)).trans a1, (h.2.1 24 q (by omega)).trans a2, (h.2.1 25 q (by omega)).trans a3, (h.2.1 26 q (by omega)).trans a4, (h.2.1 27 q (by omega)).trans a5, (h.2.1 28 q (by omega)).trans a6⟩
-- one instruction of code for registers, as a virtual step
theorem tR_vq {c c1 : rs_T} {N j b sz q p : Nat} (h : tR c j b sz q p) (hq : q < sz) (hw : rA c 24 q = nI p) (hp : fx_Rr_perform N (nI q) (wI c 17 0) = some c1) (h17 : rI c1 17 = 0) : vq N c c1 := by
  obtain ⟨t1, t2, t3, t4, t5, t6, t7, t8, t9, t10⟩ := h
  exact vb_of t1 t2 t3 t4 t5 t6 t7 hq t8 (by rw [hw, t10]) hp h17
-- it writes one value
theorem tR_w {c : rs_T} {j b sz q p to : Nat} {v : Int64} (h : tR c j b sz q p) : tR (wL (wA (wI c 17 0) 18 j (nI (q + 1))) 2 (b + to) v) j b sz (q + 1) 0 ∧ cY c (wL (wA (wI c 17 0) 18 j (nI (q + 1))) 2 (b + to) v) j b := by
  obtain ⟨t1, t2, t3, t4, t5, t6, t7, t8, t9, t10⟩ := h
  refine ⟨⟨?_, ?_, ?_, t4, ?_, ?_, ?_, t8, ?_, ?_⟩, fun k hk => ?_, fun i x hx => ?_, fun i y hy => ?_, rfl⟩
  · simp (disch := omega) only [bn_s, bv_s, bd_s, gb_0, gb_1, rI_ws, rI_wn, rI_wA, rI_wL, rA_wI, rA_wL, rL_wI, rL_wA, rA_wss, rA_wn, rA_wsn, rL_wss, rL_wn, rL_wsn, rN_wI, rN_wA, rN_wL]; exact t1
  · simp (disch := omega) only [bn_s, bv_s, bd_s, gb_0, gb_1, rI_ws, rI_wn, rI_wA, rI_wL, rA_wI, rA_wL, rL_wI, rL_wA, rA_wss, rA_wn, rA_wsn, rL_wss, rL_wn, rL_wsn, rN_wI, rN_wA, rN_wL]; exact t2
  · simp (disch := omega) only [bn_s, bv_s, bd_s, gb_0, gb_1, rI_ws, rI_wn, rI_wA, rI_wL, rA_wI, rA_wL, rL_wI, rL_wA, rA_wss, rA_wn, rA_wsn, rL_wss, rL_wn, rL_wsn, rN_wI, rN_wA, rN_wL]; exact t3
  · simp (disch := omega) only [bn_s, bv_s, bd_s, gb_0, gb_1, rI_ws, rI_wn, rI_wA, rI_wL, rA_wI, rA_wL, rL_wI, rL_wA, rA_wss, rA_wn, rA_wsn, rL_wss, rL_wn, rL_wsn, rN_wI, rN_wA, rN_wL]; exact t5
  · simp (disch := omega) only [bn_s, bv_s, bd_s, gb_0, gb_1, rI_ws, rI_wn, rI_wA, rI_wL, rA_wI, rA_wL, rL_wI, rL_wA, rA_wss, rA_wn, rA_wsn, rL_wss, rL_wn, rL_wsn, rN_wI, rN_wA, rN_wL]
  · simp (disch := omega) only [bn_s, bv_s, bd_s, gb_0, gb_1, rI_ws, rI_wn, rI_wA, rI_wL, rA_wI, rA_wL, rL_wI, rL_wA, rA_wss, rA_wn, rA_wsn, rL_wss, rL_wn, rL_wsn, rN_wI, rN_wA, rN_wL]; exact t7
  · simp (disch := omega) only [bn_s, bv_s, bd_s, gb_0, gb_1, rI_ws, rI_wn, rI_wA, rI_wL, rA_wI, rA_wL, rL_wI, rL_wA, rA_wss, rA_wn, rA_wsn, rL_wss, rL_wn, rL_wsn, rN_wI, rN_wA, rN_wL]; exact t9
  · simp (disch := omega) only [bn_s, bv_s, bd_s, gb_0, gb_1, rI_ws, rI_wn, rI_wA, rI_wL, rA_wI, rA_wL, rL_wI, rL_wA, rA_wss, rA_wn, rA_wsn, rL_wss, rL_wn, rL_wsn, rN_wI, rN_wA, rN_wL, nI_0]
  · simp (disch := omega) only [bn_s, bv_s, bd_s, gb_0, gb_1, rI_ws, rI_wn, rI_wA, rI_wL, rA_wI, rA_wL, rL_wI, rL_wA, rA_wss, rA_wn, rA_wsn, rL_wss, rL_wn, rL_wsn, rN_wI, rN_wA, rN_wL]
  · rw [rA_wL, rA_wA, if_neg hx, rA_wI]
  · rw [rL_wL, if_neg (fun z => hy ⟨z.1, by omega⟩), rL_wA, rL_wI]
theorem ev_same {c c1 : rs_T} {V : vw_T} {b : Nat} {u : Int32} (h : ∀ y, rL c1 2 y = rL c 2 y) : ev c1 V b u = ev c V b u := by
  unfold ev
  rw [h]
theorem mv_1 {c : rs_T} {V : vw_T} {N j b sz q p n x to h : Nat} {u : Int32} (ht : tR c j b sz q p) (hp : pv c V) (hq : q < sz) (hu : wok V n x u) (hx : b + n + x < 220) (hto : b + to < 220) (hc : ci c q 200 (nI p) (nI to) u 0 0) : vq N c (wL (wA (wI c 17 0) 18 j (nI (q + 1))) 2 (b + to) (ev c V b u)) := by
  obtain ⟨t1, t2, t3, t4, t5, t6, t7, t8, t9, t10⟩ := id ht
  obtain ⟨c1, c2, c3, c4, c5, c6⟩ := hc
  refine tR_vq ht hq c2 ?_ ?_
  · rw [rp_eq (j := j) (by rw [rI_wn (by decide)]; exact t3) t4 (by first | omega | (simp only [rN_wI, rN_wA, rN_wL]; omega))]
    have e23 : rA (wI c 17 0) 23 q = 200 := c1
    have e26 : rA (wI c 17 0) 26 q = u := c4
    have e25 : rA (wI c 17 0) 25 q = nI to := c3
    rw [e23, if_pos rfl, e26, e25]
    have hr := rd_ev (c := wA (wI c 17 0) 18 j (nI (q + 1))) (V := V) (b := b) (j := j) (n := n) (x := x) (w := u) ⟨fun i => by rw [rA_wn (by decide), rA_wn (by decide), rA_wn (by decide)]; exact hp.1 i, fun i hi => by rw [rA_wn (by decide)]; exact hp.2.1 i hi, hp.2.2⟩ t4 (by rw [rA_wn (by decide)]; exact t9) hu hx
    rw [hr, bn_s, r_set t4 (by rw [rA_wn (by decide)]; exact t9) hto, ev_same (c := c) (fun y => by rw [rL_wA, rL_wI])]
  · simp (disch := omega) only [bn_s, bv_s, bd_s, gb_0, gb_1, rI_ws, rI_wn, rI_wA, rI_wL, rA_wI, rA_wL, rL_wI, rL_wA, rA_wss, rA_wn, rA_wsn, rL_wss, rL_wn, rL_wsn, rN_wI, rN_wA, rN_wL]
theorem mv_run {V : vw_T} {m : rs_T} {N j b s n h sz : Nat} {P : Nat → Bool} (hb : b + n + h ≤ 220) : ∀ (k i : Nat) (c : rs_T) (q p q1 p1 : Nat) (W : Nat → Int32), pv c V → tR c j b sz q p → i + k ≤ h → q1 ≤ sz → mv c n W P k i q p q1 p1 → fV c m V n W b s h → ∃ c1, vl N (q1 - q) c c1 ∧ tR c1 j b sz q1 p1 ∧ cY c c1 j b ∧ fV c1 m V n (fun x => if i ≤ x ∧ x < i + k ∧ P x = true then nI (n + x) else W x) b s h := by
  intro k
  induction k with
  | zero =>
    intro i c q p q1 p1 W hp ht hi hq hm hf
    obtain ⟨rfl, rfl⟩ := hm
    refine ⟨c, by rw [Nat.sub_self]; rfl, ht, cY_rfl _ _ _, ?_⟩
    have e : (fun x => if i ≤ x ∧ x < i + 0 ∧ P x = true then nI (n + x) else W x) = W := by
      funext x
      rw [if_neg (fun z => by omega)]
    rw [e]; exact hf
  | succ k ih =>
    intro i c q p q1 p1 W hp ht hi hq hm hf
    rcases hm with ⟨h1, h3, h2⟩ | ⟨h1, h2⟩
    · have hq1 := (mv_q h2).1
      have hv := mv_1 (N := N) (x := i) (h := h) ht hp (by omega) (hf.2.2 i (by omega)) (by omega) (by omega) h3
      obtain ⟨w1, w2⟩ := tR_w (to := n + i) (v := ev c V b (W i)) ht
      obtain ⟨c', ec⟩ : ∃ c', c' = wL (wA (wI c 17 0) 18 j (nI (q + 1))) 2 (b + (n + i)) (ev c V b (W i)) := ⟨_, rfl⟩
      rw [← ec] at hv w1 w2
      have hL : ∀ y, ¬ y = b + (n + i) → rL c' 2 y = rL c 2 y := fun y hy => by
        rw [ec, rL_wsn hy, rL_wA, rL_wI]
      have hL1 : rL c' 2 (b + (n + i)) = ev c V b (W i) := by rw [ec, rL_wss]
      have hf' : fV c' m V n (upd W i (nI (n + i))) b s h := by
        refine ⟨fun x hx => ?_, fun x hx => ?_, fun x hx => ?_⟩
        · rw [hL _ (by omega)]; exact hf.1 x hx
        · by_cases e : x = i
          · subst e
            rw [pk_us, ev_n (by omega), hL1]
            exact hf.2.1 x hx
          · rw [pk_un e, ev_eq (hf.2.2 x hx) (by omega) (fun y hy => hL _ (by omega))]
            exact hf.2.1 x hx
        · by_cases e : x = i
          · subst e; rw [pk_us]; exact Or.inr (Or.inl rfl)
          · rw [pk_un e]; exact hf.2.2 x hx
      have hm' : mv c' n (upd W i (nI (n + i))) P k (i + 1) (q + 1) 0 q1 p1 := mv_congr (fun y y1 y2 => ⟨pk_un (by omega), rfl⟩) (mv_inc (cY_inc (Z := nI) w2) (Nat.zero_le _) (Nat.le_refl _) h2)
      obtain ⟨c1, e1, e2, e3, e4⟩ := ih (i + 1) c' (q + 1) 0 q1 p1 (upd W i (nI (n + i))) (cY_pv w2 hp) w1 (by omega) hq hm' hf'
      refine ⟨c1, ?_, e2, cY_tr w2 e3, ?_⟩
      · have := vl_tr (vl_1 hv) e1
        rw [show 1 + (q1 - (q + 1)) = q1 - q by omega] at this
        exact this
      · have e : (fun x => if i ≤ x ∧ x < i + (k + 1) ∧ P x = true then nI (n + x) else W x) = (fun x => if i + 1 ≤ x ∧ x < i + 1 + k ∧ P x = true then nI (n + x) else upd W i (nI (n + i)) x) := by
          funext x
          by_cases z : x = i
          · subst z
            rw [if_pos ⟨Nat.le_refl _, by omega, h1⟩, if_neg (fun y => absurd y.1 (by omega)), pk_us]
          · rw [pk_un z]
            by_cases z2 : i ≤ x ∧ x < i + (k + 1) ∧ P x = true
            · rw [if_pos z2, if_pos ⟨by omega, by omega, z2.2.2⟩]
            · rw [if_neg z2, if_neg (fun y => z2 ⟨by omega, by omega, y.2.2⟩)]
        rw [e]; exact e4
    · obtain ⟨c1, e1, e2, e3, e4⟩ := ih (i + 1) c q p q1 p1 W hp ht (by omega) hq h2 hf
      refine ⟨c1, e1, e2, e3, ?_⟩
      have e : (fun x => if i ≤ x ∧ x < i + (k + 1) ∧ P x = true then nI (n + x) else W x) = (fun x => if i + 1 ≤ x ∧ x < i + 1 + k ∧ P x = true then nI (n + x) else W x) := by
        funext x
        by_cases z : x = i
        · subst z
          rw [if_neg (fun y => by rw [h1] at y; exact absurd y.2.2 (by decide)), if_neg (fun y => absurd y.1 (by omega))]
        · by_cases z2 : i ≤ x ∧ x < i + (k + 1) ∧ P x = true
          · rw [if_pos z2, if_pos ⟨by omega, by omega, z2.2.2⟩]
          · rw [if_neg z2, if_neg (fun y => z2 ⟨by omega, by omega, y.2.2⟩)]
      rw [e]; exact e4
