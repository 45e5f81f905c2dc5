-- ===== both machines while they run =====
def csz (m : rs_T) (S E : Nat → Nat) : Nat → Nat
  | 0 => 0
  | k + 1 => csz m S E k + (if rA m 22 k = 0 then 0 else 2 * (E k - S k))
def cct (m : rs_T) : Nat → Nat
  | 0 => 0
  | k + 1 => cct m k + (if rA m 22 k = 0 then 0 else 1)
def cmx (c m : rs_T) (V : vw_T) (T : Nat → ts_T) (S E M : Nat → Nat) (F : Nat) (w : Bool) (KK : Nat → Nat → kT) (ZZ : Nat → Nat → Int32) (QS QE : Nat → Nat) : Prop := ∃ sz, rI c 19 = nI sz ∧ (sz ≤ csz m S E F ∧ sz ≤ rN c 2) ∧ rI c 20 = nI (cct m F) ∧ ∀ f, f < 40 → (rA c 22 f = -1 ∧ rA m 22 f = 0) ∨ (wh_F F w f ∧ rA c 22 f = nI (QS f) ∧ rA m 22 f = 1 ∧ kok c V T f (nm V f) (S f) (E f) (QS f) (QE f) (KK f) (ZZ f) ∧ QE f ≤ sz ∧ nm V f + M f ≤ 220)
def rG (c m : rs_T) (F : Nat) (w : Bool) : Prop := rI c 11 = rI m 9 ∧ rI c 12 = rI m 10 ∧ rI c 13 = rI m 11 ∧ rI c 15 = rI m 18 ∧ (rI m 18 = -1 ∨ ∃ f, wh_F F w f ∧ rI m 18 = nI f) ∧ (∀ f, f < 40 → rA c 6 f = rA m 21 f) ∧ (rI m 9 = 2 → ∃ k : Nat, k ≤ 8 ∧ rI c 10 = nI k ∧ rI m 16 = nI k ∧ ∀ i, i < k → rL c 3 i = rL m 3 i) ∧ (¬ rI m 9 = 2 → rI c 10 = 0) ∧ ∀ x, 0 ≤ (rA m 9 x).toInt
def R0 (c m : rs_T) (V : vw_T) (T : Nat → ts_T) (S E M : Nat → Nat) (F : Nat) (w : Bool) (KK : Nat → Nat → kT) (G : List fr_T) (f at_ : Nat) (r : Bool) (b s : Nat) : Prop := rW c m V T S E M F w KK G f b s ∧ rT c m V T S E M F w KK G.length f at_ r b s ∧ G.length < 30 ∧ rI c 14 = nI (G.length + 1) ∧ rI m 12 = nI (G.length + 1)
def IB (c m : rs_T) (T : Nat → ts_T) (S E M : Nat → Nat) (F t : Nat) (w : Bool) (KK : Nat → Nat → kT) (ZZ : Nat → Nat → Int32) (QS QE : Nat → Nat) : Prop := pb c m T S E M F t w ∧ wb c m F w ∧ cmx c m (vm m) T S E M F w KK ZZ QS QE ∧ rG c m F w
def IR (c m : rs_T) (T : Nat → ts_T) (S E M : Nat → Nat) (F t : Nat) (w : Bool) (KK : Nat → Nat → kT) (ZZ : Nat → Nat → Int32) (QS QE : Nat → Nat) : Prop := IB c m T S E M F t w KK ZZ QS QE ∧ (rI m 9 = 1 → ∃ G f at_ r b s, R0 c m (vm m) T S E M F w KK G f at_ r b s)
theorem pb_ln {c m : rs_T} {T : Nat → ts_T} {S E M : Nat → Nat} {F t : Nat} {w : Bool} (h : pb c m T S E M F t w) : t ≤ rN c 0 ∧ rN c 0 ≤ 1500 ∧ rN c 2 ≤ 3000 ∧ ∀ i, rN c 0 ≤ i → rA c 7 i = 0 := by
  obtain ⟨h1, h2, h3, h4, h5, h6, h7, hA, hF, hP, hE, hW, hU, hN, hLn, hLt, hL7⟩ := h
  exact ⟨hLt, hLn.2.1, hLn.2.2.2.2.2.1, hL7⟩
theorem pb_Wf {c m : rs_T} {T : Nat → ts_T} {S E M : Nat → Nat} {F t : Nat} {w : Bool} (h : pb c m T S E M F t w) {f : Nat} (hf : wh_F F w f) : pb_W c m T f (S f) (E f) (M f) ∧ f < 40 ∧ E f ≤ 512 ∧ rA c 4 f = nI (S f) ∧ rA m 0 f = nI (S f) ∧ rA m 1 f = nI (E f - S f) ∧ rA c 3 f = nI (M f) ∧ rA m 5 f = nI (M f) ∧ M f ≤ 5000 := by
  obtain ⟨h1, h2, h3, h4, h5, h6, h7, h8, h9, h10, h11, h12, h13, h14⟩ := h
  obtain ⟨a1, a2, a3, a4, a5, a6, a7, a8⟩ := h10 f hf.1
  exact ⟨h12 f hf.1 hf.2, by have := hf.1; omega, by omega, a1, a2, a3, a4, a5, a6⟩
theorem pb_fn {c m : rs_T} {T : Nat → ts_T} {S E M : Nat → Nat} {F t : Nat} {w : Bool} (h : pb c m T S E M F t w) {f : Nat} (hf : f < F) : rA c 0 f = nI (v_p (vm m) f) ∧ rA c 1 f = nI (v_r (vm m) f) ∧ rA c 2 f = nI (v_c (vm m) f) ∧ rA m 2 f = nI (v_p (vm m) f) ∧ rA m 3 f = nI (v_r (vm m) f) ∧ rA m 4 f = nI (v_c (vm m) f) ∧ v_p (vm m) f ≤ 8 ∧ v_r (vm m) f ≤ 8 ∧ v_c (vm m) f ≤ 8 := by
  obtain ⟨h1, h2, h3, h4, h5, h6, h7, h8, h9, h10, h11, h12, h13, h14⟩ := h
  obtain ⟨a1, a2, a3, a4, a5, a6⟩ := h9.2 f hf
  obtain ⟨b1, b2, b3⟩ := h8.2 f
  exact ⟨b1.trans a1, b2.trans a2, b3.trans a3, a1, a2, a3, a4, a5, a6⟩
theorem kok_c {c c1 : rs_T} {V : vw_T} {T : Nat → ts_T} {f n s E qs Q ms : Nat} {K : Nat → kT} {Z : Nat → Int32} (hty : ty_F V T f s (E - 1) ms) (hE : E ≤ 512) (h : ∀ j x, (23 ≤ j ∧ j ≤ 28 ∧ x < Q ∨ (j = 10 ∨ j = 11) ∧ x < E) → rA c1 j x = rA c j x) (hk : kok c V T f n s E qs Q K Z) : kok c1 V T f n s E qs Q K Z := by
  obtain ⟨a1, a2, a3, a4⟩ := hk
  refine ⟨a1, a2, fun j b1 b2 b3 => ?_, a4⟩
  obtain ⟨g1, g2, g3, g4⟩ := a3 j b1 b2 b3
  have hi : inc c c1 Z Z 0 Q E := ⟨fun j x a1 a2 _ a3 => h j x (Or.inl ⟨a1, by omega, a3⟩), fun x _ a1 _ _ => h 28 x (Or.inl ⟨by decide, by decide, a1⟩), fun x e _ a1 _ _ a4 => (h 28 x (Or.inl ⟨by decide, by decide, a1⟩)).trans a4, fun x hx => ⟨h 10 x (Or.inr ⟨Or.inl rfl, hx⟩), h 11 x (Or.inr ⟨Or.inr rfl, hx⟩)⟩⟩
  exact ⟨kcV_inc hty b1 (by omega) (by omega) hi (Nat.zero_le _) g2 g1, g2, g3, g4⟩
theorem csz_c {m m1 : rs_T} {S E : Nat → Nat} (h : ∀ x, rA m1 22 x = rA m 22 x) : ∀ k, csz m1 S E k = csz m S E k ∧ cct m1 k = cct m k := by
  intro k
  induction k with
  | zero => exact ⟨rfl, rfl⟩
  | succ k ih =>
    unfold csz cct
    rw [ih.1, ih.2, h]
    exact ⟨rfl, rfl⟩
def cX (c c1 : rs_T) (j b : Nat) : Prop := (∀ k, ¬ k = 9 → ¬ k = 11 → ¬ k = 12 → ¬ k = 17 → rI c1 k = rI c k) ∧ (∀ i x, ¬ i = 16 → ¬ (i = 18 ∧ x = j) → ¬ (i = 20 ∧ x = j) → rA c1 i x = rA c i x) ∧ (∀ x, rL c1 0 x = rL c 0 x ∧ rL c1 3 x = rL c 3 x) ∧ ∀ y, y < b → rL c1 2 y = rL c 2 y
def mX (m m1 : rs_T) (s : Nat) : Prop := (∀ k, ¬ k = 7 → ¬ k = 9 → ¬ k = 10 → ¬ k = 13 → ¬ k = 15 → rI m1 k = rI m k) ∧ (∀ i x, ¬ i = 17 → rA m1 i x = rA m i x) ∧ (∀ x, rL m1 1 x = rL m 1 x ∧ rL m1 3 x = rL m 3 x) ∧ ∀ y, y < s → rL m1 2 y = rL m 2 y
theorem cX_tr {c c1 c2 : rs_T} {j b : Nat} (h1 : cX c c1 j b) (h2 : cX c1 c2 j b) : cX c c2 j b :=
  ⟨fun k a1 a2 a3 a4 => (h2.1 k a1 a2 a3 a4).trans (h1.1 k a1 a2 a3 a4), fun i x a1 a2 a3 => (h2.2.1 i x a1 a2 a3).trans (h1.2.1 i x a1 a2 a3), fun x => ⟨(h2.2.2.1 x).1.trans (h1.2.2.1 x).1, (h2.2.2.1 x).2.trans (h1.2.2.1 x).2⟩, fun y hy => (h2.2.2.2 y hy).trans (h1.2.2.2 y hy)⟩
theorem cX_rfl (c : rs_T) (j b : Nat) : cX c c j b := ⟨fun _ _ _ _ _ => rfl, fun _ _ _ _ _ => rfl, fun _ => ⟨rfl, rfl⟩, fun _ _ => rfl⟩
-- the program, the world and the code for registers stay
theorem IB_keep {c m c1 m1 : rs_T} {T : Nat → ts_T} {S E M : Nat → Nat} {F t : Nat} {w : Bool} {KK : Nat → Nat → kT} {ZZ : Nat → Nat → Int32} {QS QE : Nat → Nat} {j b s : Nat} (h : IB c m T S E M F t w KK ZZ QS QE) (hc : cX c c1 j b) (hm : mX m m1 s) (hw : wb c1 m1 F w) (h1 : rI m 9 = 1) (h2 : rI c1 11 = rI m1 9) (h3 : rI c1 12 = rI m1 10) (h4 : ¬ rI m1 9 = 2) (hn : c1.2.2.2 = c.2.2.2) : IB c1 m1 T S E M F t w KK ZZ QS QE ∧ vm m1 = vm m := by
  obtain ⟨a1, a2, ⟨sz, z1, z2, z3, z4⟩, g1, g2, g3, g4, g5, g6, g7, g8, g9⟩ := h
  have hv : vm m1 = vm m := vm_congr (fun i x hi => hm.2.1 i x (by omega))
  refine ⟨⟨pb_congr a1 (fun q _ _ => hc.1 q (by omega) (by omega) (by omega) (by omega)) (fun i x hi _ => hc.2.1 i x (by omega) (by omega) (by omega)) (fun q _ => hm.1 q (by omega) (by omega) (by omega) (by omega) (by omega)) (fun i x hi => hm.2.1 i x (by omega)) (ln_e a1 hn), hw, ⟨sz, ?_, ?_, ?_, fun f hf => ?_⟩, h2, h3, ?_, ?_, ?_, fun f hf => ?_, fun z => absurd z h4, fun _ => ?_, fun x => ?_⟩, hv⟩
  · rw [hc.1 19 (by decide) (by decide) (by decide) (by decide)]; exact z1
  · rw [(csz_c (fun x => hm.2.1 22 x (by decide)) F).1, show rN c1 2 = rN c 2 from congrFun hn 2]; exact z2
  · rw [hc.1 20 (by decide) (by decide) (by decide) (by decide), (csz_c (S := S) (E := E) (fun x => hm.2.1 22 x (by decide)) F).2]; exact z3
  · rw [hc.2.1 22 f (by decide) (by omega) (by omega), hm.2.1 22 f (by decide), hv]
    rcases z4 f hf with y | ⟨y1, y2, y3, y4, y5, y6⟩
    · exact Or.inl y
    · obtain ⟨hWf, -, hE, -⟩ := pb_Wf a1 y1
      exact Or.inr ⟨y1, y2, y3, kok_c hWf.2.2.1 hE (fun j x hj => hc.2.1 j x (by omega) (by omega) (by omega)) y4, y5, y6⟩
  · rw [hc.1 13 (by decide) (by decide) (by decide) (by decide), hm.1 11 (by decide) (by decide) (by decide) (by decide) (by decide)]; exact g3
  · rw [hc.1 15 (by decide) (by decide) (by decide) (by decide), hm.1 18 (by decide) (by decide) (by decide) (by decide) (by decide)]; exact g4
  · rw [hm.1 18 (by decide) (by decide) (by decide) (by decide) (by decide)]; exact g5
  · rw [hc.2.1 6 f (by decide) (by omega) (by omega), hm.2.1 21 f (by decide)]; exact g6 f hf
  · rw [hc.1 10 (by decide) (by decide) (by decide) (by decide)]
    exact g8 (by rw [h1]; decide)
  · rw [hm.2.1 9 x (by decide)]; exact g9 x
-- the running frame goes to another place
theorem R_top {c m c1 m1 : rs_T} {T : Nat → ts_T} {S E M : Nat → Nat} {F t : Nat} {w : Bool} {KK : Nat → Nat → kT} {ZZ : Nat → Nat → Int32} {QS QE : Nat → Nat} {G : List fr_T} {f at_ b s at1 : Nat} {r : Bool} (h : IB c m T S E M F t w KK ZZ QS QE) (hR : R0 c m (vm m) T S E M F w KK G f at_ r b s) (hc : cX c c1 G.length b) (hm : mX m m1 s) (hw : wb c1 m1 F w) (h1 : rI m 9 = 1) (h2 : rI c1 11 = 1) (h2m : rI m1 9 = 1) (h3 : rI c1 12 = rI m1 10) (ha : S f ≤ at1) (ha2 : at1 < E f) (hl : tl (T at1)) (hv : fV c1 m1 (vm m) (nm (vm m) f) (wf KK (nm (vm m) f) f at1 r) b s (T at1).2.2.1) (h13 : rI m1 13 = nI (s + nm (vm m) f + (T at1).2.2.1)) (h15 : rI m1 15 = nI at1) (hf : r = false → rA c1 18 G.length = nI at1 ∧ rA c1 20 G.length = nI (b + nm (vm m) f + (T at1).2.2.1) ∧ rI c1 17 = 0) (ht : r = true → rA c1 18 G.length = nI (KK f at1).1 ∧ rI c1 17 = nI (KK f at1).2.1) (hn : c1.2.2.2 = c.2.2.2) : IB c1 m1 T S E M F t w KK ZZ QS QE ∧ R0 c1 m1 (vm m1) T S E M F w KK G f at1 r b s := by
  obtain ⟨k1, k2⟩ := IB_keep h hc hm hw h1 (by rw [h2, h2m]) h3 (by rw [h2m]; decide) hn
  refine ⟨k1, ?_⟩
  rw [k2]
  obtain ⟨r1, ⟨⟨a1, a2, a3, a4, a5, a6, a7, a8, a9, a10, a11, a12⟩, b2', b3, b4, b5, b6, b7, b8, b9, b10⟩, r3, r4, r5⟩ := hR
  obtain ⟨hWf, -, hE, -⟩ := pb_Wf h.1 a3
  have hM : (T at1).2.2.1 ≤ M f := (hWf.2.2.1.2.2 at1 ha (by omega)).2.2.2.1
  refine ⟨rW_keep (fun f hf => ⟨rfl, by rw [hc.2.1 22 f (by decide) (by omega) (by omega)]; exact hf⟩) (fun j x h1 h2 h3 => hc.2.1 j x (by omega) (by omega) (by omega)) (fun j x h1 h2 h3 => hm.2.1 j x (by omega)) (fun x h1 => hm.2.1 20 x (by decide)) hc.2.2.2 hm.2.2.2 (by omega) r1, ⟨⟨?_, ?_, a3, ?_, ?_, ?_, a7, a8, ha, ha2, hl, fun z => ?_⟩, hv, h13, ?_, ?_, h15, ?_, hM, hf, ht⟩, r3, ?_, ?_⟩
  · rw [hc.2.1 17 _ (by decide) (by omega) (by omega)]; exact a1
  · rw [hm.2.1 18 _ (by decide)]; exact a2
  · rw [hc.2.1 19 _ (by decide) (by omega) (by omega)]; exact a4
  · rw [hm.2.1 19 _ (by decide)]; exact a5
  · rw [hc.2.1 21 _ (by decide) (by omega) (by omega)]; exact a6
  · rw [hc.2.1 22 _ (by decide) (by omega) (by omega)]; exact a12 z
  · rw [hm.1 14 (by decide) (by decide) (by decide) (by decide) (by decide)]; exact b4
  · rw [hc.1 18 (by decide) (by decide) (by decide) (by decide)]; exact b5
  · rw [hc.1 16 (by decide) (by decide) (by decide) (by decide)]; exact b7
  · rw [hc.1 14 (by decide) (by decide) (by decide) (by decide)]; exact r4
  · rw [hm.1 12 (by decide) (by decide) (by decide) (by decide) (by decide)]; exact r5
