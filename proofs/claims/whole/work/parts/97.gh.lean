-- ===== entry, argument, tier =====
theorem IQ_w {c m c1 m1 : rs_T} {T : Nat → ts_T} {S E M : Nat → Nat} {F t : Nat} {w : Bool} {KK : Nat → Nat → kT} {ZZ : Nat → Nat → Int32} {QS QE : Nat → Nat} (h : IQ c m T S E M F t w KK ZZ QS QE) (hw : wb c1 m1 F w) (hcI : ∀ k, 2 ≤ k → rI c1 k = rI c k) (hcA : ∀ i x, ¬ i = 15 → rA c1 i x = rA c i x) (hcL : ∀ i x, ¬ i = 0 → rL c1 i x = rL c i x) (hmI : ∀ k, ¬ k = 8 → ¬ k = 17 → rI m1 k = rI m k) (hmA : ∀ i x, ¬ i = 16 → rA m1 i x = rA m i x) (hmL : ∀ i x, ¬ i = 1 → rL m1 i x = rL m i x) (hn : c1.2.2.2 = c.2.2.2) : IQ c1 m1 T S E M F t w KK ZZ QS QE := by
  obtain ⟨g1, g2, g3, g4, g5, g6, g7, g8, g9⟩ := h.1.2.2.2
  obtain ⟨k1, k2⟩ := IB_mk (c1 := c1) (m1 := m1) h.1 (fun k hk => hcI k (by omega)) (fun i x hi => hcA i x (by omega)) (fun k hk => hmI k (by omega) (by omega)) (fun i x hi => hmA i x (by omega)) hw ⟨by rw [hcI 11 (by decide), hmI 9 (by decide) (by decide)]; exact g1, by rw [hcI 12 (by decide), hmI 10 (by decide) (by decide)]; exact g2, by rw [hcI 13 (by decide), hmI 11 (by decide) (by decide)]; exact g3, by rw [hcI 15 (by decide), hmI 18 (by decide) (by decide)]; exact g4, by rw [hmI 18 (by decide) (by decide)]; exact g5, fun f hf => by rw [hcA 6 f (by decide), hmA 21 f (by decide)]; exact g6 f hf, fun z => by
      rw [hmI 9 (by decide) (by decide)] at z
      obtain ⟨k, y1, y2, y3, y4⟩ := g7 z
      exact ⟨k, y1, by rw [hcI 10 (by decide)]; exact y2, by rw [hmI 16 (by decide) (by decide)]; exact y3, fun i hi => by rw [hcL 3 i (by decide), hmL 3 i (by decide)]; exact y4 i hi⟩, fun z => by
      rw [hmI 9 (by decide) (by decide)] at z
      rw [hcI 10 (by decide)]; exact g8 z, fun x => by rw [hmA 9 x (by decide)]; exact g9 x⟩ hn
  refine ⟨k1, fun z => ?_⟩
  rw [hmI 9 (by decide) (by decide)] at z
  obtain ⟨G, f, at_, r, b, s, ⟨r1, ⟨⟨a1, a2, a3, a4, a5, a6, a7, a8, a9, a10, a11, a12⟩, b2', b3, b4, b5, b6, b7, b8, b9, b10⟩, r3, r4, r5⟩, ho⟩ := h.2 z
  rw [k2]
  refine ⟨G, f, at_, r, b, s, ⟨rW_keep (fun f hf => ⟨rfl, by rw [hcA 22 f (by decide)]; exact hf⟩) (fun j x j1 j2 _ => hcA j x (by omega)) (fun j x j1 j2 _ => hmA j x (by omega)) (fun x _ => hmA 20 x (by decide)) (fun y _ => hcL 2 y (by decide)) (fun y _ => hmL 2 y (by decide)) (by omega) r1, ⟨⟨?_, ?_, a3, ?_, ?_, ?_, a7, a8, a9, a10, a11, fun z => ?_⟩, fV_keep b2' (by omega) (fun y _ _ => hcL 2 y (by decide)) (fun y _ _ => hmL 2 y (by decide)), ?_, ?_, ?_, ?_, ?_, b8, fun z => ?_, fun z => ?_⟩, r3, ?_, ?_⟩, ho⟩
  · rw [hcA 17 _ (by decide)]; exact a1
  · rw [hmA 18 _ (by decide)]; exact a2
  · rw [hcA 19 _ (by decide)]; exact a4
  · rw [hmA 19 _ (by decide)]; exact a5
  · rw [hcA 21 _ (by decide)]; exact a6
  · rw [hcA 22 _ (by decide)]; exact a12 z
  · rw [hmI 13 (by decide) (by decide)]; exact b3
  · rw [hmI 14 (by decide) (by decide)]; exact b4
  · rw [hcI 18 (by decide)]; exact b5
  · rw [hmI 15 (by decide) (by decide)]; exact b6
  · rw [hcI 16 (by decide)]; exact b7
  · rw [hcA 18 _ (by decide), hcA 20 _ (by decide), hcI 17 (by decide)]; exact b9 z
  · rw [hcA 18 _ (by decide), hcI 17 (by decide)]; exact b10 z
  · rw [hcI 14 (by decide)]; exact r4
  · rw [hmI 12 (by decide) (by decide)]; exact r5
theorem entry_both {c m : rs_T} {T : Nat → ts_T} {S E M : Nat → Nat} {F t : Nat} {w : Bool} {KK : Nat → Nat → kT} {ZZ : Nat → Nat → Int32} {QS QE : Nat → Nat} (h : IQ c m T S E M F t w KK ZZ QS QE) (x y : Int32) : ∃ r c1 m1, fx_Ma_entry x y c = some (r, c1) ∧ fx_Md_entry x y m = some (r, m1) ∧ IQ c1 m1 T S E M F t w KK ZZ QS QE := by
  obtain ⟨r, c2, m2, e1, e2, e3, e4, e5, e6, e7, e8, e9⟩ := wb_entry h.1.1 h.1.2.1 x y
  exact ⟨r, c2, m2, e1, e2, IQ_w h e3 (fun k _ => e4 k) (fun i x hi => e5 i x hi) (fun i x _ => e6 i x) (fun k _ _ => e7 k) (fun i x hi => e8 i x hi) (fun i x _ => e9 i x) (nf_Ma_entry e1)⟩
theorem argument_both {c m : rs_T} {T : Nat → ts_T} {S E M : Nat → Nat} {F t : Nat} {w : Bool} {KK : Nat → Nat → kT} {ZZ : Nat → Nat → Int32} {QS QE : Nat → Nat} (h : IQ c m T S E M F t w KK ZZ QS QE) (x : Int64) : ∃ r c1 m1, fx_Ma_argument x c = some (r, c1) ∧ fx_Md_argument x m = some (r, m1) ∧ IQ c1 m1 T S E M F t w KK ZZ QS QE := by
  obtain ⟨r, c2, m2, e1, e2, e3, e4, e5, e6, e7, e8, e9⟩ := wb_argument h.1.2.1 x
  exact ⟨r, c2, m2, e1, e2, IQ_w h e3 (fun k hk => e4 k (by omega)) (fun i x _ => e5 i x) (fun i x hi => e6 i x hi) (fun k hk _ => e7 k hk) (fun i x _ => e8 i x) (fun i x hi => e9 i x hi) (nf_Ma_argument e1)⟩
theorem tier_both {c m : rs_T} {T : Nat → ts_T} {S E M : Nat → Nat} {F t : Nat} {w : Bool} {KK : Nat → Nat → kT} {ZZ : Nat → Nat → Int32} {QS QE : Nat → Nat} (h : IQ c m T S E M F t w KK ZZ QS QE) (x : Int32) : ∃ r c1 m1, fx_Ma_tier x c = some (r, c1) ∧ fx_Md_tier x m = some (r, m1) ∧ IQ c1 m1 T S E M F t w KK ZZ QS QE := by
  obtain ⟨r, c2, m2, e1, e2, e3, e4, e5, e6, e7, e8, e9⟩ := wb_tier h.1.2.1 x
  exact ⟨r, c2, m2, e1, e2, IQ_w h e3 (fun k hk => e4 k (by omega)) (fun i x _ => e5 i x) (fun i x _ => e6 i x) (fun k _ hk => e7 k hk) (fun i x _ => e8 i x) (fun i x _ => e9 i x) (nf_Ma_tier e1)⟩
