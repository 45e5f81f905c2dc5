-- ===== whole functions, world, small methods =====
def wh_F (F : Nat) (w : Bool) (f : Nat) : Prop := f < F ∧ (w = true → f + 1 < F)
theorem iw_both {c m : rs_T} {T : Nat → ts_T} {S E M : Nat → Nat} {F t : Nat} {w : Bool} (h : pb c m T S E M F t w) (x : Int32) : (∃ f, wh_F F w f ∧ x = nI f ∧ fx_Pr_isWhole x c = some (1, c) ∧ fx_Md_isWhole x m = some (1, m)) ∨ ((∀ f, wh_F F w f → ¬ x = nI f) ∧ fx_Pr_isWhole x c = some (0, c) ∧ fx_Md_isWhole x m = some (0, m)) := by
  obtain ⟨h1, h2, h3, h4, h5, h6, h7, hA, hF, hP, hE, hW, hU, hN, hLn, hLt, hL7⟩ := h
  unfold fx_Pr_isWhole fx_Md_isWhole fx_Md_isWhole_b25
  rw [h3, h4, h7]
  by_cases x0 : x < 0
  · rw [if_pos x0, if_pos x0]
    exact Or.inr ⟨fun f hf e => by rw [e] at x0; have := hf.1; exact nI_pos (by omega) x0, rfl, rfl⟩
  rw [if_neg x0, if_neg x0]
  by_cases x1 : nI F ≤ x
  · rw [if_pos x1]
    refine Or.inr ⟨fun f hf e => by rw [e] at x1; exact nI_ge hf.1 (by omega) x1, rfl, ?_⟩
    cases w with
    | false => rw [b2_f, if_pos rfl, if_pos x1]
    | true =>
      rw [b2_t, if_neg i10]
      obtain ⟨f, rfl, -⟩ := hU rfl
      rw [nI_pred, if_pos]
      have y1 := Int32.le_iff_toInt_le.mp x1
      rw [Int32.le_iff_toInt_le]
      rw [nI_toInt (by omega)] at y1 ⊢
      omega
  · rw [if_neg x1]
    have hx : ∃ j : Nat, j < F ∧ x = nI j := by
      obtain ⟨j, hj, e⟩ := nI_of x0
      refine ⟨j, ?_, e⟩
      rcases Nat.lt_or_ge j F with z | z
      · exact z
      · exact absurd (by rw [e]; exact nI_le z hj) x1
    obtain ⟨j, hj, rfl⟩ := hx
    cases w with
    | false =>
      have n3 : rI c 3 = -1 := (hN rfl).1
      rw [n3, if_neg (fun z => (nI_m1 (by omega)).mp z), b2_f, if_pos rfl, if_neg x1]
      exact Or.inl ⟨j, ⟨hj, fun z => absurd z Bool.false_ne_true⟩, rfl, rfl, rfl⟩
    | true =>
      obtain ⟨f, rfl, -, hu⟩ := hU rfl
      have n3 : rI c 3 = nI f := hu.2.2.2.2.2.2.1
      rw [n3, b2_t, if_neg i10, nI_pred]
      by_cases e : j = f
      · subst e
        rw [if_pos rfl, if_pos (Int32.le_refl _)]
        exact Or.inr ⟨fun g hg e => by have := (nI_eq (by omega) (by have := hg.1; omega)).mp e; have := hg.2 rfl; omega, rfl, rfl⟩
      · rw [if_neg (fun z => e ((nI_eq (by omega) (by omega)).mp z)), if_neg (nI_ge (by omega) (by omega))]
        exact Or.inl ⟨j, ⟨hj, fun _ => by omega⟩, rfl, rfl, rfl⟩
-- the world that outlives a call
def wb (c m : rs_T) (F : Nat) (w : Bool) : Prop := (∀ k, k < 30 → rA c 15 k = rA m 16 k ∧ (rA m 16 k = -1 ∨ ∃ f, wh_F F w f ∧ rA m 16 k = nI f)) ∧ (∀ k, k < 8 → rL c 1 k = rL m 0 k) ∧ (∀ i, i < 384 → ∃ b : Nat, b < 256 ∧ rA m 17 i = nI b ∧ rA c 16 i &&& 255 = nI b) ∧ (∃ p : Nat, 1 ≤ p ∧ p ≤ 6 ∧ rI c 9 = nI p ∧ rI m 7 = nI p) ∧ (∃ k : Nat, k ≤ 8 ∧ rI c 0 = nI k ∧ rI m 8 = nI k ∧ ∀ i, i < k → rL c 0 i = rL m 1 i) ∧ rI c 1 = rI m 17 ∧ 0 ≤ (rI m 17).toInt
theorem wb_entry {c m : rs_T} {T : Nat → ts_T} {S E M : Nat → Nat} {F t : Nat} {w : Bool} (h : pb c m T S E M F t w) (hb : wb c m F w) (x y : Int32) : ∃ (r : Int32) (c2 m2 : rs_T), fx_Ma_entry x y c = some (r, c2) ∧ fx_Md_entry x y m = some (r, m2) ∧ wb c2 m2 F w ∧ (∀ q, rI c2 q = rI c q) ∧ (∀ j i, ¬ j = 15 → rA c2 j i = rA c j i) ∧ (∀ j i, rL c2 j i = rL c j i) ∧ (∀ q, rI m2 q = rI m q) ∧ (∀ j i, ¬ j = 16 → rA m2 j i = rA m j i) ∧ (∀ j i, rL m2 j i = rL m j i) := by
  obtain ⟨b1, b2, b3, b4, b5, b6, b7⟩ := id hb
  have no : ∃ (r : Int32) (c2 m2 : rs_T), some ((0 : Int32), c) = some (r, c2) ∧ some ((0 : Int32), m) = some (r, m2) ∧ wb c2 m2 F w ∧ (∀ q, rI c2 q = rI c q) ∧ (∀ j i, ¬ j = 15 → rA c2 j i = rA c j i) ∧ (∀ j i, rL c2 j i = rL c j i) ∧ (∀ q, rI m2 q = rI m q) ∧ (∀ j i, ¬ j = 16 → rA m2 j i = rA m j i) ∧ (∀ j i, rL m2 j i = rL m j i) := ⟨0, c, m, rfl, rfl, hb, fun _ => rfl, fun _ _ _ => rfl, fun _ _ => rfl, fun _ => rfl, fun _ _ _ => rfl, fun _ _ => rfl⟩
  unfold fx_Ma_entry fx_Md_entry fx_Ma_entry_b28 fx_Md_entry_b24
  rcases wi_M x 29 (by omega) m with ⟨k, hk, rfl, e2⟩ | ⟨ex, e2⟩
  · have e3 : fx_Md_within (nI k) 29 m = some (1, m) := e2
    have n30 : ¬ (30 : Int32) ≤ nI k := fun q => by
      have : 30 ≤ k := (lit_le (k := 30) (show k < 2 ^ 31 by omega) (by omega)).mp q
      omega
    have yes : (y = -1 ∨ ∃ f, wh_F F w f ∧ y = nI f) → ∃ (r : Int32) (c2 m2 : rs_T), gd (nI k) 30 (some ((1 : Int32), wA c 15 (nI k).toNatClampNeg y)) = some (r, c2) ∧ gd (nI k) 30 (some ((1 : Int32), wA m 16 (nI k).toNatClampNeg y)) = some (r, m2) ∧ wb c2 m2 F w ∧ (∀ q, rI c2 q = rI c q) ∧ (∀ j i, ¬ j = 15 → rA c2 j i = rA c j i) ∧ (∀ j i, rL c2 j i = rL c j i) ∧ (∀ q, rI m2 q = rI m q) ∧ (∀ j i, ¬ j = 16 → rA m2 j i = rA m j i) ∧ (∀ j i, rL m2 j i = rL m j i) := fun hy => by
      rw [gd_k (by omega) (by omega), gd_k (by omega) (by omega), nI_clamp (by omega)]
      refine ⟨1, _, _, rfl, rfl, ⟨fun j hj => ?_, b2, fun i hi => ?_, b4, b5, b6, b7⟩, fun _ => rfl, fun j i hj => rA_wn hj, fun _ _ => rfl, fun _ => rfl, fun j i hj => rA_wn hj, fun _ _ => rfl⟩
      · by_cases e : j = k
        · subst e; rw [rA_wss, rA_wss]; exact ⟨rfl, hy⟩
        · rw [rA_wsn e, rA_wsn e]; exact b1 j hj
      · rw [rA_wn (by decide), rA_wn (by decide)]; exact b3 i hi
    rw [if_neg (nI_pos (by omega)), if_neg n30, e3, bn_s, if_neg i10]
    by_cases ey : y = -1
    · rw [if_pos ey, if_pos ey]; exact yes (Or.inl ey)
    · rw [if_neg ey, if_neg ey]
      rcases iw_both h y with ⟨f, hf, e, g1, g2⟩ | ⟨-, g1, g2⟩
      · rw [g1, g2, bn_s, bn_s, if_neg i10, if_neg i10]; exact yes (Or.inr ⟨f, hf, e⟩)
      · rw [g1, g2, bn_s, bn_s, if_pos rfl, if_pos rfl]; exact no
  · have e3 : fx_Md_within x 29 m = some (0, m) := e2
    rw [e3, bn_s, if_pos rfl]
    by_cases x0 : x < 0
    · rw [if_pos x0]; exact no
    · rw [if_neg x0, if_pos]
      · exact no
      · obtain ⟨j, hj, e⟩ := nI_of x0
        subst e
        rcases Nat.lt_or_ge j 30 with z | z
        · exact absurd rfl (ex j (by omega))
        · exact (lit_le (k := 30) hj (by omega)).mpr z
theorem wb_argument {c m : rs_T} {F : Nat} {w : Bool} (hb : wb c m F w) (v : Int64) : ∃ (r : Int32) (c2 m2 : rs_T), fx_Ma_argument v c = some (r, c2) ∧ fx_Md_argument v m = some (r, m2) ∧ wb c2 m2 F w ∧ (∀ q, ¬ q = 0 → rI c2 q = rI c q) ∧ (∀ j i, rA c2 j i = rA c j i) ∧ (∀ j i, ¬ j = 0 → rL c2 j i = rL c j i) ∧ (∀ q, ¬ q = 8 → rI m2 q = rI m q) ∧ (∀ j i, rA m2 j i = rA m j i) ∧ (∀ j i, ¬ j = 1 → rL m2 j i = rL m j i) := by
  obtain ⟨b1, b2, b3, b4, ⟨k, hk, c0, m8, hk2⟩, b6, b7⟩ := id hb
  unfold fx_Ma_argument fx_Md_argument
  rw [c0, m8]
  by_cases e : k = 8
  · subst e
    have n1 : ¬ nI 8 < 8 := by decide
    have n2 : nI 8 = 8 := rfl
    rw [if_neg n1, if_pos n2]
    exact ⟨-1, c, m, rfl, rfl, hb, fun _ _ => rfl, fun _ _ => rfl, fun _ _ _ => rfl, fun _ _ => rfl, fun _ _ => rfl, fun _ _ _ => rfl⟩
  · have n1 : nI k < 8 := (lt_lit (k := 8) (show k < 2 ^ 31 by omega) (by omega)).mpr (show k < 8 by omega)
    have n2 : ¬ nI k = 8 := fun z => e ((eq_lit (k := 8) (show k < 2 ^ 31 by omega) (by omega)).mp z)
    rw [if_pos n1, if_neg n2, gd_k (by omega) (by omega), gd_k (by omega) (by omega), nI_1, nI_clamp (by omega)]
    refine ⟨nI (k + 1), _, _, rfl, rfl, ⟨b1, fun j hj => ?_, b3, ?_, ⟨k + 1, by omega, ?_, ?_, fun i hi => ?_⟩, ?_, ?_⟩, fun q hq => ?_, fun _ _ => rfl, fun j i hj => ?_, fun q hq => ?_, fun _ _ => rfl, fun j i hj => ?_⟩
    · simp (disch := omega) only [bn_s, bv_s, bd_s, gb_0, gb_1, rI_ws, rI_wn, rI_wA, rI_wL, rA_wI, rA_wL, rL_wI, rL_wA, rA_wss, rA_wn, rA_wsn, rL_wss, rL_wn, rL_wsn, rN_wI, rN_wA, rN_wL]; exact b2 j hj
    · simp (disch := omega) only [bn_s, bv_s, bd_s, gb_0, gb_1, rI_ws, rI_wn, rI_wA, rI_wL, rA_wI, rA_wL, rL_wI, rL_wA, rA_wss, rA_wn, rA_wsn, rL_wss, rL_wn, rL_wsn, rN_wI, rN_wA, rN_wL]; exact b4
    · simp (disch := omega) only [bn_s, bv_s, bd_s, gb_0, gb_1, rI_ws, rI_wn, rI_wA, rI_wL, rA_wI, rA_wL, rL_wI, rL_wA, rA_wss, rA_wn, rA_wsn, rL_wss, rL_wn, rL_wsn, rN_wI, rN_wA, rN_wL]
    · simp (disch := omega) only [bn_s, bv_s, bd_s, gb_0, gb_1, rI_ws, rI_wn, rI_wA, rI_wL, rA_wI, rA_wL, rL_wI, rL_wA, rA_wss, rA_wn, rA_wsn, rL_wss, rL_wn, rL_wsn, rN_wI, rN_wA, rN_wL]
    · by_cases z : i = k
      · subst z; simp (disch := omega) only [bn_s, bv_s, bd_s, gb_0, gb_1, rI_ws, rI_wn, rI_wA, rI_wL, rA_wI, rA_wL, rL_wI, rL_wA, rA_wss, rA_wn, rA_wsn, rL_wss, rL_wn, rL_wsn, rN_wI, rN_wA, rN_wL]
      · simp (disch := omega) only [bn_s, bv_s, bd_s, gb_0, gb_1, rI_ws, rI_wn, rI_wA, rI_wL, rA_wI, rA_wL, rL_wI, rL_wA, rA_wss, rA_wn, rA_wsn, rL_wss, rL_wn, rL_wsn, rN_wI, rN_wA, rN_wL]; exact hk2 i (by omega)
    · simp (disch := omega) only [bn_s, bv_s, bd_s, gb_0, gb_1, rI_ws, rI_wn, rI_wA, rI_wL, rA_wI, rA_wL, rL_wI, rL_wA, rA_wss, rA_wn, rA_wsn, rL_wss, rL_wn, rL_wsn, rN_wI, rN_wA, rN_wL]; exact b6
    · simp (disch := omega) only [bn_s, bv_s, bd_s, gb_0, gb_1, rI_ws, rI_wn, rI_wA, rI_wL, rA_wI, rA_wL, rL_wI, rL_wA, rA_wss, rA_wn, rA_wsn, rL_wss, rL_wn, rL_wsn, rN_wI, rN_wA, rN_wL]; exact b7
    · simp (disch := omega) only [bn_s, bv_s, bd_s, gb_0, gb_1, rI_ws, rI_wn, rI_wA, rI_wL, rA_wI, rA_wL, rL_wI, rL_wA, rA_wss, rA_wn, rA_wsn, rL_wss, rL_wn, rL_wsn, rN_wI, rN_wA, rN_wL]
    · simp (disch := omega) only [bn_s, bv_s, bd_s, gb_0, gb_1, rI_ws, rI_wn, rI_wA, rI_wL, rA_wI, rA_wL, rL_wI, rL_wA, rA_wss, rA_wn, rA_wsn, rL_wss, rL_wn, rL_wsn, rN_wI, rN_wA, rN_wL]
    · simp (disch := omega) only [bn_s, bv_s, bd_s, gb_0, gb_1, rI_ws, rI_wn, rI_wA, rI_wL, rA_wI, rA_wL, rL_wI, rL_wA, rA_wss, rA_wn, rA_wsn, rL_wss, rL_wn, rL_wsn, rN_wI, rN_wA, rN_wL]
    · simp (disch := omega) only [bn_s, bv_s, bd_s, gb_0, gb_1, rI_ws, rI_wn, rI_wA, rI_wL, rA_wI, rA_wL, rL_wI, rL_wA, rA_wss, rA_wn, rA_wsn, rL_wss, rL_wn, rL_wsn, rN_wI, rN_wA, rN_wL]
theorem wb_tier {c m : rs_T} {F : Nat} {w : Bool} (hb : wb c m F w) (n : Int32) : ∃ (r : Int32) (c2 m2 : rs_T), fx_Ma_tier n c = some (r, c2) ∧ fx_Md_tier n m = some (r, m2) ∧ wb c2 m2 F w ∧ (∀ q, ¬ q = 1 → rI c2 q = rI c q) ∧ (∀ j i, rA c2 j i = rA c j i) ∧ (∀ j i, rL c2 j i = rL c j i) ∧ (∀ q, ¬ q = 17 → rI m2 q = rI m q) ∧ (∀ j i, rA m2 j i = rA m j i) ∧ (∀ j i, rL m2 j i = rL m j i) := by
  obtain ⟨b1, b2, b3, b4, b5, b6, b7⟩ := id hb
  unfold fx_Ma_tier fx_Md_tier
  by_cases e : (0 : Int32) ≤ n
  · have e0 : ¬ n < 0 := fun z => by
      have y1 := Int32.lt_iff_toInt_lt.mp z
      have y2 := Int32.le_iff_toInt_le.mp e
      omega
    first
      | rw [if_pos e, if_pos e, bd_s, bd_s]
      | rw [if_neg e0, if_pos e, bd_s, bd_s]
    refine ⟨rI m 17, wI c 1 n, wI m 17 n, by rw [b6], rfl, ⟨b1, b2, b3, ?_, ?_, ?_, ?_⟩, fun q hq => rI_wn hq, fun _ _ => rfl, fun _ _ => rfl, fun q hq => rI_wn hq, fun _ _ => rfl, fun _ _ => rfl⟩
    · simp (disch := omega) only [bn_s, bv_s, bd_s, gb_0, gb_1, rI_ws, rI_wn, rI_wA, rI_wL, rA_wI, rA_wL, rL_wI, rL_wA, rA_wss, rA_wn, rA_wsn, rL_wss, rL_wn, rL_wsn, rN_wI, rN_wA, rN_wL]; exact b4
    · simp (disch := omega) only [bn_s, bv_s, bd_s, gb_0, gb_1, rI_ws, rI_wn, rI_wA, rI_wL, rA_wI, rA_wL, rL_wI, rL_wA, rA_wss, rA_wn, rA_wsn, rL_wss, rL_wn, rL_wsn, rN_wI, rN_wA, rN_wL]; exact b5
    · simp (disch := omega) only [bn_s, bv_s, bd_s, gb_0, gb_1, rI_ws, rI_wn, rI_wA, rI_wL, rA_wI, rA_wL, rL_wI, rL_wA, rA_wss, rA_wn, rA_wsn, rL_wss, rL_wn, rL_wsn, rN_wI, rN_wA, rN_wL]
    · simp (disch := omega) only [bn_s, bv_s, bd_s, gb_0, gb_1, rI_ws, rI_wn, rI_wA, rI_wL, rA_wI, rA_wL, rL_wI, rL_wA, rA_wss, rA_wn, rA_wsn, rL_wss, rL_wn, rL_wsn, rN_wI, rN_wA, rN_wL]
      have y2 := Int32.le_iff_toInt_le.mp e
      exact y2
  · have e0 : n < 0 := by
      rw [Int32.lt_iff_toInt_lt]
      have : ¬ (0 : Int32).toInt ≤ n.toInt := fun z => e (Int32.le_iff_toInt_le.mpr z)
      omega
    first
      | rw [if_neg e, if_neg e]
      | rw [if_pos e0, if_neg e]
    exact ⟨-1, c, m, rfl, rfl, hb, fun _ _ => rfl, fun _ _ => rfl, fun _ _ => rfl, fun _ _ => rfl, fun _ _ => rfl, fun _ _ => rfl⟩
