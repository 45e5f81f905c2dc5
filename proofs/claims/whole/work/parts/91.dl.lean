-- ===== function() in both =====
def fr_C6 (c c2 : rs_T) (F : Nat) : Prop := (∀ q, (q < 2 ∨ 8 < q) → rI c2 q = rI c q) ∧ (∀ j x, 14 < j → rA c2 j x = rA c j x) ∧ (∀ x, ¬ x = F → rA c2 6 x = rA c 6 x) ∧ rA c2 6 F = 0 ∧ (∀ j x, rL c2 j x = rL c j x) ∧ rN c2 2 = rN c 2
def fr_M6 (m m2 : rs_T) (F : Nat) : Prop := (∀ q, 6 < q → rI m2 q = rI m q) ∧ (∀ j x, 15 < j → ¬ j = 21 → ¬ j = 22 → rA m2 j x = rA m j x) ∧ (∀ x, ¬ x = F → rA m2 21 x = rA m 21 x ∧ rA m2 22 x = rA m 22 x) ∧ rA m2 21 F = 0 ∧ rA m2 22 F = 0 ∧ ∀ j x, rL m2 j x = rL m j x
def cs_0 (c : rs_T) (F t : Nat) (p r l : Int32) : rs_T := wI (wI (wI (wA (wA (wI (wI (wA (wA (wA (wA (wA (wA c 0 F p) 1 F r) 2 F l) 3 F 0) 6 F 0) 4 F (nI t)) 2 (nI (F + 1))) 3 (nI F)) 13 0 (-1)) 14 0 0) 5 1) 6 0) 7 0
theorem c_start {c : rs_T} {F t x y z : Nat} (h3 : rI c 3 = -1) (h2 : rI c 2 = nI F) (h4 : rI c 4 = nI t) (hF : F < 40) (hx : x ≤ 8) (hy : y ≤ 8) (hz : z ≤ 8) (hL1 : 1 ≤ rN c 1 ∧ rN c 1 ≤ 1501) : fx_Ma_function (nI x) (nI y) (nI z) c = some (nI F, cs_0 c F t (nI x) (nI y) (nI z)) := by
  have e1 : ∀ k, k ≤ 8 → fx_Ma_isWithin (nI k) 8 c = some (1, c) := fun k hk => by
    rcases wi_C (nI k) 8 (by omega) c with ⟨j, -, -, e⟩ | ⟨e, -⟩
    · exact e
    · exact absurd rfl (e k hk)
  have n40 : ¬ (40 : Int32) ≤ nI F := fun q => by
    have : 40 ≤ F := (lit_le (k := 40) (show F < 2 ^ 31 by omega) (by omega)).mp q
    omega
  have g0 : ∀ (q : Option (Int32 × rs_T)), gd (0 : Int32) (rN c 1) q = q := fun q => by
    have := gd_k (k := 0) (n := rN c 1) (x := q) (by omega) (by omega)
    rw [nI_0] at this; exact this
  unfold fx_Ma_function fx_Wr_start
  rw [bd_s, if_pos h3, h2, if_neg n40, e1 x hx, bn_s, if_neg i10, e1 y hy, bn_s, if_neg i10, e1 z hz, bn_s, if_neg i10]
  rw [gd_k (by omega) (by omega), gd_k (by omega) (by omega), gd_k (by omega) (by omega), gd_k (by omega) (by omega), gd_k (by omega) (by omega), gd_k (by omega) (by omega), g0, g0, bn_s, h4, nI_1, nI_clamp (by omega), show (0 : Int32).toNatClampNeg = 0 from rfl]
  rfl
def ms_0 (m : rs_T) (F t : Nat) (p r l : Int32) : rs_T := wI (wA (wA (wA (wA (wA (wA (wI (wI (wI (wI (wA (wA (wA (wA (wA (wA (wA (wA m 0 F (nI t)) 1 F 0) 2 F p) 3 F r) 4 F l) 5 F 0) 21 F 0) 22 F 0) 0 (nI (F + 1))) 2 1) 3 0) 4 0) 10 0 0) 11 0 0) 12 0 r) 13 0 0) 14 0 0) 15 0 0) 3 (nI 1)
theorem m_start {m : rs_T} {F t x y z : Nat} (h2 : rI m 2 = 0) (h0 : rI m 0 = nI F) (h1 : rI m 1 = nI t) (hF : F < 40) (hx : x ≤ 8) (hy : y ≤ 8) (hz : z ≤ 8) : fx_Md_function (nI x) (nI y) (nI z) m = some (nI F, ms_0 m F t (nI x) (nI y) (nI z)) := by
  have e1 : ∀ k, k ≤ 8 → fx_Md_within (nI k) 8 m = some (1, m) := fun k hk => by
    rcases wi_M (nI k) 8 (by omega) m with ⟨j, -, -, e⟩ | ⟨e, -⟩
    · exact e
    · exact absurd rfl (e k hk)
  have n40 : ¬ nI F = 40 := fun q => by
    have : F = 40 := (eq_lit (k := 40) (show F < 2 ^ 31 by omega) (by omega)).mp q
    omega
  unfold fx_Md_function
  rw [if_pos h2, h0, if_neg n40, e1 x hx, bn_s, if_neg i10, e1 y hy, bn_s, if_neg i10, e1 z hz, bn_s, if_neg i10]
  rw [h0, gd_k (by omega) (by omega), gd_k (by omega) (by omega), gd_k (by omega) (by omega), gd_k (by omega) (by omega), gd_k (by omega) (by omega), gd_k (by omega) (by omega), gd_k (by omega) (by omega), gd_k (by omega) (by omega), h1, nI_1, nI_clamp (by omega)]
  generalize hm1 : wI (wI (wI (wI (wA (wA (wA (wA (wA (wA (wA (wA m 0 F (nI t)) 1 F 0) 2 F (nI x)) 3 F (nI y)) 4 F (nI z)) 5 F 0) 21 F 0) 22 F 0) 0 (nI (F + 1))) 2 1) 3 0) 4 0 = m1
  have k3 : rI m1 3 = 0 := by rw [← hm1]; simp (disch := omega) only [bn_s, bv_s, bd_s, gb_0, gb_1, rI_ws, rI_wn, rI_wA, rI_wL, rA_wI, rA_wL, rL_wI, rL_wA, rA_wss, rA_wn, rA_wsn, rL_wss, rL_wn, rL_wsn, rN_wI, rN_wA, rN_wL]
  have k3' : rI m1 3 = nI 0 := by rw [k3, nI_0]
  have k0 : rI m1 0 = nI (F + 1) := by rw [← hm1]; simp (disch := omega) only [bn_s, bv_s, bd_s, gb_0, gb_1, rI_ws, rI_wn, rI_wA, rI_wL, rA_wI, rA_wL, rL_wI, rL_wA, rA_wss, rA_wn, rA_wsn, rL_wss, rL_wn, rL_wsn, rN_wI, rN_wA, rN_wL]
  have hb : fx_Md_begin 0 0 (nI y) m1 = some (wI (wA (wA (wA (wA (wA (wA m1 10 0 0) 11 0 0) 12 0 (nI y)) 13 0 0) 14 0 0) 15 0 0) 3 (nI (0 + 1))) := by
    unfold fx_Md_begin
    rw [if_pos k3]
    exact m_b34 0 0 (nI y) 0 k3' (by omega)
  rw [hb, bv_s]
  have e0 : rI (wI (wA (wA (wA (wA (wA (wA m1 10 0 0) 11 0 0) 12 0 (nI y)) 13 0 0) 14 0 0) 15 0 0) 3 (nI (0 + 1))) 0 = nI (F + 1) := by simp (disch := omega) only [bn_s, bv_s, bd_s, gb_0, gb_1, rI_ws, rI_wn, rI_wA, rI_wL, rA_wI, rA_wL, rL_wI, rL_wA, rA_wss, rA_wn, rA_wsn, rL_wss, rL_wn, rL_wsn, rN_wI, rN_wA, rN_wL]; exact k0
  rw [e0, nI_pred, ← hm1]
  rfl
