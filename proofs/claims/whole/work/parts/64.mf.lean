-- ===== the end of the reference's code(): the instruction is laid down =====
def mz_m (m1 : rs_T) (f t : Nat) (o a b : Int32) (s ms : Nat) : rs_T := wA (wA (wI (wA (wA (wA m1 6 t o) 7 t a) 8 t b) 1 (nI (t + 1))) 1 f (nI (t + 1 - s))) 5 f (nI ms)
def mz_e (m1 : rs_T) (f t : Nat) (o a b : Int32) (s : Nat) : rs_T := wI (wA (wI (wA (wA (wA m1 6 t o) 7 t a) 8 t b) 1 (nI (t + 1))) 1 f (nI (t + 1 - s))) 2 0
theorem i10 : ¬ (1 : Int32) = 0 := by decide
theorem m_b250 {m : rs_T} {f : Nat} (v : Int32) (hf : f < 40) : fx_Md_code_b250 v (nI f) m = some (rI m 1, wA m 5 f v) := by
  unfold fx_Md_code_b250
  rw [gd_k (by omega) (by omega), nI_clamp (by omega)]
theorem m_fin {m1 : rs_T} {f t k hh ow s ms : Nat} {o a b : Int32} (h0 : rI m1 0 = nI (f + 1)) (h1 : rI m1 1 = nI t) (h3 : rI m1 3 = nI (k + 1)) (hk : k < 1500) (hh1 : rA m1 13 k = nI hh) (ho : rA m1 14 k = nI ow) (hs : rA m1 0 f = nI s) (hms : rA m1 5 f = nI ms) (hf : f < 40) (ht : t < 1500) (hst : s ≤ t) (hb : hh + ow < 1000000) (hb2 : ms < 1000000) : fx_Md_code_b108 o a b 1 m1 = some (nI (t + 1), mz_m m1 f t o a b s (max ms (hh + ow))) := by
  unfold fx_Md_code_b108 mz_m
  have e3 : rI (wA (wI (wA (wA (wA m1 6 t o) 7 t a) 8 t b) 1 (nI (t + 1))) 1 f (nI (t + 1 - s))) 3 = nI (k + 1) := by
    simp (disch := omega) only [bn_s, bv_s, bd_s, gb_0, gb_1, rI_ws, rI_wn, rI_wA, rI_wL, rA_wI, rA_wL, rL_wI, rL_wA, rA_wss, rA_wn, rA_wsn, rL_wss, rL_wn, rL_wsn, rN_wI, rN_wA, rN_wL]; exact h3
  have e0 : nI (f + 1) - 1 = nI f := nI_pred f
  have e4 : ¬ nI (k + 1) = 0 := nI_ne0 (by omega) (by omega)
  rw [if_neg i10, h1, h0, e0]
  rw [gd_k (by omega) (by omega), gd_k (by omega) (by omega), gd_k (by omega) (by omega), bd_s, gd_k (by omega) (by omega), gd_k (by omega) (by omega), h3, if_neg e4]
  rw [nI_clamp (show t < 2 ^ 31 by omega), nI_clamp (show f < 2 ^ 31 by omega), nI_1, hs, nI_sub (by omega)]
  rw [mi_s e3, bn_s, gd_k (by omega) (by omega), mi_s e3, bn_s, gd_k (by omega) (by omega), bd_s]
  rw [nI_clamp (show k < 2 ^ 31 by omega)]
  simp (disch := omega) only [bn_s, bv_s, bd_s, gb_0, gb_1, rI_ws, rI_wn, rI_wA, rI_wL, rA_wI, rA_wL, rL_wI, rL_wA, rA_wss, rA_wn, rA_wsn, rL_wss, rL_wn, rL_wsn, rN_wI, rN_wA, rN_wL, hh1, ho, nI_add, hms, nI_leI, gd_k]
  by_cases hq : hh + ow ≤ ms
  · rw [if_pos hq, m_b250 _ hf, Nat.max_eq_left hq]
    simp (disch := omega) only [bn_s, bv_s, bd_s, gb_0, gb_1, rI_ws, rI_wn, rI_wA, rI_wL, rA_wI, rA_wL, rL_wI, rL_wA, rA_wss, rA_wn, rA_wsn, rL_wss, rL_wn, rL_wsn, rN_wI, rN_wA, rN_wL]
  · rw [if_neg hq, m_b250 _ hf, Nat.max_eq_right (by omega)]
    simp (disch := omega) only [bn_s, bv_s, bd_s, gb_0, gb_1, rI_ws, rI_wn, rI_wA, rI_wL, rA_wI, rA_wL, rL_wI, rL_wA, rA_wss, rA_wn, rA_wsn, rL_wss, rL_wn, rL_wsn, rN_wI, rN_wA, rN_wL]
theorem m_fin0 {m1 : rs_T} {f t s : Nat} {o a b : Int32} (h0 : rI m1 0 = nI (f + 1)) (h1 : rI m1 1 = nI t) (h3 : rI m1 3 = 0) (hs : rA m1 0 f = nI s) (hf : f < 40) (ht : t < 1500) (hst : s ≤ t) : fx_Md_code_b108 o a b 1 m1 = some (nI (t + 1), mz_e m1 f t o a b s) := by
  unfold fx_Md_code_b108 mz_e
  have e0 : nI (f + 1) - 1 = nI f := nI_pred f
  rw [if_neg i10, h1, h0, e0]
  rw [gd_k (by omega) (by omega), gd_k (by omega) (by omega), gd_k (by omega) (by omega), bd_s, gd_k (by omega) (by omega), gd_k (by omega) (by omega), h3, if_pos rfl]
  rw [nI_clamp (show t < 2 ^ 31 by omega), nI_clamp (show f < 2 ^ 31 by omega), nI_1, hs, nI_sub (by omega)]
theorem m_ref (m1 : rs_T) (o a b : Int32) : fx_Md_code_b108 o a b 0 m1 = some (-1, m1) := by
  unfold fx_Md_code_b108
  rw [if_pos rfl]
