theorem wb_global {c m : rs_T} {F : Nat} {w : Bool} (hb : wb c m F w) (x : Int32) : ∃ r : Int64, fx_Ma_global x c = some (r, c) ∧ fx_Md_global x m = some (r, m) := by
  obtain ⟨b1, b2, b3, b4, b5, b6, b7⟩ := hb
  unfold fx_Ma_global fx_Md_global
  rcases wi_M x 7 (by omega) m with ⟨k, hk, rfl, e2⟩ | ⟨ex, e2⟩
  · have e3 : fx_Md_within (nI k) 7 m = some (1, m) := e2
    have n1 : ¬ (8 : Int32) ≤ nI k := fun q => by
      have : 8 ≤ k := (lit_le (k := 8) (show k < 2 ^ 31 by omega) (by omega)).mp q
      omega
    have n2 : nI k < 8 := (lt_lit (k := 8) (show k < 2 ^ 31 by omega) (by omega)).mpr (show k < 8 by omega)
    refine ⟨rL m 0 k, ?_, ?_⟩
    · simp (disch := omega) only [nI_pos, n1, n2, if_true, if_false, gd_k, nI_clamp, b2 k (show k < 8 by omega)]
    · rw [e3, bn_s]
      simp (disch := omega) only [i10, if_false, gd_k, nI_clamp]
  · have e3 : fx_Md_within x 7 m = some (0, m) := e2
    refine ⟨0, ?_, ?_⟩
    · by_cases x0 : x < 0
      · simp only [x0, if_true]
      · obtain ⟨j, hj, e⟩ := nI_of x0
        subst e
        have z : 8 ≤ j := by
          rcases Nat.lt_or_ge j 8 with z | z
          · exact absurd rfl (ex j (by omega))
          · exact z
        have n1 : (8 : Int32) ≤ nI j := (lit_le (k := 8) hj (by omega)).mpr z
        have n2 : ¬ nI j < 8 := fun q => by
          have : j < 8 := (lt_lit (k := 8) hj (by omega)).mp q
          omega
        simp only [x0, n1, n2, if_true, if_false]
    · rw [e3, bn_s]
      simp only [if_true]
theorem pb_look {c m : rs_T} {T : Nat → ts_T} {S E M : Nat → Nat} {F t : Nat} {w : Bool} (h : pb c m T S E M F t w) (x y : Int32) : ∃ r : Int32, fx_Ma_look x y c = some (r, c) ∧ fx_Md_look x y m = some (r, m) := by
  have hiw := iw_both h x
  obtain ⟨h1, h2, h3, h4, h5, h6, h7, hA, hF, hP, -⟩ := h
  unfold fx_Ma_look fx_Md_look
  rcases hiw with ⟨f, hf, rfl, g1, g2⟩ | ⟨-, g1, g2⟩
  · rw [g1, g2, bn_s, bn_s]
    have hf1 := hf.1
    obtain ⟨q1, q2, q3⟩ := hA.2 f
    obtain ⟨p1, p2, p3, p4, p5, -⟩ := hP f hf1
    simp (disch := omega) only [i10, if_false, gd_k, nI_clamp, q1, q2, q3, p4, p5, List.mem_cons, List.not_mem_nil, or_false]
    by_cases y0 : y = 0
    · exact ⟨rA m 2 f, by rw [if_pos y0], by rw [if_pos y0]⟩
    · by_cases y1 : y = 1
      · exact ⟨rA m 3 f, by rw [if_neg y0, if_pos y1], by rw [if_neg y0, if_pos y1]⟩
      · by_cases y2 : y = 2
        · exact ⟨rA m 4 f, by rw [if_neg y0, if_neg y1, if_pos y2], by rw [if_neg y0, if_neg y1, if_pos y2]⟩
        · by_cases y3 : y = 3
          · exact ⟨nI (M f), by rw [if_neg y0, if_neg y1, if_neg y2, if_pos y3], by rw [if_neg y0, if_neg y1, if_neg y2, if_pos y3]⟩
          · exact ⟨-1, by rw [if_neg y0, if_neg y1, if_neg y2, if_neg y3], by rw [if_neg y0, if_neg y1, if_neg y2, if_neg y3]⟩
  · rw [g1, g2, bn_s, bn_s]
    exact ⟨-1, by simp only [if_true], by simp only [if_true]⟩
