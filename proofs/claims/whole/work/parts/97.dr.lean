theorem lc_gt (x y : Int64) : ((0 : Int32) < lg_cmp x y) ↔ y < x := by
  unfold lg_cmp
  by_cases h1 : y < x
  · rw [if_pos h1]
    exact ⟨fun _ => h1, fun _ => by decide⟩
  · rw [if_neg h1]
    by_cases h2 : x = y
    · rw [if_pos h2]
      exact ⟨fun z => absurd z (by decide), fun z => absurd z h1⟩
    · rw [if_neg h2]
      exact ⟨fun z => absurd z (by decide), fun z => absurd z h1⟩
theorem wb_memory {c m : rs_T} {F : Nat} {w : Bool} (hb : wb c m F w) (x : Int32) : ∃ r : Int32, fx_Ma_memory x c = some (r, c) ∧ fx_Md_memory x m = some (r, m) := by
  obtain ⟨b1, b2, b3, ⟨p, p1, p6, c9, m7⟩, b5, b6, b7⟩ := hb
  unfold fx_Ma_memory fx_Md_memory fx_Md_memory_b15 fx_Wo_holds
  by_cases x0 : x < 0
  · rw [if_pos x0, if_pos x0]; exact ⟨-1, rfl, rfl⟩
  rw [if_neg x0, if_neg x0]
  obtain ⟨j, hj, e⟩ := nI_of x0
  subst e
  rw [c9, m7, nI_l hj, nI_l (show p < 2 ^ 31 by omega)]
  have e1 : lN j + (1 : Int32).toInt64 = lN (j + 1) := lN_1 j
  have e2 : lN p * 64 = lN (p * 64) := lN_mul p 64
  have e3 : (64 : Int32) * nI p = nI (64 * p) := pk_mul 64 p
  rw [e1, e2, e3]
  by_cases h : j < 64 * p
  · have n1 : ¬ (0 : Int32) < lg_cmp (lN (j + 1)) (lN (p * 64)) := fun z => by
      have z1 := (lc_gt _ _).mp z
      have z2 := (pk_lLT (show p * 64 < 2 ^ 63 by omega) (show j + 1 < 2 ^ 63 by omega)).mp z1
      omega
    obtain ⟨b, hb, y1, y2⟩ := b3 j (by omega)
    rw [if_neg n1, bn_s, if_neg i10, if_pos (nI_lt h (by omega)), gd_k (by omega) (by omega), gd_k (by omega) (by omega), nI_clamp (by omega), y1, y2]
    exact ⟨nI b, rfl, rfl⟩
  · have n1 : (0 : Int32) < lg_cmp (lN (j + 1)) (lN (p * 64)) := (lc_gt _ _).mpr ((pk_lLT (show p * 64 < 2 ^ 63 by omega) (show j + 1 < 2 ^ 63 by omega)).mpr (by omega))
    rw [if_pos n1, bn_s, if_pos rfl, if_neg (nI_nlt (by omega) (by omega))]
    exact ⟨-1, rfl, rfl⟩
