-- ===== operators =====
theorem m_pop {m : rs_T} {P : Nat} (h : rI m 13 = nI (P + 1)) (hP : P < 700) : fx_Md_pop m = some (rL m 2 P, wI m 13 (nI P)) := by
  unfold fx_Md_pop
  rw [h, nI_pred, gd_k (by omega) (by omega), nI_clamp (by omega)]
theorem m_push {m : rs_T} {P : Nat} {v : Int64} (h : rI m 13 = nI P) (hP : P < 700) : fx_Md_push v m = some (wI (wL m 2 P v) 13 (nI (P + 1))) := by
  unfold fx_Md_push
  rw [h, gd_k (by omega) (by omega), nI_clamp (by omega), nI_1]
theorem m_true {m : rs_T} (x : Int64) : fx_Md_isTrue x m = some (if x.toInt32 = 0 then 0 else 1, m) := by
  unfold fx_Md_isTrue
  by_cases e : x.toInt32 = 0
  · rw [if_pos e, if_pos ((lc_0 _ _).mpr (low_0.mpr e))]
  · rw [if_neg e, if_neg (fun z => e (low_0.mp ((lc_0 _ _).mp z)))]
-- two operands, one result
def wk2 (o : Int32) (m : rs_T) (P : Nat) (x y : Int64) : Prop :=
  ((∀ c, fx_Op_dividesByZero o y c = some (1, c)) ∧ fx_Md_work o m = some (wI (wI (wI (wI m 13 (nI (P + 1))) 13 (nI P)) 9 3) 10 11)) ∨
  (∃ v, (∀ c, fx_Op_dividesByZero o y c = some (0, c)) ∧ (∀ c, fx_Op_compute o x y c = some (v, c)) ∧ fx_Md_work o m = some (wI (wL (wI (wI m 13 (nI (P + 1))) 13 (nI P)) 2 P v) 13 (nI (P + 1))))
theorem wk_70 {m : rs_T} {P : Nat} (h : rI m 13 = nI (P + 2)) (hP : P + 2 ≤ 700) : wk2 70 m P (rL m 2 P) (rL m 2 (P + 1)) := by
  have hp1 := m_pop (P := P + 1) h (by omega)
  have hp2 : fx_Md_pop (wI m 13 (nI (P + 1))) = some (rL m 2 P, wI (wI m 13 (nI (P + 1))) 13 (nI P)) := m_pop (by rw [rI_ws]) (by omega)
  have hpu : ∀ v, fx_Md_push v (wI (wI m 13 (nI (P + 1))) 13 (nI P)) = some (wI (wL (wI (wI m 13 (nI (P + 1))) 13 (nI P)) 2 P v) 13 (nI (P + 1))) := fun v => m_push (by rw [rI_ws]) (by omega)
  have hd : ∀ c, fx_Op_dividesByZero 70 (rL m 2 (P + 1)) c = some (0, c) := by
    intro c
    unfold fx_Op_dividesByZero
    rw [if_neg (by decide)]
  by_cases e : (rL m 2 P).toInt32 = (rL m 2 (P + 1)).toInt32
  · refine Or.inr ⟨1, hd, ?_, ?_⟩
    · intro c
      unfold fx_Op_compute fx_Op_compute_b190 fx_Op_bit
      rw [if_neg (by decide), if_pos (by decide), if_pos e, if_neg (by decide), bn_s]
    · unfold fx_Md_work fx_Md_work_b358 fx_Md_truth
      rw [if_neg (by decide), if_neg (by decide), if_neg (by decide), if_neg (by decide), hp1, bn_s, hp2, bn_s, bd_s, bd_s, if_pos (by decide), if_pos ((lc_0 _ _).mpr (low_eq.mpr e)), if_neg (by decide), bn_s, hpu, bv_s]
  · refine Or.inr ⟨0, hd, ?_, ?_⟩
    · intro c
      unfold fx_Op_compute fx_Op_compute_b190 fx_Op_bit
      rw [if_neg (by decide), if_pos (by decide), if_neg e, if_pos rfl, bn_s]
    · unfold fx_Md_work fx_Md_work_b358 fx_Md_truth
      rw [if_neg (by decide), if_neg (by decide), if_neg (by decide), if_neg (by decide), hp1, bn_s, hp2, bn_s, bd_s, bd_s, if_pos (by decide), if_neg (fun z => e (low_eq.mp ((lc_0 _ _).mp z))), if_pos rfl, bn_s, hpu, bv_s]
theorem wk_71 {m : rs_T} {P : Nat} (h : rI m 13 = nI (P + 2)) (hP : P + 2 ≤ 700) : wk2 71 m P (rL m 2 P) (rL m 2 (P + 1)) := by
  have hp1 := m_pop (P := P + 1) h (by omega)
  have hp2 : fx_Md_pop (wI m 13 (nI (P + 1))) = some (rL m 2 P, wI (wI m 13 (nI (P + 1))) 13 (nI P)) := m_pop (by rw [rI_ws]) (by omega)
  have hpu : ∀ v, fx_Md_push v (wI (wI m 13 (nI (P + 1))) 13 (nI P)) = some (wI (wL (wI (wI m 13 (nI (P + 1))) 13 (nI P)) 2 P v) 13 (nI (P + 1))) := fun v => m_push (by rw [rI_ws]) (by omega)
  have hd : ∀ c, fx_Op_dividesByZero 71 (rL m 2 (P + 1)) c = some (0, c) := by
    intro c
    unfold fx_Op_dividesByZero
    rw [if_neg (by decide)]
  by_cases e : (rL m 2 P).toInt32 = (rL m 2 (P + 1)).toInt32
  · refine Or.inr ⟨0, hd, ?_, ?_⟩
    · intro c
      unfold fx_Op_compute fx_Op_compute_b206 fx_Op_bit
      rw [if_neg (by decide), if_neg (by decide), if_pos (by decide), if_pos e, if_pos rfl, bn_s]
    · unfold fx_Md_work fx_Md_work_b381 fx_Md_truth
      rw [if_neg (by decide), if_neg (by decide), if_neg (by decide), if_neg (by decide), hp1, bn_s, hp2, bn_s, bd_s, bd_s, if_neg (by decide), if_pos (by decide), if_pos ((lc_0 _ _).mpr (low_eq.mpr e)), if_pos rfl, bn_s, hpu, bv_s]
  · refine Or.inr ⟨1, hd, ?_, ?_⟩
    · intro c
      unfold fx_Op_compute fx_Op_compute_b206 fx_Op_bit
      rw [if_neg (by decide), if_neg (by decide), if_pos (by decide), if_neg e, if_neg (by decide), bn_s]
    · unfold fx_Md_work fx_Md_work_b381 fx_Md_truth
      rw [if_neg (by decide), if_neg (by decide), if_neg (by decide), if_neg (by decide), hp1, bn_s, hp2, bn_s, bd_s, bd_s, if_neg (by decide), if_pos (by decide), if_neg (fun z => e (low_eq.mp ((lc_0 _ _).mp z))), if_neg (by decide), bn_s, hpu, bv_s]
theorem wk_72 {m : rs_T} {P : Nat} (h : rI m 13 = nI (P + 2)) (hP : P + 2 ≤ 700) : wk2 72 m P (rL m 2 P) (rL m 2 (P + 1)) := by
  have hp1 := m_pop (P := P + 1) h (by omega)
  have hp2 : fx_Md_pop (wI m 13 (nI (P + 1))) = some (rL m 2 P, wI (wI m 13 (nI (P + 1))) 13 (nI P)) := m_pop (by rw [rI_ws]) (by omega)
  have hpu : ∀ v, fx_Md_push v (wI (wI m 13 (nI (P + 1))) 13 (nI P)) = some (wI (wL (wI (wI m 13 (nI (P + 1))) 13 (nI P)) 2 P v) 13 (nI (P + 1))) := fun v => m_push (by rw [rI_ws]) (by omega)
  have hd : ∀ c, fx_Op_dividesByZero 72 (rL m 2 (P + 1)) c = some (0, c) := by
    intro c
    unfold fx_Op_dividesByZero
    rw [if_neg (by decide)]
  by_cases e : (rL m 2 (P + 1)).toInt32 ≤ (rL m 2 P).toInt32
  · refine Or.inr ⟨0, hd, ?_, ?_⟩
    · intro c
      unfold fx_Op_compute fx_Op_compute_b222 fx_Op_bit
      rw [if_neg (by decide), if_neg (by decide), if_neg (by decide), if_pos (by decide), if_pos e, if_pos rfl, bn_s]
    · unfold fx_Md_work fx_Md_work_b404 fx_Md_truth
      rw [if_neg (by decide), if_neg (by decide), if_neg (by decide), if_neg (by decide), hp1, bn_s, hp2, bn_s, bd_s, bd_s, if_neg (by decide), if_neg (by decide), if_pos (by decide), if_pos e, if_pos rfl, bn_s, hpu, bv_s]
  · refine Or.inr ⟨1, hd, ?_, ?_⟩
    · intro c
      unfold fx_Op_compute fx_Op_compute_b222 fx_Op_bit
      rw [if_neg (by decide), if_neg (by decide), if_neg (by decide), if_pos (by decide), if_neg e, if_neg (by decide), bn_s]
    · unfold fx_Md_work fx_Md_work_b404 fx_Md_truth
      rw [if_neg (by decide), if_neg (by decide), if_neg (by decide), if_neg (by decide), hp1, bn_s, hp2, bn_s, bd_s, bd_s, if_neg (by decide), if_neg (by decide), if_pos (by decide), if_neg e, if_neg (by decide), bn_s, hpu, bv_s]
theorem wk_73 {m : rs_T} {P : Nat} (h : rI m 13 = nI (P + 2)) (hP : P + 2 ≤ 700) : wk2 73 m P (rL m 2 P) (rL m 2 (P + 1)) := by
  have hp1 := m_pop (P := P + 1) h (by omega)
  have hp2 : fx_Md_pop (wI m 13 (nI (P + 1))) = some (rL m 2 P, wI (wI m 13 (nI (P + 1))) 13 (nI P)) := m_pop (by rw [rI_ws]) (by omega)
  have hpu : ∀ v, fx_Md_push v (wI (wI m 13 (nI (P + 1))) 13 (nI P)) = some (wI (wL (wI (wI m 13 (nI (P + 1))) 13 (nI P)) 2 P v) 13 (nI (P + 1))) := fun v => m_push (by rw [rI_ws]) (by omega)
  have hd : ∀ c, fx_Op_dividesByZero 73 (rL m 2 (P + 1)) c = some (0, c) := by
    intro c
    unfold fx_Op_dividesByZero
    rw [if_neg (by decide)]
  by_cases e : (0 : Int32) ≤ (lg_cmp (rL m 2 P &&& 4294967295) (rL m 2 (P + 1) &&& 4294967295))
  · refine Or.inr ⟨0, hd, ?_, ?_⟩
    · intro c
      unfold fx_Op_compute fx_Op_compute_b245 fx_Op_bit
      rw [if_neg (by decide), if_neg (by decide), if_neg (by decide), if_neg (by decide), if_pos (by decide), if_pos e, if_pos rfl, bn_s]
    · unfold fx_Md_work fx_Md_work_b427 fx_Md_truth
      rw [if_neg (by decide), if_neg (by decide), if_neg (by decide), if_neg (by decide), hp1, bn_s, hp2, bn_s, bd_s, bd_s, if_neg (by decide), if_neg (by decide), if_neg (by decide), if_pos (by decide), if_pos e, if_pos rfl, bn_s, hpu, bv_s]
  · refine Or.inr ⟨1, hd, ?_, ?_⟩
    · intro c
      unfold fx_Op_compute fx_Op_compute_b245 fx_Op_bit
      rw [if_neg (by decide), if_neg (by decide), if_neg (by decide), if_neg (by decide), if_pos (by decide), if_neg e, if_neg (by decide), bn_s]
    · unfold fx_Md_work fx_Md_work_b427 fx_Md_truth
      rw [if_neg (by decide), if_neg (by decide), if_neg (by decide), if_neg (by decide), hp1, bn_s, hp2, bn_s, bd_s, bd_s, if_neg (by decide), if_neg (by decide), if_neg (by decide), if_pos (by decide), if_neg e, if_neg (by decide), bn_s, hpu, bv_s]
theorem wk_81 {m : rs_T} {P : Nat} (h : rI m 13 = nI (P + 2)) (hP : P + 2 ≤ 700) : wk2 81 m P (rL m 2 P) (rL m 2 (P + 1)) := by
  have hp1 := m_pop (P := P + 1) h (by omega)
  have hp2 : fx_Md_pop (wI m 13 (nI (P + 1))) = some (rL m 2 P, wI (wI m 13 (nI (P + 1))) 13 (nI P)) := m_pop (by rw [rI_ws]) (by omega)
  have hpu : ∀ v, fx_Md_push v (wI (wI m 13 (nI (P + 1))) 13 (nI P)) = some (wI (wL (wI (wI m 13 (nI (P + 1))) 13 (nI P)) 2 P v) 13 (nI (P + 1))) := fun v => m_push (by rw [rI_ws]) (by omega)
  have hd : ∀ c, fx_Op_dividesByZero 81 (rL m 2 (P + 1)) c = some (0, c) := by
    intro c
    unfold fx_Op_dividesByZero
    rw [if_neg (by decide)]
  by_cases e : lg_cmp (rL m 2 P) (rL m 2 (P + 1)) = 0
  · refine Or.inr ⟨1, hd, ?_, ?_⟩
    · intro c
      unfold fx_Op_compute fx_Op_compute_b275 fx_Op_bit
      rw [if_neg (by decide), if_neg (by decide), if_neg (by decide), if_neg (by decide), if_neg (by decide), if_neg (by decide), if_pos (by decide), if_pos e, if_neg (by decide), bn_s]
    · unfold fx_Md_work fx_Md_work_b449 fx_Md_truth
      rw [if_neg (by decide), if_neg (by decide), if_neg (by decide), if_neg (by decide), hp1, bn_s, hp2, bn_s, bd_s, bd_s, if_neg (by decide), if_neg (by decide), if_neg (by decide), if_neg (by decide), if_pos (by decide), if_pos e, if_neg (by decide), bn_s, hpu, bv_s]
  · refine Or.inr ⟨0, hd, ?_, ?_⟩
    · intro c
      unfold fx_Op_compute fx_Op_compute_b275 fx_Op_bit
      rw [if_neg (by decide), if_neg (by decide), if_neg (by decide), if_neg (by decide), if_neg (by decide), if_neg (by decide), if_pos (by decide), if_neg e, if_pos rfl, bn_s]
    · unfold fx_Md_work fx_Md_work_b449 fx_Md_truth
      rw [if_neg (by decide), if_neg (by decide), if_neg (by decide), if_neg (by decide), hp1, bn_s, hp2, bn_s, bd_s, bd_s, if_neg (by decide), if_neg (by decide), if_neg (by decide), if_neg (by decide), if_pos (by decide), if_neg e, if_pos rfl, bn_s, hpu, bv_s]
theorem wk_83 {m : rs_T} {P : Nat} (h : rI m 13 = nI (P + 2)) (hP : P + 2 ≤ 700) : wk2 83 m P (rL m 2 P) (rL m 2 (P + 1)) := by
  have hp1 := m_pop (P := P + 1) h (by omega)
  have hp2 : fx_Md_pop (wI m 13 (nI (P + 1))) = some (rL m 2 P, wI (wI m 13 (nI (P + 1))) 13 (nI P)) := m_pop (by rw [rI_ws]) (by omega)
  have hpu : ∀ v, fx_Md_push v (wI (wI m 13 (nI (P + 1))) 13 (nI P)) = some (wI (wL (wI (wI m 13 (nI (P + 1))) 13 (nI P)) 2 P v) 13 (nI (P + 1))) := fun v => m_push (by rw [rI_ws]) (by omega)
  have hd : ∀ c, fx_Op_dividesByZero 83 (rL m 2 (P + 1)) c = some (0, c) := by
    intro c
    unfold fx_Op_dividesByZero
    rw [if_neg (by decide)]
  by_cases e : (0 : Int32) ≤ lg_cmp (rL m 2 P) (rL m 2 (P + 1))
  · refine Or.inr ⟨0, hd, ?_, ?_⟩
    · intro c
      unfold fx_Op_compute fx_Op_compute_b290 fx_Op_bit
      rw [if_neg (by decide), if_neg (by decide), if_neg (by decide), if_neg (by decide), if_neg (by decide), if_neg (by decide), if_neg (by decide), if_pos (by decide), if_pos e, if_pos rfl, bn_s]
    · unfold fx_Md_work fx_Md_work_b471 fx_Md_truth
      rw [if_neg (by decide), if_neg (by decide), if_neg (by decide), if_neg (by decide), hp1, bn_s, hp2, bn_s, bd_s, bd_s, if_neg (by decide), if_neg (by decide), if_neg (by decide), if_neg (by decide), if_neg (by decide), if_pos (by decide), if_pos e, if_pos rfl, bn_s, hpu, bv_s]
  · refine Or.inr ⟨1, hd, ?_, ?_⟩
    · intro c
      unfold fx_Op_compute fx_Op_compute_b290 fx_Op_bit
      rw [if_neg (by decide), if_neg (by decide), if_neg (by decide), if_neg (by decide), if_neg (by decide), if_neg (by decide), if_neg (by decide), if_pos (by decide), if_neg e, if_neg (by decide), bn_s]
    · unfold fx_Md_work fx_Md_work_b471 fx_Md_truth
      rw [if_neg (by decide), if_neg (by decide), if_neg (by decide), if_neg (by decide), hp1, bn_s, hp2, bn_s, bd_s, bd_s, if_neg (by decide), if_neg (by decide), if_neg (by decide), if_neg (by decide), if_neg (by decide), if_pos (by decide), if_neg e, if_neg (by decide), bn_s, hpu, bv_s]
theorem wk_106 {m : rs_T} {P : Nat} (h : rI m 13 = nI (P + 2)) (hP : P + 2 ≤ 700) : wk2 106 m P (rL m 2 P) (rL m 2 (P + 1)) := by
  have hp1 := m_pop (P := P + 1) h (by omega)
  have hp2 : fx_Md_pop (wI m 13 (nI (P + 1))) = some (rL m 2 P, wI (wI m 13 (nI (P + 1))) 13 (nI P)) := m_pop (by rw [rI_ws]) (by omega)
  have hpu : ∀ v, fx_Md_push v (wI (wI m 13 (nI (P + 1))) 13 (nI P)) = some (wI (wL (wI (wI m 13 (nI (P + 1))) 13 (nI P)) 2 P v) 13 (nI (P + 1))) := fun v => m_push (by rw [rI_ws]) (by omega)
  have hd : ∀ c, fx_Op_dividesByZero 106 (rL m 2 (P + 1)) c = some (0, c) := by
    intro c
    unfold fx_Op_dividesByZero
    rw [if_neg (by decide)]
  refine Or.inr ⟨((rL m 2 P + rL m 2 (P + 1)) &&& 4294967295), hd, ?_, ?_⟩
  · intro c
    unfold fx_Op_compute
    rw [if_neg (by decide), if_neg (by decide), if_neg (by decide), if_neg (by decide), if_neg (by decide), if_neg (by decide), if_neg (by decide), if_neg (by decide), if_pos (by decide)]
  · unfold fx_Md_work
    rw [if_neg (by decide), if_neg (by decide), if_neg (by decide), if_neg (by decide), hp1, bn_s, hp2, bn_s, bd_s, bd_s, if_neg (by decide), if_neg (by decide), if_neg (by decide), if_neg (by decide), if_neg (by decide), if_neg (by decide), if_pos (by decide), low_add, hpu, bv_s]
theorem wk_107 {m : rs_T} {P : Nat} (h : rI m 13 = nI (P + 2)) (hP : P + 2 ≤ 700) : wk2 107 m P (rL m 2 P) (rL m 2 (P + 1)) := by
  have hp1 := m_pop (P := P + 1) h (by omega)
  have hp2 : fx_Md_pop (wI m 13 (nI (P + 1))) = some (rL m 2 P, wI (wI m 13 (nI (P + 1))) 13 (nI P)) := m_pop (by rw [rI_ws]) (by omega)
  have hpu : ∀ v, fx_Md_push v (wI (wI m 13 (nI (P + 1))) 13 (nI P)) = some (wI (wL (wI (wI m 13 (nI (P + 1))) 13 (nI P)) 2 P v) 13 (nI (P + 1))) := fun v => m_push (by rw [rI_ws]) (by omega)
  have hd : ∀ c, fx_Op_dividesByZero 107 (rL m 2 (P + 1)) c = some (0, c) := by
    intro c
    unfold fx_Op_dividesByZero
    rw [if_neg (by decide)]
  refine Or.inr ⟨((rL m 2 P - rL m 2 (P + 1)) &&& 4294967295), hd, ?_, ?_⟩
  · intro c
    unfold fx_Op_compute
    rw [if_neg (by decide), if_neg (by decide), if_neg (by decide), if_neg (by decide), if_neg (by decide), if_neg (by decide), if_neg (by decide), if_neg (by decide), if_neg (by decide), if_pos (by decide)]
  · unfold fx_Md_work
    rw [if_neg (by decide), if_neg (by decide), if_neg (by decide), if_neg (by decide), hp1, bn_s, hp2, bn_s, bd_s, bd_s, if_neg (by decide), if_neg (by decide), if_neg (by decide), if_neg (by decide), if_neg (by decide), if_neg (by decide), if_neg (by decide), if_pos (by decide), low_sub, hpu, bv_s]
theorem wk_108 {m : rs_T} {P : Nat} (h : rI m 13 = nI (P + 2)) (hP : P + 2 ≤ 700) : wk2 108 m P (rL m 2 P) (rL m 2 (P + 1)) := by
  have hp1 := m_pop (P := P + 1) h (by omega)
  have hp2 : fx_Md_pop (wI m 13 (nI (P + 1))) = some (rL m 2 P, wI (wI m 13 (nI (P + 1))) 13 (nI P)) := m_pop (by rw [rI_ws]) (by omega)
  have hpu : ∀ v, fx_Md_push v (wI (wI m 13 (nI (P + 1))) 13 (nI P)) = some (wI (wL (wI (wI m 13 (nI (P + 1))) 13 (nI P)) 2 P v) 13 (nI (P + 1))) := fun v => m_push (by rw [rI_ws]) (by omega)
  have hd : ∀ c, fx_Op_dividesByZero 108 (rL m 2 (P + 1)) c = some (0, c) := by
    intro c
    unfold fx_Op_dividesByZero
    rw [if_neg (by decide)]
  refine Or.inr ⟨((rL m 2 P * rL m 2 (P + 1)) &&& 4294967295), hd, ?_, ?_⟩
  · intro c
    unfold fx_Op_compute
    rw [if_neg (by decide), if_neg (by decide), if_neg (by decide), if_neg (by decide), if_neg (by decide), if_neg (by decide), if_neg (by decide), if_neg (by decide), if_neg (by decide), if_neg (by decide), if_pos (by decide)]
  · unfold fx_Md_work
    rw [if_neg (by decide), if_neg (by decide), if_neg (by decide), if_neg (by decide), hp1, bn_s, hp2, bn_s, bd_s, bd_s, if_neg (by decide), if_neg (by decide), if_neg (by decide), if_neg (by decide), if_neg (by decide), if_neg (by decide), if_neg (by decide), if_neg (by decide), if_pos (by decide), low_mul, hpu, bv_s]
theorem wk_110 {m : rs_T} {P : Nat} (h : rI m 13 = nI (P + 2)) (hP : P + 2 ≤ 700) : wk2 110 m P (rL m 2 P) (rL m 2 (P + 1)) := by
  have hp1 := m_pop (P := P + 1) h (by omega)
  have hp2 : fx_Md_pop (wI m 13 (nI (P + 1))) = some (rL m 2 P, wI (wI m 13 (nI (P + 1))) 13 (nI P)) := m_pop (by rw [rI_ws]) (by omega)
  have hpu : ∀ v, fx_Md_push v (wI (wI m 13 (nI (P + 1))) 13 (nI P)) = some (wI (wL (wI (wI m 13 (nI (P + 1))) 13 (nI P)) 2 P v) 13 (nI (P + 1))) := fun v => m_push (by rw [rI_ws]) (by omega)
  by_cases e : (rL m 2 (P + 1)).toInt32 = 0
  · refine Or.inl ⟨?_, ?_⟩
    · intro c
      unfold fx_Op_dividesByZero
      rw [if_pos rfl, if_pos e]
    · unfold fx_Md_work fx_Md_traps
      rw [if_neg (by decide), if_neg (by decide), if_neg (by decide), if_neg (by decide), hp1, bn_s, hp2, bn_s, bd_s, bd_s, if_neg (by decide), if_neg (by decide), if_neg (by decide), if_neg (by decide), if_neg (by decide), if_neg (by decide), if_neg (by decide), if_neg (by decide), if_neg (by decide), if_pos (by decide), if_pos ((lc_0 _ _).mpr (low_0.mpr e)), bv_s]
  · have hz : ¬ (rL m 2 (P + 1)) &&& 4294967295 = 0 := fun z => e (low_0.mp z)
    have hg : ∀ {α : Type} (y : Option α), gzl ((rL m 2 (P + 1)) &&& 4294967295) y = y := fun y => by unfold gzl; rw [if_neg hz]
    refine Or.inr ⟨((rL m 2 P &&& 4294967295) / (rL m 2 (P + 1) &&& 4294967295)), ?_, ?_, ?_⟩
    · intro c
      unfold fx_Op_dividesByZero
      rw [if_pos rfl, if_neg e]
    · intro c
      unfold fx_Op_compute
      rw [if_neg (by decide), if_neg (by decide), if_neg (by decide), if_neg (by decide), if_neg (by decide), if_neg (by decide), if_neg (by decide), if_neg (by decide), if_neg (by decide), if_neg (by decide), if_neg (by decide), if_pos (by decide), if_neg e, hg]
    · unfold fx_Md_work
      rw [if_neg (by decide), if_neg (by decide), if_neg (by decide), if_neg (by decide), hp1, bn_s, hp2, bn_s, bd_s, bd_s, if_neg (by decide), if_neg (by decide), if_neg (by decide), if_neg (by decide), if_neg (by decide), if_neg (by decide), if_neg (by decide), if_neg (by decide), if_neg (by decide), if_pos (by decide), if_neg (fun z => hz ((lc_0 _ _).mp z)), hg, hpu, bv_s]
theorem wk_113 {m : rs_T} {P : Nat} (h : rI m 13 = nI (P + 2)) (hP : P + 2 ≤ 700) : wk2 113 m P (rL m 2 P) (rL m 2 (P + 1)) := by
  have hp1 := m_pop (P := P + 1) h (by omega)
  have hp2 : fx_Md_pop (wI m 13 (nI (P + 1))) = some (rL m 2 P, wI (wI m 13 (nI (P + 1))) 13 (nI P)) := m_pop (by rw [rI_ws]) (by omega)
  have hpu : ∀ v, fx_Md_push v (wI (wI m 13 (nI (P + 1))) 13 (nI P)) = some (wI (wL (wI (wI m 13 (nI (P + 1))) 13 (nI P)) 2 P v) 13 (nI (P + 1))) := fun v => m_push (by rw [rI_ws]) (by omega)
  have hd : ∀ c, fx_Op_dividesByZero 113 (rL m 2 (P + 1)) c = some (0, c) := by
    intro c
    unfold fx_Op_dividesByZero
    rw [if_neg (by decide)]
  refine Or.inr ⟨((rL m 2 P &&& rL m 2 (P + 1)) &&& 4294967295), hd, ?_, ?_⟩
  · intro c
    unfold fx_Op_compute
    rw [if_neg (by decide), if_neg (by decide), if_neg (by decide), if_neg (by decide), if_neg (by decide), if_neg (by decide), if_neg (by decide), if_neg (by decide), if_neg (by decide), if_neg (by decide), if_neg (by decide), if_neg (by decide), if_pos (by decide)]
  · unfold fx_Md_work
    rw [if_neg (by decide), if_neg (by decide), if_neg (by decide), if_neg (by decide), hp1, bn_s, hp2, bn_s, bd_s, bd_s, if_neg (by decide), if_neg (by decide), if_neg (by decide), if_neg (by decide), if_neg (by decide), if_neg (by decide), if_neg (by decide), if_neg (by decide), if_neg (by decide), if_neg (by decide), if_pos (by decide), low_and, hpu, bv_s]
theorem wk_116 {m : rs_T} {P : Nat} (h : rI m 13 = nI (P + 2)) (hP : P + 2 ≤ 700) : wk2 116 m P (rL m 2 P) (rL m 2 (P + 1)) := by
  have hp1 := m_pop (P := P + 1) h (by omega)
  have hp2 : fx_Md_pop (wI m 13 (nI (P + 1))) = some (rL m 2 P, wI (wI m 13 (nI (P + 1))) 13 (nI P)) := m_pop (by rw [rI_ws]) (by omega)
  have hpu : ∀ v, fx_Md_push v (wI (wI m 13 (nI (P + 1))) 13 (nI P)) = some (wI (wL (wI (wI m 13 (nI (P + 1))) 13 (nI P)) 2 P v) 13 (nI (P + 1))) := fun v => m_push (by rw [rI_ws]) (by omega)
  have hd : ∀ c, fx_Op_dividesByZero 116 (rL m 2 (P + 1)) c = some (0, c) := by
    intro c
    unfold fx_Op_dividesByZero
    rw [if_neg (by decide)]
  refine Or.inr ⟨((((rL m 2 P).toInt32 <<< (((rL m 2 (P + 1)).toInt32 &&& 31) &&& 31)).toInt64) &&& 4294967295), hd, ?_, ?_⟩
  · intro c
    unfold fx_Op_compute
    rw [if_neg (by decide), if_neg (by decide), if_neg (by decide), if_neg (by decide), if_neg (by decide), if_neg (by decide), if_neg (by decide), if_neg (by decide), if_neg (by decide), if_neg (by decide), if_neg (by decide), if_neg (by decide), if_neg (by decide), if_pos (by decide)]
  · unfold fx_Md_work
    rw [if_neg (by decide), if_neg (by decide), if_neg (by decide), if_neg (by decide), hp1, bn_s, hp2, bn_s, bd_s, bd_s, if_neg (by decide), if_neg (by decide), if_neg (by decide), if_neg (by decide), if_neg (by decide), if_neg (by decide), if_neg (by decide), if_neg (by decide), if_neg (by decide), if_neg (by decide), if_neg (by decide), if_pos (by decide), low_shl, hpu, bv_s]
theorem wk_124 {m : rs_T} {P : Nat} (h : rI m 13 = nI (P + 2)) (hP : P + 2 ≤ 700) : wk2 124 m P (rL m 2 P) (rL m 2 (P + 1)) := by
  have hp1 := m_pop (P := P + 1) h (by omega)
  have hp2 : fx_Md_pop (wI m 13 (nI (P + 1))) = some (rL m 2 P, wI (wI m 13 (nI (P + 1))) 13 (nI P)) := m_pop (by rw [rI_ws]) (by omega)
  have hpu : ∀ v, fx_Md_push v (wI (wI m 13 (nI (P + 1))) 13 (nI P)) = some (wI (wL (wI (wI m 13 (nI (P + 1))) 13 (nI P)) 2 P v) 13 (nI (P + 1))) := fun v => m_push (by rw [rI_ws]) (by omega)
  have hd : ∀ c, fx_Op_dividesByZero 124 (rL m 2 (P + 1)) c = some (0, c) := by
    intro c
    unfold fx_Op_dividesByZero
    rw [if_neg (by decide)]
  refine Or.inr ⟨(rL m 2 P + rL m 2 (P + 1)), hd, ?_, ?_⟩
  · intro c
    unfold fx_Op_compute
    rw [if_neg (by decide), if_neg (by decide), if_neg (by decide), if_neg (by decide), if_neg (by decide), if_neg (by decide), if_neg (by decide), if_neg (by decide), if_neg (by decide), if_neg (by decide), if_neg (by decide), if_neg (by decide), if_neg (by decide), if_neg (by decide), if_pos (by decide)]
  · unfold fx_Md_work
    rw [if_neg (by decide), if_neg (by decide), if_neg (by decide), if_neg (by decide), hp1, bn_s, hp2, bn_s, bd_s, bd_s, if_neg (by decide), if_neg (by decide), if_neg (by decide), if_neg (by decide), if_neg (by decide), if_neg (by decide), if_neg (by decide), if_neg (by decide), if_neg (by decide), if_neg (by decide), if_neg (by decide), if_neg (by decide), if_pos (by decide), hpu, bv_s]
theorem wk_125 {m : rs_T} {P : Nat} (h : rI m 13 = nI (P + 2)) (hP : P + 2 ≤ 700) : wk2 125 m P (rL m 2 P) (rL m 2 (P + 1)) := by
  have hp1 := m_pop (P := P + 1) h (by omega)
  have hp2 : fx_Md_pop (wI m 13 (nI (P + 1))) = some (rL m 2 P, wI (wI m 13 (nI (P + 1))) 13 (nI P)) := m_pop (by rw [rI_ws]) (by omega)
  have hpu : ∀ v, fx_Md_push v (wI (wI m 13 (nI (P + 1))) 13 (nI P)) = some (wI (wL (wI (wI m 13 (nI (P + 1))) 13 (nI P)) 2 P v) 13 (nI (P + 1))) := fun v => m_push (by rw [rI_ws]) (by omega)
  have hd : ∀ c, fx_Op_dividesByZero 125 (rL m 2 (P + 1)) c = some (0, c) := by
    intro c
    unfold fx_Op_dividesByZero
    rw [if_neg (by decide)]
  refine Or.inr ⟨(rL m 2 P - rL m 2 (P + 1)), hd, ?_, ?_⟩
  · intro c
    unfold fx_Op_compute
    rw [if_neg (by decide), if_neg (by decide), if_neg (by decide), if_neg (by decide), if_neg (by decide), if_neg (by decide), if_neg (by decide), if_neg (by decide), if_neg (by decide), if_neg (by decide), if_neg (by decide), if_neg (by decide), if_neg (by decide), if_neg (by decide), if_neg (by decide), if_pos (by decide)]
  · unfold fx_Md_work
    rw [if_neg (by decide), if_neg (by decide), if_neg (by decide), if_neg (by decide), hp1, bn_s, hp2, bn_s, bd_s, bd_s, if_neg (by decide), if_neg (by decide), if_neg (by decide), if_neg (by decide), if_neg (by decide), if_neg (by decide), if_neg (by decide), if_neg (by decide), if_neg (by decide), if_neg (by decide), if_neg (by decide), if_neg (by decide), if_neg (by decide), if_pos (by decide), hpu, bv_s]
theorem wk_126 {m : rs_T} {P : Nat} (h : rI m 13 = nI (P + 2)) (hP : P + 2 ≤ 700) : wk2 126 m P (rL m 2 P) (rL m 2 (P + 1)) := by
  have hp1 := m_pop (P := P + 1) h (by omega)
  have hp2 : fx_Md_pop (wI m 13 (nI (P + 1))) = some (rL m 2 P, wI (wI m 13 (nI (P + 1))) 13 (nI P)) := m_pop (by rw [rI_ws]) (by omega)
  have hpu : ∀ v, fx_Md_push v (wI (wI m 13 (nI (P + 1))) 13 (nI P)) = some (wI (wL (wI (wI m 13 (nI (P + 1))) 13 (nI P)) 2 P v) 13 (nI (P + 1))) := fun v => m_push (by rw [rI_ws]) (by omega)
  have hd : ∀ c, fx_Op_dividesByZero 126 (rL m 2 (P + 1)) c = some (0, c) := by
    intro c
    unfold fx_Op_dividesByZero
    rw [if_neg (by decide)]
  refine Or.inr ⟨(rL m 2 P * rL m 2 (P + 1)), hd, ?_, ?_⟩
  · intro c
    unfold fx_Op_compute
    rw [if_neg (by decide), if_neg (by decide), if_neg (by decide), if_neg (by decide), if_neg (by decide), if_neg (by decide), if_neg (by decide), if_neg (by decide), if_neg (by decide), if_neg (by decide), if_neg (by decide), if_neg (by decide), if_neg (by decide), if_neg (by decide), if_neg (by decide), if_neg (by decide), if_pos (by decide)]
  · unfold fx_Md_work
    rw [if_neg (by decide), if_neg (by decide), if_neg (by decide), if_neg (by decide), hp1, bn_s, hp2, bn_s, bd_s, bd_s, if_neg (by decide), if_neg (by decide), if_neg (by decide), if_neg (by decide), if_neg (by decide), if_neg (by decide), if_neg (by decide), if_neg (by decide), if_neg (by decide), if_neg (by decide), if_neg (by decide), if_neg (by decide), if_neg (by decide), if_neg (by decide), hpu, bv_s]
def wk1 (o : Int32) (m : rs_T) (P : Nat) (x : Int64) : Prop := ∃ v, (∀ y c, fx_Op_dividesByZero o y c = some (0, c)) ∧ (∀ y c, fx_Op_compute o x y c = some (v, c)) ∧ fx_Md_work o m = some (wI (wL (wI m 13 (nI P)) 2 P v) 13 (nI (P + 1)))
theorem wk_69 {m : rs_T} {P : Nat} (h : rI m 13 = nI (P + 1)) (hP : P + 1 ≤ 700) : wk1 69 m P (rL m 2 P) := by
  have hp1 := m_pop h (by omega)
  have hpu : ∀ v, fx_Md_push v (wI m 13 (nI P)) = some (wI (wL (wI m 13 (nI P)) 2 P v) 13 (nI (P + 1))) := fun v => m_push (by rw [rI_ws]) (by omega)
  have hd : ∀ y c, fx_Op_dividesByZero 69 y c = some (0, c) := by
    intro y c
    unfold fx_Op_dividesByZero
    rw [if_neg (by decide)]
  by_cases e : (rL m 2 P).toInt32 = 0
  · refine ⟨1, hd, ?_, ?_⟩
    · intro y c
      unfold fx_Op_compute fx_Op_compute_b174 fx_Op_bit
      rw [if_pos (by decide), if_pos e, if_neg (by decide), bn_s]
    · unfold fx_Md_work fx_Md_work_b12 fx_Md_work_b33 fx_Md_work_b43 fx_Md_truth
      rw [if_pos rfl, hp1, bn_s, if_pos rfl, if_pos ((lc_0 _ _).mpr (low_0.mpr e)), if_neg (by decide), bn_s, hpu, bv_s]
  · refine ⟨0, hd, ?_, ?_⟩
    · intro y c
      unfold fx_Op_compute fx_Op_compute_b174 fx_Op_bit
      rw [if_pos (by decide), if_neg e, if_pos rfl, bn_s]
    · unfold fx_Md_work fx_Md_work_b12 fx_Md_work_b33 fx_Md_work_b43 fx_Md_truth
      rw [if_pos rfl, hp1, bn_s, if_pos rfl, if_neg (fun z => e (low_0.mp ((lc_0 _ _).mp z))), if_pos rfl, bn_s, hpu, bv_s]
theorem wk_80 {m : rs_T} {P : Nat} (h : rI m 13 = nI (P + 1)) (hP : P + 1 ≤ 700) : wk1 80 m P (rL m 2 P) := by
  have hp1 := m_pop h (by omega)
  have hpu : ∀ v, fx_Md_push v (wI m 13 (nI P)) = some (wI (wL (wI m 13 (nI P)) 2 P v) 13 (nI (P + 1))) := fun v => m_push (by rw [rI_ws]) (by omega)
  have hd : ∀ y c, fx_Op_dividesByZero 80 y c = some (0, c) := by
    intro y c
    unfold fx_Op_dividesByZero
    rw [if_neg (by decide)]
  by_cases e : lg_cmp (rL m 2 P) 0 = 0
  · refine ⟨1, hd, ?_, ?_⟩
    · intro y c
      unfold fx_Op_compute fx_Op_compute_b260 fx_Op_bit
      rw [if_neg (by decide), if_neg (by decide), if_neg (by decide), if_neg (by decide), if_neg (by decide), if_pos (by decide), if_pos e, if_neg (by decide), bn_s]
    · unfold fx_Md_work fx_Md_work_b12 fx_Md_work_b33 fx_Md_work_b43 fx_Md_truth
      rw [if_neg (by decide), if_pos rfl, hp1, bn_s, if_neg (by decide), if_pos e, if_neg (by decide), bn_s, hpu, bv_s]
  · refine ⟨0, hd, ?_, ?_⟩
    · intro y c
      unfold fx_Op_compute fx_Op_compute_b260 fx_Op_bit
      rw [if_neg (by decide), if_neg (by decide), if_neg (by decide), if_neg (by decide), if_neg (by decide), if_pos (by decide), if_neg e, if_pos rfl, bn_s]
    · unfold fx_Md_work fx_Md_work_b12 fx_Md_work_b33 fx_Md_work_b43 fx_Md_truth
      rw [if_neg (by decide), if_pos rfl, hp1, bn_s, if_neg (by decide), if_neg e, if_pos rfl, bn_s, hpu, bv_s]
theorem wk_167 {m : rs_T} {P : Nat} (h : rI m 13 = nI (P + 1)) (hP : P + 1 ≤ 700) : wk1 167 m P (rL m 2 P) := by
  have hp1 := m_pop h (by omega)
  have hpu : ∀ v, fx_Md_push v (wI m 13 (nI P)) = some (wI (wL (wI m 13 (nI P)) 2 P v) 13 (nI (P + 1))) := fun v => m_push (by rw [rI_ws]) (by omega)
  have hd : ∀ y c, fx_Op_dividesByZero 167 y c = some (0, c) := by
    intro y c
    unfold fx_Op_dividesByZero
    rw [if_neg (by decide)]
  refine ⟨(rL m 2 P &&& 4294967295), hd, ?_, ?_⟩
  · intro y c
    unfold fx_Op_compute
    rw [if_neg (by decide), if_neg (by decide), if_neg (by decide), if_neg (by decide), if_neg (by decide), if_neg (by decide), if_neg (by decide), if_neg (by decide), if_neg (by decide), if_neg (by decide), if_neg (by decide), if_neg (by decide), if_neg (by decide), if_neg (by decide), if_neg (by decide), if_neg (by decide), if_neg (by decide), if_pos (by decide)]
  · unfold fx_Md_work fx_Md_work_b64
    rw [if_neg (by decide), if_neg (by decide), if_pos rfl, hp1, bn_s, hpu, bv_s]
theorem wk_173 {m : rs_T} {P : Nat} (h : rI m 13 = nI (P + 1)) (hP : P + 1 ≤ 700) : wk1 173 m P (rL m 2 P) := by
  have hp1 := m_pop h (by omega)
  have hpu : ∀ v, fx_Md_push v (wI m 13 (nI P)) = some (wI (wL (wI m 13 (nI P)) 2 P v) 13 (nI (P + 1))) := fun v => m_push (by rw [rI_ws]) (by omega)
  have hd : ∀ y c, fx_Op_dividesByZero 173 y c = some (0, c) := by
    intro y c
    unfold fx_Op_dividesByZero
    rw [if_neg (by decide)]
  refine ⟨(rL m 2 P &&& 4294967295), hd, ?_, ?_⟩
  · intro y c
    unfold fx_Op_compute
    rw [if_neg (by decide), if_neg (by decide), if_neg (by decide), if_neg (by decide), if_neg (by decide), if_neg (by decide), if_neg (by decide), if_neg (by decide), if_neg (by decide), if_neg (by decide), if_neg (by decide), if_neg (by decide), if_neg (by decide), if_neg (by decide), if_neg (by decide), if_neg (by decide), if_neg (by decide), if_pos (by decide)]
  · unfold fx_Md_work fx_Md_work_b64
    rw [if_neg (by decide), if_neg (by decide), if_neg (by decide), if_pos rfl, hp1, bn_s, hpu, bv_s]

theorem wk2_all {o : Int32} {m : rs_T} {P : Nat} (ho : o ∈ ([70, 71, 72, 73, 81, 83, 106, 107, 108, 110, 113, 116, 124, 125, 126] : List Int32)) (h : rI m 13 = nI (P + 2)) (hP : P + 2 ≤ 700) : wk2 o m P (rL m 2 P) (rL m 2 (P + 1)) := by
  simp only [List.mem_cons, List.not_mem_nil, or_false] at ho
  rcases ho with rfl | rfl | rfl | rfl | rfl | rfl | rfl | rfl | rfl | rfl | rfl | rfl | rfl | rfl | rfl
  · exact wk_70 h hP
  · exact wk_71 h hP
  · exact wk_72 h hP
  · exact wk_73 h hP
  · exact wk_81 h hP
  · exact wk_83 h hP
  · exact wk_106 h hP
  · exact wk_107 h hP
  · exact wk_108 h hP
  · exact wk_110 h hP
  · exact wk_113 h hP
  · exact wk_116 h hP
  · exact wk_124 h hP
  · exact wk_125 h hP
  · exact wk_126 h hP
theorem wk1_all {o : Int32} {m : rs_T} {P : Nat} (ho : o ∈ ([69, 80, 167, 173] : List Int32)) (h : rI m 13 = nI (P + 1)) (hP : P + 1 ≤ 700) : wk1 o m P (rL m 2 P) := by
  simp only [List.mem_cons, List.not_mem_nil, or_false] at ho
  rcases ho with rfl | rfl | rfl | rfl
  · exact wk_69 h hP
  · exact wk_80 h hP
  · exact wk_167 h hP
  · exact wk_173 h hP
