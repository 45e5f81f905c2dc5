-- ===== run =====
theorem pass_of {N kp : Nat} {m m1 : rs_T} (h : mp N kp m m1) (hs : ∀ n, fx_Md_pass_b0 N (n + 1) m1 = some m1) (hk : kp + 1 ≤ N) : fx_Md_pass N m = some m1 := by
  unfold fx_Md_pass
  have := h (N - 1 - kp + 1)
  rw [hs (N - 1 - kp), show N - 1 - kp + 1 + kp = N by omega] at this
  exact this
-- one step of both
theorem one_step {N : Nat} {c m : rs_T} {T : Nat → ts_T} {S E M : Nat → Nat} {F t : Nat} {w : Bool} {KK : Nat → Nat → kT} {ZZ : Nat → Nat → Int32} {QS QE : Nat → Nat} (hN : 1000000 ≤ N) (h : IQ c m T S E M F t w KK ZZ QS QE) (h9 : rI m 9 = 1) : ∃ c1 m1 KK1 ZZ1 QS1 QE1, fx_Md_step N m = some m1 ∧ (∀ (rec15 : Int32 → Int32 → rs_T → Option (Int32 × rs_T)) (x1 x2 : Int32), bn (fx_Ac_isInRegisters (wI c 13 ((rI c 13) + 1))) (fun r6 st5 => if r6 = (0 : Int32) then (bv (fx_Sr_perform N st5) (fun st8 => fx_Ma_run_b71 N rec15 x1 x2 st8)) else (bv (fx_Rr_payStep N st5) (fun st11 => fx_Ma_run_b71 N rec15 x1 x2 st11))) = rec15 x1 (x2 + 1) c1) ∧ IQ c1 m1 T S E M F t w KK1 ZZ1 QS1 QE1 := by
  obtain ⟨G, f, at_, r, b, s, hR, ho⟩ := h.2 h9
  obtain ⟨h', hR'⟩ := IB_in h.1 hR
  obtain ⟨c', ec'⟩ : ∃ c', c' = wI c 13 (rI c 13 + 1) := ⟨_, rfl⟩
  have hs1 : rI (wI m 11 (rI m 11 + 1)) 9 = 1 := by rw [rI_wn (by decide)]; exact h9
  obtain ⟨-, -, -, -, -, -, -, -, -, -, -, -, -, x14, -, -, x17, -⟩ := cx h.1 hR
  obtain ⟨x1', x2', x3', x4', x5', x6', -⟩ := cx h' hR'
  obtain ⟨m1, m2, c1, k, kp, KK1, ZZ1, QS1, QE1, e1, e2, e3, e4, e5, e6, e7⟩ := SC_all (N := N) h' hR' hs1 (by omega) ho
  obtain ⟨c2, m3, k2, kp2, d1, d2, d3, d4, d5, d6, d7⟩ := ps_IR (N := N) (by omega) e7
  rw [← ec'] at h' hR' x1' x2' x6' e5 e6 ⊢
  refine ⟨c2, m3, KK1, ZZ1, QS1, QE1, ?_, fun rec15 x1 x2 => ?_, d5⟩
  · rw [ms_eq x14 (by omega)]
    have e1 : msb N (rA m 6 at_) (rA m 7 at_) (rA m 8 at_) (wI m 11 (rI m 11 + 1)) = some m1 := e1
    rw [e1, bv_s]
    exact pass_of (mp_tr e3 d2) d7 (by omega)
  · obtain ⟨-, ⟨hfC, -, -, -, -, -, b7, -, b9, b10⟩, -⟩ := id hR'
    have hreg := sp_reg x6' x5' hfC.2.2.2.2.2.1
    rw [hreg, bn_s]
    cases r with
    | false =>
      obtain ⟨c3, s1, s2, s3⟩ := e5 rfl
      have hdw := dw_l (by omega) hN s2 (vl_tr s3 d1) d6
      rw [show b2 false = 0 from rfl, if_pos rfl, s1, bv_s]
      unfold fx_Ma_run_b71
      rw [hdw, bv_s, bd_s]
    | true =>
      obtain ⟨b101, b102⟩ := b10 rfl
      obtain ⟨sz, z1, z2, z3, z4, z5, z6, z7, z8⟩ := rg_ctx h' hfC
      obtain ⟨k1, w0, w1, w2, w3, w4⟩ := z8
      have s3 := e6 rfl
      rw [b102, nI_1] at s3
      have hnx : fx_Ac_nextWithin (rI c' 19) c' = some (nI (KK f at_).1, c') := by
        rw [z1]; exact sp_next x6' x5' b101 (by omega) (by omega)
      have hst : rI c' 11 = 1 := by rw [h'.2.2.2.1]; exact hs1
      have hreg2 : fx_Ac_isInRegisters (wI c' 17 (nI ((KK f at_).2.1 + 1))) = some (b2 true, wI c' 17 (nI ((KK f at_).2.1 + 1))) := sp_reg (j := G.length) (by rw [rI_wn (by decide)]; exact x6') x5' hfC.2.2.2.2.2.1
      have hnx2 : fx_Ac_nextWithin (rI c' 19) (wI c' 17 (nI ((KK f at_).2.1 + 1))) = some (nI (KK f at_).1, wI c' 17 (nI ((KK f at_).2.1 + 1))) := by
        rw [z1]; exact sp_next (j := G.length) (by rw [rI_wn (by decide)]; exact x6') x5' b101 (by omega) (by omega)
      have hpay := pay_l (N := N) (c := c') (k := k + k2) (q := (KK f at_).1) (p := (KK f at_).2.1) (w := w0) (by omega) hN hst b7 hreg (by omega) hnx b102 w1 (w4 ho) (by omega) hreg2 hnx2 (vl_tr s3 d1) d6
      rw [show b2 true = 1 from rfl, if_neg (by decide)]
      cases hp : fx_Rr_payStep N c' with
      | none => rw [hp] at hpay; cases hpay
      | some c3 =>
        rw [hp, bv_s] at hpay
        rw [bv_s]
        unfold fx_Ma_run_b71
        rw [hpay, bv_s, bd_s]
theorem run_loop {N p : Nat} {T : Nat → ts_T} {S E M : Nat → Nat} {F t : Nat} {w : Bool} (hN : 1000000 ≤ N) (hp : p ≤ 2000) : ∀ (d fu x : Nat) (c m : rs_T) (KK : Nat → Nat → kT) (ZZ : Nat → Nat → Int32) (QS QE : Nat → Nat), x + d = p → d < fu → IQ c m T S E M F t w KK ZZ QS QE → ∃ y c1 m1 KK1 ZZ1 QS1 QE1, fx_Ma_run_b15 N fu (nI p) (nI x) c = some (y, c1) ∧ fx_Md_run_b14 N fu (nI p) (nI x) m = some (y, m1) ∧ IQ c1 m1 T S E M F t w KK1 ZZ1 QS1 QE1 := by
  intro d
  induction d with
  | zero =>
    intro fu x c m KK ZZ QS QE hx hfu h
    obtain ⟨fu, rfl⟩ : ∃ g, fu = g + 1 := ⟨fu - 1, by omega⟩
    refine ⟨nI x, c, m, KK, ZZ, QS, QE, ?_, ?_, h⟩
    · unfold fx_Ma_run_b15
      rw [if_pos ((nI_leI (by omega) (by omega)).mpr (by omega))]
    · unfold fx_Md_run_b14
      rw [if_pos ((nI_leI (by omega) (by omega)).mpr (by omega))]
  | succ d ih =>
    intro fu x c m KK ZZ QS QE hx hfu h
    obtain ⟨fu, rfl⟩ : ∃ g, fu = g + 1 := ⟨fu - 1, by omega⟩
    have hnle : ¬ nI p ≤ nI x := fun z => by
      have : p ≤ x := (nI_leI (by omega) (by omega)).mp z
      omega
    have hst : rI c 11 = rI m 9 := h.1.2.2.2.1
    by_cases h9 : rI m 9 = 1
    · obtain ⟨c1, m1, KK1, ZZ1, QS1, QE1, e1, e2, e3⟩ := one_step hN h h9
      obtain ⟨y, c2, m2, KK2, ZZ2, QS2, QE2, d1, d2, d3⟩ := ih fu (x + 1) c1 m1 KK1 ZZ1 QS1 QE1 (by omega) (by omega) e3
      refine ⟨y, c2, m2, KK2, ZZ2, QS2, QE2, ?_, ?_, d3⟩
      · unfold fx_Ma_run_b15
        rw [if_neg hnle, if_pos (by rw [hst]; exact h9), e2, nI_1]
        exact d1
      · unfold fx_Md_run_b14
        rw [if_neg hnle, if_pos h9, e1, bv_s, bd_s, nI_1]
        exact d2
    · refine ⟨nI x, c, m, KK, ZZ, QS, QE, ?_, ?_, h⟩
      · unfold fx_Ma_run_b15
        rw [if_neg hnle, if_neg (by rw [hst]; exact h9)]
      · unfold fx_Md_run_b14
        rw [if_neg hnle, if_neg h9]
theorem run_both {N : Nat} {T : Nat → ts_T} {S E M : Nat → Nat} {F t : Nat} {w : Bool} {c m : rs_T} {KK : Nat → Nat → kT} {ZZ : Nat → Nat → Int32} {QS QE : Nat → Nat} (hN : 1000000 ≤ N) (h : IQ c m T S E M F t w KK ZZ QS QE) (z : Int32) : ∃ y c1 m1 KK1 ZZ1 QS1 QE1, fx_Ma_run N z c = some (y, c1) ∧ fx_Md_run N z m = some (y, m1) ∧ IQ c1 m1 T S E M F t w KK1 ZZ1 QS1 QE1 := by
  unfold fx_Ma_run fx_Md_run fx_Md_within
  by_cases h0 : z < 0
  · exact ⟨-1, c, m, KK, ZZ, QS, QE, by rw [if_pos h0], by rw [if_pos h0, bn_s, if_pos rfl], h⟩
  · by_cases h1 : (2000 : Int32) < z
    · have : ¬ z ≤ 2000 := fun y => by
        have := Int32.lt_iff_toInt_lt.mp h1
        have := Int32.le_iff_toInt_le.mp y
        omega
      exact ⟨-1, c, m, KK, ZZ, QS, QE, by rw [if_neg h0, if_neg this], by rw [if_neg h0, if_pos h1, bn_s, if_pos rfl], h⟩
    · obtain ⟨p, hp, rfl⟩ := sm_of (k := 2000) (by omega) h0 h1
      obtain ⟨y, c1, m1, KK1, ZZ1, QS1, QE1, e1, e2, e3⟩ := run_loop hN hp p N 0 c m KK ZZ QS QE (by omega) (by omega) h
      have hle : nI p ≤ (2000 : Int32) := (le_lit (k := 2000) (show p < 2 ^ 31 by omega) (by omega)).mpr hp
      exact ⟨y, c1, m1, KK1, ZZ1, QS1, QE1, by rw [if_neg h0, if_pos hle]; exact e1, by rw [if_neg h0, if_neg h1, bn_s, if_neg (by decide)]; exact e2, e3⟩
