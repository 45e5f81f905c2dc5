-- ===== the class between two steps, one thing after another =====
theorem wI_self {c : rs_T} {k : Nat} {v : Int32} (h : rI c k = v) : wI c k v = c := by
  have e : (fun q => bif Nat.beq q k then v else c.1 q) = c.1 := by
    funext q
    by_cases z : q = k
    · subst z
      rw [← h]
      simp [rI]
    · rw [nb_f z]; rfl
  unfold wI
  rw [e]
theorem wI_wI (c : rs_T) (k : Nat) (u v : Int32) : wI (wI c k u) k v = wI c k v := by
  unfold wI
  have e : (fun q => bif Nat.beq q k then v else (bif Nat.beq q k then u else c.1 q)) = (fun q => bif Nat.beq q k then v else c.1 q) := by
    funext q
    cases Nat.beq q k <;> rfl
  show ((fun q => bif Nat.beq q k then v else (bif Nat.beq q k then u else c.1 q)), c.2.1, c.2.2.1, c.2.2.2) = _
  rw [e]
-- the new frame is counted, compiled if due, and settled
def stl (N : Nat) (c c1 : rs_T) : Prop := bn (fx_Ac_currentFunction c) (fun r14 st13 => bn (fx_Ma_isDueWhenCounted r14 st13) (fun r16 st15 => if r16 = (0 : Int32) then (gd r14 40 (fx_Ac_settleFrame (rA st15 22 r14.toNatClampNeg) st15)) else (bv (fx_Co_compile N r14 st15) (fun st20 => gd r14 40 (fx_Ac_settleFrame (rA st20 22 r14.toNatClampNeg) st20))))) = some c1
def vq_a (N : Nat) (c c1 : rs_T) : Prop := rI c 16 = 0 ∧ rI c 17 = 0 ∧ fx_Ac_isInRegisters c = some (0, c) ∧ fx_Sr_performFree N c = some (1, c1) ∧ rI c1 17 = 0
def vq_b (N : Nat) (c c1 : rs_T) : Prop := rI c 16 = 0 ∧ fx_Ac_isInRegisters c = some (1, c) ∧ (∃ q : Nat, (q < rN c 2 ∧ rN c 2 ≤ 3000) ∧ fx_Ac_nextWithin (rI c 19) c = some (nI q, c) ∧ rA c 24 q = rI c 17 ∧ fx_Rr_perform N (nI q) (wI c 17 0) = some c1) ∧ rI c1 17 = 0
def vq_c (N : Nat) (c c1 : rs_T) : Prop := rI c 16 = 1 ∧ rI c 17 = 0 ∧ stl N c c1 ∧ rI c1 16 = 0 ∧ rI c1 17 = 0 ∧ rI c1 11 = 1
def vq (N : Nat) (c c1 : rs_T) : Prop := rI c 11 = 1 ∧ (vq_a N c c1 ∨ vq_b N c c1 ∨ vq_c N c c1)
def vl (N : Nat) : Nat → rs_T → rs_T → Prop
  | 0, c, c1 => c = c1
  | k + 1, c, c1 => ∃ c2, vq N c c2 ∧ vl N k c2 c1
def vst (N : Nat) (c : rs_T) : Prop := ¬ rI c 11 = 1 ∨ (rI c 16 = 0 ∧ ((rI c 17 = 0 ∧ fx_Ac_isInRegisters c = some (0, c) ∧ fx_Sr_performFree N c = some (0, c)) ∨ (fx_Ac_isInRegisters c = some (1, c) ∧ ∃ q w p : Nat, (q < rN c 2 ∧ rN c 2 ≤ 3000) ∧ fx_Ac_nextWithin (rI c 19) c = some (nI q, c) ∧ rA c 24 q = nI w ∧ rI c 17 = nI p ∧ p < w ∧ w ≤ 1000)))
theorem vl_tr {N : Nat} : ∀ {k k2 : Nat} {c c1 c2 : rs_T}, vl N k c c1 → vl N k2 c1 c2 → vl N (k + k2) c c2 := by
  intro k
  induction k with
  | zero => intro k2 c c1 c2 h1 h2; have h1 : c = c1 := h1; subst h1; rw [Nat.zero_add]; exact h2
  | succ k ih =>
    intro k2 c c1 c2 h1 h2
    obtain ⟨c3, a1, a2⟩ := h1
    rw [show k + 1 + k2 = (k + k2) + 1 by omega]
    exact ⟨c3, a1, ih a2 h2⟩
theorem vl_1 {N : Nat} {c c1 : rs_T} (h : vq N c c1) : vl N 1 c c1 := ⟨c1, h, rfl⟩
theorem b4_75 {N n x : Nat} {c : rs_T} (hx : x < 1000000) (h11 : rI c 11 = 1) (h16 : rI c 16 = 0) : fx_Ma_doWhatIsNoStep_b4 N (n + 1) 1 (nI x) c = fx_Ma_doWhatIsNoStep_b75 N (fx_Ma_doWhatIsNoStep_b4 N n) (nI x) c := by
  have hn : ¬ (1000000 : Int32) ≤ nI x := fun z => by
    have : 1000000 ≤ x := (lit_le (k := 1000000) (show x < 2 ^ 31 by omega) (by omega)).mp z
    omega
  have e : fx_Ma_doWhatIsNoStep_b4 N (n + 1) 1 (nI x) c = (if (1000000 : Int32) ≤ nI x then (some c) else (if (1 : Int32) = (0 : Int32) then (some c) else (if (rI c 11) = (1 : Int32) then (if (rI c 16) = (0 : Int32) then (fx_Ma_doWhatIsNoStep_b75 N (fx_Ma_doWhatIsNoStep_b4 N n) (nI x) c) else (bn (fx_Ac_currentFunction c) (fun r14 st13 => bn (fx_Ma_isDueWhenCounted r14 st13) (fun r16 st15 => if r16 = (0 : Int32) then (fx_Ma_doWhatIsNoStep_b59 N (fx_Ma_doWhatIsNoStep_b4 N n) (nI x) r14 st15) else (bv (fx_Co_compile N r14 st15) (fun st20 => fx_Ma_doWhatIsNoStep_b59 N (fx_Ma_doWhatIsNoStep_b4 N n) (nI x) r14 st20)))))) else (some c)))) := Eq.trans rfl rfl
  rw [e, if_neg hn, if_neg (by decide), if_pos h11, if_pos h16]
theorem b4_c {N n x : Nat} {c c1 : rs_T} (hx : x < 1000000) (h11 : rI c 11 = 1) (hc : vq_c N c c1) : fx_Ma_doWhatIsNoStep_b4 N (n + 1) 1 (nI x) c = fx_Ma_doWhatIsNoStep_b4 N (n + 1) 1 (nI x) c1 := by
  obtain ⟨a1, a2, a3, a4, a5, a6⟩ := hc
  rw [b4_75 hx a6 a4]
  have hn : ¬ (1000000 : Int32) ≤ nI x := fun z => by
    have : 1000000 ≤ x := (lit_le (k := 1000000) (show x < 2 ^ 31 by omega) (by omega)).mp z
    omega
  have e : fx_Ma_doWhatIsNoStep_b4 N (n + 1) 1 (nI x) c = (if (1000000 : Int32) ≤ nI x then (some c) else (if (1 : Int32) = (0 : Int32) then (some c) else (if (rI c 11) = (1 : Int32) then (if (rI c 16) = (0 : Int32) then (fx_Ma_doWhatIsNoStep_b75 N (fx_Ma_doWhatIsNoStep_b4 N n) (nI x) c) else (bn (fx_Ac_currentFunction c) (fun r14 st13 => bn (fx_Ma_isDueWhenCounted r14 st13) (fun r16 st15 => if r16 = (0 : Int32) then (fx_Ma_doWhatIsNoStep_b59 N (fx_Ma_doWhatIsNoStep_b4 N n) (nI x) r14 st15) else (bv (fx_Co_compile N r14 st15) (fun st20 => fx_Ma_doWhatIsNoStep_b59 N (fx_Ma_doWhatIsNoStep_b4 N n) (nI x) r14 st20)))))) else (some c)))) := Eq.trans rfl rfl
  rw [e, if_neg hn, if_neg (by decide), if_pos h11, if_neg (by rw [a1]; decide)]
  unfold stl at a3
  obtain ⟨r, s1, b1, b2⟩ := bn_some a3
  obtain ⟨r2, s2, b3, b4⟩ := bn_some b2
  rw [b1, bn_s, b3, bn_s]
  by_cases z : r2 = 0
  · have b4 := if_p b4 z
    rw [if_pos z]
    obtain ⟨b5, b6⟩ := gd_some b4
    unfold fx_Ma_doWhatIsNoStep_b59
    rw [gd_in b5, b6, bv_s]
  · have b4 := if_n b4 z
    rw [if_neg z]
    obtain ⟨s3, b7, b8⟩ := bv_some b4
    obtain ⟨b5, b6⟩ := gd_some b8
    rw [b7, bv_s]
    unfold fx_Ma_doWhatIsNoStep_b59
    rw [gd_in b5, b6, bv_s]
theorem b4_a {N n x : Nat} {c c1 : rs_T} (hx : x < 1000000) (h11 : rI c 11 = 1) (hc : vq_a N c c1) : fx_Ma_doWhatIsNoStep_b4 N (n + 1) 1 (nI x) c = fx_Ma_doWhatIsNoStep_b4 N n 1 (nI (x + 1)) c1 := by
  obtain ⟨a1, a2, a3, a4, a5⟩ := hc
  rw [b4_75 hx h11 a1]
  unfold fx_Ma_doWhatIsNoStep_b75 fx_Ma_doWhatIsNoStep_b104
  rw [a3, bn_s, if_pos rfl, a4, bn_s, bd_s, nI_1]
theorem b4_b {N n x : Nat} {c c1 : rs_T} (hx : x < 1000000) (h11 : rI c 11 = 1) (h17 : rI c 17 = 0) (hc : vq_b N c c1) : fx_Ma_doWhatIsNoStep_b4 N (n + 1) 1 (nI x) c = fx_Ma_doWhatIsNoStep_b4 N n 1 (nI (x + 1)) c1 := by
  obtain ⟨a1, a2, ⟨q, q1, q2, q3, q4⟩, a5⟩ := hc
  rw [b4_75 hx h11 a1]
  rw [wI_self h17] at q4
  rw [h17] at q3
  unfold fx_Ma_doWhatIsNoStep_b75 fx_Ma_doWhatIsNoStep_b104
  have hp : fx_Rr_performFree N c = some (1, c1) := by
    unfold fx_Rr_performFree fx_Rr_performFree_b37
    rw [q2, bn_s, if_neg (fun z => (nI_m1 (by omega)).mp z), gd_k (by omega) (by omega), nI_clamp (by omega), if_pos q3, if_neg (by decide), q4, bv_s, gb_1]
  rw [a2, bn_s, if_neg (by decide), hp, bn_s, bd_s, nI_1]
theorem b4_e {N n x : Nat} {c : rs_T} (hx : x + 1 < 1000000) (hc : vst N c) : fx_Ma_doWhatIsNoStep_b4 N (n + 2) 1 (nI x) c = some c := by
  by_cases h11 : rI c 11 = 1
  · rcases hc with z | ⟨a1, a2⟩
    · exact absurd h11 z
    rw [b4_75 (by omega) h11 a1]
    have hn : ¬ (1000000 : Int32) ≤ nI (x + 1) := fun z => by
      have : 1000000 ≤ x + 1 := (lit_le (k := 1000000) (show x + 1 < 2 ^ 31 by omega) (by omega)).mp z
      omega
    have e : fx_Ma_doWhatIsNoStep_b4 N (n + 1) 0 (nI (x + 1)) c = some c := by
      unfold fx_Ma_doWhatIsNoStep_b4
      rw [if_neg hn, if_pos rfl]
    unfold fx_Ma_doWhatIsNoStep_b75 fx_Ma_doWhatIsNoStep_b104
    rcases a2 with ⟨-, b1, b2⟩ | ⟨b1, q, w, p, q1, q2, q3, q4, q5, q6⟩
    · rw [b1, bn_s, if_pos rfl, b2, bn_s, bd_s, nI_1]
      exact e
    · have hw : ¬ nI w = (0 : Int32) := fun z => by
        have : w = 0 := (eq_lit (k := 0) (show w < 2 ^ 31 by omega) (by omega)).mp z
        omega
      have hp : fx_Rr_performFree N c = some (0, c) := by
        unfold fx_Rr_performFree fx_Rr_performFree_b36 fx_Rr_performFree_b37
        rw [q2, bn_s, if_neg (fun z => (nI_m1 (by omega)).mp z), gd_k (by omega) (by omega), nI_clamp (by omega), q3, if_neg hw, if_pos rfl, gb_0]
      rw [b1, bn_s, if_neg (by decide), hp, bn_s, bd_s, nI_1]
      exact e
  · have hn : ¬ (1000000 : Int32) ≤ nI x := fun z => by
      have : 1000000 ≤ x := (lit_le (k := 1000000) (show x < 2 ^ 31 by omega) (by omega)).mp z
      omega
    unfold fx_Ma_doWhatIsNoStep_b4
    rw [if_neg hn, if_neg (by decide), if_neg h11]
theorem b4_l {N : Nat} : ∀ {k n x : Nat} {c c1 : rs_T}, x + k + 1 < 1000000 → k + 2 ≤ n → rI c 17 = 0 ∨ ¬ rI c 11 = 1 → vl N k c c1 → vst N c1 → fx_Ma_doWhatIsNoStep_b4 N n 1 (nI x) c = some c1 := by
  intro k
  induction k with
  | zero =>
    intro n x c c1 hx hn _ hl hs
    have hl : c = c1 := hl
    subst hl
    obtain ⟨n, rfl⟩ : ∃ g, n = g + 2 := ⟨n - 2, by omega⟩
    exact b4_e (by omega) hs
  | succ k ih =>
    intro n x c c1 hx hn h17 hl hs
    obtain ⟨c2, ⟨h11, hv⟩, hl⟩ := hl
    have h17 : rI c 17 = 0 := by
      rcases h17 with z | z
      · exact z
      · exact absurd h11 z
    obtain ⟨n, rfl⟩ : ∃ g, n = g + 1 := ⟨n - 1, by omega⟩
    rcases hv with hv | hv | hv
    · rw [b4_a (by omega) h11 hv]
      exact ih (by omega) (by omega) (Or.inl hv.2.2.2.2) hl hs
    · rw [b4_b (by omega) h11 h17 hv]
      exact ih (by omega) (by omega) (Or.inl hv.2.2.2) hl hs
    · rw [b4_c (by omega) h11 hv]
      exact ih (by omega) (by omega) (Or.inl hv.2.2.2.2.1) hl hs
theorem dw_l {N k : Nat} {c c1 : rs_T} (hk : k ≤ 900000) (hN : 1000000 ≤ N) (h17 : rI c 17 = 0 ∨ ¬ rI c 11 = 1) (hl : vl N k c c1) (hs : vst N c1) : fx_Ma_doWhatIsNoStep N c = some c1 := by
  unfold fx_Ma_doWhatIsNoStep
  have := b4_l (x := 0) (n := N) (by omega) (by omega) h17 hl hs
  exact this
-- a step of code for registers
theorem pay_l {N k q p w : Nat} {c c1 : rs_T} (hk : k ≤ 900000) (hN : 1000000 ≤ N) (h11 : rI c 11 = 1) (h16 : rI c 16 = 0) (hr : fx_Ac_isInRegisters c = some (1, c)) (hq : q < rN c 2 ∧ rN c 2 ≤ 3000) (hn : fx_Ac_nextWithin (rI c 19) c = some (nI q, c)) (hp : rI c 17 = nI p) (hw : rA c 24 q = nI w) (hpw : p + 1 ≤ w) (hw2 : w ≤ 1000) (hr2 : fx_Ac_isInRegisters (wI c 17 (nI (p + 1))) = some (1, wI c 17 (nI (p + 1)))) (hn2 : fx_Ac_nextWithin (rI c 19) (wI c 17 (nI (p + 1))) = some (nI q, wI c 17 (nI (p + 1)))) (hl : vl N k (wI c 17 (nI (p + 1))) c1) (hs : vst N c1) : bv (fx_Rr_payStep N c) (fun st => fx_Ma_doWhatIsNoStep N st) = some c1 := by
  unfold fx_Rr_payStep
  rw [hn, bn_s, if_neg (fun z => (nI_m1 (by omega)).mp z), gd_k (by omega) (by omega), nI_clamp (by omega), hp, nI_1, hw]
  by_cases e : p + 1 < w
  · rw [if_pos (nI_lt e (by omega)), bv_s]
    cases k with
    | zero =>
      have hl : wI c 17 (nI (p + 1)) = c1 := hl
      unfold fx_Ma_doWhatIsNoStep
      rw [hl]
      have := b4_e (N := N) (n := N - 2) (x := 0) (by omega) hs
      rw [show N - 2 + 2 = N by omega] at this
      exact this
    | succ k =>
      exfalso
      obtain ⟨c2, ⟨-, hv⟩, -⟩ := hl
      rcases hv with hv | hv | hv
      · have := hv.2.2.1
        rw [hr2] at this
        have := (Prod.mk.inj (Option.some.inj this)).1
        exact absurd this (by decide)
      · obtain ⟨-, -, ⟨q', hqq, b1, b2, -⟩, -⟩ := hv
        rw [rI_wn (by decide), hn2] at b1
        have := (Prod.mk.inj (Option.some.inj b1)).1
        rw [rI_ws, rA_wI] at b2
        have hq2 : q = q' := (nI_eq (by omega) (by omega)).mp this
        subst hq2
        rw [hw] at b2
        have := (nI_eq (by omega) (by omega)).mp b2
        omega
      · have := hv.1
        rw [rI_wn (by decide), h16] at this
        exact absurd this (by decide)
  · have hwp : w = p + 1 := by omega
    subst hwp
    rw [if_neg (nI_nlt (Nat.le_refl _) (by omega))]
    cases k with
    | zero =>
      exfalso
      have hl : wI c 17 (nI (p + 1)) = c1 := hl
      rcases hs with z | ⟨-, z⟩
      · rw [← hl, rI_wn (by decide)] at z; exact z h11
      · rcases z with ⟨-, z, -⟩ | ⟨-, q', w', p', z1, z2, z3, z4, z5, z6⟩
        · rw [← hl, hr2] at z
          have := (Prod.mk.inj (Option.some.inj z)).1
          exact absurd this (by decide)
        · rw [← hl, rI_wn (by decide), hn2] at z2
          have := (Prod.mk.inj (Option.some.inj z2)).1
          have hq2 : q = q' := (nI_eq (by omega) (by omega)).mp this
          subst hq2
          rw [← hl, rA_wI, hw] at z3
          rw [← hl, rI_ws] at z4
          have e1 := (nI_eq (by omega) (by omega)).mp z3
          have e2 := (nI_eq (show p + 1 < 2 ^ 31 by omega) (by omega)).mp z4
          omega
    | succ k =>
      obtain ⟨c2, ⟨-, hv⟩, hl⟩ := hl
      rcases hv with hv | hv | hv
      · exfalso
        have := hv.2.2.1
        rw [hr2] at this
        have := (Prod.mk.inj (Option.some.inj this)).1
        exact absurd this (by decide)
      · obtain ⟨-, -, ⟨q', hq', b1, -, b3⟩, b4⟩ := hv
        rw [rI_wn (by decide), hn2] at b1
        have := (Prod.mk.inj (Option.some.inj b1)).1
        have hq2 : q = q' := (nI_eq (by omega) (by omega)).mp this
        subst hq2
        rw [b3, bv_s, bv_s]
        exact dw_l (by omega) hN (Or.inl b4) hl hs
      · exfalso
        have := hv.1
        rw [rI_wn (by decide), h16] at this
        exact absurd this (by decide)
