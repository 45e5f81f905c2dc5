-- ===== one step: which piece of each machine does it =====
theorem bv_bn {α : Type} (x : Option (α × rs_T)) (g : α → rs_T → Option rs_T) (f : rs_T → Option rs_T) : bv (bn x g) f = bn x (fun a s => bv (g a s) f) := by cases x <;> rfl
theorem bv_bv (x : Option rs_T) (g : rs_T → Option rs_T) (f : rs_T → Option rs_T) : bv (bv x g) f = bv x (fun s => bv (g s) f) := by cases x <;> rfl
theorem bv_gd {i : Int32} {n : Nat} (x : Option rs_T) (f : rs_T → Option rs_T) : bv (gd i n x) f = gd i n (bv x f) := by
  unfold gd
  by_cases h : 0 ≤ i.toInt ∧ i.toInt < (n : Int)
  · rw [if_pos h, if_pos h]
  · rw [if_neg h, if_neg h]; rfl
def ms_13 (N : Nat) (a : Int32) (m : rs_T) : Option rs_T := bn (fx_Md_pop m) (fun r13 st12 => bn (fx_Md_isTrue r13 st12) (fun r15 st14 => if r15 = (0 : Int32) then some (wI st14 15 ((rI st14 15) + 1)) else fx_Md_branch N a st14))
def ms_14x (N : Nat) (y0 y1 : Int32) (m : rs_T) : Option rs_T := gd (y1 + y0) 1500 (fx_Md_branch N (rA m 7 ((y1 + y0).toNatClampNeg)) m)
def ms_14 (N : Nat) (a : Int32) (m : rs_T) : Option rs_T := bn (fx_Md_pop m) (fun r19 st18 => bd (r19 &&& 4294967295) (fun v20 => if (0 : Int32) ≤ (lg_cmp v20 a.toInt64) then ms_14x N a ((rI st18 15) + 1) st18 else ms_14x N v20.toInt32 ((rI st18 15) + 1) st18))
def ms_15 (N : Nat) (m : rs_T) : Option rs_T := bn (fx_Md_outermost N m) (fun r25 st24 => fx_Md_branch N r25 st24)
def msb (N : Nat) (o a b : Int32) (m : rs_T) : Option rs_T := if o ∈ ([0] : List Int32) then fx_Md_traps 1 m else (if o ∈ ([4] : List Int32) then fx_Md_condition N a m else (if o ∈ ([12] : List Int32) then fx_Md_branch N a m else (if o ∈ ([13] : List Int32) then ms_13 N a m else (if o ∈ ([14] : List Int32) then ms_14 N a m else (if o ∈ ([15] : List Int32) then ms_15 N m else (if o ∈ ([16] : List Int32) then fx_Md_enter N a m else (if o ∈ ([17] : List Int32) then fx_Md_callTable N a b m else fx_Md_simple N o a b m)))))))
theorem ms_eq {m : rs_T} {N i : Nat} (h15 : rI m 15 = nI i) (hi : i < 1500) : fx_Md_step N m = bv (msb N (rA m 6 i) (rA m 7 i) (rA m 8 i) (wI m 11 (rI m 11 + 1))) (fun st => fx_Md_pass N st) := by
  have e262 : ∀ st, fx_Md_step_b262 N st = fx_Md_pass N st := fun st => by unfold fx_Md_step_b262; exact bv_id _
  unfold fx_Md_step msb
  rw [h15, gd_k hi (by omega), nI_clamp (by omega), bd_s, gd_k hi (by omega), bd_s, gd_k hi (by omega), bd_s]
  by_cases o0 : rA m 6 i ∈ ([0] : List Int32)
  · rw [if_pos o0, if_pos o0]; simp only [e262]
  rw [if_neg o0, if_neg o0]
  by_cases o4 : rA m 6 i ∈ ([4] : List Int32)
  · rw [if_pos o4, if_pos o4]; simp only [e262]
  rw [if_neg o4, if_neg o4]
  by_cases o12 : rA m 6 i ∈ ([12] : List Int32)
  · rw [if_pos o12, if_pos o12]; simp only [e262]
  rw [if_neg o12, if_neg o12]
  by_cases o13 : rA m 6 i ∈ ([13] : List Int32)
  · rw [if_pos o13, if_pos o13]
    unfold ms_13
    rw [bv_bn]
    congr 1
    funext r s
    rw [bv_bn]
    congr 1
    funext r2 s2
    by_cases z : r2 = 0
    · rw [if_pos z, if_pos z, e262, bv_s]
    · rw [if_neg z, if_neg z]; simp only [e262]
  rw [if_neg o13, if_neg o13]
  by_cases o14 : rA m 6 i ∈ ([14] : List Int32)
  · rw [if_pos o14, if_pos o14]
    have ex : ∀ y0 y1 st, fx_Md_step_b219 N y0 y1 st = bv (ms_14x N y0 y1 st) (fun st => fx_Md_pass N st) := fun y0 y1 st => by
      unfold fx_Md_step_b219 ms_14x
      rw [bv_gd]
      simp only [e262]
    unfold ms_14
    rw [bv_bn]
    congr 1
    funext r s
    rw [bd_s, bd_s]
    by_cases z : (0 : Int32) ≤ (lg_cmp (r &&& 4294967295) (rA m 7 i).toInt64)
    · rw [if_pos z, if_pos z, ex]
    · rw [if_neg z, if_neg z, ex]
  rw [if_neg o14, if_neg o14]
  by_cases o15 : rA m 6 i ∈ ([15] : List Int32)
  · rw [if_pos o15, if_pos o15]
    unfold ms_15
    rw [bv_bn]
    simp only [e262]
  rw [if_neg o15, if_neg o15]
  by_cases o16 : rA m 6 i ∈ ([16] : List Int32)
  · rw [if_pos o16, if_pos o16]; simp only [e262]
  rw [if_neg o16, if_neg o16]
  by_cases o17 : rA m 6 i ∈ ([17] : List Int32)
  · rw [if_pos o17, if_pos o17]; simp only [e262]
  rw [if_neg o17, if_neg o17]
  simp only [e262]
theorem msb_s {N : Nat} {o a b : Int32} {m : rs_T} (h : ¬ o ∈ ([0, 4, 12, 13, 14, 15, 16, 17] : List Int32)) : msb N o a b m = fx_Md_simple N o a b m := by
  have hh : ∀ x : Int32, x ∈ ([0, 4, 12, 13, 14, 15, 16, 17] : List Int32) → ¬ o ∈ ([x] : List Int32) := fun x hx z => by
    have : o = x := by simpa using z
    rw [this] at h
    exact h hx
  unfold msb
  rw [if_neg (hh 0 (by decide)), if_neg (hh 4 (by decide)), if_neg (hh 12 (by decide)), if_neg (hh 13 (by decide)), if_neg (hh 14 (by decide)), if_neg (hh 15 (by decide)), if_neg (hh 16 (by decide)), if_neg (hh 17 (by decide))]
-- the class with a stack
theorem sp_next {c : rs_T} {j i t : Nat} (h14 : rI c 14 = nI (j + 1)) (hj : j < 30) (h18 : rA c 18 j = nI i) (hi : i < t) (ht : t < 100000) : fx_Ac_nextWithin (nI t) c = some (nI i, c) := by
  have h0 : ¬ nI (j + 1) ≤ (0 : Int32) := fun z => by
    have : j + 1 ≤ 0 := (le_lit (k := 0) (show j + 1 < 2 ^ 31 by omega) (by omega)).mp z
    omega
  unfold fx_Ac_nextWithin
  rw [h14, if_neg h0, nI_pred, gd_k hj (by omega), nI_clamp (by omega), h18, if_neg (nI_pos (by omega)), gd_k hj (by omega), if_neg (nI_ge (by omega) (by omega)), gd_k hj (by omega)]
theorem sp_reg {c : rs_T} {j : Nat} {r : Bool} (h14 : rI c 14 = nI (j + 1)) (hj : j < 30) (h21 : rA c 21 j = b2 r) : fx_Ac_isInRegisters c = some (b2 r, c) := by
  have h0 : ¬ nI (j + 1) ≤ (0 : Int32) := fun z => by
    have : j + 1 ≤ 0 := (le_lit (k := 0) (show j + 1 < 2 ^ 31 by omega) (by omega)).mp z
    omega
  unfold fx_Ac_isInRegisters
  rw [h14, if_neg h0, nI_pred, gd_k hj (by omega), nI_clamp (by omega), h21]
  cases r
  · rw [if_pos (show b2 false = 0 from rfl)]; rfl
  · rw [if_neg (by decide)]; rfl
theorem sp_eq {c : rs_T} {N j i t : Nat} (h14 : rI c 14 = nI (j + 1)) (hj : j < 30) (h4 : rI c 4 = nI t) (h18 : rA c 18 j = nI i) (hi : i < t) (ht : t ≤ 512 ∧ t ≤ rN c 0 ∧ rN c 0 ≤ 1500 ∧ rN c 2 ≤ 3000) : fx_Sr_perform N c = (if rA c 7 i < (69 : Int32) then (if rA c 7 i < (65 : Int32) then (if rA c 7 i < (40 : Int32) then (if rA c 7 i < (26 : Int32) then fx_Sr_control N (nI j) (rA c 7 i) (nI i) (wA c 18 j (nI (i + 1))) else fx_Sr_useVariable (nI j) (rA c 7 i) (rA c 8 i) (wA c 18 j (nI (i + 1)))) else fx_Sr_useMemory N (nI j) (rA c 7 i) (rA c 8 i) (wA c 18 j (nI (i + 1)))) else bn (fx_Pr_constant (nI i) (wA c 18 j (nI (i + 1)))) (fun r18 st17 => fx_Sr_push (nI j) r18 st17)) else fx_Sr_operate (nI j) (rA c 7 i) (wA c 18 j (nI (i + 1)))) := by
  unfold fx_Sr_perform
  rw [h4, sp_next h14 hj h18 hi (by omega), bn_s, if_neg (fun z => (nI_m1 (by omega)).mp z), h14, nI_pred, bd_s, gd_k (by first | omega | (simp only [rN_wI, rN_wA, rN_wL]; omega)) (by first | omega | (simp only [rN_wI, rN_wA, rN_wL]; omega)), nI_clamp (by omega), bd_s, gd_k hj (by omega), nI_clamp (by omega), nI_1, gd_k (by first | omega | (simp only [rN_wI, rN_wA, rN_wL]; omega)) (by first | omega | (simp only [rN_wI, rN_wA, rN_wL]; omega)), gd_k (by first | omega | (simp only [rN_wI, rN_wA, rN_wL]; omega)) (by first | omega | (simp only [rN_wI, rN_wA, rN_wL]; omega)), bv_id, bv_id, bv_id, bv_id]
  congr 2
  congr 1
  funext r s
  exact bv_id _
theorem s_pop {c : rs_T} {j P : Nat} (hj : j < 30) (h : rA c 20 j = nI (P + 1)) (hP : P < 220) : fx_Sr_pop (nI j) c = some (rL c 2 P, wA c 20 j (nI P)) := by
  have hlt : ¬ (220 : Int32) ≤ nI P := fun z => by
    have : 220 ≤ P := (lit_le (k := 220) (show P < 2 ^ 31 by omega) (by omega)).mp z
    omega
  unfold fx_Sr_pop
  rw [gd_k hj (by omega), gd_k hj (by omega), gd_k hj (by omega), nI_clamp (by omega), h, nI_pred, rA_wss]
  unfold fx_Ac_value
  rw [if_neg (nI_pos (by omega)), if_neg hlt, gd_k hP (by omega), nI_clamp (by omega), bn_s, rL_wA]
theorem s_push {c : rs_T} {j P : Nat} {v : Int64} (hj : j < 30) (h : rA c 20 j = nI P) (hP : P < 220) : fx_Sr_push (nI j) v c = some (wA (wL c 2 P v) 20 j (nI (P + 1))) := by
  have hlt : ¬ (220 : Int32) ≤ nI P := fun z => by
    have : 220 ≤ P := (lit_le (k := 220) (show P < 2 ^ 31 by omega) (by omega)).mp z
    omega
  unfold fx_Sr_push fx_Ac_setValue
  rw [gd_k hj (by omega), nI_clamp (by omega), h, if_neg (nI_pos (by omega)), if_neg hlt, gd_k hP (by omega), nI_clamp (by omega), bv_s, gd_k hj (by omega), gd_k hj (by omega), rA_wL, h, nI_1]
-- the class with registers
theorem rp_eq {c : rs_T} {N j q : Nat} (h14 : rI c 14 = nI (j + 1)) (hj : j < 30) (hq : q < rN c 2 ∧ rN c 2 ≤ 3000) : fx_Rr_perform N (nI q) c = (if rA c 23 q = (200 : Int32) then bn (fx_Rr_read (nI j) (rA c 26 q) (wA c 18 j (nI (q + 1)))) (fun r16 st15 => fx_Rr_setRegister (nI j) (rA c 25 q) r16 st15) else (if rA c 23 q < (69 : Int32) then (if rA c 23 q < (40 : Int32) then (if rA c 23 q < (26 : Int32) then fx_Rr_control N (nI j) (rA c 23 q) (nI q) (wA c 18 j (nI (q + 1))) else fx_Rr_useVariable (nI j) (rA c 23 q) (nI q) (wA c 18 j (nI (q + 1)))) else fx_Rr_useMemory N (nI j) (rA c 23 q) (nI q) (wA c 18 j (nI (q + 1)))) else fx_Rr_operate (nI j) (rA c 23 q) (nI q) (wA c 18 j (nI (q + 1))))) := by
  unfold fx_Rr_perform
  rw [h14, nI_pred, bd_s, gd_k hq.1 (by omega), nI_clamp (by omega), bd_s, gd_k hj (by omega), nI_clamp (by omega), nI_1, gd_k hq.1 (by omega), gd_k hq.1 (by omega), bv_id, bv_id, bv_id, bv_id]
  congr 2
  funext r s
  exact bv_id _
theorem r_set {c : rs_T} {j b to : Nat} {v : Int64} (hj : j < 30) (h19 : rA c 19 j = nI b) (hb : b + to < 220) : fx_Rr_setRegister (nI j) (nI to) v c = some (wL c 2 (b + to) v) := by
  have hlt : ¬ (220 : Int32) ≤ nI (b + to) := fun z => by
    have : 220 ≤ b + to := (lit_le (k := 220) (show b + to < 2 ^ 31 by omega) (by omega)).mp z
    omega
  unfold fx_Rr_setRegister fx_Ac_setValue
  rw [gd_k hj (by omega), nI_clamp (by omega), h19, nI_add, if_neg (nI_pos (by omega)), if_neg hlt, gd_k hb (by omega), nI_clamp (by omega), bv_s]
