-- ===== the typing of written code =====
-- a view of the code: op, a, b at each place, the height below each beginning; of functions: parameters, results, further locals
abbrev vw_T : Type := (Nat → Int32) × (Nat → Int32) × (Nat → Int32) × (Nat → Nat) × (Nat → Nat) × (Nat → Nat) × (Nat → Nat)
def v_o (V : vw_T) : Nat → Int32 := V.1
def v_a (V : vw_T) : Nat → Int32 := V.2.1
def v_b (V : vw_T) : Nat → Int32 := V.2.2.1
def v_w (V : vw_T) : Nat → Nat := V.2.2.2.1
def v_p (V : vw_T) : Nat → Nat := V.2.2.2.2.1
def v_r (V : vw_T) : Nat → Nat := V.2.2.2.2.2.1
def v_c (V : vw_T) : Nat → Nat := V.2.2.2.2.2.2
-- a label: where it began, whether its ELSE was written, whether it is dead
abbrev lb_T : Type := Nat × Bool × Bool
-- what the writer knows at a place: labels (the inner one first), the function's own label dead?, operands, table entries still to come, what they want
abbrev ts_T : Type := List lb_T × Bool × Nat × Nat × Option Nat
def t_ht (V : vw_T) : List lb_T → Nat
  | [] => 0
  | q :: _ => v_w V q.1
def t_dd (T : ts_T) : Bool := match T.1 with
  | [] => T.2.1
  | q :: _ => q.2.2
-- a number of a small range
def t_n (x : Int32) (k : Nat) : Option Nat := if 0 ≤ x.toInt ∧ x.toInt ≤ (k : Int) then some x.toNatClampNeg else none
theorem t_n_some {x : Int32} {k j : Nat} (hk : k < 2 ^ 31) (h : t_n x k = some j) : j ≤ k ∧ x = nI j := by
  unfold t_n at h
  split at h
  · next q =>
    cases h
    have e : x.toNatClampNeg = x.toInt.toNat := rfl
    rw [e]
    refine ⟨by omega, ?_⟩
    apply Int32.toInt_inj.mp
    rw [nI_toInt (by omega)]
    omega
  · cases h
theorem t_n_nI {k j : Nat} (hk : k < 2 ^ 31) (h : j ≤ k) : t_n (nI j) k = some j := by
  unfold t_n
  rw [nI_toInt (by omega), if_pos (by omega), nI_clamp (by omega)]
theorem t_n_none {x : Int32} {k : Nat} (h : ∀ j : Nat, j ≤ k → ¬ x = nI j) (hk : k < 2 ^ 31) : t_n x k = none := by
  unfold t_n
  split
  · next q =>
    have e : x.toNatClampNeg = x.toInt.toNat := rfl
    refine absurd ?_ (h x.toInt.toNat (by omega))
    apply Int32.toInt_inj.mp
    rw [nI_toInt (by omega)]
    omega
  · rfl
def t_has (V : vw_T) (T : ts_T) (n : Nat) : Bool := t_dd T || decide (t_ht V T.1 + n ≤ T.2.2.1)
def t_tk (V : vw_T) (T : ts_T) (n : Nat) : Nat := max (t_ht V T.1) (T.2.2.1 - n)
-- the inner label with another dead flag, and operands
def t_in (T : ts_T) (d : Bool) (h : Nat) : ts_T := match T.1 with
  | [] => ([], d, h, 0, none)
  | q :: L => ((q.1, q.2.1, d) :: L, T.2.1, h, 0, none)
def t_die (V : vw_T) (T : ts_T) : ts_T := t_in T true (t_ht V T.1)
-- n are taken, k are put
def t_tu (V : vw_T) (T : ts_T) (n k : Nat) : Option ts_T := bif t_has V T n then some (T.1, T.2.1, t_tk V T n + k, 0, none) else none
def t_want (V : vw_T) (f : Nat) (L : List lb_T) (k : Nat) : Nat := match L[k]? with
  | none => v_r V f
  | some q => if v_o V q.1 = 3 then (v_a V q.1).toNatClampNeg else (v_b V q.1).toNatClampNeg
def t_gives (V : vw_T) (f : Nat) (L : List lb_T) : Nat := match L with
  | [] => v_r V f
  | q :: _ => (v_b V q.1).toNatClampNeg
def t_done (V : vw_T) (f : Nat) (T : ts_T) : Bool := bif t_dd T then decide (T.2.2.1 - t_ht V T.1 ≤ t_gives V f T.1) else decide (T.2.2.1 - t_ht V T.1 = t_gives V f T.1)
-- takes and puts of the plain operations
def t_ar (o : Int32) : Option (Nat × Nat) :=
  if o ∈ ([1] : List Int32) then some (0, 0)
  else if o ∈ ([26, 33, 36] : List Int32) then some (1, 0)
  else if o ∈ ([27] : List Int32) then some (3, 1)
  else if o ∈ ([32, 35, 63, 65, 66] : List Int32) then some (0, 1)
  else if o ∈ ([34, 64, 69, 80, 167, 173] : List Int32) then some (1, 1)
  else if o ∈ ([70, 71, 72, 73, 81, 83, 106, 107, 108, 110, 113, 116, 124, 125, 126] : List Int32) then some (2, 1)
  else if o ∈ ([40, 41, 42, 43, 44, 45, 46, 47, 48, 49, 50, 51, 52, 53] : List Int32) then some (1, 1)
  else if o ∈ ([54, 55, 56, 57, 58, 59, 60, 61, 62] : List Int32) then some (2, 0)
  else none
def t_lim (V : vw_T) (f : Nat) (o a : Int32) : Bool :=
  if o ∈ ([32, 33, 34] : List Int32) then (bif Nat.ble (v_p V f + v_c V f) 0 then false else (t_n a (v_p V f + v_c V f - 1)).isSome)
  else if o ∈ ([35, 36] : List Int32) then (t_n a 7).isSome
  else true
def t_plain (V : vw_T) (f i : Nat) (T : ts_T) : Option ts_T := match t_ar (v_o V i) with
  | none => none
  | some q => bif t_lim V f (v_o V i) (v_a V i) then t_tu V T q.1 q.2 else none
def t_begin (V : vw_T) (i : Nat) (T : ts_T) (more : Nat) : Option ts_T := match t_n (v_a V i) 4, t_n (v_b V i) 4 with
  | some x, some _ => bif t_has V T (x + more) then (if v_w V i = t_tk V T (x + more) then some ((i, false, false) :: T.1, T.2.1, t_tk V T (x + more) + x, 0, none) else none) else none
  | _, _ => none
def t_else (V : vw_T) (f : Nat) (T : ts_T) : Option ts_T := match T.1 with
  | [] => none
  | q :: L => bif (decide (v_o V q.1 = 4) && !q.2.1) && t_done V f T then some ((q.1, true, false) :: L, T.2.1, v_w V q.1 + (v_a V q.1).toNatClampNeg, 0, none) else none
def t_end (V : vw_T) (f : Nat) (T : ts_T) : Option ts_T := match T.1 with
  | [] => none
  | q :: L => bif t_done V f T && !((decide (v_o V q.1 = 4) && !q.2.1) && !decide (v_a V q.1 = v_b V q.1)) then some (L, T.2.1, v_w V q.1 + (v_b V q.1).toNatClampNeg, 0, none) else none
def t_entry (V : vw_T) (f i : Nat) (T : ts_T) : Option ts_T := match t_n (v_a V i) T.1.length with
  | none => none
  | some k =>
    let w := t_want V f T.1 k
    let ok : Bool := match T.2.2.2.2 with
      | none => t_has V T w
      | some x => decide (w = x)
    bif ok then (if T.2.2.2.1 = 1 then some (t_die V T) else some (T.1, T.2.1, T.2.2.1, T.2.2.2.1 - 1, some w)) else none
-- the step of the writer at place i (but for the END of the function)
def t_nx (V : vw_T) (f i : Nat) (T : ts_T) : Option ts_T :=
  if v_o V i = 6 then (if T.2.2.2.1 = 0 then none else t_entry V f i T)
  else if ¬ T.2.2.2.1 = 0 then none
  else if v_o V i = 0 then some (t_die V T)
  else if v_o V i = 2 ∨ v_o V i = 3 then t_begin V i T 0
  else if v_o V i = 4 then t_begin V i T 1
  else if v_o V i = 5 then t_else V f T
  else if v_o V i = 11 then t_end V f T
  else if v_o V i = 12 then (match t_n (v_a V i) T.1.length with
    | none => none
    | some k => bif t_has V T (t_want V f T.1 k) then some (t_die V T) else none)
  else if v_o V i = 13 then (match t_n (v_a V i) T.1.length with
    | none => none
    | some k => t_tu V T (t_want V f T.1 k + 1) (t_want V f T.1 k))
  else if v_o V i = 14 then (match t_n (v_a V i) 20 with
    | none => none
    | some k => bif t_has V T 1 then some (T.1, T.2.1, t_tk V T 1, k + 1, none) else none)
  else if v_o V i = 15 then (bif t_has V T (v_r V f) then some (t_die V T) else none)
  else if v_o V i = 16 then (match t_n (v_a V i) f with
    | none => none
    | some g => t_tu V T (v_p V g) (v_r V g))
  else if v_o V i = 17 then (match t_n (v_a V i) 8, t_n (v_b V i) 8 with
    | some x, some y => t_tu V T (x + 1) y
    | _, _ => none)
  else t_plain V f i T
-- the END of the function
def t_fin (V : vw_T) (f i : Nat) (T : ts_T) : Prop := v_o V i = 11 ∧ T.2.2.2.1 = 0 ∧ T.1 = [] ∧ t_done V f T = true
def t_0 : ts_T := ([], false, 0, 0, none)
def b2 (d : Bool) : Int32 := bif d then 1 else 0
