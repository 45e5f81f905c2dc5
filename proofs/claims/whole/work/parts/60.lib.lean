-- ===== reading and writing a state =====
theorem nb_f {q k : Nat} (h : ¬ q = k) : Nat.beq q k = false := Bool.eq_false_iff.mpr (fun z => h (Nat.eq_of_beq_eq_true z))
theorem rI_wI (s : rs_T) (k q : Nat) (v : Int32) : rI (wI s k v) q = if q = k then v else rI s q := by
  unfold rI wI
  by_cases h : q = k
  · subst h; simp
  · simp [nb_f h, h]
theorem rI_wA (s : rs_T) (j i q : Nat) (v : Int32) : rI (wA s j i v) q = rI s q := Eq.trans rfl rfl
theorem rI_wL (s : rs_T) (j i q : Nat) (v : Int64) : rI (wL s j i v) q = rI s q := Eq.trans rfl rfl
theorem rA_wI (s : rs_T) (k q x : Nat) (v : Int32) : rA (wI s k v) q x = rA s q x := Eq.trans rfl rfl
theorem rA_wL (s : rs_T) (j i q x : Nat) (v : Int64) : rA (wL s j i v) q x = rA s q x := Eq.trans rfl rfl
theorem rL_wI (s : rs_T) (k q x : Nat) (v : Int32) : rL (wI s k v) q x = rL s q x := Eq.trans rfl rfl
theorem rL_wA (s : rs_T) (j i q x : Nat) (v : Int32) : rL (wA s j i v) q x = rL s q x := Eq.trans rfl rfl
theorem rN_wI (s : rs_T) (k q : Nat) (v : Int32) : rN (wI s k v) q = rN s q := Eq.trans rfl rfl
theorem rN_wA (s : rs_T) (j i q : Nat) (v : Int32) : rN (wA s j i v) q = rN s q := Eq.trans rfl rfl
theorem rN_wL (s : rs_T) (j i q : Nat) (v : Int64) : rN (wL s j i v) q = rN s q := Eq.trans rfl rfl
theorem rI_gN (s : rs_T) (g v n q : Nat) : rI (gN s g v n) q = rI s q := Eq.trans rfl rfl
theorem rA_gN (s : rs_T) (g v n j x : Nat) : rA (gN s g v n) j x = rA s j x := Eq.trans rfl rfl
theorem rL_gN (s : rs_T) (g v n j x : Nat) : rL (gN s g v n) j x = rL s j x := Eq.trans rfl rfl
theorem rI_gP (s : rs_T) (v q : Nat) : rI (gP s v) q = rI s q := Eq.trans rfl rfl
theorem rL_gP (s : rs_T) (v j x : Nat) : rL (gP s v) j x = rL s j x := Eq.trans rfl rfl
theorem rA_gP {s : rs_T} {v j x : Nat} (h : ¬ j = 30) : rA (gP s v) j x = rA s j x := by
  show (bif Nat.beq j 30 then (fun _ => 0) else s.2.1 j) x = s.2.1 j x
  rw [nb_f h]; rfl
theorem rA_wA (s : rs_T) (j i q x : Nat) (v : Int32) : rA (wA s j i v) q x = if q = j ∧ x = i then v else rA s q x := by
  unfold rA wA
  by_cases h : q = j
  · subst h
    by_cases g : x = i
    · subst g; simp [pk_us]
    · simp [g, pk_un g]
  · simp [nb_f h, h]
theorem rL_wL (s : rs_T) (j i q x : Nat) (v : Int64) : rL (wL s j i v) q x = if q = j ∧ x = i then v else rL s q x := by
  unfold rL wL
  by_cases h : q = j
  · subst h
    by_cases g : x = i
    · subst g; simp [pk_uLs]
    · simp [g, pk_uLn g]
  · simp [nb_f h, h]
theorem rI_ws (s : rs_T) (k : Nat) (v : Int32) : rI (wI s k v) k = v := by rw [rI_wI, if_pos rfl]
theorem rI_wn {s : rs_T} {k q : Nat} {v : Int32} (h : ¬ q = k) : rI (wI s k v) q = rI s q := by rw [rI_wI, if_neg h]
theorem rA_wss (s : rs_T) (j i : Nat) (v : Int32) : rA (wA s j i v) j i = v := by rw [rA_wA, if_pos ⟨rfl, rfl⟩]
theorem rA_wn {s : rs_T} {j i q x : Nat} {v : Int32} (h : ¬ q = j) : rA (wA s j i v) q x = rA s q x := by rw [rA_wA, if_neg (fun z => h z.1)]
theorem rA_wsn {s : rs_T} {j i x : Nat} {v : Int32} (h : ¬ x = i) : rA (wA s j i v) j x = rA s j x := by rw [rA_wA, if_neg (fun z => h z.2)]
theorem rL_wss (s : rs_T) (j i : Nat) (v : Int64) : rL (wL s j i v) j i = v := by rw [rL_wL, if_pos ⟨rfl, rfl⟩]
theorem rL_wn {s : rs_T} {j i q x : Nat} {v : Int64} (h : ¬ q = j) : rL (wL s j i v) q x = rL s q x := by rw [rL_wL, if_neg (fun z => h z.1)]
theorem rL_wsn {s : rs_T} {j i x : Nat} {v : Int64} (h : ¬ x = i) : rL (wL s j i v) j x = rL s j x := by rw [rL_wL, if_neg (fun z => h z.2)]
-- ===== evaluation =====
theorem bn_s {α β : Type} (a : α) (s : rs_T) (f : α → rs_T → Option β) : bn (some (a, s)) f = f a s := Eq.trans rfl rfl
theorem bv_s {β : Type} (s : rs_T) (f : rs_T → Option β) : bv (some s) f = f s := Eq.trans rfl rfl
theorem bd_s {α β : Type} (a : α) (f : α → β) : bd a f = f a := Eq.trans rfl rfl
theorem gd_k {α : Type} {k n : Nat} {x : Option α} (h : k < n) (hn : n < 2 ^ 31) : gd (nI k) n x = x := by
  unfold gd
  rw [if_pos]
  rw [nI_toInt (by omega)]
  omega
theorem gd_in {α : Type} {i : Int32} {n : Nat} {x : Option α} (h : vp_in i n) : gd i n x = x := by
  unfold gd
  rw [if_pos (vp_in_iff.mp h)]
theorem gb_0 {α : Type} (x : Option α) : gb 0 x = x := Eq.trans rfl rfl
theorem gb_1 {α : Type} (x : Option α) : gb 1 x = x := Eq.trans rfl rfl
-- ===== numbers =====
theorem lit_nI (k : Nat) : (OfNat.ofNat k : Int32) = nI k := Eq.trans rfl rfl
theorem nI_bv (n : Nat) : (nI n).toBitVec = BitVec.ofNat 32 n := Eq.trans rfl rfl
theorem lt_lit {a k : Nat} (ha : a < 2 ^ 31) (hk : k < 2 ^ 31) : (nI a < (no_index (OfNat.ofNat k) : Int32)) ↔ a < (OfNat.ofNat k : Nat) := nI_ltI ha hk
theorem lit_lt {a k : Nat} (ha : a < 2 ^ 31) (hk : k < 2 ^ 31) : ((no_index (OfNat.ofNat k) : Int32) < nI a) ↔ (OfNat.ofNat k : Nat) < a := nI_ltI hk ha
theorem le_lit {a k : Nat} (ha : a < 2 ^ 31) (hk : k < 2 ^ 31) : (nI a ≤ (no_index (OfNat.ofNat k) : Int32)) ↔ a ≤ (OfNat.ofNat k : Nat) := nI_leI ha hk
theorem lit_le {a k : Nat} (ha : a < 2 ^ 31) (hk : k < 2 ^ 31) : ((no_index (OfNat.ofNat k) : Int32) ≤ nI a) ↔ (OfNat.ofNat k : Nat) ≤ a := nI_leI hk ha
theorem eq_lit {a k : Nat} (ha : a < 2 ^ 31) (hk : k < 2 ^ 31) : (nI a = (no_index (OfNat.ofNat k) : Int32)) ↔ a = (OfNat.ofNat k : Nat) := nI_eq ha hk
theorem add_lit (a k : Nat) : nI a + (no_index (OfNat.ofNat k) : Int32) = nI (a + (OfNat.ofNat k : Nat)) := nI_add a k
theorem lit_add (a k : Nat) : (no_index (OfNat.ofNat k) : Int32) + nI a = nI ((OfNat.ofNat k : Nat) + a) := nI_add k a
theorem sub_lit {a k : Nat} (h : (OfNat.ofNat k : Nat) ≤ a) : nI a - (no_index (OfNat.ofNat k) : Int32) = nI (a - (OfNat.ofNat k : Nat)) := pk_sub h
theorem nI_sub {a b : Nat} (h : b ≤ a) : nI a - nI b = nI (a - b) := pk_sub h
theorem nI_m1 {a : Nat} (ha : a < 2 ^ 31) : (nI a = -1) ↔ False := by
  refine ⟨fun h => ?_, False.elim⟩
  have h1 := congrArg Int32.toInt h
  rw [nI_toInt ha] at h1
  have : (-1 : Int32).toInt = -1 := by decide
  omega
theorem m1_nI {a : Nat} (ha : a < 2 ^ 31) : ((-1 : Int32) = nI a) ↔ False := by rw [eq_comm]; exact nI_m1 ha
theorem m1_lt {a : Nat} (ha : a < 2 ^ 31) : ((-1 : Int32) < nI a) ↔ True := by
  refine ⟨fun _ => trivial, fun _ => ?_⟩
  rw [Int32.lt_iff_toInt_lt, nI_toInt ha]
  have : (-1 : Int32).toInt = -1 := by decide
  omega
-- a number that is small, or not
theorem sm_of {x : Int32} {k : Nat} (hk : k < 2 ^ 31) (h0 : ¬ x < 0) (h1 : ¬ nI k < x) : ∃ j : Nat, j ≤ k ∧ x = nI j := by
  have h2 : ¬ x.toInt < 0 := fun z => h0 (Int32.lt_iff_toInt_lt.mpr z)
  have h3 : ¬ (nI k).toInt < x.toInt := fun z => h1 (Int32.lt_iff_toInt_lt.mpr z)
  rw [nI_toInt hk] at h3
  refine ⟨x.toInt.toNat, by omega, ?_⟩
  apply Int32.toInt_inj.mp
  rw [nI_toInt (by omega)]
  omega
theorem wi_C (x : Int32) (k : Nat) (hk : k < 2 ^ 31) (st : rs_T) : (∃ j : Nat, j ≤ k ∧ x = nI j ∧ fx_Ma_isWithin x (nI k) st = some (1, st)) ∨ ((∀ j : Nat, j ≤ k → ¬ x = nI j) ∧ fx_Ma_isWithin x (nI k) st = some (0, st)) := by
  unfold fx_Ma_isWithin
  by_cases h0 : x < 0
  · refine Or.inr ⟨fun j hj e => ?_, if_pos h0⟩
    subst e
    exact nI_pos (by omega) h0
  · by_cases h1 : nI k < x
    · refine Or.inr ⟨fun j hj e => ?_, by rw [if_neg h0, if_pos h1]⟩
      subst e
      exact nI_nlt hj (by omega) h1
    · obtain ⟨j, hj, e⟩ := sm_of hk h0 h1
      exact Or.inl ⟨j, hj, e, by rw [if_neg h0, if_neg h1]⟩
theorem wi_M (x : Int32) (k : Nat) (hk : k < 2 ^ 31) (st : rs_T) : (∃ j : Nat, j ≤ k ∧ x = nI j ∧ fx_Md_within x (nI k) st = some (1, st)) ∨ ((∀ j : Nat, j ≤ k → ¬ x = nI j) ∧ fx_Md_within x (nI k) st = some (0, st)) := by
  unfold fx_Md_within
  by_cases h0 : x < 0
  · refine Or.inr ⟨fun j hj e => ?_, if_pos h0⟩
    subst e
    exact nI_pos (by omega) h0
  · by_cases h1 : nI k < x
    · refine Or.inr ⟨fun j hj e => ?_, by rw [if_neg h0, if_pos h1]⟩
      subst e
      exact nI_nlt hj (by omega) h1
    · obtain ⟨j, hj, e⟩ := sm_of hk h0 h1
      exact Or.inl ⟨j, hj, e, by rw [if_neg h0, if_neg h1]⟩
