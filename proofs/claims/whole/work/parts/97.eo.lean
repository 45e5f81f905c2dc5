-- ===== the compiler from place to place =====
def dlp (T : Nat → ts_T) (L : List lb_T) (d : Nat) : Prop := ∃ D R, L = D ++ R ∧ D.length = d ∧ (∀ x ∈ D, ¬ tl (T x.1)) ∧ ∀ x ∈ R, tl (T x.1)
def kC (c : rs_T) (n f s qs : Nat) (T : Nat → ts_T) (i : Nat) (K : kT) : Prop := ∃ h d, kst c n f K.1 K.2.1 h K.2.2 ∧ zk c qs K.1 ∧ (tl (T i) → rI c 25 = 1 ∧ h = (T i).2.2.1) ∧ (¬ tl (T i) → rI c 25 = 0 ∧ K.2.1 = 0) ∧ rI c 26 = nI d ∧ dlp T (T i).1 d ∧ K.1 + pt n K.2.2 h ≤ qs + 2 * (i - s) + (T i).2.2.2.1 ∧ K.2.1 ≤ i - s ∧ qs ≤ K.1
def kcV (c : rs_T) (V : vw_T) (T : Nat → ts_T) (f n e : Nat) (Z : Nat → Int32) (i : Nat) (K0 K1 : kT) : Prop := kcx c n i (decide (i = e)) (v_o V i) (v_a V i) (v_b V i) (T i).2.2.1 (v_r V f) (v_p V (v_a V i).toNatClampNeg) (v_r V (v_a V i).toNatClampNeg) (lr V f (T i).1 (v_a V i).toNatClampNeg) (fun j => lr V f (T i).1 (v_a V (i + 1 + j)).toNatClampNeg) Z K0.1 K0.2.1 K0.2.2 K1
def lnp (V : vw_T) (T : Nat → ts_T) (i : Nat) : Prop := (v_o V i = 3 ∧ tl (T i)) ∨ ((v_o V i = 5 ∨ v_o V i = 11) ∧ tl (T (i + 1)))
def kN (c c1 : rs_T) (V : vw_T) (T : Nat → ts_T) (f n e i : Nat) (K0 K1 : kT) : Prop := kf c c1 K0.1 i ∧ K0.1 ≤ K1.1 ∧ (tl (T i) → kcV c1 V T f n e nI i K0 K1) ∧ (lnp V T i → rA c1 30 i = nI K1.1 ∧ K1.2.1 = 0 ∧ K1.2.2 = sl n)
theorem ar_cases {o : Int32} {n k : Nat} (h : t_ar o = some (n, k)) : (o ∈ ([1] : List Int32) ∧ n = 0 ∧ k = 0) ∨ (o ∈ ([26, 33, 36] : List Int32) ∧ n = 1 ∧ k = 0) ∨ (o ∈ ([27] : List Int32) ∧ n = 3 ∧ k = 1) ∨ (o ∈ ([32, 35, 63, 65, 66] : List Int32) ∧ n = 0 ∧ k = 1) ∨ (o ∈ ([34, 64, 69, 80, 167, 173] : List Int32) ∧ n = 1 ∧ k = 1) ∨ (o ∈ ([70, 71, 72, 73, 81, 83, 106, 107, 108, 110, 113, 116, 124, 125, 126] : List Int32) ∧ n = 2 ∧ k = 1) ∨ (o ∈ ([40, 41, 42, 43, 44, 45, 46, 47, 48, 49, 50, 51, 52, 53] : List Int32) ∧ n = 1 ∧ k = 1) ∨ (o ∈ ([54, 55, 56, 57, 58, 59, 60, 61, 62] : List Int32) ∧ n = 2 ∧ k = 0) := by
  unfold t_ar at h
  by_cases h1 : o ∈ ([1] : List Int32)
  · rw [if_pos h1] at h; cases h; exact Or.inl ⟨h1, rfl, rfl⟩
  rw [if_neg h1] at h
  refine Or.inr ?_
  by_cases h2 : o ∈ ([26, 33, 36] : List Int32)
  · rw [if_pos h2] at h; cases h; exact Or.inl ⟨h2, rfl, rfl⟩
  rw [if_neg h2] at h
  refine Or.inr ?_
  by_cases h3 : o ∈ ([27] : List Int32)
  · rw [if_pos h3] at h; cases h; exact Or.inl ⟨h3, rfl, rfl⟩
  rw [if_neg h3] at h
  refine Or.inr ?_
  by_cases h4 : o ∈ ([32, 35, 63, 65, 66] : List Int32)
  · rw [if_pos h4] at h; cases h; exact Or.inl ⟨h4, rfl, rfl⟩
  rw [if_neg h4] at h
  refine Or.inr ?_
  by_cases h5 : o ∈ ([34, 64, 69, 80, 167, 173] : List Int32)
  · rw [if_pos h5] at h; cases h; exact Or.inl ⟨h5, rfl, rfl⟩
  rw [if_neg h5] at h
  refine Or.inr ?_
  by_cases h6 : o ∈ ([70, 71, 72, 73, 81, 83, 106, 107, 108, 110, 113, 116, 124, 125, 126] : List Int32)
  · rw [if_pos h6] at h; cases h; exact Or.inl ⟨h6, rfl, rfl⟩
  rw [if_neg h6] at h
  refine Or.inr ?_
  by_cases h7 : o ∈ ([40, 41, 42, 43, 44, 45, 46, 47, 48, 49, 50, 51, 52, 53] : List Int32)
  · rw [if_pos h7] at h; cases h; exact Or.inl ⟨h7, rfl, rfl⟩
  rw [if_neg h7] at h
  refine Or.inr ?_
  by_cases h8 : o ∈ ([54, 55, 56, 57, 58, 59, 60, 61, 62] : List Int32)
  · rw [if_pos h8] at h; cases h; exact ⟨h8, rfl, rfl⟩
  · rw [if_neg h8] at h; cases h
theorem dlp_0 {T : Nat → ts_T} {L : List lb_T} (h : ∀ x ∈ L, tl (T x.1)) : dlp T L 0 := ⟨[], L, rfl, rfl, fun x hx => (by cases hx), h⟩
theorem dlp_z {T : Nat → ts_T} {L : List lb_T} {d : Nat} (h : ∀ x ∈ L, tl (T x.1)) (hd : dlp T L d) : d = 0 := by
  obtain ⟨D, R, e, e2, e3, -⟩ := hd
  cases D with
  | nil => exact e2.symm
  | cons x D =>
    have := e3 x List.mem_cons_self
    exact absurd (h x (by rw [e]; exact List.mem_cons_self)) this
theorem kC_live {c c1 : rs_T} {n f s qs q i h1 B : Nat} {T : Nat → ts_T} {K1 : kT} (hk : kout c c1 n f qs q i h1 K1 B 1) (hl : tl (T (i + 1))) (hh : h1 = (T (i + 1)).2.2.1) (h26 : rI c 26 = 0) (hB : B ≤ qs + 2 * (i + 1 - s)) (hp : K1.2.1 ≤ i + 1 - s) (hall : ∀ x ∈ (T (i + 1)).1, tl (T x.1)) (hq : qs ≤ q) : kC c1 n f s qs T (i + 1) K1 := by
  obtain ⟨k1, k2, k3, k4, k5, k6, k7⟩ := hk
  exact ⟨h1, 0, k1, k2, fun _ => ⟨k6, hh⟩, fun z => absurd hl z, by rw [k7, h26]; rfl, dlp_0 hall, by omega, hp, by omega⟩
theorem kC_dead {c c1 : rs_T} {n f s qs q i h1 B : Nat} {T : Nat → ts_T} {K1 : kT} (hk : kout c c1 n f qs q i h1 K1 B 0) (hl : ¬ tl (T (i + 1))) (h26 : rI c 26 = 0) (hB : B ≤ qs + 2 * (i + 1 - s) + (T (i + 1)).2.2.2.1) (hp : K1.2.1 = 0) (hall : ∀ x ∈ (T (i + 1)).1, tl (T x.1)) (hq : qs ≤ q) : kC c1 n f s qs T (i + 1) K1 := by
  obtain ⟨k1, k2, k3, k4, k5, k6, k7⟩ := hk
  exact ⟨h1, 0, k1, k2, fun z => absurd z hl, fun _ => ⟨k6, hp⟩, by rw [k7, h26]; rfl, dlp_0 hall, by omega, by omega, by omega⟩
theorem die_tl {V : vw_T} {T : Nat → ts_T} {i : Nat} (h : ∀ x ∈ (T i).1, tl (T x.1)) (e : T (i + 1) = t_die V (T i)) : (∀ x ∈ (T (i + 1)).1, tl (T x.1)) ∧ ¬ tl (T (i + 1)) ∧ (T (i + 1)).2.2.2.1 = 0 := by
  have e2 := e
  unfold t_die at e2
  rw [t_in_eq] at e2
  refine ⟨fun x hx => ?_, by rw [e]; exact tl_die, by rw [e2]⟩
  rw [e2] at hx
  obtain ⟨r, r1, r2, -⟩ := in_mem hx
  rw [← r2]; exact h r r1
