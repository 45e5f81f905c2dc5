-- ===== constants that code for registers reads lie in its own function =====
def cb (E : Nat) (u : Int32) : Prop := ∀ k : Nat, k < 512 → u = nI k ^^^ (-1) → k < E
def gw (E : Nat) (W : Nat → Int32) (h : Nat) : Prop := ∀ x, x < h → cb E (W x)
theorem cb_n {E a : Nat} (ha : a < 2 ^ 31) : cb E (nI a) := fun k hk e => by
  have := (not_nI (k := k) (by omega)).2
  rw [← e] at this
  exact absurd (z_le ha) this
theorem cb_j {E j : Nat} (hj : j < E) (h5 : j < 512) : cb E (nI j ^^^ (-1)) := fun k hk e => by
  have h1 := (not_nI (k := j) (by omega)).1
  have h2 := (not_nI (k := k) (by omega)).1
  rw [e, h2] at h1
  have := (nI_eq (by omega) (by omega)).mp h1
  omega
theorem gw_le {E h h1 : Nat} {W : Nat → Int32} (hg : gw E W h) (hh : h1 ≤ h) : gw E W h1 := fun x hx => hg x (by omega)
theorem gw_upd {E h h1 : Nat} {W : Nat → Int32} {u : Int32} (hg : gw E W h) (hu : cb E u) (hh : h1 ≤ h + 1) : gw E (upd W h u) h1 := fun x hx => by
  by_cases e : x = h
  · subst e; rw [pk_us]; exact hu
  · rw [pk_un e]; exact hg x (by omega)
theorem gw_up {E h h1 i : Nat} {W : Nat → Int32} {u : Int32} (hg : gw E W h) (hu : cb E u) (hh : h1 ≤ h) : gw E (upd W i u) h1 := fun x hx => by
  by_cases e : x = i
  · subst e; rw [pk_us]; exact hu
  · rw [pk_un e]; exact hg x (by omega)
theorem gw_sl {E n h : Nat} (hb : n + h < 2 ^ 31) : gw E (sl n) h := fun x hx => cb_n (by omega)
theorem gw_kw {E n h i h1 : Nat} {W : Nat → Int32} (hg : gw E W h) (hi : i ≤ h) (hb : n + h1 < 2 ^ 31) : gw E (kw n W i) h1 := fun x hx => by
  unfold kw
  by_cases e : x < i
  · rw [if_pos e]; exact hg x (by omega)
  · rw [if_neg e]; exact cb_n (by omega)
theorem gw_kl {E n h : Nat} {W : Nat → Int32} {a : Int32} (hg : gw E W h) (hb : n + h < 2 ^ 31) : gw E (kl n W a) h := fun x hx => by
  unfold kl
  by_cases e : W x = a
  · rw [if_pos e]; exact cb_n (by omega)
  · rw [if_neg e]; exact hg x hx
theorem lim_loc {V : vw_T} {f i : Nat} (h : t_lim V f (v_o V i) (v_a V i) = true) (hn : v_p V f + v_c V f ≤ 16) (z : v_o V i ∈ ([32, 33, 34] : List Int32)) : ∃ a, a < v_p V f + v_c V f ∧ v_a V i = nI a := by
  unfold t_lim at h
  rw [if_pos z] at h
  cases hb : Nat.ble (v_p V f + v_c V f) 0 with
  | true => rw [hb] at h; cases h
  | false =>
    rw [hb] at h
    have h : (t_n (v_a V i) (v_p V f + v_c V f - 1)).isSome = true := h
    cases ht : t_n (v_a V i) (v_p V f + v_c V f - 1) with
    | none => rw [ht] at h; cases h
    | some a =>
      obtain ⟨a1, a2⟩ := t_n_some (by omega) ht
      have : ¬ v_p V f + v_c V f ≤ 0 := fun z => by
        have := Nat.ble_eq_true_of_le z
        rw [hb] at this; cases this
      exact ⟨a, by omega, a2⟩
theorem kok_k {c : rs_T} {V : vw_T} {T : Nat → ts_T} {f n s E qs Q ms : Nat} {K : Nat → kT} {Z : Nat → Int32} (h : kok c V T f n s E qs Q K Z) (hty : ty_F V T f s (E - 1) ms) (hE : E ≤ 512) (hn : n = v_p V f + v_c V f) (hn16 : n ≤ 16) : ∀ (k j : Nat), s + k = j → j < E → tl (T j) → gw E (K j).2.2 (T j).2.2.1 := by
  intro k
  induction k with
  | zero =>
    intro j hj hE2 hl x hx
    have : j = s := by omega
    subst this
    rw [hty.1] at hx
    have hx : x < 0 := hx
    omega
  | succ k ih =>
    intro j1 hj hE2 hl1
    obtain ⟨j, rfl⟩ : ∃ j, j1 = j + 1 := ⟨j1 - 1, by omega⟩
    have hx := hty.2.1 j (by omega) (by omega)
    have hb1 := (hty.2.2 (j + 1) (by omega) (by omega)).2.2.2.2.1.2.2.1
    by_cases hln : v_o V j = 5 ∨ v_o V j = 11
    · obtain ⟨-, -, e⟩ := h.2.2.2 j (by omega) (by omega) (Or.inr ⟨hln, hl1⟩)
      rw [e]; exact gw_sl (by omega)
    have hl : tl (T j) := Classical.byContradiction (fun z => tl_dead z hx (fun y => hln (Or.inl y)) (fun y => hln (Or.inr y)) hl1)
    have ihj := ih j (by omega) (by omega) hl
    obtain ⟨g1, g2, g3, g4⟩ := h.2.2.1 j (by omega) (by omega) hl
    unfold kcV at g1
    have hd : decide (j = E - 1) = false := decide_eq_false (by omega)
    rw [hd] at g1
    obtain ⟨f1, f65, f26, f32, f33, f34, f27, f35, f36, f40, f63, f54, f69, f70, f0, f12, f13, f14, f15, f16, f17, f2, f3, f4, f5, f11, -⟩ := g1
    rcases nx_cases hx with ⟨o, hne, -⟩ | ⟨hel, hc⟩
    · exact absurd hl.2.2 hne
    have hsl : (K (j + 1)).2.2 = sl n → gw E (K (j + 1)).2.2 (T (j + 1)).2.2.1 := fun e => by rw [e]; exact gw_sl (by omega)
    have hkw : ∀ {i q p : Nat}, K (j + 1) = (q, p, kw n (K j).2.2 i) → i ≤ (T j).2.2.1 → gw E (K (j + 1)).2.2 (T (j + 1)).2.2.1 := fun {i q p} e hi => by rw [e]; exact gw_kw ihj hi (by omega)
    rcases hc with ⟨ho, e⟩ | ⟨ho, hb⟩ | ⟨ho, hb⟩ | ⟨ho, hb⟩ | ⟨ho, hb⟩ | ⟨ho, k', hk, hhas, e⟩ | ⟨ho, k', hk, htu⟩ | ⟨ho, k', hk, hhas, e⟩ | ⟨ho, hhas, e⟩ | ⟨ho, g, hg, htu⟩ | ⟨ho, x, y, hx1, hy1, htu⟩ | ⟨ho, hp⟩
    · rw [e] at hl1; exact absurd hl1 tl_die
    · rcases ho with ho | ho
      · obtain ⟨q1, p1, m1, m2⟩ := f2 ho
        exact hsl (by rw [m2])
      · obtain ⟨q1, p1, m1, m2⟩ := f3 ho
        rcases m2 with ⟨z1, z2⟩ | ⟨z1, z2, z3⟩
        · exact hsl (by rw [z2])
        · exact hsl (by rw [z3])
    · obtain ⟨q1, p1, e, he, -, m1, m2, m3⟩ := f4 ho
      exact hsl (by rw [m3])
    · exact absurd (Or.inl ho) hln
    · exact absurd (Or.inr ho) hln
    · rw [e] at hl1; exact absurd hl1 tl_die
    · obtain ⟨q1, p1, m1, m2, -, m3⟩ := f13 ho
      exact hkw m3 (by omega)
    · rw [e] at hl1
      have : (k' + 1 : Nat) = 0 := hl1.2.2
      omega
    · rw [e] at hl1; exact absurd hl1 tl_die
    · obtain ⟨q1, p1, m1, m2, m3⟩ := f16 ho
      exact hkw m3 (by omega)
    · obtain ⟨q1, p1, m1, m2, m3⟩ := f17 ho
      exact hkw m3 (by omega)
    · obtain ⟨n0, k0, har, hlim, htu⟩ := plain_some hp
      obtain ⟨hn0, hT1, -⟩ := tl_tu hl htu
      have hT : (T (j + 1)).2.2.1 = (T j).2.2.1 - n0 + k0 := by rw [hT1]
      have hloc := lim_loc hlim (by omega)
      have same : k0 ≤ n0 → (K (j + 1)).2.2 = (K j).2.2 → gw E (K (j + 1)).2.2 (T (j + 1)).2.2.1 := fun hk e => by rw [e]; exact gw_le ihj (by omega)
      rcases ar_cases har with ⟨ho, rfl, rfl⟩ | ⟨ho, rfl, rfl⟩ | ⟨ho, rfl, rfl⟩ | ⟨ho, rfl, rfl⟩ | ⟨ho, rfl, rfl⟩ | ⟨ho, rfl, rfl⟩ | ⟨ho, rfl, rfl⟩ | ⟨ho, rfl, rfl⟩
      · simp only [List.mem_cons, List.not_mem_nil, or_false] at ho
        exact same (by omega) (by rw [f1 ho])
      · simp only [List.mem_cons, List.not_mem_nil, or_false] at ho
        rcases ho with ho | ho | ho
        · exact same (by omega) (by rw [f26 ho])
        · rcases f33 ho with ⟨-, z⟩ | ⟨-, q1, p1, m1, m2, m3⟩
          · exact same (by omega) (by rw [z])
          · rw [m3]; exact gw_le (gw_kl ihj (by omega)) (by omega)
        · exact same (by omega) (by rw [(f36 ho).2])
      · simp only [List.mem_cons, List.not_mem_nil, or_false] at ho
        exact hkw (f27 ho).2 (by omega)
      · simp only [List.mem_cons, List.not_mem_nil, or_false] at ho
        rcases ho with ho | ho | ho | ho | ho
        · obtain ⟨a, a1, a2⟩ := hloc (by rw [ho]; decide)
          rw [f32 ho]
          show gw E (upd (K j).2.2 (T j).2.2.1 (v_a V j)) _
          rw [a2]
          exact gw_upd ihj (cb_n (by omega)) (by omega)
        · exact hkw (f35 ho).2 (Nat.le_refl _)
        · exact hkw (f63 ho).2 (Nat.le_refl _)
        · rw [f65 (Or.inl ho)]
          exact gw_upd ihj (cb_j (by omega) (by omega)) (by omega)
        · rw [f65 (Or.inr ho)]
          exact gw_upd ihj (cb_j (by omega) (by omega)) (by omega)
      · by_cases h34 : v_o V j = 34
        · rcases f34 h34 with ⟨-, z⟩ | ⟨-, q1, p1, m1, m2, m3⟩
          · rw [z]; exact gw_up ihj (ihj _ (by omega)) (by omega)
          · rw [m3]; exact gw_up (gw_kl ihj (by omega)) (ihj _ (by omega)) (by omega)
        · by_cases h64 : v_o V j = 64
          · exact hkw (f40 (by rw [h64]; decide)).2 (by omega)
          · refine hkw (f69 ?_).2 (by omega)
            simp only [List.mem_cons, List.not_mem_nil, or_false] at ho ⊢
            rcases ho with z | z | z | z | z | z
            · exact absurd z h34
            · exact absurd z h64
            · exact Or.inl z
            · exact Or.inr (Or.inl z)
            · exact Or.inr (Or.inr (Or.inl z))
            · exact Or.inr (Or.inr (Or.inr z))
      · exact hkw (f70 ho).2 (by omega)
      · exact hkw (f40 (List.mem_append_left [64] ho)).2 (by omega)
      · exact same (by omega) (by rw [(f54 ho).2])
