-- ===== what stands in the code for registers =====
theorem mv_w {c : rs_T} {n : Nat} {W : Nat → Int32} {P : Nat → Bool} : ∀ {k i q p q1 p1 : Nat}, mv c n W P k i q p q1 p1 → (q1 = q ∧ p1 = p) ∨ (q < q1 ∧ rA c 24 q = nI p) := by
  intro k
  induction k with
  | zero => intro i q p q1 p1 h; exact Or.inl h
  | succ k ih =>
    intro i q p q1 p1 h
    rcases h with ⟨h1, h3, h2⟩ | ⟨h1, h2⟩
    · have := (mv_q h2).1
      exact Or.inr ⟨by omega, h3.2.1⟩
    · exact ih h2
theorem mv_ci {c : rs_T} {n : Nat} {W : Nat → Int32} {P : Nat → Bool} {k i q p q1 p1 : Nat} {o to x y z : Int32} (h : mv c n W P k i q p q1 p1) (hc : ci c q1 o (nI p1) to x y z) : q ≤ q1 ∧ rA c 24 q = nI p := by
  rcases mv_w h with ⟨e1, e2⟩ | ⟨e1, e2⟩
  · subst e1 e2; exact ⟨Nat.le_refl _, hc.2.1⟩
  · exact ⟨by omega, e2⟩
theorem br_24 {c : rs_T} {n r h q w : Nat} {Z : Nat → Int32} {lb : Option kl_T} (hb : brc c n r h Z lb q w) : rA c 24 q = nI w := by
  cases lb with
  | none => exact hb.2.1
  | some b => obtain ⟨e, -, -, hc⟩ := hb; exact hc.2.1
theorem mv_br {c : rs_T} {n r h : Nat} {Z : Nat → Int32} {lb : Option kl_T} {W : Nat → Int32} {P : Nat → Bool} {k i q p q1 p1 : Nat} (h1 : mv c n W P k i q p q1 p1) (hb : brc c n r h Z lb q1 p1) : q ≤ q1 ∧ rA c 24 q = nI p := by
  rcases mv_w h1 with ⟨e1, e2⟩ | ⟨e1, e2⟩
  · subst e1 e2; exact ⟨Nat.le_refl _, br_24 hb⟩
  · exact ⟨by omega, e2⟩
-- steps of the written code
def stp (o : Int32) : Prop := ¬ o ∈ ([2, 3, 5, 11] : List Int32)
-- the weight of what stands at a live place
def kwt (c : rs_T) (Q q p : Nat) (o : Int32) : Prop := q < Q ∧ ∃ w : Nat, rA c 24 q = nI w ∧ p ≤ w ∧ w ≤ 600 ∧ (stp o → p + 1 ≤ w)
theorem kw_1 {c : rs_T} {Q q p : Nat} {o : Int32} (hq : q < Q) (h : rA c 24 q = nI (p + 1)) (hp : p ≤ 512) : kwt c Q q p o := ⟨hq, p + 1, h, by omega, by omega, fun _ => Nat.le_refl _⟩
theorem kw_2 {c : rs_T} {Q q p : Nat} {o o1 : Int32} (h : kwt c Q q (p + 1) o1) : kwt c Q q p o := by
  obtain ⟨h1, w, h2, h3, h4, -⟩ := h
  exact ⟨h1, w, h2, by omega, h4, fun _ => h3⟩
theorem kw_3 {c : rs_T} {Q q p : Nat} {o : Int32} (hq : q < Q) (h : rA c 24 q = nI p) (hp : p ≤ 512) (ho : o ∈ ([2, 3, 5, 11] : List Int32)) : kwt c Q q p o := ⟨hq, p, h, Nat.le_refl _, by omega, fun z => absurd ho z⟩
theorem kw_4 {c : rs_T} {Q q p : Nat} {o o1 : Int32} (h : kwt c Q q p o1) (ho : o ∈ ([2, 3, 5, 11] : List Int32)) : kwt c Q q p o := by
  obtain ⟨h1, w, h2, h3, h4, -⟩ := h
  exact ⟨h1, w, h2, h3, h4, fun z => absurd ho z⟩
theorem kok_w {c : rs_T} {V : vw_T} {T : Nat → ts_T} {f n s E qs Q ms : Nat} {K : Nat → kT} {Z : Nat → Int32} (h : kok c V T f n s E qs Q K Z) (hty : ty_F V T f s (E - 1) ms) (hfin : t_fin V f (E - 1) (T (E - 1))) (hsE : s < E) : ∀ (k j : Nat), j + k + 1 = E → s ≤ j → tl (T j) → kwt c Q (K j).1 (K j).2.1 (v_o V j) := by
  intro k
  induction k with
  | zero =>
    intro j hj hs hl
    obtain ⟨g1, g2, g3, g4⟩ := h.2.2.1 j hs (by omega) hl
    have hje : j = E - 1 := by omega
    have ho : v_o V j = 11 := by rw [hje]; exact hfin.1
    unfold kcV at g1
    have hd : decide (j = E - 1) = true := decide_eq_true hje
    rw [ho, hd] at g1
    obtain ⟨q1, p1, m1, m2, m3⟩ := g1.2.2.2.2.2.2.2.2.2.2.2.2.2.2.2.2.2.2.2.2.2.2.2.2.2.2 rfl rfl
    obtain ⟨a1, a2⟩ := mv_ci m1 m2
    exact kw_3 (by omega) a2 g4 (by rw [ho]; decide)
  | succ k ih =>
    intro j hj hs hl
    obtain ⟨g1, g2, g3, g4⟩ := h.2.2.1 j hs (by omega) hl
    have hx := hty.2.1 j hs (by omega)
    have ih' := ih (j + 1) (by omega) (by omega)
    have hds := ds_all hty j hs (by omega)
    unfold kcV at g1
    have hd : decide (j = E - 1) = false := decide_eq_false (by omega)
    rw [hd] at g1
    obtain ⟨f1, f65, f26, f32, f33, f34, f27, f35, f36, f40, f63, f54, f69, f70, f0, f12, f13, f14, f15, f16, f17, f2, f3, f4, f5, f11, -⟩ := g1
    rcases nx_cases hx with ⟨o, hne, -⟩ | ⟨hel, hc⟩
    · exact absurd hl.2.2 hne
    have hall := ds_tl hds hl.1 hl.2.1
    rcases hc with ⟨ho, e⟩ | ⟨ho, hb⟩ | ⟨ho, hb⟩ | ⟨ho, hb⟩ | ⟨ho, hb⟩ | ⟨ho, k', hk, hhas, e⟩ | ⟨ho, k', hk, htu⟩ | ⟨ho, k', hk, hhas, e⟩ | ⟨ho, hhas, e⟩ | ⟨ho, g, hg, htu⟩ | ⟨ho, x, y, hx1, hy1, htu⟩ | ⟨ho, hp⟩
    · obtain ⟨a1, a2⟩ := f0 ho
      exact kw_1 (by omega) a1.2.1 g4
    · obtain ⟨x, y, hx4, hy4, ea, eb, hhas, hw, hT1⟩ := begin_some hb
      have hl1 : tl (T (j + 1)) := by
        rw [hT1]
        refine ⟨fun r hr => ?_, hl.2.1, rfl⟩
        rcases List.mem_cons.mp hr with z | z
        · rw [z]
        · exact hl.1 r z
      rcases ho with ho | ho
      · obtain ⟨q1, p1, m1, m2⟩ := f2 ho
        have hm := ih' hl1
        rw [m2] at hm g2
        have g2 : q1 ≤ Q := g2
        rcases mv_w m1 with ⟨e1, e2⟩ | ⟨e1, e2⟩
        · subst e1 e2
          exact kw_4 hm (by rw [ho]; decide)
        · exact kw_3 (by omega) e2 g4 (by rw [ho]; decide)
      · obtain ⟨q1, p1, m1, m2⟩ := f3 ho
        have hm := ih' hl1
        rcases m2 with ⟨z1, z2⟩ | ⟨z1, z2, z3⟩
        · rw [z2] at hm g2
          have g2 : q1 ≤ Q := g2
          rcases mv_w m1 with ⟨e1, e2⟩ | ⟨e1, e2⟩
          · subst e1
            rw [← e2, z1]
            exact kw_4 hm (by rw [ho]; decide)
          · exact kw_3 (by omega) e2 g4 (by rw [ho]; decide)
        · rw [z3] at g2
          have g2 : q1 + 1 ≤ Q := g2
          obtain ⟨a1, a2⟩ := mv_ci m1 z2
          exact kw_3 (by omega) a2 g4 (by rw [ho]; decide)
    · obtain ⟨q1, p1, e, he, -, m1, m2, m3⟩ := f4 ho
      rw [m3] at g2
      have g2 : q1 + 1 ≤ Q := g2
      obtain ⟨a1, a2⟩ := mv_ci m1 m2
      exact kw_1 (by omega) a2 g4
    · obtain ⟨q1, p1, e, he, -, m1, m2, m3⟩ := f5 ho
      rw [m3] at g2
      have g2 : q1 + 1 ≤ Q := g2
      obtain ⟨a1, a2⟩ := mv_ci m1 m2
      exact kw_3 (by omega) a2 g4 (by rw [ho]; decide)
    · obtain ⟨b, L, hL, -, -, -⟩ := end_some hb
      have hl1 : tl (T (j + 1)) := (tl_end hx hds ho hL rfl).2.mpr (hall b (by rw [hL]; exact List.mem_cons_self))
      obtain ⟨q1, p1, m1, m2⟩ := f11 ho rfl
      have hm := ih' hl1
      rcases m2 with ⟨z1, z2⟩ | ⟨z1, z2, z3⟩
      · rw [z2] at hm g2
        have g2 : q1 ≤ Q := g2
        rcases mv_w m1 with ⟨e1, e2⟩ | ⟨e1, e2⟩
        · subst e1
          rw [← e2, z1]
          exact kw_4 hm (by rw [ho]; decide)
        · exact kw_3 (by omega) e2 g4 (by rw [ho]; decide)
      · rw [z3] at g2
        have g2 : q1 + 1 ≤ Q := g2
        obtain ⟨a1, a2⟩ := mv_ci m1 z2
        exact kw_3 (by omega) a2 g4 (by rw [ho]; decide)
    · obtain ⟨q1, p1, m1, m2, m3⟩ := f12 ho
      obtain ⟨a1, a2⟩ := mv_br m1 m2
      exact kw_1 (by omega) a2 g4
    · obtain ⟨q1, p1, m1, m2, -, m3⟩ := f13 ho
      rw [m3] at g2
      have g2 : q1 + 2 ≤ Q := g2
      obtain ⟨a1, a2⟩ := mv_ci m1 m2
      exact kw_1 (by omega) a2 g4
    · obtain ⟨q1, p1, m1, m2, -, m3⟩ := f14 ho
      obtain ⟨a1, a2⟩ := mv_ci m1 m2
      exact kw_1 (by omega) a2 g4
    · obtain ⟨q1, p1, m1, m2, m3⟩ := f15 ho
      obtain ⟨a1, a2⟩ := mv_ci m1 m2
      exact kw_1 (by omega) a2 g4
    · obtain ⟨q1, p1, m1, m2, m3⟩ := f16 ho
      rw [m3] at g2
      have g2 : q1 + 1 ≤ Q := g2
      obtain ⟨a1, a2⟩ := mv_ci m1 m2
      exact kw_1 (by omega) a2 g4
    · obtain ⟨q1, p1, m1, m2, m3⟩ := f17 ho
      rw [m3] at g2
      have g2 : q1 + 1 ≤ Q := g2
      obtain ⟨a1, a2⟩ := mv_ci m1 m2
      exact kw_1 (by omega) a2 g4
    · obtain ⟨n0, k0, har, hlim, htu⟩ := plain_some hp
      obtain ⟨-, -, hl1⟩ := tl_tu hl htu
      have hm := ih' hl1
      have one : ∀ {X : Int32} {to x y z : Int32} {W1 : Nat → Int32}, ci c (K j).1 X (nI ((K j).2.1 + 1)) to x y z → K (j + 1) = ((K j).1 + 1, 0, W1) → kwt c Q (K j).1 (K j).2.1 (v_o V j) := fun a b => by
        rw [b] at g2
        have g2 : (K j).1 + 1 ≤ Q := g2
        exact kw_1 (by omega) a.2.1 g4
      have non : ∀ {W1 : Nat → Int32}, K (j + 1) = ((K j).1, (K j).2.1 + 1, W1) → kwt c Q (K j).1 (K j).2.1 (v_o V j) := fun b => by
        rw [b] at hm
        exact kw_2 hm
      rcases ar_cases har with ⟨ho, -, -⟩ | ⟨ho, -, -⟩ | ⟨ho, -, -⟩ | ⟨ho, -, -⟩ | ⟨ho, -, -⟩ | ⟨ho, -, -⟩ | ⟨ho, -, -⟩ | ⟨ho, -, -⟩
      · simp only [List.mem_cons, List.not_mem_nil, or_false] at ho
        exact non (f1 ho)
      · simp only [List.mem_cons, List.not_mem_nil, or_false] at ho
        rcases ho with ho | ho | ho
        · exact non (f26 ho)
        · rcases f33 ho with ⟨-, z⟩ | ⟨-, q1, p1, m1, m2, m3⟩
          · exact non z
          · rw [m3] at g2
            have g2 : q1 + 1 ≤ Q := g2
            obtain ⟨a1, a2⟩ := mv_ci m1 m2
            exact kw_1 (by omega) a2 g4
        · obtain ⟨a1, a2⟩ := f36 ho
          exact one a1 a2
      · simp only [List.mem_cons, List.not_mem_nil, or_false] at ho
        obtain ⟨a1, a2⟩ := f27 ho
        exact one a1 a2
      · simp only [List.mem_cons, List.not_mem_nil, or_false] at ho
        rcases ho with ho | ho | ho | ho | ho
        · exact non (f32 ho)
        · obtain ⟨a1, a2⟩ := f35 ho
          exact one a1 a2
        · obtain ⟨a1, a2⟩ := f63 ho
          exact one a1 a2
        · exact non (f65 (Or.inl ho))
        · exact non (f65 (Or.inr ho))
      · by_cases h34 : v_o V j = 34
        · rcases f34 h34 with ⟨-, z⟩ | ⟨-, q1, p1, m1, m2, m3⟩
          · exact non z
          · rw [m3] at g2
            have g2 : q1 + 1 ≤ Q := g2
            obtain ⟨a1, a2⟩ := mv_ci m1 m2
            exact kw_1 (by omega) a2 g4
        · by_cases h64 : v_o V j = 64
          · obtain ⟨a1, a2⟩ := f40 (by rw [h64]; decide)
            exact one a1 a2
          · obtain ⟨a1, a2⟩ := f69 (by
              simp only [List.mem_cons, List.not_mem_nil, or_false] at ho ⊢
              rcases ho with z | z | z | z | z | z
              · exact absurd z h34
              · exact absurd z h64
              · exact Or.inl z
              · exact Or.inr (Or.inl z)
              · exact Or.inr (Or.inr (Or.inl z))
              · exact Or.inr (Or.inr (Or.inr z)))
            exact one a1 a2
      · obtain ⟨a1, a2⟩ := f70 ho
        exact one a1 a2
      · obtain ⟨a1, a2⟩ := f40 (List.mem_append_left [64] ho)
        exact one a1 a2
      · obtain ⟨a1, a2⟩ := f54 ho
        exact one a1 a2
