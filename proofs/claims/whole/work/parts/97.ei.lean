-- ===== what the compiler makes of one place =====
abbrev kT : Type := Nat × Nat × (Nat → Int32)
abbrev kl_T : Type := Nat × Nat × Nat × Bool
def sl (n : Nat) : Nat → Int32 := fun j => nI (n + j)
theorem kw_0 (n : Nat) (W : Nat → Int32) : kw n W 0 = sl n := funext (fun j => if_neg (Nat.not_lt_zero j))
def kl (n : Nat) (W : Nat → Int32) (a : Int32) : Nat → Int32 := fun j => if W j = a then nI (n + j) else W j
-- a label: its beginning, the height below it, what a branch to it wants, is it a LOOP
def lr (V : vw_T) (f : Nat) (L : List lb_T) (k : Nat) : Option kl_T := match L[k]? with
  | none => none
  | some q => some (q.1, v_w V q.1, t_want V f L k, decide (v_o V q.1 = 3))
def lw (r : Nat) : Option kl_T → Nat
  | none => r
  | some b => b.2.2.1
def tg (c : rs_T) (b : Nat) (d : Bool) (e : Nat) : Prop := (d = true ∧ e = b) ∨ (d = false ∧ rA c 10 b = nI e)
def brc (c : rs_T) (n r h : Nat) (Z : Nat → Int32) (lb : Option kl_T) (q w : Nat) : Prop := match lb with
  | none => ci c q 15 (nI w) 0 (nI (n + h - r)) 0 0
  | some b => ∃ e, e < 512 ∧ tg c b.1 b.2.2.2 e ∧ ci c q 12 (nI w) (nI (n + b.2.1)) (nI (n + h - b.2.2.1)) (nI b.2.2.1) (Z e)
def mvf (c : rs_T) (n : Nat) (W : Nat → Int32) (lo h q p q1 p1 : Nat) : Prop := mv c n W (ns n W) (h - lo) lo q p q1 p1
def kcx (c : rs_T) (n i : Nat) (fe : Bool) (o a b : Int32) (h r pa ra : Nat) (lb : Option kl_T) (tb : Nat → Option kl_T) (Z : Nat → Int32) (q p : Nat) (W : Nat → Int32) (K1 : kT) : Prop :=
  (o = 1 → K1 = (q, p + 1, W)) ∧
  (o = 65 ∨ o = 66 → K1 = (q, p + 1, upd W h (nI i ^^^ (-1)))) ∧
  (o = 26 → K1 = (q, p + 1, W)) ∧
  (o = 32 → K1 = (q, p + 1, upd W h a)) ∧
  (o = 33 → (W (h - 1) = a ∧ K1 = (q, p + 1, W)) ∨ (¬ W (h - 1) = a ∧ ∃ q1 p1, mv c n W (fun j => decide (W j = a)) (h - 1) 0 q (p + 1) q1 p1 ∧ ci c q1 200 (nI p1) a (W (h - 1)) 0 0 ∧ K1 = (q1 + 1, 0, kl n W a))) ∧
  (o = 34 → (W (h - 1) = a ∧ K1 = (q, p + 1, upd W (h - 1) (W (h - 1)))) ∨ (¬ W (h - 1) = a ∧ ∃ q1 p1, mv c n W (fun j => decide (W j = a)) (h - 1) 0 q (p + 1) q1 p1 ∧ ci c q1 200 (nI p1) a (W (h - 1)) 0 0 ∧ K1 = (q1 + 1, 0, upd (kl n W a) (h - 1) (W (h - 1))))) ∧
  (o = 27 → ci c q 27 (nI (p + 1)) (nI (n + (h - 3))) (W (h - 3)) (W (h - 2)) (W (h - 1)) ∧ K1 = (q + 1, 0, kw n W (h - 3))) ∧
  (o = 35 → ci c q 35 (nI (p + 1)) (nI (n + h)) 0 0 a ∧ K1 = (q + 1, 0, kw n W h)) ∧
  (o = 36 → ci c q 36 (nI (p + 1)) 0 (W (h - 1)) 0 a ∧ K1 = (q + 1, 0, W)) ∧
  (o ∈ ([40, 41, 42, 43, 44, 45, 46, 47, 48, 49, 50, 51, 52, 53, 64] : List Int32) → ci c q o (nI (p + 1)) (nI (n + (h - 1))) (W (h - 1)) 0 a ∧ K1 = (q + 1, 0, kw n W (h - 1))) ∧
  (o = 63 → ci c q 63 (nI (p + 1)) (nI (n + h)) 0 0 a ∧ K1 = (q + 1, 0, kw n W h)) ∧
  (o ∈ ([54, 55, 56, 57, 58, 59, 60, 61, 62] : List Int32) → ci c q o (nI (p + 1)) 0 (W (h - 2)) (W (h - 1)) a ∧ K1 = (q + 1, 0, W)) ∧
  (o ∈ ([69, 80, 167, 173] : List Int32) → ci c q o (nI (p + 1)) (nI (n + (h - 1))) (W (h - 1)) 0 0 ∧ K1 = (q + 1, 0, kw n W (h - 1))) ∧
  (o ∈ ([70, 71, 72, 73, 81, 83, 106, 107, 108, 110, 113, 116, 124, 125, 126] : List Int32) → ci c q o (nI (p + 1)) (nI (n + (h - 2))) (W (h - 2)) (W (h - 1)) 0 ∧ K1 = (q + 1, 0, kw n W (h - 2))) ∧
  (o = 0 → ci c q 0 (nI (p + 1)) 0 0 0 0 ∧ K1.1 = q + 1) ∧
  (o = 12 → ∃ q1 p1, mvf c n W (h - lw r lb) h q (p + 1) q1 p1 ∧ brc c n r h Z lb q1 p1 ∧ K1.1 = q1 + 1) ∧
  (o = 13 → ∃ q1 p1, mvf c n W (h - 1 - lw r lb) (h - 1) q (p + 1) q1 p1 ∧ ci c q1 13 (nI p1) 0 (W (h - 1)) 0 0 ∧ brc c n r (h - 1) Z lb (q1 + 1) 0 ∧ K1 = (q1 + 2, 0, kw n W (h - 1 - lw r lb))) ∧
  (o = 14 → ∃ q1 p1, mvf c n W (h - 1 - lw r (tb 0)) (h - 1) q (p + 1) q1 p1 ∧ ci c q1 14 (nI p1) 0 (W (h - 1)) a 0 ∧ (∀ j, j ≤ a.toNatClampNeg → brc c n r (h - 1) Z (tb j) (q1 + 1 + j) 0) ∧ K1.1 = q1 + 2 + a.toNatClampNeg) ∧
  (o = 15 → ∃ q1 p1, mvf c n W (h - r) h q (p + 1) q1 p1 ∧ ci c q1 15 (nI p1) 0 (nI (n + h - r)) 0 0 ∧ K1.1 = q1 + 1) ∧
  (o = 16 → ∃ q1 p1, mvf c n W (h - pa) h q (p + 1) q1 p1 ∧ ci c q1 16 (nI p1) 0 (nI (n + (h - pa))) a 0 ∧ K1 = (q1 + 1, 0, kw n W (h - pa))) ∧
  (o = 17 → ∃ q1 p1, mvf c n W (h - 1 - a.toNatClampNeg) (h - 1) q (p + 1) q1 p1 ∧ ci c q1 17 (nI p1) a (nI (n + (h - 1 - a.toNatClampNeg))) (W (h - 1)) b ∧ K1 = (q1 + 1, 0, kw n W (h - 1 - a.toNatClampNeg))) ∧
  (o = 2 → ∃ q1 p1, mvf c n W 0 h q p q1 p1 ∧ K1 = (q1, p1, sl n)) ∧
  (o = 3 → ∃ q1 p1, mvf c n W 0 h q p q1 p1 ∧ ((p1 = 0 ∧ K1 = (q1, 0, sl n)) ∨ (0 < p1 ∧ ci c q1 1 (nI p1) 0 0 0 0 ∧ K1 = (q1 + 1, 0, sl n)))) ∧
  (o = 4 → ∃ q1 p1 e, e < 512 ∧ ((rA c 11 i = -1 ∧ rA c 10 i = nI e) ∨ rA c 11 i = nI e) ∧ mvf c n W 0 (h - 1) q (p + 1) q1 p1 ∧ ci c q1 4 (nI p1) 0 (W (h - 1)) 0 (Z e) ∧ K1 = (q1 + 1, 0, sl n)) ∧
  (o = 5 → ∃ q1 p1 e, e < 512 ∧ rA c 10 i = nI e ∧ mvf c n W 0 h q p q1 p1 ∧ ci c q1 12 (nI p1) 0 0 0 (Z e) ∧ K1 = (q1 + 1, 0, sl n)) ∧
  (o = 11 → fe = false → ∃ q1 p1, mvf c n W 0 h q p q1 p1 ∧ ((p1 = 0 ∧ K1 = (q1, 0, sl n)) ∨ (0 < p1 ∧ ci c q1 1 (nI p1) 0 0 0 0 ∧ K1 = (q1 + 1, 0, sl n)))) ∧
  (o = 11 → fe = true → ∃ q1 p1, mvf c n W 0 h q p q1 p1 ∧ ci c q1 15 (nI p1) 0 (nI n) 0 0 ∧ K1.1 = q1 + 1)
-- the same code elsewhere: jumps may have other numbers for the same targets
def inc (c c1 : rs_T) (Z Z1 : Nat → Int32) (P Q X : Nat) : Prop := (∀ j x, 23 ≤ j → j ≤ 27 → P ≤ x → x < Q → rA c1 j x = rA c j x) ∧ (∀ x, P ≤ x → x < Q → ¬ rA c 23 x = 12 → ¬ rA c 23 x = 4 → rA c1 28 x = rA c 28 x) ∧ (∀ x e, P ≤ x → x < Q → (rA c 23 x = 12 ∨ rA c 23 x = 4) → e < 512 → rA c 28 x = Z e → rA c1 28 x = Z1 e) ∧ ∀ x, x < X → rA c1 10 x = rA c 10 x ∧ rA c1 11 x = rA c 11 x
theorem ci_inc {c c1 : rs_T} {Z Z1 : Nat → Int32} {P Q X q : Nat} {o w to x y z : Int32} (h : inc c c1 Z Z1 P Q X) (hc : ci c q o w to x y z) (hp : P ≤ q) (hq : q < Q) (h12 : ¬ o = 12) (h4 : ¬ o = 4) : ci c1 q o w to x y z := by
  obtain ⟨a1, a2, a3, a4, a5, a6⟩ := hc
  refine ⟨(h.1 23 q (by decide) (by decide) hp hq).trans a1, (h.1 24 q (by decide) (by decide) hp hq).trans a2, (h.1 25 q (by decide) (by decide) hp hq).trans a3, (h.1 26 q (by decide) (by decide) hp hq).trans a4, (h.1 27 q (by decide) (by decide) hp hq).trans a5, (h.2.1 q hp hq ?_ ?_).trans a6⟩
  · rw [a1]; exact h12
  · rw [a1]; exact h4
theorem cj_inc {c c1 : rs_T} {Z Z1 : Nat → Int32} {P Q X q e : Nat} {o w to x y : Int32} (h : inc c c1 Z Z1 P Q X) (hc : ci c q o w to x y (Z e)) (hp : P ≤ q) (hq : q < Q) (ho : o = 12 ∨ o = 4) (he : e < 512) : ci c1 q o w to x y (Z1 e) := by
  obtain ⟨a1, a2, a3, a4, a5, a6⟩ := hc
  exact ⟨(h.1 23 q (by decide) (by decide) hp hq).trans a1, (h.1 24 q (by decide) (by decide) hp hq).trans a2, (h.1 25 q (by decide) (by decide) hp hq).trans a3, (h.1 26 q (by decide) (by decide) hp hq).trans a4, (h.1 27 q (by decide) (by decide) hp hq).trans a5, h.2.2.1 q e hp hq (by rw [a1]; exact ho) he a6⟩
theorem mv_inc {c c1 : rs_T} {Z Z1 : Nat → Int32} {P Q X n : Nat} {W : Nat → Int32} {A : Nat → Bool} (hk : inc c c1 Z Z1 P Q X) : ∀ {k i q p q1 p1 : Nat}, P ≤ q → q1 ≤ Q → mv c n W A k i q p q1 p1 → mv c1 n W A k i q p q1 p1 := by
  intro k
  induction k with
  | zero => intro i q p q1 p1 _ _ h; exact h
  | succ k ih =>
    intro i q p q1 p1 hp hq h
    rcases h with ⟨h1, h3, h2⟩ | ⟨h1, h2⟩
    · have := (mv_q h2).1
      exact Or.inl ⟨h1, ci_inc hk h3 hp (by omega) (by decide) (by decide), ih (by omega) hq h2⟩
    · exact Or.inr ⟨h1, ih hp hq h2⟩
theorem br_inc {c c1 : rs_T} {Z Z1 : Nat → Int32} {P Q X n r h q w : Nat} {lb : Option kl_T} (hk : inc c c1 Z Z1 P Q X) (hp : P ≤ q) (hq : q < Q) (hl : ∀ b, lb = some b → b.1 < X) (hb : brc c n r h Z lb q w) : brc c1 n r h Z1 lb q w := by
  cases lb with
  | none => exact ci_inc hk hb hp hq (by decide) (by decide)
  | some b =>
    obtain ⟨e, he, ht, hc⟩ := hb
    refine ⟨e, he, ?_, cj_inc hk hc hp hq (Or.inl rfl) he⟩
    rcases ht with ⟨h1, h2⟩ | ⟨h1, h2⟩
    · exact Or.inl ⟨h1, h2⟩
    · exact Or.inr ⟨h1, (hk.2.2.2 b.1 (hl b rfl)).1.trans h2⟩
theorem kc_inc {c c1 : rs_T} {n i : Nat} {fe : Bool} {o a b : Int32} {h r pa ra : Nat} {lb : Option kl_T} {tb : Nat → Option kl_T} {Z Z1 : Nat → Int32} {q p P Q X : Nat} {W : Nat → Int32} {K1 : kT} (hk : inc c c1 Z Z1 P Q X) (hP : P ≤ q) (hQ : K1.1 ≤ Q) (hi : i < X) (hl : ∀ x, lb = some x → x.1 < X) (ht : ∀ j x, o = 14 → j ≤ a.toNatClampNeg → tb j = some x → x.1 < X) (hc : kcx c n i fe o a b h r pa ra lb tb Z q p W K1) : kcx c1 n i fe o a b h r pa ra lb tb Z1 q p W K1 := by
  have hkw : ∀ {x : Nat × Nat × (Nat → Int32)}, K1 = x → x.1 ≤ Q := fun e => by rw [← e]; exact hQ
  refine ⟨hc.1, hc.2.1, hc.2.2.1, hc.2.2.2.1, fun z => ?_, fun z => ?_, fun z => ?_, fun z => ?_, fun z => ?_, fun z => ?_, fun z => ?_, fun z => ?_, fun z => ?_, fun z => ?_, fun z => ?_, fun z => ?_, fun z => ?_, fun z => ?_, fun z => ?_, fun z => ?_, fun z => ?_, fun z => ?_, fun z => ?_, fun z => ?_, fun z => ?_, fun z z2 => ?_, fun z z2 => ?_⟩
  · rcases hc.2.2.2.2.1 z with g | ⟨g1, q1, p1, g2, g3, g4⟩
    · exact Or.inl g
    · have e : q1 + 1 ≤ Q := hkw g4
      have m0 := (mv_q g2).1
      exact Or.inr ⟨g1, q1, p1, mv_inc hk hP (by omega) g2, ci_inc hk g3 (by omega) (by omega) (by decide) (by decide), g4⟩
  · rcases hc.2.2.2.2.2.1 z with g | ⟨g1, q1, p1, g2, g3, g4⟩
    · exact Or.inl g
    · have e : q1 + 1 ≤ Q := hkw g4
      have m0 := (mv_q g2).1
      exact Or.inr ⟨g1, q1, p1, mv_inc hk hP (by omega) g2, ci_inc hk g3 (by omega) (by omega) (by decide) (by decide), g4⟩
  · obtain ⟨g1, g2⟩ := hc.2.2.2.2.2.2.1 z
    have e : q + 1 ≤ Q := hkw g2
    exact ⟨ci_inc hk g1 (by omega) (by omega) (by decide) (by decide), g2⟩
  · obtain ⟨g1, g2⟩ := hc.2.2.2.2.2.2.2.1 z
    have e : q + 1 ≤ Q := hkw g2
    exact ⟨ci_inc hk g1 (by omega) (by omega) (by decide) (by decide), g2⟩
  · obtain ⟨g1, g2⟩ := hc.2.2.2.2.2.2.2.2.1 z
    have e : q + 1 ≤ Q := hkw g2
    exact ⟨ci_inc hk g1 (by omega) (by omega) (by decide) (by decide), g2⟩
  · obtain ⟨g1, g2⟩ := hc.2.2.2.2.2.2.2.2.2.1 z
    have e : q + 1 ≤ Q := hkw g2
    exact ⟨ci_inc hk g1 (by omega) (by omega) (fun y => by rw [y] at z; exact absurd z (by decide)) (fun y => by rw [y] at z; exact absurd z (by decide)), g2⟩
  · obtain ⟨g1, g2⟩ := hc.2.2.2.2.2.2.2.2.2.2.1 z
    have e : q + 1 ≤ Q := hkw g2
    exact ⟨ci_inc hk g1 (by omega) (by omega) (by decide) (by decide), g2⟩
  · obtain ⟨g1, g2⟩ := hc.2.2.2.2.2.2.2.2.2.2.2.1 z
    have e : q + 1 ≤ Q := hkw g2
    exact ⟨ci_inc hk g1 (by omega) (by omega) (fun y => by rw [y] at z; exact absurd z (by decide)) (fun y => by rw [y] at z; exact absurd z (by decide)), g2⟩
  · obtain ⟨g1, g2⟩ := hc.2.2.2.2.2.2.2.2.2.2.2.2.1 z
    have e : q + 1 ≤ Q := hkw g2
    exact ⟨ci_inc hk g1 (by omega) (by omega) (fun y => by rw [y] at z; exact absurd z (by decide)) (fun y => by rw [y] at z; exact absurd z (by decide)), g2⟩
  · obtain ⟨g1, g2⟩ := hc.2.2.2.2.2.2.2.2.2.2.2.2.2.1 z
    have e : q + 1 ≤ Q := hkw g2
    exact ⟨ci_inc hk g1 (by omega) (by omega) (fun y => by rw [y] at z; exact absurd z (by decide)) (fun y => by rw [y] at z; exact absurd z (by decide)), g2⟩
  · obtain ⟨g1, g2⟩ := hc.2.2.2.2.2.2.2.2.2.2.2.2.2.2.1 z
    exact ⟨ci_inc hk g1 (by omega) (by omega) (by decide) (by decide), g2⟩
  · obtain ⟨q1, p1, g1, g2, g3⟩ := hc.2.2.2.2.2.2.2.2.2.2.2.2.2.2.2.1 z
    have m0 := (mv_q g1).1
    exact ⟨q1, p1, mv_inc hk hP (by omega) g1, br_inc hk (by omega) (by omega) hl g2, g3⟩
  · obtain ⟨q1, p1, g1, g2, g3, g4⟩ := hc.2.2.2.2.2.2.2.2.2.2.2.2.2.2.2.2.1 z
    have e : q1 + 2 ≤ Q := hkw g4
    have m0 := (mv_q g1).1
    exact ⟨q1, p1, mv_inc hk hP (by omega) g1, ci_inc hk g2 (by omega) (by omega) (by decide) (by decide), br_inc hk (by omega) (by omega) hl g3, g4⟩
  · obtain ⟨q1, p1, g1, g2, g3, g4⟩ := hc.2.2.2.2.2.2.2.2.2.2.2.2.2.2.2.2.2.1 z
    have m0 := (mv_q g1).1
    exact ⟨q1, p1, mv_inc hk hP (by omega) g1, ci_inc hk g2 (by omega) (by omega) (by decide) (by decide), fun j hj => br_inc hk (by omega) (by omega) (fun x hx => ht j x z hj hx) (g3 j hj), g4⟩
  · obtain ⟨q1, p1, g1, g2, g3⟩ := hc.2.2.2.2.2.2.2.2.2.2.2.2.2.2.2.2.2.2.1 z
    have m0 := (mv_q g1).1
    exact ⟨q1, p1, mv_inc hk hP (by omega) g1, ci_inc hk g2 (by omega) (by omega) (by decide) (by decide), g3⟩
  · obtain ⟨q1, p1, g1, g2, g3⟩ := hc.2.2.2.2.2.2.2.2.2.2.2.2.2.2.2.2.2.2.2.1 z
    have e : q1 + 1 ≤ Q := hkw g3
    have m0 := (mv_q g1).1
    exact ⟨q1, p1, mv_inc hk hP (by omega) g1, ci_inc hk g2 (by omega) (by omega) (by decide) (by decide), g3⟩
  · obtain ⟨q1, p1, g1, g2, g3⟩ := hc.2.2.2.2.2.2.2.2.2.2.2.2.2.2.2.2.2.2.2.2.1 z
    have e : q1 + 1 ≤ Q := hkw g3
    have m0 := (mv_q g1).1
    exact ⟨q1, p1, mv_inc hk hP (by omega) g1, ci_inc hk g2 (by omega) (by omega) (by decide) (by decide), g3⟩
  · obtain ⟨q1, p1, g1, g2⟩ := hc.2.2.2.2.2.2.2.2.2.2.2.2.2.2.2.2.2.2.2.2.2.1 z
    have e : q1 ≤ Q := hkw g2
    have m0 := (mv_q g1).1
    exact ⟨q1, p1, mv_inc hk hP (by omega) g1, g2⟩
  · obtain ⟨q1, p1, g1, ⟨g2, g3⟩ | ⟨g2, g3, g4⟩⟩ := hc.2.2.2.2.2.2.2.2.2.2.2.2.2.2.2.2.2.2.2.2.2.2.1 z
    · have e : q1 ≤ Q := hkw g3
      have m0 := (mv_q g1).1
      exact ⟨q1, p1, mv_inc hk hP (by omega) g1, Or.inl ⟨g2, g3⟩⟩
    · have e : q1 + 1 ≤ Q := hkw g4
      have m0 := (mv_q g1).1
      exact ⟨q1, p1, mv_inc hk hP (by omega) g1, Or.inr ⟨g2, ci_inc hk g3 (by omega) (by omega) (by decide) (by decide), g4⟩⟩
  · obtain ⟨q1, p1, e, he, g0, g1, g2, g3⟩ := hc.2.2.2.2.2.2.2.2.2.2.2.2.2.2.2.2.2.2.2.2.2.2.2.1 z
    have e1 : q1 + 1 ≤ Q := hkw g3
    have m0 := (mv_q g1).1
    refine ⟨q1, p1, e, he, ?_, mv_inc hk hP (by omega) g1, cj_inc hk g2 (by omega) (by omega) (Or.inr rfl) he, g3⟩
    rw [(hk.2.2.2 i hi).1, (hk.2.2.2 i hi).2]; exact g0
  · obtain ⟨q1, p1, e, he, g0, g1, g2, g3⟩ := hc.2.2.2.2.2.2.2.2.2.2.2.2.2.2.2.2.2.2.2.2.2.2.2.2.1 z
    have e1 : q1 + 1 ≤ Q := hkw g3
    have m0 := (mv_q g1).1
    refine ⟨q1, p1, e, he, ?_, mv_inc hk hP (by omega) g1, cj_inc hk g2 (by omega) (by omega) (Or.inl rfl) he, g3⟩
    rw [(hk.2.2.2 i hi).1]; exact g0
  · obtain ⟨q1, p1, g1, ⟨g2, g3⟩ | ⟨g2, g3, g4⟩⟩ := hc.2.2.2.2.2.2.2.2.2.2.2.2.2.2.2.2.2.2.2.2.2.2.2.2.2.1 z z2
    · have e : q1 ≤ Q := hkw g3
      have m0 := (mv_q g1).1
      exact ⟨q1, p1, mv_inc hk hP (by omega) g1, Or.inl ⟨g2, g3⟩⟩
    · have e : q1 + 1 ≤ Q := hkw g4
      have m0 := (mv_q g1).1
      exact ⟨q1, p1, mv_inc hk hP (by omega) g1, Or.inr ⟨g2, ci_inc hk g3 (by omega) (by omega) (by decide) (by decide), g4⟩⟩
  · obtain ⟨q1, p1, g1, g2, g3⟩ := hc.2.2.2.2.2.2.2.2.2.2.2.2.2.2.2.2.2.2.2.2.2.2.2.2.2.2 z z2
    have m0 := (mv_q g1).1
    exact ⟨q1, p1, mv_inc hk hP (by omega) g1, ci_inc hk g2 (by omega) (by omega) (by decide) (by decide), g3⟩
