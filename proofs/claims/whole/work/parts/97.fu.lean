-- ===== a frame is made: the reference, the class =====
def mEn (m m1 : rs_T) (g D A s p n ms S0 i : Nat) (x : Int32) : Prop := rI m1 14 = nI (A + (n + ms)) ∧ rI m1 12 = nI (D + 1) ∧ rI m1 13 = nI (s + n) ∧ rI m1 15 = nI S0 ∧ (∀ k, ¬ k = 12 → ¬ k = 13 → ¬ k = 14 → ¬ k = 15 → rI m1 k = rI m k) ∧ rA m1 18 D = nI g ∧ rA m1 19 D = nI s ∧ rA m1 20 D = nI (i + 1) ∧ rA m1 21 g = rA m 21 g + 1 ∧ rA m1 22 g = x ∧ (∀ j y, ¬ (18 ≤ j ∧ j ≤ 20 ∧ y = D) → ¬ (21 ≤ j ∧ j ≤ 22 ∧ y = g) → rA m1 j y = rA m j y) ∧ (∀ j y, ¬ j = 2 → rL m1 j y = rL m j y) ∧ (∀ y, y < s + p → rL m1 2 y = rL m 2 y) ∧ ∀ y, s + p ≤ y → y < s + n → rL m1 2 y = 0
theorem en_loop {N g v V S0 : Nat} {m : rs_T} (hg : g < 40) (hV : V + v ≤ 690) (h4 : rA m 4 g = nI v) (h0 : rA m 0 g = nI S0) : ∀ (d fu i : Nat) (m1 : rs_T), i + d = v → d < fu → rI m1 13 = nI (V + i) → (∀ k, ¬ k = 13 → rI m1 k = rI m k) → (∀ j y, rA m1 j y = rA m j y) → (∀ j y, ¬ j = 2 → rL m1 j y = rL m j y) → (∀ y, y < V → rL m1 2 y = rL m 2 y) → (∀ y, V ≤ y → y < V + i → rL m1 2 y = 0) → ∃ m2, fx_Md_enter_b152 N fu (nI g) (nI i) m1 = some m2 ∧ rI m2 13 = nI (V + v) ∧ rI m2 15 = nI S0 ∧ (∀ k, ¬ k = 13 → ¬ k = 15 → rI m2 k = rI m k) ∧ (∀ j y, rA m2 j y = rA m j y) ∧ (∀ j y, ¬ j = 2 → rL m2 j y = rL m j y) ∧ (∀ y, y < V → rL m2 2 y = rL m 2 y) ∧ ∀ y, V ≤ y → y < V + v → rL m2 2 y = 0 := by
  intro d
  induction d with
  | zero =>
    intro fu i m1 hi hfu h13 h1 h2 h3 h5 h6
    obtain ⟨fu, rfl⟩ : ∃ g, fu = g + 1 := ⟨fu - 1, by omega⟩
    have : i = v := by omega
    subst this
    refine ⟨wI m1 15 (nI S0), ?_, by rw [rI_wn (by decide)]; exact h13, by rw [rI_ws], fun k k1 k2 => by rw [rI_wn k2]; exact h1 k k1, h2, h3, h5, h6⟩
    unfold fx_Md_enter_b152
    rw [gd_k hg (by omega), nI_clamp (by omega), h2, h4, if_pos (Int32.le_refl _), gd_k hg (by omega), h2, h0]
  | succ d ih =>
    intro fu i m1 hi hfu h13 h1 h2 h3 h5 h6
    obtain ⟨fu, rfl⟩ : ∃ g, fu = g + 1 := ⟨fu - 1, by omega⟩
    unfold fx_Md_enter_b152
    rw [gd_k hg (by omega), nI_clamp (by omega), h2, h4, if_neg (nI_ge (by omega) (by omega)), m_push h13 (by omega), bv_s, bd_s, nI_1]
    refine ih fu (i + 1) _ (by omega) (by omega) (by rw [rI_ws, Nat.add_assoc]) (fun k hk => by rw [rI_wn hk, rI_wL]; exact h1 k hk) (fun j y => by rw [rA_wI, rA_wL]; exact h2 j y) (fun j y hj => by rw [rL_wI, rL_wn hj]; exact h3 j y hj) (fun y hy => by rw [rL_wI, rL_wsn (by omega)]; exact h5 y hy) (fun y y1 y2 => ?_)
    rw [rL_wI]
    by_cases z : y = V + i
    · subst z; rw [rL_wss]
    · rw [rL_wsn z]; exact h6 y y1 (by omega)
theorem en_M {N : Nat} {m : rs_T} {g D A s p v ms S0 i : Nat} (hg : g < 40) (hD : D < 30) (h12 : rI m 12 = nI D) (h14 : rI m 14 = nI A) (h13 : rI m 13 = nI (s + p)) (h15 : rI m 15 = nI i) (h2 : rA m 2 g = nI p) (h4 : rA m 4 g = nI v) (h5 : rA m 5 g = nI ms) (h0 : rA m 0 g = nI S0) (hp : p ≤ 8) (hv : v ≤ 8) (hms : ms ≤ 5000) (hA : A ≤ 220) (hV : s + p + v ≤ 690) (hN : 1000 ≤ N) (h22 : rA m 22 g = 0 ∨ rA m 22 g = 1) : (A + (p + v + ms) ≤ 220 → ∃ m1, fx_Md_enter N (nI g) m = some m1 ∧ mEn m m1 g D A s p (p + v) ms S0 i (if rA m 22 g = 1 ∨ (¬ rI m 17 ≤ 0 ∧ ¬ rA m 21 g + 1 < rI m 17) then 1 else 0)) ∧ (¬ A + (p + v + ms) ≤ 220 → fx_Md_enter N (nI g) m = some (wI m 9 4)) := by
  have hask : ∀ st : rs_T, (∀ j y, rA st j y = rA m j y) → fx_Md_asks (nI g) st = some (nI (p + v + ms), st) := fun st hst => by
    unfold fx_Md_asks fx_Md_namesOf
    rw [gd_k hg (by omega), gd_k hg (by omega), nI_clamp (by omega), bn_s, gd_k hg (by omega), hst, hst, hst, h2, h4, h5, nI_add, nI_add]
  have h30 : ¬ nI D = (30 : Int32) := fun z => by
    have : D = 30 := (eq_lit (k := 30) (show D < 2 ^ 31 by omega) (by omega)).mp z
    omega
  refine ⟨fun hle => ?_, fun hle => ?_⟩
  · have hle2 : nI (A + (p + v + ms)) ≤ (220 : Int32) := (le_lit (k := 220) (show A + (p + v + ms) < 2 ^ 31 by omega) (by omega)).mpr hle
    obtain ⟨m0, em0⟩ : ∃ m0, m0 = wA (wI (wA (wA (wA (wI m 14 (nI (A + (p + v + ms)))) 18 D (nI g)) 19 D (nI s)) 20 D (nI (i + 1))) 12 (nI (D + 1))) 21 g (rA m 21 g + 1) := ⟨_, rfl⟩
    have key : ∀ x : Int32, (x = 0 ∨ x = 1) → ∃ m1, fx_Md_enter_b149 N (nI g) x (nI g) m0 = some m1 ∧ mEn m m1 g D A s p (p + v) ms S0 i x := fun x hx => by
      obtain ⟨m1, l1, l2, l3, l4, l5, l6, l7, l8⟩ := en_loop (N := N) (g := g) (v := v) (V := s + p) (S0 := S0) (m := wA m0 22 g x) hg (by omega) (by rw [em0]; simp (disch := omega) only [bn_s, bv_s, bd_s, gb_0, gb_1, rI_ws, rI_wn, rI_wA, rI_wL, rA_wI, rA_wL, rL_wI, rL_wA, rA_wss, rA_wn, rA_wsn, rL_wss, rL_wn, rL_wsn, rN_wI, rN_wA, rN_wL]; exact h4) (by rw [em0]; simp (disch := omega) only [bn_s, bv_s, bd_s, gb_0, gb_1, rI_ws, rI_wn, rI_wA, rI_wL, rA_wI, rA_wL, rL_wI, rL_wA, rA_wss, rA_wn, rA_wsn, rL_wss, rL_wn, rL_wsn, rN_wI, rN_wA, rN_wL]; exact h0) v N 0 (wA m0 22 g x) (by omega) (by omega) (by rw [em0]; simp (disch := omega) only [bn_s, bv_s, bd_s, gb_0, gb_1, rI_ws, rI_wn, rI_wA, rI_wL, rA_wI, rA_wL, rL_wI, rL_wA, rA_wss, rA_wn, rA_wsn, rL_wss, rL_wn, rL_wsn, rN_wI, rN_wA, rN_wL]; exact h13) (fun _ _ => rfl) (fun _ _ => rfl) (fun _ _ _ => rfl) (fun _ _ => rfl) (fun y y1 y2 => by omega)
      refine ⟨m1, ?_, ?_, ?_, by rw [l2, Nat.add_assoc], l3, fun k k1 k2 k3 k4 => ?_, ?_, ?_, ?_, ?_, ?_, fun j y y1 y2 => ?_, fun j y hj => ?_, fun y hy => ?_, fun y y1 y2 => l8 y y1 (by omega)⟩
      · unfold fx_Md_enter_b149
        have hgb : ∀ (z : Option rs_T), gb x z = z := fun z => by
          unfold gb
          rw [if_pos hx]
        rw [gd_k hg (by omega), hgb, nI_clamp (by omega)]
        exact l1
      · rw [l4 14 (by decide) (by decide), em0]; simp (disch := omega) only [bn_s, bv_s, bd_s, gb_0, gb_1, rI_ws, rI_wn, rI_wA, rI_wL, rA_wI, rA_wL, rL_wI, rL_wA, rA_wss, rA_wn, rA_wsn, rL_wss, rL_wn, rL_wsn, rN_wI, rN_wA, rN_wL]
      · rw [l4 12 (by decide) (by decide), em0]; simp (disch := omega) only [bn_s, bv_s, bd_s, gb_0, gb_1, rI_ws, rI_wn, rI_wA, rI_wL, rA_wI, rA_wL, rL_wI, rL_wA, rA_wss, rA_wn, rA_wsn, rL_wss, rL_wn, rL_wsn, rN_wI, rN_wA, rN_wL]
      · rw [l4 k k2 k4, em0]; simp (disch := omega) only [bn_s, bv_s, bd_s, gb_0, gb_1, rI_ws, rI_wn, rI_wA, rI_wL, rA_wI, rA_wL, rL_wI, rL_wA, rA_wss, rA_wn, rA_wsn, rL_wss, rL_wn, rL_wsn, rN_wI, rN_wA, rN_wL]
      · rw [l5, em0]; simp (disch := omega) only [bn_s, bv_s, bd_s, gb_0, gb_1, rI_ws, rI_wn, rI_wA, rI_wL, rA_wI, rA_wL, rL_wI, rL_wA, rA_wss, rA_wn, rA_wsn, rL_wss, rL_wn, rL_wsn, rN_wI, rN_wA, rN_wL]
      · rw [l5, em0]; simp (disch := omega) only [bn_s, bv_s, bd_s, gb_0, gb_1, rI_ws, rI_wn, rI_wA, rI_wL, rA_wI, rA_wL, rL_wI, rL_wA, rA_wss, rA_wn, rA_wsn, rL_wss, rL_wn, rL_wsn, rN_wI, rN_wA, rN_wL]
      · rw [l5, em0]; simp (disch := omega) only [bn_s, bv_s, bd_s, gb_0, gb_1, rI_ws, rI_wn, rI_wA, rI_wL, rA_wI, rA_wL, rL_wI, rL_wA, rA_wss, rA_wn, rA_wsn, rL_wss, rL_wn, rL_wsn, rN_wI, rN_wA, rN_wL]
      · rw [l5, em0]; simp (disch := omega) only [bn_s, bv_s, bd_s, gb_0, gb_1, rI_ws, rI_wn, rI_wA, rI_wL, rA_wI, rA_wL, rL_wI, rL_wA, rA_wss, rA_wn, rA_wsn, rL_wss, rL_wn, rL_wsn, rN_wI, rN_wA, rN_wL]
      · rw [l5]; simp (disch := omega) only [bn_s, bv_s, bd_s, gb_0, gb_1, rI_ws, rI_wn, rI_wA, rI_wL, rA_wI, rA_wL, rL_wI, rL_wA, rA_wss, rA_wn, rA_wsn, rL_wss, rL_wn, rL_wsn, rN_wI, rN_wA, rN_wL]
      · rw [l5, rA_wA, if_neg (fun z => y2 ⟨by omega, by omega, z.2⟩), em0, rA_wA, if_neg (fun z => y2 ⟨by omega, by omega, z.2⟩), rA_wI, rA_wA, if_neg (fun z => y1 ⟨by omega, by omega, z.2⟩), rA_wA, if_neg (fun z => y1 ⟨by omega, by omega, z.2⟩), rA_wA, if_neg (fun z => y1 ⟨by omega, by omega, z.2⟩), rA_wI]
      · rw [l6 j y hj, em0]; rfl
      · rw [l7 y hy, em0]; rfl
    have hpre : fx_Md_enter N (nI g) m = (if (rA m 22 g) = (0 : Int32) then (if (rI m 17) ≤ (0 : Int32) then (fx_Md_enter_b149 N (nI g) 0 (nI g) m0) else (if rA m 21 g + 1 < (rI m 17) then (fx_Md_enter_b149 N (nI g) 0 (nI g) m0) else (fx_Md_enter_b149 N (nI g) 1 (nI g) m0))) else (fx_Md_enter_b149 N (nI g) 1 (nI g) m0)) := by
      unfold fx_Md_enter fx_Md_enter_b148 fx_Md_enter_b144
      rw [h12, if_neg h30, hask m (fun _ _ => rfl), bn_s, h14, nI_add, if_pos hle2, hask m (fun _ _ => rfl), bn_s, h12, gd_k (by first | omega | (simp only [rN_wI, rN_wA, rN_wL]; omega)) (by first | omega | (simp only [rN_wI, rN_wA, rN_wL]; omega)), gd_k hg (by omega), gd_k (by first | omega | (simp only [rN_wI, rN_wA, rN_wL]; omega)) (by first | omega | (simp only [rN_wI, rN_wA, rN_wL]; omega)), gd_k (by first | omega | (simp only [rN_wI, rN_wA, rN_wL]; omega)) (by first | omega | (simp only [rN_wI, rN_wA, rN_wL]; omega)), gd_k hg (by omega), gd_k hg (by omega), gd_k hg (by omega), nI_clamp (by omega), nI_clamp (by omega), h13, h2, nI_sub (by omega), show s + p - p = s by omega, h15, nI_1, nI_1, nI_add, gd_k hg (by omega), ← em0]
      have e21 : rA m0 21 g = rA m 21 g + 1 := by rw [em0]; simp (disch := omega) only [bn_s, bv_s, bd_s, gb_0, gb_1, rI_ws, rI_wn, rI_wA, rI_wL, rA_wI, rA_wL, rL_wI, rL_wA, rA_wss, rA_wn, rA_wsn, rL_wss, rL_wn, rL_wsn, rN_wI, rN_wA, rN_wL]
      rw [e21]
    rw [hpre]
    rcases h22 with z | z
    · rw [if_pos z]
      by_cases c1 : rI m 17 ≤ 0
      · rw [if_pos c1, if_neg (fun y => by rcases y with y | y; · rw [z] at y; exact absurd y (by decide)
                                           · exact y.1 c1)]
        exact key 0 (Or.inl rfl)
      · rw [if_neg c1]
        by_cases c2 : rA m 21 g + 1 < rI m 17
        · rw [if_pos c2, if_neg (fun y => by rcases y with y | y; · rw [z] at y; exact absurd y (by decide)
                                             · exact y.2 c2)]
          exact key 0 (Or.inl rfl)
        · rw [if_neg c2, if_pos (Or.inr ⟨c1, c2⟩)]
          exact key 1 (Or.inr rfl)
    · rw [if_neg (by rw [z]; decide), if_pos (Or.inl z)]
      exact key 1 (Or.inr rfl)
  · have hle2 : ¬ nI (A + (p + v + ms)) ≤ (220 : Int32) := fun z => hle ((le_lit (k := 220) (show A + (p + v + ms) < 2 ^ 31 by omega) (by omega)).mp z)
    unfold fx_Md_enter fx_Md_enter_b25
    rw [h12, if_neg h30, hask m (fun _ _ => rfl), bn_s, h14, nI_add, if_neg hle2]
def cEn (c c1 : rs_T) (g D A p n ms S0 : Nat) (X : Nat → Int64) : Prop := rI c1 14 = nI (D + 1) ∧ rI c1 18 = nI (A + (n + ms)) ∧ rI c1 16 = 1 ∧ (∀ k, ¬ k = 14 → ¬ k = 16 → ¬ k = 18 → rI c1 k = rI c k) ∧ rA c1 17 D = nI g ∧ rA c1 18 D = nI S0 ∧ rA c1 19 D = nI A ∧ rA c1 20 D = nI (A + n) ∧ rA c1 21 D = 0 ∧ (∀ j y, ¬ (17 ≤ j ∧ j ≤ 21 ∧ y = D) → rA c1 j y = rA c j y) ∧ (∀ j y, ¬ (j = 2 ∧ A ≤ y ∧ y < A + n) → rL c1 j y = rL c j y) ∧ (∀ x, x < p → x < n → rL c1 2 (A + x) = X x) ∧ ∀ x, p ≤ x → x < n → rL c1 2 (A + x) = 0
theorem env_loop {N g D A p n ms S0 fr : Nat} {c : rs_T} (hg : g < 40) (hD : D < 30) (h14 : rI c 14 = nI D) (h18 : rI c 18 = nI A) (h4 : rA c 4 g = nI S0) (hA : A + n ≤ 220) (hfr : fr + p ≤ A) (hn : n ≤ 16) (hms : ms ≤ 5000) : ∀ (d fu i : Nat) (c1 : rs_T), i + d = n → d < fu → (∀ k, rI c1 k = rI c k) → (∀ j y, rA c1 j y = rA c j y) → (∀ j y, ¬ (j = 2 ∧ A ≤ y ∧ y < A + n) → rL c1 j y = rL c j y) → (∀ x, x < p → x < i → rL c1 2 (A + x) = rL c 2 (fr + x)) → (∀ x, p ≤ x → x < i → rL c1 2 (A + x) = 0) → ∃ c2, fx_Ac_enter_v_b85 N fu (nI g) (nI fr) (nI n) (nI p) (nI (n + ms)) (nI i) c1 = some c2 ∧ cEn c c2 g D A p n ms S0 (fun x => rL c 2 (fr + x)) := by
  intro d
  induction d with
  | zero =>
    intro fu i c1 hi hfu h1 h2 h3 h5 h6
    obtain ⟨fu, rfl⟩ : ∃ g, fu = g + 1 := ⟨fu - 1, by omega⟩
    have : i = n := by omega
    subst this
    refine ⟨wI (wI (wI (wA (wA (wA (wA (wA c1 17 D (nI g)) 18 D (nI S0)) 19 D (nI A)) 20 D (nI (A + i))) 21 D 0) 14 (nI (D + 1))) 18 (nI (A + (i + ms)))) 16 1, ?_, ?_, ?_, ?_, fun k k1 k2 k3 => ?_, ?_, ?_, ?_, ?_, ?_, fun j y hy => ?_, fun j y hy => ?_, fun x x1 x2 => ?_, fun x x1 x2 => ?_⟩
    · unfold fx_Ac_enter_v_b85
      rw [if_pos (Int32.le_refl _), h1 14, h14, gd_k hD (by omega), gd_k hg (by omega), gd_k hD (by omega), gd_k hD (by omega), gd_k hD (by omega), gd_k hD (by omega), nI_clamp (by omega), nI_clamp (by omega), h2 4, h4, h1 18, h18, nI_add, nI_add, nI_1]
    · simp (disch := omega) only [bn_s, bv_s, bd_s, gb_0, gb_1, rI_ws, rI_wn, rI_wA, rI_wL, rA_wI, rA_wL, rL_wI, rL_wA, rA_wss, rA_wn, rA_wsn, rL_wss, rL_wn, rL_wsn, rN_wI, rN_wA, rN_wL]
    · simp (disch := omega) only [bn_s, bv_s, bd_s, gb_0, gb_1, rI_ws, rI_wn, rI_wA, rI_wL, rA_wI, rA_wL, rL_wI, rL_wA, rA_wss, rA_wn, rA_wsn, rL_wss, rL_wn, rL_wsn, rN_wI, rN_wA, rN_wL]
    · simp (disch := omega) only [bn_s, bv_s, bd_s, gb_0, gb_1, rI_ws, rI_wn, rI_wA, rI_wL, rA_wI, rA_wL, rL_wI, rL_wA, rA_wss, rA_wn, rA_wsn, rL_wss, rL_wn, rL_wsn, rN_wI, rN_wA, rN_wL]
    · simp (disch := omega) only [bn_s, bv_s, bd_s, gb_0, gb_1, rI_ws, rI_wn, rI_wA, rI_wL, rA_wI, rA_wL, rL_wI, rL_wA, rA_wss, rA_wn, rA_wsn, rL_wss, rL_wn, rL_wsn, rN_wI, rN_wA, rN_wL]; exact h1 k
    · simp (disch := omega) only [bn_s, bv_s, bd_s, gb_0, gb_1, rI_ws, rI_wn, rI_wA, rI_wL, rA_wI, rA_wL, rL_wI, rL_wA, rA_wss, rA_wn, rA_wsn, rL_wss, rL_wn, rL_wsn, rN_wI, rN_wA, rN_wL]
    · simp (disch := omega) only [bn_s, bv_s, bd_s, gb_0, gb_1, rI_ws, rI_wn, rI_wA, rI_wL, rA_wI, rA_wL, rL_wI, rL_wA, rA_wss, rA_wn, rA_wsn, rL_wss, rL_wn, rL_wsn, rN_wI, rN_wA, rN_wL]
    · simp (disch := omega) only [bn_s, bv_s, bd_s, gb_0, gb_1, rI_ws, rI_wn, rI_wA, rI_wL, rA_wI, rA_wL, rL_wI, rL_wA, rA_wss, rA_wn, rA_wsn, rL_wss, rL_wn, rL_wsn, rN_wI, rN_wA, rN_wL]
    · simp (disch := omega) only [bn_s, bv_s, bd_s, gb_0, gb_1, rI_ws, rI_wn, rI_wA, rI_wL, rA_wI, rA_wL, rL_wI, rL_wA, rA_wss, rA_wn, rA_wsn, rL_wss, rL_wn, rL_wsn, rN_wI, rN_wA, rN_wL]
    · simp (disch := omega) only [bn_s, bv_s, bd_s, gb_0, gb_1, rI_ws, rI_wn, rI_wA, rI_wL, rA_wI, rA_wL, rL_wI, rL_wA, rA_wss, rA_wn, rA_wsn, rL_wss, rL_wn, rL_wsn, rN_wI, rN_wA, rN_wL]
    · rw [rA_wI, rA_wI, rA_wI, rA_wA, if_neg (fun z => hy ⟨by omega, by omega, z.2⟩), rA_wA, if_neg (fun z => hy ⟨by omega, by omega, z.2⟩), rA_wA, if_neg (fun z => hy ⟨by omega, by omega, z.2⟩), rA_wA, if_neg (fun z => hy ⟨by omega, by omega, z.2⟩), rA_wA, if_neg (fun z => hy ⟨by omega, by omega, z.2⟩)]
      exact h2 j y
    · exact h3 j y hy
    · exact h5 x x1 x2
    · exact h6 x x1 x2
  | succ d ih =>
    intro fu i c1 hi hfu h1 h2 h3 h5 h6
    obtain ⟨fu, rfl⟩ : ∃ g, fu = g + 1 := ⟨fu - 1, by omega⟩
    have hcont : ∀ v : Int64, (i < p → v = rL c 2 (fr + i)) → (p ≤ i → v = 0) → ∃ c2, fx_Ac_enter_v_b85 N fu (nI g) (nI fr) (nI n) (nI p) (nI (n + ms)) (nI (i + 1)) (wL c1 2 (A + i) v) = some c2 ∧ cEn c c2 g D A p n ms S0 (fun x => rL c 2 (fr + x)) := fun v v1 v2 => by
      refine ih fu (i + 1) (wL c1 2 (A + i) v) (by omega) (by omega) (fun k => by rw [rI_wL]; exact h1 k) (fun j y => by rw [rA_wL]; exact h2 j y) (fun j y hy => ?_) (fun x x1 x2 => ?_) (fun x x1 x2 => ?_)
      · rw [rL_wL, if_neg (fun z => hy ⟨z.1, by omega, by omega⟩)]; exact h3 j y hy
      · by_cases z : x = i
        · subst z; rw [rL_wss]; exact v1 x1
        · rw [rL_wsn (by omega)]; exact h5 x x1 (by omega)
      · by_cases z : x = i
        · subst z; rw [rL_wss]; exact v2 x1
        · rw [rL_wsn (by omega)]; exact h6 x x1 (by omega)
    have hz : fx_Ac_enter_v_b119 N (fx_Ac_enter_v_b85 N fu) (nI g) (nI fr) (nI n) (nI p) (nI (n + ms)) (nI i) c1 = fx_Ac_enter_v_b85 N fu (nI g) (nI fr) (nI n) (nI p) (nI (n + ms)) (nI (i + 1)) (wL c1 2 (A + i) 0) := by
      unfold fx_Ac_enter_v_b119 fx_Ac_enter_v_b120 fx_Ac_enter_v_b148
      rw [if_pos rfl, h1 18, h18, nI_add, gd_k (by first | omega | (simp only [rN_wI, rN_wA, rN_wL]; omega)) (by first | omega | (simp only [rN_wI, rN_wA, rN_wL]; omega)), bd_s, nI_1, nI_clamp (by omega)]
    unfold fx_Ac_enter_v_b85
    rw [if_neg (nI_ge (by omega) (by omega))]
    by_cases hip : i < p
    · have hlt : ¬ (220 : Int32) ≤ nI (fr + i) := fun z => by
        have : 220 ≤ fr + i := (lit_le (k := 220) (show fr + i < 2 ^ 31 by omega) (by omega)).mp z
        omega
      rw [if_neg (nI_ge (by omega) (by omega)), nI_add, if_neg (nI_pos (by omega)), if_neg hlt]
      unfold fx_Ac_enter_v_b120 fx_Ac_enter_v_b148
      rw [if_neg (by decide), nI_add, gd_k (by first | omega | (simp only [rN_wI, rN_wA, rN_wL]; omega)) (by first | omega | (simp only [rN_wI, rN_wA, rN_wL]; omega)), h1 18, h18, nI_add, gd_k (by first | omega | (simp only [rN_wI, rN_wA, rN_wL]; omega)) (by first | omega | (simp only [rN_wI, rN_wA, rN_wL]; omega)), bd_s, nI_1, nI_clamp (by omega), nI_clamp (by omega)]
      exact hcont _ (fun _ => h3 2 _ (by omega)) (fun z => by omega)
    · rw [if_pos ((nI_leI (by omega) (by omega)).mpr (by omega)), hz]
      exact hcont 0 (fun z => absurd z hip) (fun _ => rfl)
theorem en_V {N : Nat} {c : rs_T} {g D A p v ms S0 fr : Nat} (hg : g < 40) (hD : D + 1 < 30) (h14 : rI c 14 = nI (D + 1)) (h18 : rI c 18 = nI A) (h0 : rA c 0 g = nI p) (h2 : rA c 2 g = nI v) (h3 : rA c 3 g = nI ms) (h4 : rA c 4 g = nI S0) (hA : A ≤ 220) (hfr : fr + p ≤ A) (hp : p ≤ 8) (hv : v ≤ 8) (hms : ms ≤ 5000) (hN : 1000 ≤ N) : (A + (p + v + ms) ≤ 220 → ∃ c1, fx_Ac_enter_v N (nI g) (nI fr) c = some c1 ∧ cEn (wA c 20 D (nI fr)) c1 g (D + 1) A p (p + v) ms S0 (fun x => rL c 2 (fr + x))) ∧ (¬ A + (p + v + ms) ≤ 220 → fx_Ac_enter_v N (nI g) (nI fr) c = some (wI c 11 4)) := by
  have h30 : ¬ (30 : Int32) ≤ nI (D + 1) := fun z => by
    have : 30 ≤ D + 1 := (lit_le (k := 30) (show D + 1 < 2 ^ 31 by omega) (by omega)).mp z
    omega
  have hsub : (220 : Int32) - nI A = nI (220 - A) := pk_sub hA
  have hpos : ¬ nI (D + 1) ≤ (0 : Int32) := fun z => by
    have : D + 1 ≤ 0 := (le_lit (k := 0) (show D + 1 < 2 ^ 31 by omega) (by omega)).mp z
    omega
  refine ⟨fun hle => ?_, fun hle => ?_⟩
  · have hle2 : nI (p + v + ms) ≤ nI (220 - A) := (nI_leI (by omega) (by omega)).mpr (by omega)
    unfold fx_Ac_enter_v fx_Pr_allLocals fx_Ac_enter_v_b82
    rw [gd_k hg (by omega), gd_k hg (by omega), nI_clamp (by omega), h0, h2, nI_add, bn_s, gd_k hg (by omega), bd_s, gd_k hg (by omega), h3, nI_add, bd_s, h14, if_neg h30, h18, hsub, if_pos hle2, if_neg hpos, nI_pred, gd_k (by first | omega | (simp only [rN_wI, rN_wA, rN_wL]; omega)) (by first | omega | (simp only [rN_wI, rN_wA, rN_wL]; omega)), nI_clamp (by omega), h0]
    exact env_loop (N := N) (c := wA c 20 D (nI fr)) (n := p + v) hg hD (by rw [rI_wA]; exact h14) (by rw [rI_wA]; exact h18) (by rw [rA_wn (by decide)]; exact h4) (by omega) hfr (by omega) hms (p + v) N 0 (wA c 20 D (nI fr)) (by omega) (by omega) (fun _ => rfl) (fun _ _ => rfl) (fun _ _ _ => rfl) (fun x x1 x2 => by omega) (fun x x1 x2 => by omega)
  · have hle2 : ¬ nI (p + v + ms) ≤ nI (220 - A) := fun z => by
      have := (nI_leI (by omega) (by omega)).mp z
      omega
    unfold fx_Ac_enter_v fx_Pr_allLocals fx_Ac_enter_v_b57
    rw [gd_k hg (by omega), gd_k hg (by omega), nI_clamp (by omega), h0, h2, nI_add, bn_s, gd_k hg (by omega), bd_s, gd_k hg (by omega), h3, nI_add, bd_s, h14, if_neg h30, h18, hsub, if_neg hle2]
