-- ===== copying operands; slots below labels =====
def cpy (f : Nat → Int64) (src to i : Nat) : Nat → Int64 := fun y => if to ≤ y ∧ y < to + i then f (src + (y - to)) else f y
theorem cpy_0 (f : Nat → Int64) (src to : Nat) : cpy f src to 0 = f := by
  funext y
  exact if_neg (fun z => by omega)
theorem cpy_s {f g : Nat → Int64} {src to i : Nat} (h : src ≥ to) (hg : ∀ y, g y = if y = to + i then cpy f src to i (src + i) else cpy f src to i y) : ∀ y, g y = cpy f src to (i + 1) y := by
  intro y
  rw [hg]
  unfold cpy
  by_cases z : y = to + i
  · subst z
    rw [if_pos rfl, if_neg (fun z => by omega), if_pos ⟨by omega, by omega⟩]
    congr 1
    omega
  · rw [if_neg z]
    by_cases z2 : to ≤ y ∧ y < to + i
    · rw [if_pos z2, if_pos ⟨z2.1, by omega⟩]
    · rw [if_neg z2, if_neg (fun z3 => z2 ⟨z3.1, by omega⟩)]
theorem kp_loop {N k to V : Nat} {m : rs_T} (hk : to + k ≤ V) (hV : V ≤ 690) : ∀ (d fu i : Nat) (m1 : rs_T), i + d = k → d < fu → rI m1 13 = nI V → (∀ j, rI m1 j = rI m j) → (∀ j x, rA m1 j x = rA m j x) → (∀ j x, ¬ j = 2 → rL m1 j x = rL m j x) → (∀ y, rL m1 2 y = cpy (rL m 2) (V - k) to i y) → ∃ m2, fx_Md_keep_b2 N fu (nI k) (nI to) (nI i) m1 = some m2 ∧ rI m2 13 = nI (to + k) ∧ (∀ j, ¬ j = 13 → rI m2 j = rI m j) ∧ (∀ j x, rA m2 j x = rA m j x) ∧ (∀ j x, ¬ j = 2 → rL m2 j x = rL m j x) ∧ ∀ y, rL m2 2 y = cpy (rL m 2) (V - k) to k y := by
  intro d
  induction d with
  | zero =>
    intro fu i m1 hi hfu h13 h1 h2 h3 h4
    obtain ⟨fu, rfl⟩ : ∃ g, fu = g + 1 := ⟨fu - 1, by omega⟩
    have : i = k := by omega
    subst this
    refine ⟨wI m1 13 (nI (to + i)), ?_, by rw [rI_ws], fun j hj => by rw [rI_wn hj]; exact h1 j, h2, h3, h4⟩
    unfold fx_Md_keep_b2
    rw [if_pos (Int32.le_refl _), nI_add]
  | succ d ih =>
    intro fu i m1 hi hfu h13 h1 h2 h3 h4
    obtain ⟨fu, rfl⟩ : ∃ g, fu = g + 1 := ⟨fu - 1, by omega⟩
    unfold fx_Md_keep_b2
    rw [if_neg (nI_ge (by omega) (by omega)), h13, nI_sub (by omega), nI_add, gd_k (by first | omega | (simp only [rN_wI, rN_wA, rN_wL]; omega)) (by first | omega | (simp only [rN_wI, rN_wA, rN_wL]; omega)), nI_add, gd_k (by first | omega | (simp only [rN_wI, rN_wA, rN_wL]; omega)) (by first | omega | (simp only [rN_wI, rN_wA, rN_wL]; omega)), bd_s, nI_1, nI_clamp (by omega), nI_clamp (by omega)]
    refine ih fu (i + 1) (wL m1 2 (to + i) (rL m1 2 (V - k + i))) (by omega) (by omega) (by rw [rI_wL]; exact h13) (fun j => by rw [rI_wL]; exact h1 j) (fun j x => by rw [rA_wL]; exact h2 j x) (fun j x hj => by rw [rL_wn hj]; exact h3 j x hj) ?_
    refine cpy_s (by omega) (fun y => ?_)
    by_cases z : y = to + i
    · subst z; rw [rL_wss, if_pos rfl]; exact h4 _
    · rw [rL_wsn z, if_neg z]; exact h4 y
theorem m_keep {N k to V : Nat} {m : rs_T} (hk : to + k ≤ V) (hV : V ≤ 690) (hN : 1000 ≤ N) (h13 : rI m 13 = nI V) : ∃ m2, fx_Md_keep N (nI k) (nI to) m = some m2 ∧ rI m2 13 = nI (to + k) ∧ (∀ j, ¬ j = 13 → rI m2 j = rI m j) ∧ (∀ j x, rA m2 j x = rA m j x) ∧ (∀ j x, ¬ j = 2 → rL m2 j x = rL m j x) ∧ ∀ y, rL m2 2 y = cpy (rL m 2) (V - k) to k y := by
  unfold fx_Md_keep
  exact kp_loop (N := N) hk hV k N 0 m (by omega) (by omega) h13 (fun _ => rfl) (fun _ _ => rfl) (fun _ _ _ => rfl) (fun y => by rw [cpy_0])
theorem mo_loop {N k to src : Nat} {c : rs_T} (hk : to ≤ src) (hV : src + k ≤ 220) : ∀ (d fu i : Nat) (c1 : rs_T), i + d = k → d < fu → (∀ j, rI c1 j = rI c j) → (∀ j x, rA c1 j x = rA c j x) → (∀ j x, ¬ j = 2 → rL c1 j x = rL c j x) → (∀ y, rL c1 2 y = cpy (rL c 2) src to i y) → ∃ c2, fx_Ac_move_b22 N fu (nI src) (nI to) (nI k) (nI i) c1 = some c2 ∧ (∀ j, rI c2 j = rI c j) ∧ (∀ j x, rA c2 j x = rA c j x) ∧ (∀ j x, ¬ j = 2 → rL c2 j x = rL c j x) ∧ ∀ y, rL c2 2 y = cpy (rL c 2) src to k y := by
  intro d
  induction d with
  | zero =>
    intro fu i c1 hi hfu h1 h2 h3 h4
    obtain ⟨fu, rfl⟩ : ∃ g, fu = g + 1 := ⟨fu - 1, by omega⟩
    have : i = k := by omega
    subst this
    refine ⟨c1, ?_, h1, h2, h3, h4⟩
    unfold fx_Ac_move_b22
    rw [if_pos (Int32.le_refl _)]
  | succ d ih =>
    intro fu i c1 hi hfu h1 h2 h3 h4
    obtain ⟨fu, rfl⟩ : ∃ g, fu = g + 1 := ⟨fu - 1, by omega⟩
    unfold fx_Ac_move_b22
    rw [if_neg (nI_ge (by omega) (by omega)), nI_add, gd_k (by first | omega | (simp only [rN_wI, rN_wA, rN_wL]; omega)) (by first | omega | (simp only [rN_wI, rN_wA, rN_wL]; omega)), nI_add, gd_k (by first | omega | (simp only [rN_wI, rN_wA, rN_wL]; omega)) (by first | omega | (simp only [rN_wI, rN_wA, rN_wL]; omega)), bd_s, nI_1, nI_clamp (by omega), nI_clamp (by omega)]
    refine ih fu (i + 1) (wL c1 2 (to + i) (rL c1 2 (src + i))) (by omega) (by omega) (fun j => by rw [rI_wL]; exact h1 j) (fun j x => by rw [rA_wL]; exact h2 j x) (fun j x hj => by rw [rL_wn hj]; exact h3 j x hj) ?_
    refine cpy_s hk (fun y => ?_)
    by_cases z : y = to + i
    · subst z; rw [rL_wss, if_pos rfl]; exact h4 _
    · rw [rL_wsn z, if_neg z]; exact h4 y
theorem c_move {N k to src : Nat} {c : rs_T} (hk : to ≤ src) (hV : src + k ≤ 220) (hN : 1000 ≤ N) : ∃ c2, fx_Ac_move N (nI src) (nI to) (nI k) c = some c2 ∧ (∀ j, rI c2 j = rI c j) ∧ (∀ j x, rA c2 j x = rA c j x) ∧ (∀ j x, ¬ j = 2 → rL c2 j x = rL c j x) ∧ ∀ y, rL c2 2 y = cpy (rL c 2) src to k y := by
  have h220 : nI (src + k) ≤ (220 : Int32) := (le_lit (k := 220) (show src + k < 2 ^ 31 by omega) (by omega)).mpr hV
  unfold fx_Ac_move
  rw [if_neg (nI_pos (by omega)), if_neg (nI_nlt hk (by omega)), nI_add, if_pos h220]
  exact mo_loop (N := N) hk hV k N 0 c (by omega) (by omega) (fun _ => rfl) (fun _ _ => rfl) (fun _ _ _ => rfl) (fun y => by rw [cpy_0])
-- want operands, all in slots from lo on, go down to height wd
theorem fV_br {c m c1 m1 : rs_T} {V : vw_T} {n b s h wd wt : Nat} {W : Nat → Int32} (hf : fV c m V n W b s h) (hb : b + n + h ≤ 900) (hw : wd + wt ≤ h) (hW : ∀ x, x < wd → W x = nI (n + x)) (hW2 : ∀ x, h - wt ≤ x → x < h → W x = nI (n + x)) (hc : ∀ y, rL c1 2 y = cpy (rL c 2) (b + n + (h - wt)) (b + n + wd) wt y) (hm : ∀ y, rL m1 2 y = cpy (rL m 2) (s + n + (h - wt)) (s + n + wd) wt y) : fV c1 m1 V n (sl n) b s (wd + wt) := by
  have hlow : ∀ x, x < wd → rL c 2 (b + n + x) = rL m 2 (s + n + x) := fun x hx => by
    have := hf.2.1 x (by omega)
    rw [hW x hx, ev_n (by omega)] at this
    rw [Nat.add_assoc]; exact this
  have hhi : ∀ x, h - wt ≤ x → x < h → rL c 2 (b + n + x) = rL m 2 (s + n + x) := fun x h1 h2 => by
    have := hf.2.1 x h2
    rw [hW2 x h1 h2, ev_n (by omega)] at this
    rw [Nat.add_assoc]; exact this
  refine ⟨fun x hx => ?_, fun x hx => ?_, fun x _ => Or.inr (Or.inl rfl)⟩
  · rw [hc, hm]
    unfold cpy
    rw [if_neg (fun z => by omega), if_neg (fun z => by omega)]
    exact hf.1 x hx
  · show ev c1 V b (nI (n + x)) = _
    rw [ev_n (by omega), ← Nat.add_assoc, hc, hm]
    unfold cpy
    by_cases z : x < wd
    · rw [if_neg (fun y => by omega), if_neg (fun y => by omega)]
      exact hlow x z
    · rw [if_pos ⟨by omega, by omega⟩, if_pos ⟨by omega, by omega⟩]
      have e1 : b + n + (h - wt) + (b + n + x - (b + n + wd)) = b + n + (h - wt + (x - wd)) := by omega
      have e2 : s + n + (h - wt) + (s + n + x - (s + n + wd)) = s + n + (h - wt + (x - wd)) := by omega
      rw [e1, e2]
      exact hhi _ (by omega) (by omega)
-- in code for registers the operands below a label are in their slots
theorem ht_le {V : vw_T} {t h : Nat} : ∀ {L : List lb_T}, lw_L V t L h → ∀ q ∈ L, v_w V q.1 ≤ t_ht V L := by
  intro L hl q hq
  cases L with
  | nil => cases hq
  | cons r L =>
    obtain ⟨-, -, -, -, -, h6⟩ := hl
    rcases List.mem_cons.mp hq with e | e
    · rw [e]; exact Nat.le_refl _
    · exact (lw_get h6 q e).2.2.2.1
theorem kc_s {c : rs_T} {V : vw_T} {T : Nat → ts_T} {f n s E i ms : Nat} {Z : Nat → Int32} {K0 K1 : kT} (hty : ty_F V T f s (E - 1) ms) (hi : s ≤ i) (hi1 : i + 1 < E) (hn : n ≤ 16) (hnf : n = nm V f) (hms : ms ≤ 220) (hl : tl (T i)) (hl1 : tl (T (i + 1))) (hk : kcV c V T f n (E - 1) Z i K0 K1) (h : ∀ x, x < t_ht V (T i).1 → K0.2.2 x = nI (n + x)) : ∀ x, x < t_ht V (T (i + 1)).1 → K1.2.2 x = nI (n + x) := by
  have hx := hty.2.1 i hi (by omega)
  unfold kcV at hk
  have hd : decide (i = E - 1) = false := decide_eq_false (by omega)
  rw [hd] at hk
  obtain ⟨f1, f65, f26, f32, f33, f34, f27, f35, f36, f40, f63, f54, f69, f70, f0, f12, f13, f14, f15, f16, f17, f2, f3, f4, f5, f11, -⟩ := hk
  have sl_ok : ∀ {q p : Nat}, K1 = (q, p, sl n) → ∀ x, x < t_ht V (T (i + 1)).1 → K1.2.2 x = nI (n + x) := fun e x _ => by rw [e]; rfl
  have kw_ok : ∀ {q p lo : Nat}, (T (i + 1)).1 = (T i).1 → K1 = (q, p, kw n K0.2.2 lo) → ∀ x, x < t_ht V (T (i + 1)).1 → K1.2.2 x = nI (n + x) := by
    intro q p lo e1 e x hx
    rw [e1] at hx
    rw [e]
    show kw n K0.2.2 lo x = _
    unfold kw
    by_cases z : x < lo
    · rw [if_pos z]; exact h x hx
    · rw [if_neg z]
  have id_ok : ∀ {q p : Nat}, (T (i + 1)).1 = (T i).1 → K1 = (q, p, K0.2.2) → ∀ x, x < t_ht V (T (i + 1)).1 → K1.2.2 x = nI (n + x) := fun e1 e x hx => by
    rw [e1] at hx
    rw [e]; exact h x hx
  rcases nx_cases hx with ⟨o, hne, -⟩ | ⟨hel, hc⟩
  · exact absurd hl.2.2 hne
  rcases hc with ⟨ho, e⟩ | ⟨ho, hb⟩ | ⟨ho, hb⟩ | ⟨ho, hb⟩ | ⟨ho, hb⟩ | ⟨ho, k', hk, hhas, e⟩ | ⟨ho, k', hk, htu⟩ | ⟨ho, k', hk, hhas, e⟩ | ⟨ho, hhas, e⟩ | ⟨ho, g, hg, htu⟩ | ⟨ho, x, y, hx1, hy1, htu⟩ | ⟨ho, hp⟩
  · rw [e] at hl1; exact absurd hl1 tl_die
  · rcases ho with ho | ho
    · obtain ⟨q1, p1, -, e⟩ := f2 ho
      exact sl_ok e
    · obtain ⟨q1, p1, -, ⟨-, e⟩ | ⟨-, -, e⟩⟩ := f3 ho
      · exact sl_ok e
      · exact sl_ok e
  · obtain ⟨q1, p1, e0, -, -, -, -, e⟩ := f4 ho
    exact sl_ok e
  · obtain ⟨q1, p1, e0, -, -, -, -, e⟩ := f5 ho
    exact sl_ok e
  · obtain ⟨q1, p1, -, ⟨-, e⟩ | ⟨-, -, e⟩⟩ := f11 ho rfl
    · exact sl_ok e
    · exact sl_ok e
  · rw [e] at hl1; exact absurd hl1 tl_die
  · obtain ⟨-, hT, -⟩ := tl_tu hl htu
    obtain ⟨q1, p1, -, -, -, e⟩ := f13 ho
    exact kw_ok (by rw [hT]) e
  · have := hl1.2.2
    rw [e] at this
    have : k' + 1 = 0 := this
    omega
  · rw [e] at hl1; exact absurd hl1 tl_die
  · obtain ⟨-, hT, -⟩ := tl_tu hl htu
    obtain ⟨q1, p1, -, -, e⟩ := f16 ho
    exact kw_ok (by rw [hT]) e
  · obtain ⟨-, hT, -⟩ := tl_tu hl htu
    obtain ⟨q1, p1, -, -, e⟩ := f17 ho
    exact kw_ok (by rw [hT]) e
  · obtain ⟨n0, k0, har, hlim, htu⟩ := plain_some hp
    obtain ⟨hn0, hT, -⟩ := tl_tu hl htu
    have hTL : (T (i + 1)).1 = (T i).1 := by rw [hT]
    have hth : t_ht V (T i).1 + n0 ≤ (T i).2.2.1 := by
      unfold t_tu at htu
      cases hh : t_has V (T i) n0
      · rw [hh] at htu; cases htu
      · exact tl_has hl hh
    have up_ok : ∀ {q p : Nat} {u : Int32}, K1 = (q, p, upd K0.2.2 (T i).2.2.1 u) → ∀ x, x < t_ht V (T (i + 1)).1 → K1.2.2 x = nI (n + x) := fun e x hx => by
      rw [hTL] at hx
      rw [e]
      show upd K0.2.2 (T i).2.2.1 _ x = _
      rw [pk_un (by omega)]; exact h x hx
    have kl_ok : ∀ x a, x < t_ht V (T (i + 1)).1 → a < n → kl n K0.2.2 (nI a) x = nI (n + x) := fun x a hx ha => by
      rw [hTL] at hx
      unfold kl
      by_cases z : K0.2.2 x = nI a
      · rw [if_pos z]
      · rw [if_neg z]; exact h x hx
    rcases ar_cases har with ⟨ho, -, -⟩ | ⟨ho, rfl, -⟩ | ⟨ho, -, -⟩ | ⟨ho, -, -⟩ | ⟨ho, rfl, -⟩ | ⟨ho, -, -⟩ | ⟨ho, -, -⟩ | ⟨ho, -, -⟩
    · simp only [List.mem_cons, List.not_mem_nil, or_false] at ho
      exact id_ok hTL (f1 ho)
    · simp only [List.mem_cons, List.not_mem_nil, or_false] at ho
      rcases ho with ho | ho | ho
      · exact id_ok hTL (f26 ho)
      · rcases f33 ho with ⟨-, z⟩ | ⟨-, q1, p1, -, -, m3⟩
        · exact id_ok hTL z
        · intro x hx
          rw [ho] at hlim
          obtain ⟨a, ha, ea⟩ := loc_a hlim (by decide) (by rw [← hnf]; exact hn)
          rw [m3, ea]
          exact kl_ok x a hx (by rw [hnf]; exact ha)
      · exact id_ok hTL (f36 ho).2
    · simp only [List.mem_cons, List.not_mem_nil, or_false] at ho
      exact kw_ok hTL (f27 ho).2
    · simp only [List.mem_cons, List.not_mem_nil, or_false] at ho
      rcases ho with ho | ho | ho | ho | ho
      · exact up_ok (f32 ho)
      · exact kw_ok hTL (f35 ho).2
      · exact kw_ok hTL (f63 ho).2
      · exact up_ok (f65 (Or.inl ho))
      · exact up_ok (f65 (Or.inr ho))
    · by_cases h34 : v_o V i = 34
      · rcases f34 h34 with ⟨-, z⟩ | ⟨-, q1, p1, -, -, m3⟩
        · intro x hx
          rw [hTL] at hx
          rw [z]
          show upd K0.2.2 ((T i).2.2.1 - 1) _ x = _
          rw [pk_un (by omega)]; exact h x hx
        · intro x hx
          rw [h34] at hlim
          obtain ⟨a, ha, ea⟩ := loc_a hlim (by decide) (by rw [← hnf]; exact hn)
          have hx2 := hx
          rw [hTL] at hx2
          rw [m3, ea]
          show upd (kl n K0.2.2 (nI a)) ((T i).2.2.1 - 1) _ x = _
          rw [pk_un (by omega)]
          exact kl_ok x a hx (by rw [hnf]; exact ha)
      · by_cases h64 : v_o V i = 64
        · exact kw_ok hTL (f40 (by rw [h64]; decide)).2
        · refine kw_ok hTL (f69 ?_).2
          simp only [List.mem_cons, List.not_mem_nil, or_false] at ho ⊢
          rcases ho with z | z | z | z | z | z
          · exact absurd z h34
          · exact absurd z h64
          · exact Or.inl z
          · exact Or.inr (Or.inl z)
          · exact Or.inr (Or.inr (Or.inl z))
          · exact Or.inr (Or.inr (Or.inr z))
    · exact kw_ok hTL (f70 ho).2
    · exact kw_ok hTL (f40 (List.mem_append_left [64] ho)).2
    · exact id_ok hTL (f54 ho).2
theorem kok_s {c : rs_T} {V : vw_T} {T : Nat → ts_T} {f n s E qs Q ms : Nat} {K : Nat → kT} {Z : Nat → Int32} (h : kok c V T f n s E qs Q K Z) (hty : ty_F V T f s (E - 1) ms) (hn : n ≤ 16) (hnf : n = nm V f) (hms : ms ≤ 220) : ∀ (j : Nat), s ≤ j → j < E → tl (T j) → ∀ x, x < t_ht V (T j).1 → (K j).2.2 x = nI (n + x) := by
  intro j
  induction j with
  | zero =>
    intro hs _ _ x hx
    have : s = 0 := by omega
    subst this
    rw [hty.1] at hx
    have hx : x < 0 := hx
    omega
  | succ j ih =>
    intro hs hj hl
    by_cases z : s = j + 1
    · intro x hx
      rw [← z, hty.1] at hx
      have hx : x < 0 := hx
      omega
    · by_cases hl0 : tl (T j)
      · obtain ⟨g1, -⟩ := h.2.2.1 j (by omega) (by omega) hl0
        exact kc_s hty (by omega) hj hn hnf hms hl0 hl g1 (ih (by omega) (by omega) hl0)
      · have hx := hty.2.1 j (by omega) (by omega)
        have ho : v_o V j = 5 ∨ v_o V j = 11 := by
          by_cases z5 : v_o V j = 5
          · exact Or.inl z5
          · by_cases z11 : v_o V j = 11
            · exact Or.inr z11
            · exact absurd hl (tl_dead hl0 hx z5 z11)
        obtain ⟨-, -, e⟩ := h.2.2.2 j (by omega) (by omega) (Or.inr ⟨ho, hl⟩)
        intro x _
        rw [e]; rfl
