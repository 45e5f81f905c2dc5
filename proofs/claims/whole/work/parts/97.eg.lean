-- ===== the compiler: moves =====
def mv (c : rs_T) (n : Nat) (W : Nat → Int32) (P : Nat → Bool) : Nat → Nat → Nat → Nat → Nat → Nat → Prop
  | 0, _, q, p, q1, p1 => q1 = q ∧ p1 = p
  | k + 1, i, q, p, q1, p1 => (P i = true ∧ ci c q 200 (nI p) (nI (n + i)) (W i) 0 0 ∧ mv c n W P k (i + 1) (q + 1) 0 q1 p1) ∨ (P i = false ∧ mv c n W P k (i + 1) q p q1 p1)
-- how many
def cn (P : Nat → Bool) : Nat → Nat → Nat
  | 0, _ => 0
  | k + 1, i => (bif P i then 1 else 0) + cn P k (i + 1)
theorem cn_s (P : Nat → Bool) (k i : Nat) : cn P (k + 1) i = (bif P i then 1 else 0) + cn P k (i + 1) := Eq.trans rfl rfl
theorem mv_q {c : rs_T} {n : Nat} {W : Nat → Int32} {P : Nat → Bool} : ∀ {k i q p q1 p1 : Nat}, mv c n W P k i q p q1 p1 → q1 = q + cn P k i ∧ p1 ≤ p ∧ (q1 = q → p1 = p) ∧ (¬ q1 = q → p1 = 0) := by
  intro k
  induction k with
  | zero => intro i q p q1 p1 h; obtain ⟨rfl, rfl⟩ := h; exact ⟨rfl, Nat.le_refl _, fun _ => rfl, fun z => absurd rfl z⟩
  | succ k ih =>
    intro i q p q1 p1 h
    rcases h with ⟨h1, -, h2⟩ | ⟨h1, h2⟩
    · obtain ⟨a1, a2, a3, a4⟩ := ih h2
      unfold cn
      rw [h1]
      refine ⟨?_, by omega, fun z => by omega, fun _ => by omega⟩
      simp only [cond_true]; omega
    · obtain ⟨a1, a2, a3, a4⟩ := ih h2
      unfold cn
      rw [h1]
      refine ⟨?_, a2, a3, a4⟩
      simp only [cond_false]; omega
theorem mv_ke {c c1 : rs_T} {n : Nat} {W : Nat → Int32} {P : Nat → Bool} {Q : Nat} (hk : ke c c1 Q) : ∀ {k i q p q1 p1 : Nat}, q1 ≤ Q → mv c n W P k i q p q1 p1 → mv c1 n W P k i q p q1 p1 := by
  intro k
  induction k with
  | zero => intro i q p q1 p1 _ h; exact h
  | succ k ih =>
    intro i q p q1 p1 hq h
    rcases h with ⟨h1, h3, h2⟩ | ⟨h1, h2⟩
    · have := (mv_q h2).1
      exact Or.inl ⟨h1, ci_ke h3 hk (by omega), ih hq h2⟩
    · exact Or.inr ⟨h1, ih hq h2⟩
theorem cn_le (P : Nat → Bool) : ∀ (k i : Nat), cn P k i ≤ k := by
  intro k
  induction k with
  | zero => intro i; exact Nat.le_refl _
  | succ k ih =>
    intro i
    unfold cn
    have := ih (i + 1)
    cases P i
    · simp only [cond_false]; omega
    · simp only [cond_true]; omega
theorem cn_add (P : Nat → Bool) : ∀ (a b i : Nat), cn P (a + b) i = cn P a i + cn P b (i + a) := by
  intro a
  induction a with
  | zero => intro b i; rw [Nat.zero_add, Nat.add_zero]; show _ = 0 + _; omega
  | succ a ih =>
    intro b i
    rw [show a + 1 + b = (a + b) + 1 by omega]
    rw [cn_s, cn_s, ih b (i + 1), show i + 1 + a = i + (a + 1) by omega]
    omega
theorem cn_congr {P Q : Nat → Bool} : ∀ (k i : Nat), (∀ j, i ≤ j → j < i + k → P j = Q j) → cn P k i = cn Q k i := by
  intro k
  induction k with
  | zero => intro i _; rfl
  | succ k ih =>
    intro i h
    unfold cn
    rw [h i (Nat.le_refl _) (by omega), ih (i + 1) (fun j h1 h2 => h j (by omega) (by omega))]
theorem cn_sum {P Q R : Nat → Bool} : ∀ (k i : Nat), (∀ j, i ≤ j → j < i + k → ((bif P j then 1 else 0) + (bif Q j then 1 else 0) : Nat) = (bif R j then 1 else 0)) → cn P k i + cn Q k i = cn R k i := by
  intro k
  induction k with
  | zero => intro i _; rfl
  | succ k ih =>
    intro i h
    unfold cn
    have h1 := h i (Nat.le_refl _) (by omega)
    have h2 := ih (i + 1) (fun j h1 h2 => h j (by omega) (by omega))
    omega
theorem cn_zero {P : Nat → Bool} : ∀ (k i : Nat), (∀ j, i ≤ j → j < i + k → P j = false) → cn P k i = 0 := by
  intro k
  induction k with
  | zero => intro i _; rfl
  | succ k ih =>
    intro i h
    unfold cn
    rw [h i (Nat.le_refl _) (by omega), ih (i + 1) (fun j h1 h2 => h j (by omega) (by omega))]
    rfl
-- operands that are not in their slots
def ns (n : Nat) (W : Nat → Int32) : Nat → Bool := fun j => !decide (W j = nI (n + j))
def pt (n : Nat) (W : Nat → Int32) (h : Nat) : Nat := cn (ns n W) h 0
theorem pt_kw (n : Nat) (W : Nat → Int32) {a h : Nat} (ha : a ≤ h) : pt n (kw n W a) h + cn (ns n W) (h - a) a = pt n W h := by
  unfold pt
  have e1 : h = a + (h - a) := by omega
  rw [e1, cn_add, cn_add, show a + (h - a) - a = h - a by omega, Nat.zero_add]
  have e2 : cn (ns n (kw n W a)) a 0 = cn (ns n W) a 0 := cn_congr a 0 (fun j _ h2 => by
    unfold ns kw
    rw [if_pos (by omega)])
  have e3 : cn (ns n (kw n W a)) (h - a) a = 0 := cn_zero _ _ (fun j h1 _ => by
    unfold ns kw
    rw [if_neg (by omega)]
    simp)
  rw [e2, e3]
  omega
theorem pt_kw0 (n : Nat) (W : Nat → Int32) {a h : Nat} (ha : h ≤ a) : pt n (kw n W a) h = pt n W h := by
  unfold pt
  exact cn_congr h 0 (fun j _ h2 => by
    unfold ns kw
    rw [if_pos (by omega)])
theorem pt_up (n : Nat) (W : Nat → Int32) (h : Nat) (w : Int32) : pt n (upd W h w) h = pt n W h := by
  unfold pt
  exact cn_congr h 0 (fun j _ h2 => by
    unfold ns
    rw [pk_un (by omega)])
theorem pt_succ (n : Nat) (W : Nat → Int32) (h : Nat) : pt n W (h + 1) = pt n W h + (bif ns n W h then 1 else 0) := by
  unfold pt
  rw [cn_add (ns n W) h 1 0, Nat.zero_add]
  rfl
theorem pt_s1 (n : Nat) (W : Nat → Int32) (h : Nat) : pt n W h ≤ pt n W (h + 1) ∧ pt n W (h + 1) ≤ pt n W h + 1 := by
  rw [pt_succ]
  cases ns n W h
  · simp only [cond_false]; omega
  · simp only [cond_true]; omega
theorem pt_congr {n : Nat} {W W2 : Nat → Int32} {h : Nat} (e : ∀ i, i < h → W2 i = W i) : pt n W2 h = pt n W h := by
  unfold pt
  exact cn_congr h 0 (fun j _ h2 => by
    unfold ns
    rw [e j (by omega)])
theorem kst_congr {c : rs_T} {n f q p h : Nat} {W W2 : Nat → Int32} (hk : kst c n f q p h W) (e : ∀ i, i < h → W2 i = W i) : kst c n f q p h W2 :=
  ⟨hk.1, hk.2.1, hk.2.2.1, hk.2.2.2.1, hk.2.2.2.2.1, fun i hi => (hk.2.2.2.2.2 i hi).trans (e i hi).symm⟩
theorem mv_congr {c : rs_T} {n : Nat} {W W2 : Nat → Int32} {P P2 : Nat → Bool} : ∀ {k i q p q1 p1 : Nat}, (∀ j, i ≤ j → j < i + k → W2 j = W j ∧ P2 j = P j) → mv c n W P k i q p q1 p1 → mv c n W2 P2 k i q p q1 p1 := by
  intro k
  induction k with
  | zero => intro i q p q1 p1 _ h; exact h
  | succ k ih =>
    intro i q p q1 p1 e h
    obtain ⟨e1, e2⟩ := e i (Nat.le_refl _) (by omega)
    have e3 : ∀ j, i + 1 ≤ j → j < i + 1 + k → W2 j = W j ∧ P2 j = P j := fun j h1 h2 => e j (by omega) (by omega)
    rcases h with ⟨h1, h3, h2⟩ | ⟨h1, h2⟩
    · exact Or.inl ⟨by rw [e2]; exact h1, by rw [e1]; exact h3, ih e3 h2⟩
    · exact Or.inr ⟨by rw [e2]; exact h1, ih e3 h2⟩
theorem k_fill {n f s h : Nat} (N : Nat) (hh : h ≤ 220) (hn : n ≤ 16) : ∀ (k fu : Nat) (c : rs_T) (i q p : Nat) (W : Nat → Int32), k < fu → i + k = h → (q + cn (ns n W) k i ≤ rN c 2 ∧ rN c 2 ≤ 3000) → kst c n f q p h W → zk c s q → ∃ c1 q1 p1, fx_Co_fillSlots_b6 N fu (nI i) c = some c1 ∧ kst c1 n f q1 p1 h (kw n W i) ∧ ke c c1 q ∧ zk c1 s q1 ∧ mv c1 n W (ns n W) k i q p q1 p1 := by
  intro k
  induction k with
  | zero =>
    intro fu c i q p W hfu hi hq hk hz
    obtain ⟨fu, rfl⟩ : ∃ g, fu = g + 1 := ⟨fu - 1, by omega⟩
    unfold fx_Co_fillSlots_b6
    have : i = h := by omega
    subst this
    rw [hk.2.2.2.1, if_pos (Int32.le_refl _)]
    refine ⟨c, q, p, rfl, kst_congr hk (fun j hj => ?_), ke_rfl _ _, hz, rfl, rfl⟩
    unfold kw
    rw [if_pos hj]
  | succ k ih =>
    intro fu c i q p W hfu hi hq hk hz
    obtain ⟨fu, rfl⟩ : ∃ g, fu = g + 1 := ⟨fu - 1, by omega⟩
    obtain ⟨k1, k2, k3, k4, k5, k6⟩ := id hk
    unfold fx_Co_fillSlots_b6 fx_Co_fillSlots_b62
    rw [k4, if_neg (nI_ge (by omega) (by omega)), gd_k (by omega) (by omega), nI_clamp (by omega), k6 i (by omega), k3, nI_add, bd_s, nI_1]
    have hcs := cn_s (ns n W) k i
    by_cases e : W i = nI (n + i)
    · rw [if_pos e]
      have hni : ns n W i = false := by unfold ns; simp [e]
      rw [hni, cond_false] at hcs
      obtain ⟨c1, q1, p1, e1, e2, e3, e4, e5⟩ := ih fu c (i + 1) q p W (by omega) (by omega) (by omega) hk hz
      refine ⟨c1, q1, p1, e1, kst_congr e2 (fun j hj => ?_), e3, e4, Or.inr ⟨by unfold ns; simp [e], e5⟩⟩
      unfold kw
      by_cases z : j < i
      · rw [if_pos z, if_pos (by omega)]
      · by_cases z2 : j < i + 1
        · have : j = i := by omega
          subst this
          rw [if_neg z, if_pos z2, e]
        · rw [if_neg z, if_neg z2]
    · have hni : ns n W i = true := by unfold ns; simp [e]
      rw [hni, cond_true] at hcs
      rw [if_neg e, gd_k (by omega) (by omega)]
      obtain ⟨c1, e1, e2, e3, e4, e5⟩ := k_emit hk (by omega) hz 200 (nI (n + i)) (W i) 0 0 (fun z => by rcases z with z | z <;> exact absurd z (by decide))
      rw [e1, bv_s, gd_k (by omega) (by omega), e2.2.2.1, nI_add, bd_s]
      have hke : ke c1 (wA c1 29 i (nI (n + i))) (q + 1) := by
        refine ⟨fun k hk => ?_, fun j x' hj => ?_, fun j x' h1 h2 h3 => ?_, fun x' => ?_, fun j x' => ?_, rfl⟩ <;> simp (disch := omega) only [bn_s, bv_s, bd_s, gb_0, gb_1, rI_ws, rI_wn, rI_wA, rI_wL, rA_wI, rA_wL, rL_wI, rL_wA, rA_wss, rA_wn, rA_wsn, rL_wss, rL_wn, rL_wsn, rN_wI, rN_wA, rN_wL]
      have hn2 := ke_n e3 2
      have hcc : cn (ns n (upd W i (nI (n + i)))) k (i + 1) = cn (ns n W) k (i + 1) := cn_congr k (i + 1) (fun j h1 h2 => by unfold ns; rw [pk_un (by omega)])
      obtain ⟨c2, q2, p2, f1, f2, f3, f4, f5⟩ := ih fu (wA c1 29 i (nI (n + i))) (i + 1) (q + 1) 0 (upd W i (nI (n + i))) (by omega) (by omega) (by rw [rN_wA]; omega) ⟨by simp (disch := omega) only [bn_s, bv_s, bd_s, gb_0, gb_1, rI_ws, rI_wn, rI_wA, rI_wL, rA_wI, rA_wL, rL_wI, rL_wA, rA_wss, rA_wn, rA_wsn, rL_wss, rL_wn, rL_wsn, rN_wI, rN_wA, rN_wL]; exact e2.1, by simp (disch := omega) only [bn_s, bv_s, bd_s, gb_0, gb_1, rI_ws, rI_wn, rI_wA, rI_wL, rA_wI, rA_wL, rL_wI, rL_wA, rA_wss, rA_wn, rA_wsn, rL_wss, rL_wn, rL_wsn, rN_wI, rN_wA, rN_wL]; exact e2.2.1, by simp (disch := omega) only [bn_s, bv_s, bd_s, gb_0, gb_1, rI_ws, rI_wn, rI_wA, rI_wL, rA_wI, rA_wL, rL_wI, rL_wA, rA_wss, rA_wn, rA_wsn, rL_wss, rL_wn, rL_wsn, rN_wI, rN_wA, rN_wL]; exact e2.2.2.1, by simp (disch := omega) only [bn_s, bv_s, bd_s, gb_0, gb_1, rI_ws, rI_wn, rI_wA, rI_wL, rA_wI, rA_wL, rL_wI, rL_wA, rA_wss, rA_wn, rA_wsn, rL_wss, rL_wn, rL_wsn, rN_wI, rN_wA, rN_wL]; exact e2.2.2.2.1, by simp (disch := omega) only [bn_s, bv_s, bd_s, gb_0, gb_1, rI_ws, rI_wn, rI_wA, rI_wL, rA_wI, rA_wL, rL_wI, rL_wA, rA_wss, rA_wn, rA_wsn, rL_wss, rL_wn, rL_wsn, rN_wI, rN_wA, rN_wL]; exact e2.2.2.2.2.1, fun j hj => by
        by_cases z : j = i
        · subst z; simp (disch := omega) only [bn_s, bv_s, bd_s, gb_0, gb_1, rI_ws, rI_wn, rI_wA, rI_wL, rA_wI, rA_wL, rL_wI, rL_wA, rA_wss, rA_wn, rA_wsn, rL_wss, rL_wn, rL_wsn, rN_wI, rN_wA, rN_wL, pk_us]
        · simp (disch := omega) only [bn_s, bv_s, bd_s, gb_0, gb_1, rI_ws, rI_wn, rI_wA, rI_wL, rA_wI, rA_wL, rL_wI, rL_wA, rA_wss, rA_wn, rA_wsn, rL_wss, rL_wn, rL_wsn, rN_wI, rN_wA, rN_wL]; rw [pk_un z]; exact e2.2.2.2.2.2 j hj⟩ (zk_ke e4 hke)
      have kk := ke_tr hke f3 (Nat.le_refl _)
      have hm : mv c2 n W (ns n W) k (i + 1) (q + 1) 0 q2 p2 := mv_congr (fun j h1 h2 => by
        unfold ns
        rw [pk_un (by omega)]
        exact ⟨rfl, rfl⟩) f5
      refine ⟨c2, q2, p2, f1, kst_congr f2 (fun j hj => ?_), ke_tr e3 kk (by omega), f4, Or.inl ⟨by unfold ns; simp [e], ci_ke e5 kk (by omega), hm⟩⟩
      unfold kw
      by_cases z : j < i
      · rw [if_pos z, if_pos (by omega), pk_un (by omega)]
      · by_cases z2 : j < i + 1
        · have : j = i := by omega
          subst this
          rw [if_neg z, if_pos z2, pk_us]
        · rw [if_neg z, if_neg z2]
-- fillSlots from lo on
theorem k_fillS {c : rs_T} {n f s h q p lo : Nat} {W : Nat → Int32} {N : Nat} (hh : h ≤ 220) (hn : n ≤ 16) (hN : 1000 ≤ N) (hlo : lo ≤ h) (hq : q + pt n W h ≤ rN c 2 ∧ rN c 2 ≤ 3000) (hk : kst c n f q p h W) (hz : zk c s q) : ∃ c1 q1 p1, fx_Co_fillSlots N (nI lo) c = some c1 ∧ kst c1 n f q1 p1 h (kw n W lo) ∧ ke c c1 q ∧ zk c1 s q1 ∧ mv c1 n W (ns n W) (h - lo) lo q p q1 p1 ∧ q1 + pt n (kw n W lo) h = q + pt n W h ∧ q ≤ q1 := by
  have hptk := pt_kw n W hlo
  obtain ⟨c1, q1, p1, e1, e2, e3, e4, e5⟩ := k_fill N hh hn (h - lo) N c lo q p W (by omega) (by omega) (by omega) hk hz
  refine ⟨c1, q1, p1, ?_, e2, e3, e4, e5, ?_, ?_⟩
  · unfold fx_Co_fillSlots
    rw [if_neg (nI_pos (by omega)), bd_s]
    exact e1
  · have := pt_kw n W hlo
    have := (mv_q e5).1
    omega
  · have := (mv_q e5).1
    omega
