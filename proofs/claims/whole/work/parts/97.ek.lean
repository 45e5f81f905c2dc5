-- ===== the compiler at one place: locals, branches, calls =====
def klf (n : Nat) (W : Nat → Int32) (a : Int32) (i : Nat) : Nat → Int32 := fun j => if i ≤ j ∧ W j = a then nI (n + j) else W j
theorem klf_0 (n : Nat) (W : Nat → Int32) (a : Int32) : klf n W a 0 = kl n W a := by
  funext j
  unfold klf kl
  by_cases e : W j = a
  · rw [if_pos ⟨Nat.zero_le _, e⟩, if_pos e]
  · rw [if_neg (fun z => e z.2), if_neg e]
theorem k_sloc {n f s h : Nat} (N : Nat) (a x2 : Int32) (hh : h ≤ 220) (hn : n ≤ 16) : ∀ (k fu : Nat) (c : rs_T) (i q p : Nat) (W : Nat → Int32), k < fu → i + k = h → (q + cn (fun j => decide (W j = a)) k i + 1 ≤ rN c 2 ∧ rN c 2 ≤ 3000) → kst c n f q p h W → zk c s q → ∃ c1 q1 p1, fx_Co_setLocal_b8 N fu a x2 (nI i) c = some c1 ∧ kst c1 n f (q1 + 1) 0 h (klf n W a i) ∧ ke c c1 q ∧ zk c1 s (q1 + 1) ∧ mv c1 n W (fun j => decide (W j = a)) k i q p q1 p1 ∧ ci c1 q1 200 (nI p1) a x2 0 0 := by
  intro k
  induction k with
  | zero =>
    intro fu c i q p W hfu hi hq hk hz
    obtain ⟨fu, rfl⟩ : ∃ g, fu = g + 1 := ⟨fu - 1, by omega⟩
    unfold fx_Co_setLocal_b8
    have : i = h := by omega
    subst this
    rw [hk.2.2.2.1, if_pos (Int32.le_refl _)]
    obtain ⟨c1, e1, e2, e3, e4, e5⟩ := k_emit hk (by omega) hz 200 a x2 0 0 (fun z => by rcases z with z | z <;> exact absurd z (by decide))
    have n_e3 := ke_n3 e3
    refine ⟨c1, q, p, by rw [e1, bv_s], kst_congr e2 (fun j hj => ?_), e3, e4, ⟨rfl, rfl⟩, e5⟩
    unfold klf
    rw [if_neg (fun z => by omega)]
  | succ k ih =>
    intro fu c i q p W hfu hi hq hk hz
    obtain ⟨fu, rfl⟩ : ∃ g, fu = g + 1 := ⟨fu - 1, by omega⟩
    obtain ⟨k1, k2, k3, k4, k5, k6⟩ := id hk
    unfold fx_Co_setLocal_b8 fx_Co_setLocal_b54
    rw [k4, if_neg (nI_ge (by omega) (by omega)), gd_k (by omega) (by omega), nI_clamp (by omega), k6 i (by omega), k3, nI_add, bd_s, nI_1]
    have hcs := cn_s (fun j => decide (W j = a)) k i
    by_cases e : W i = a
    · rw [if_pos e]
      have hni : decide (W i = a) = true := decide_eq_true e
      rw [hni, cond_true] at hcs
      obtain ⟨c1, e1, e2, e3, e4, e5⟩ := k_emit hk (by omega) hz 200 (nI (n + i)) a 0 0 (fun z => by rcases z with z | z <;> exact absurd z (by decide))
      have n_e3 := ke_n3 e3
      rw [e1, bv_s, gd_k (by omega) (by omega), e2.2.2.1, nI_add, bd_s]
      have hke : ke c1 (wA c1 29 i (nI (n + i))) (q + 1) := by
        refine ⟨fun k hk => ?_, fun j x' hj => ?_, fun j x' h1 h2 h3 => ?_, fun x' => ?_, fun j x' => ?_, rfl⟩ <;> simp (disch := omega) only [bn_s, bv_s, bd_s, gb_0, gb_1, rI_ws, rI_wn, rI_wA, rI_wL, rA_wI, rA_wL, rL_wI, rL_wA, rA_wss, rA_wn, rA_wsn, rL_wss, rL_wn, rL_wsn, rN_wI, rN_wA, rN_wL]
      have hcc : cn (fun j => decide (upd W i (nI (n + i)) j = a)) k (i + 1) = cn (fun j => decide (W j = a)) k (i + 1) := cn_congr k (i + 1) (fun j h1 h2 => by show decide (upd W i (nI (n + i)) j = a) = decide (W j = a); rw [pk_un (by omega)])
      obtain ⟨c2, q2, p2, f1, f2, f3, f4, f5, f6⟩ := ih fu (wA c1 29 i (nI (n + i))) (i + 1) (q + 1) 0 (upd W i (nI (n + i))) (by omega) (by omega) (by rw [rN_wA]; omega) ⟨by simp (disch := omega) only [bn_s, bv_s, bd_s, gb_0, gb_1, rI_ws, rI_wn, rI_wA, rI_wL, rA_wI, rA_wL, rL_wI, rL_wA, rA_wss, rA_wn, rA_wsn, rL_wss, rL_wn, rL_wsn, rN_wI, rN_wA, rN_wL]; exact e2.1, by simp (disch := omega) only [bn_s, bv_s, bd_s, gb_0, gb_1, rI_ws, rI_wn, rI_wA, rI_wL, rA_wI, rA_wL, rL_wI, rL_wA, rA_wss, rA_wn, rA_wsn, rL_wss, rL_wn, rL_wsn, rN_wI, rN_wA, rN_wL]; exact e2.2.1, by simp (disch := omega) only [bn_s, bv_s, bd_s, gb_0, gb_1, rI_ws, rI_wn, rI_wA, rI_wL, rA_wI, rA_wL, rL_wI, rL_wA, rA_wss, rA_wn, rA_wsn, rL_wss, rL_wn, rL_wsn, rN_wI, rN_wA, rN_wL]; exact e2.2.2.1, by simp (disch := omega) only [bn_s, bv_s, bd_s, gb_0, gb_1, rI_ws, rI_wn, rI_wA, rI_wL, rA_wI, rA_wL, rL_wI, rL_wA, rA_wss, rA_wn, rA_wsn, rL_wss, rL_wn, rL_wsn, rN_wI, rN_wA, rN_wL]; exact e2.2.2.2.1, by simp (disch := omega) only [bn_s, bv_s, bd_s, gb_0, gb_1, rI_ws, rI_wn, rI_wA, rI_wL, rA_wI, rA_wL, rL_wI, rL_wA, rA_wss, rA_wn, rA_wsn, rL_wss, rL_wn, rL_wsn, rN_wI, rN_wA, rN_wL]; exact e2.2.2.2.2.1, fun j hj => by
        by_cases z : j = i
        · subst z; simp (disch := omega) only [bn_s, bv_s, bd_s, gb_0, gb_1, rI_ws, rI_wn, rI_wA, rI_wL, rA_wI, rA_wL, rL_wI, rL_wA, rA_wss, rA_wn, rA_wsn, rL_wss, rL_wn, rL_wsn, rN_wI, rN_wA, rN_wL, pk_us]
        · simp (disch := omega) only [bn_s, bv_s, bd_s, gb_0, gb_1, rI_ws, rI_wn, rI_wA, rI_wL, rA_wI, rA_wL, rL_wI, rL_wA, rA_wss, rA_wn, rA_wsn, rL_wss, rL_wn, rL_wsn, rN_wI, rN_wA, rN_wL]; rw [pk_un z]; exact e2.2.2.2.2.2 j hj⟩ (zk_ke e4 hke)
      have kk := ke_tr hke f3 (Nat.le_refl _)
      have hm : mv c2 n W (fun j => decide (W j = a)) k (i + 1) (q + 1) 0 q2 p2 := mv_congr (fun j h1 h2 => by
        show W j = upd W i (nI (n + i)) j ∧ decide (W j = a) = decide (upd W i (nI (n + i)) j = a)
        rw [pk_un (by omega)]
        exact ⟨rfl, rfl⟩) f5
      have hc5 := ci_ke e5 kk (Nat.lt_succ_self q)
      refine ⟨c2, q2, p2, f1, kst_congr f2 (fun j hj => ?_), ke_tr e3 kk (by omega), f4, Or.inl ⟨by simp [e], by rw [e]; exact hc5, hm⟩, f6⟩
      unfold klf
      by_cases z : j = i
      · subst z
        rw [if_pos ⟨Nat.le_refl _, e⟩, if_neg (fun y => absurd y.1 (by omega)), pk_us]
      · rw [pk_un z]
        by_cases z2 : i ≤ j ∧ W j = a
        · rw [if_pos z2, if_pos ⟨by omega, z2.2⟩]
        · rw [if_neg z2, if_neg (fun y => z2 ⟨by omega, y.2⟩)]
    · rw [if_neg e]
      have hni : decide (W i = a) = false := decide_eq_false e
      rw [hni, cond_false] at hcs
      obtain ⟨c1, q1, p1, e1, e2, e3, e4, e5, e6⟩ := ih fu c (i + 1) q p W (by omega) (by omega) (by omega) hk hz
      refine ⟨c1, q1, p1, e1, kst_congr e2 (fun j hj => ?_), e3, e4, Or.inr ⟨by simp [e], e5⟩, e6⟩
      unfold klf
      by_cases z : j = i
      · subst z
        rw [if_neg (fun y => e y.2), if_neg (fun y => absurd y.1 (by omega))]
      · by_cases z2 : i ≤ j ∧ W j = a
        · rw [if_pos z2, if_pos ⟨by omega, z2.2⟩]
        · rw [if_neg z2, if_neg (fun y => z2 ⟨by omega, y.2⟩)]
theorem pt_kl (n : Nat) (W : Nat → Int32) {a : Nat} (h : Nat) (hh : h ≤ 220) (hn : n ≤ 16) (ha : a < n) : pt n (kl n W (nI a)) h + cn (fun j => decide (W j = nI a)) h 0 = pt n W h := by
  unfold pt
  refine cn_sum h 0 (fun j _ hj => ?_)
  unfold ns kl
  by_cases e : W j = nI a
  · have : ¬ nI a = nI (n + j) := fun z => by
      have := (nI_eq (by omega) (by omega)).mp z
      omega
    simp [e, this]
  · simp [e]
theorem kt_33 {c : rs_T} {N n f s q p h i a : Nat} {W : Nat → Int32} (hi : kin c N n f s q p (h + 1) W i 33) (h8 : rA c 8 i = nI a) (ha : a < n) : ∃ c1 K1, fx_Co_translate N (nI i) c = some c1 ∧ kout c c1 n f s q i h K1 (q + pt n W (h + 1) + 2) 1 ∧ ((W h = nI a ∧ K1 = (q, p + 1, W)) ∨ (¬ W h = nI a ∧ ∃ q1 p1, mv c1 n W (fun j => decide (W j = nI a)) h 0 q (p + 1) q1 p1 ∧ ci c1 q1 200 (nI p1) (nI a) (W h) 0 0 ∧ K1 = (q1 + 1, 0, kl n W (nI a)))) := by
  obtain ⟨hk, hz, h25, h7, hi, hh, hn, hq, hN⟩ := hi
  obtain ⟨k1, k2, k3⟩ := k_pend hk hz
  have n_k2 := ke_n3 k2
  rw [tr_p ⟨hq.2.2.1, hq.2.2.2.1⟩ h7 h25 (by decide) (by decide), if_pos (by decide), if_pos (by decide), if_pos (by decide), if_neg (by decide)]
  obtain ⟨c1, e1, e2, e3, e4⟩ := k_pop k1 (by omega) k3
  have n_e3 := ke_n3 e3
  have hk2 := ke_tr k2 e3 (Nat.le_refl _)
  have hu : fx_Co_useVariable N 33 (rA c 8 i) (wI c 24 (rI c 24 + 1)) = fx_Co_setLocal N (nI a) (W h) c1 := by
    unfold fx_Co_useVariable
    rw [if_neg (by decide), if_neg (by decide), if_neg (by decide), if_pos (by decide), e1, bn_s, h8, bv_id]
  rw [hu]
  unfold fx_Co_setLocal
  have h1 := (pt_s1 n W h).1
  by_cases e : W h = nI a
  · rw [if_pos e]
    refine ⟨c1, _, rfl, ⟨e2, e4, ke_kf i hk2, Nat.le_refl _, ?_, ?_, ?_⟩, Or.inl ⟨e, rfl⟩⟩
    · show q + pt n W h ≤ _
      omega
    · rw [hk2.1 25 (by omega)]; exact h25
    · exact hk2.1 26 (by omega)
  · rw [if_neg e]
    have hptl := pt_kl n W h (by omega) hn ha
    obtain ⟨c2, q1, p1, f1, f2, f3, f4, f5, f6⟩ := k_sloc N (nI a) (W h) (by omega) hn h N c1 0 q (p + 1) W (by omega) (by omega) (by omega) e2 e4
    have n_f3 := ke_n3 f3
    rw [klf_0] at f2
    have hk3 := ke_tr hk2 f3 (Nat.le_refl _)
    have hq1 := (mv_q f5).1
    refine ⟨c2, (q1 + 1, 0, kl n W (nI a)), f1, ⟨f2, f4, ke_kf i hk3, ?_, ?_, ?_, ?_⟩, Or.inr ⟨e, q1, p1, f5, f6, rfl⟩⟩
    · show q ≤ q1 + 1
      omega
    · show q1 + 1 + pt n (kl n W (nI a)) h ≤ _
      have := pt_kl n W h (by omega) hn ha
      omega
    · rw [hk3.1 25 (by omega)]; exact h25
    · exact hk3.1 26 (by omega)
theorem kt_34 {c : rs_T} {N n f s q p h i a : Nat} {W : Nat → Int32} (hi : kin c N n f s q p (h + 1) W i 34) (h8 : rA c 8 i = nI a) (ha : a < n) : ∃ c1 K1, fx_Co_translate N (nI i) c = some c1 ∧ kout c c1 n f s q i (h + 1) K1 (q + pt n W (h + 1) + 2) 1 ∧ ((W h = nI a ∧ K1 = (q, p + 1, upd W h (W h))) ∨ (¬ W h = nI a ∧ ∃ q1 p1, mv c1 n W (fun j => decide (W j = nI a)) h 0 q (p + 1) q1 p1 ∧ ci c1 q1 200 (nI p1) (nI a) (W h) 0 0 ∧ K1 = (q1 + 1, 0, upd (kl n W (nI a)) h (W h)))) := by
  obtain ⟨hk, hz, h25, h7, hi, hh, hn, hq, hN⟩ := hi
  obtain ⟨k1, k2, k3⟩ := k_pend hk hz
  have n_k2 := ke_n3 k2
  rw [tr_p ⟨hq.2.2.1, hq.2.2.2.1⟩ h7 h25 (by decide) (by decide), if_pos (by decide), if_pos (by decide), if_pos (by decide), if_neg (by decide)]
  obtain ⟨c1, e1, e2, e3, e4⟩ := k_pop k1 (by omega) k3
  have n_e3 := ke_n3 e3
  have hk2 := ke_tr k2 e3 (Nat.le_refl _)
  have hu : fx_Co_useVariable N 34 (rA c 8 i) (wI c 24 (rI c 24 + 1)) = bv (fx_Co_setLocal N (nI a) (W h) c1) (fun st => fx_Co_push (W h) st) := by
    unfold fx_Co_useVariable
    rw [if_neg (by decide), if_neg (by decide), if_neg (by decide), if_neg (by decide), if_pos (by decide), e1, bn_s, h8]
    congr 1
    funext st
    exact bv_id _
  rw [hu]
  unfold fx_Co_setLocal
  have h1 := (pt_s1 n W h).1
  by_cases e : W h = nI a
  · rw [if_pos e, bv_s]
    obtain ⟨c2, f1, f2, f3, f4⟩ := k_push e2 (by omega) e4 (W h)
    have n_f3 := ke_n3 f3
    have hk3 := ke_tr hk2 f3 (Nat.le_refl _)
    refine ⟨c2, (q, p + 1, upd W h (W h)), f1, ⟨f2, f4, ke_kf i hk3, Nat.le_refl _, ?_, ?_, ?_⟩, Or.inl ⟨e, rfl⟩⟩
    · show q + pt n (upd W h (W h)) (h + 1) ≤ _
      have h2 := (pt_s1 n (upd W h (W h)) h).2
      rw [pt_up] at h2
      omega
    · rw [hk3.1 25 (by omega)]; exact h25
    · exact hk3.1 26 (by omega)
  · rw [if_neg e]
    have hptl := pt_kl n W h (by omega) hn ha
    obtain ⟨c2, q1, p1, f1, f2, f3, f4, f5, f6⟩ := k_sloc N (nI a) (W h) (by omega) hn h N c1 0 q (p + 1) W (by omega) (by omega) (by omega) e2 e4
    have n_f3 := ke_n3 f3
    rw [klf_0] at f2
    have f1' : fx_Co_setLocal_b8 N N (nI a) (W h) 0 c1 = some c2 := f1
    rw [f1', bv_s]
    obtain ⟨c3, g1, g2, g3, g4⟩ := k_push f2 (by omega) f4 (W h)
    have n_g3 := ke_n3 g3
    have hk3 := ke_tr hk2 f3 (Nat.le_refl _)
    have hq1 := (mv_q f5).1
    have hk4 := ke_tr hk3 g3 (by omega)
    refine ⟨c3, (q1 + 1, 0, upd (kl n W (nI a)) h (W h)), g1, ⟨g2, g4, ke_kf i hk4, ?_, ?_, ?_, ?_⟩, Or.inr ⟨e, q1, p1, mv_ke g3 (by omega) f5, ci_ke f6 g3 (by omega), rfl⟩⟩
    · show q ≤ q1 + 1
      omega
    · show q1 + 1 + pt n (upd (kl n W (nI a)) h (W h)) (h + 1) ≤ _
      have h2 := (pt_s1 n (upd (kl n W (nI a)) h (W h)) h).2
      rw [pt_up] at h2
      have := pt_kl n W h (by omega) hn ha
      omega
    · rw [hk4.1 25 (by omega)]; exact h25
    · exact hk4.1 26 (by omega)
-- live or dead from here
theorem k_lv {c : rs_T} {n f q p h s : Nat} {W : Nat → Int32} (v : Int32) (i : Nat) (hk : kst c n f q p h W) (hz : zk c s q) : kst (wI c 25 v) n f q p h W ∧ zk (wI c 25 v) s q ∧ kf c (wI c 25 v) q i ∧ rI (wI c 25 v) 25 = v ∧ rI (wI c 25 v) 26 = rI c 26 := by
  obtain ⟨k1, k2, k3, k4, k5, k6⟩ := hk
  refine ⟨⟨?_, ?_, ?_, ?_, ?_, fun j hj => ?_⟩, fun x h1 h2 => ?_, ⟨fun k hk => ?_, fun j x' hj => ?_, fun j x' h1 h2 h3 => ?_, fun x' _ => ?_, fun j x' => ?_, rfl⟩, ?_, ?_⟩
  · simp (disch := omega) only [bn_s, bv_s, bd_s, gb_0, gb_1, rI_ws, rI_wn, rI_wA, rI_wL, rA_wI, rA_wL, rL_wI, rL_wA, rA_wss, rA_wn, rA_wsn, rL_wss, rL_wn, rL_wsn, rN_wI, rN_wA, rN_wL]; exact k1
  · simp (disch := omega) only [bn_s, bv_s, bd_s, gb_0, gb_1, rI_ws, rI_wn, rI_wA, rI_wL, rA_wI, rA_wL, rL_wI, rL_wA, rA_wss, rA_wn, rA_wsn, rL_wss, rL_wn, rL_wsn, rN_wI, rN_wA, rN_wL]; exact k2
  · simp (disch := omega) only [bn_s, bv_s, bd_s, gb_0, gb_1, rI_ws, rI_wn, rI_wA, rI_wL, rA_wI, rA_wL, rL_wI, rL_wA, rA_wss, rA_wn, rA_wsn, rL_wss, rL_wn, rL_wsn, rN_wI, rN_wA, rN_wL]; exact k3
  · simp (disch := omega) only [bn_s, bv_s, bd_s, gb_0, gb_1, rI_ws, rI_wn, rI_wA, rI_wL, rA_wI, rA_wL, rL_wI, rL_wA, rA_wss, rA_wn, rA_wsn, rL_wss, rL_wn, rL_wsn, rN_wI, rN_wA, rN_wL]; exact k4
  · simp (disch := omega) only [bn_s, bv_s, bd_s, gb_0, gb_1, rI_ws, rI_wn, rI_wA, rI_wL, rA_wI, rA_wL, rL_wI, rL_wA, rA_wss, rA_wn, rA_wsn, rL_wss, rL_wn, rL_wsn, rN_wI, rN_wA, rN_wL]; exact k5
  · simp (disch := omega) only [bn_s, bv_s, bd_s, gb_0, gb_1, rI_ws, rI_wn, rI_wA, rI_wL, rA_wI, rA_wL, rL_wI, rL_wA, rA_wss, rA_wn, rA_wsn, rL_wss, rL_wn, rL_wsn, rN_wI, rN_wA, rN_wL]; exact k6 j hj
  · simp (disch := omega) only [bn_s, bv_s, bd_s, gb_0, gb_1, rI_ws, rI_wn, rI_wA, rI_wL, rA_wI, rA_wL, rL_wI, rL_wA, rA_wss, rA_wn, rA_wsn, rL_wss, rL_wn, rL_wsn, rN_wI, rN_wA, rN_wL]; exact hz x h1 h2
  all_goals simp (disch := omega) only [bn_s, bv_s, bd_s, gb_0, gb_1, rI_ws, rI_wn, rI_wA, rI_wL, rA_wI, rA_wL, rL_wI, rL_wA, rA_wss, rA_wn, rA_wsn, rL_wss, rL_wn, rL_wsn, rN_wI, rN_wA, rN_wL]
theorem k_seth {c : rs_T} {n f q p h k s : Nat} {W : Nat → Int32} (hkh : k ≤ h) (hk : kst c n f q p h W) (hz : zk c s q) : kst (wI c 23 (nI k)) n f q p k W ∧ ke c (wI c 23 (nI k)) q ∧ zk (wI c 23 (nI k)) s q := by
  obtain ⟨k1, k2, k3, k4, k5, k6⟩ := hk
  have hke : ke c (wI c 23 (nI k)) q := by
    refine ⟨fun k hk => ?_, fun j x' hj => ?_, fun j x' h1 h2 h3 => ?_, fun x' => ?_, fun j x' => ?_, rfl⟩ <;> simp (disch := omega) only [bn_s, bv_s, bd_s, gb_0, gb_1, rI_ws, rI_wn, rI_wA, rI_wL, rA_wI, rA_wL, rL_wI, rL_wA, rA_wss, rA_wn, rA_wsn, rL_wss, rL_wn, rL_wsn, rN_wI, rN_wA, rN_wL]
  refine ⟨⟨?_, ?_, ?_, ?_, ?_, fun j hj => ?_⟩, hke, zk_ke hz hke⟩
  · simp (disch := omega) only [bn_s, bv_s, bd_s, gb_0, gb_1, rI_ws, rI_wn, rI_wA, rI_wL, rA_wI, rA_wL, rL_wI, rL_wA, rA_wss, rA_wn, rA_wsn, rL_wss, rL_wn, rL_wsn, rN_wI, rN_wA, rN_wL]; exact k1
  · simp (disch := omega) only [bn_s, bv_s, bd_s, gb_0, gb_1, rI_ws, rI_wn, rI_wA, rI_wL, rA_wI, rA_wL, rL_wI, rL_wA, rA_wss, rA_wn, rA_wsn, rL_wss, rL_wn, rL_wsn, rN_wI, rN_wA, rN_wL]; exact k2
  · simp (disch := omega) only [bn_s, bv_s, bd_s, gb_0, gb_1, rI_ws, rI_wn, rI_wA, rI_wL, rA_wI, rA_wL, rL_wI, rL_wA, rA_wss, rA_wn, rA_wsn, rL_wss, rL_wn, rL_wsn, rN_wI, rN_wA, rN_wL]; exact k3
  · simp (disch := omega) only [bn_s, bv_s, bd_s, gb_0, gb_1, rI_ws, rI_wn, rI_wA, rI_wL, rA_wI, rA_wL, rL_wI, rL_wA, rA_wss, rA_wn, rA_wsn, rL_wss, rL_wn, rL_wsn, rN_wI, rN_wA, rN_wL]
  · simp (disch := omega) only [bn_s, bv_s, bd_s, gb_0, gb_1, rI_ws, rI_wn, rI_wA, rI_wL, rA_wI, rA_wL, rL_wI, rL_wA, rA_wss, rA_wn, rA_wsn, rL_wss, rL_wn, rL_wsn, rN_wI, rN_wA, rN_wL]; exact k5
  · simp (disch := omega) only [bn_s, bv_s, bd_s, gb_0, gb_1, rI_ws, rI_wn, rI_wA, rI_wL, rA_wI, rA_wL, rL_wI, rL_wA, rA_wss, rA_wn, rA_wsn, rL_wss, rL_wn, rL_wsn, rN_wI, rN_wA, rN_wL]; exact k6 j (by omega)
-- a label as the arrays have it
def lkb (c : rs_T) (f r : Nat) (lb : Option kl_T) (at_ : Nat) : Prop := rA c 1 f = nI r ∧ f < 40 ∧ (match lb with
  | none => rA c 10 at_ = -1
  | some b => rA c 10 at_ = nI b.1 ∧ (b.1 < 512 ∧ b.1 < rN c 0 ∧ rN c 0 ≤ 1500) ∧ rA c 12 b.1 = nI b.2.1 ∧ (b.2.2.2 = true → rA c 7 b.1 = 3 ∧ rA c 8 b.1 = nI b.2.2.1) ∧ (b.2.2.2 = false → ¬ rA c 7 b.1 = 3 ∧ rA c 9 b.1 = nI b.2.2.1 ∧ ∃ e : Nat, (e < 512 ∧ e < rN c 0) ∧ rA c 10 b.1 = nI e))
theorem lkb_ke {c c1 : rs_T} {q f r at_ : Nat} {lb : Option kl_T} (h : lkb c f r lb at_) (hk : ∀ j x, j < 23 → rA c1 j x = rA c j x) (hn : rN c1 0 = rN c 0) : lkb c1 f r lb at_ := by
  unfold lkb at h ⊢
  cases lb with
  | none =>
    simp only [] at h ⊢
    rw [hk 1 _ (by decide), hk 10 _ (by decide)]; exact h
  | some b =>
    simp only [] at h ⊢
    rw [hk 1 _ (by decide), hk 10 _ (by decide), hk 12 _ (by decide), hk 7 _ (by decide), hk 8 _ (by decide), hk 9 _ (by decide), hk 10 _ (by decide), hn]; exact h
theorem wb_by {c : rs_T} {f r at_ : Nat} {lb : Option kl_T} (h : lkb c f r lb at_) : fx_Pr_wantedBy (rA c 10 at_) (nI f) c = some (nI (lw r lb), c) := by
  obtain ⟨h1, h2, h3⟩ := h
  unfold fx_Pr_wantedBy
  cases lb with
  | none =>
    have h3 : rA c 10 at_ = -1 := h3
    rw [h3, if_pos rfl, gd_k (by omega) (by omega), nI_clamp (by omega), h1]
    rfl
  | some b =>
    obtain ⟨g1, g2, g3, g4, g5⟩ := h3
    rw [g1, if_neg (fun z => (nI_m1 (by omega)).mp z), gd_k (by omega) (by omega), nI_clamp (by omega)]
    cases hb : b.2.2.2 with
    | true =>
      obtain ⟨j1, j2⟩ := g4 hb
      rw [if_pos j1, gd_k (by omega) (by omega), j2]
      rfl
    | false =>
      obtain ⟨j1, j2, -⟩ := g5 hb
      rw [if_neg j1, gd_k (by omega) (by omega), j2]
      rfl
theorem k_br {c : rs_T} {n f q p h s r at_ : Nat} {W : Nat → Int32} {lb : Option kl_T} (hk : kst c n f q p h W) (hq : q < rN c 2 ∧ rN c 2 ≤ 3000) (hz : zk c s q) (hl : lkb c f r lb at_) (ha : at_ < rN c 0 ∧ rN c 0 ≤ 1500) (hw : lw r lb ≤ h) (hn : n + h < 1000) : ∃ c1, fx_Co_emitBranch (nI at_) c = some c1 ∧ kst c1 n f (q + 1) 0 h W ∧ ke c c1 q ∧ zk c1 s (q + 1) ∧ brc c1 n r h nI lb q p := by
  have hb := wb_by hl
  obtain ⟨h1, h2, h3⟩ := id hl
  unfold fx_Co_emitBranch
  rw [gd_k (by omega) (by omega), bd_s, nI_clamp (by omega), hk.2.1, hb, bn_s, bd_s, hk.2.2.1, hk.2.2.2.1, nI_add, nI_sub (by omega)]
  cases lb with
  | none =>
    have h3 : rA c 10 at_ = -1 := h3
    rw [h3, if_pos rfl]
    obtain ⟨c1, e1, e2, e3, e4, e5⟩ := k_emit hk hq hz 15 0 (nI (n + h - lw r none)) 0 0 (fun z => absurd z (by decide))
    have n_e3 := ke_n3 e3
    exact ⟨c1, by rw [e1, bv_s], e2, e3, e4, e5⟩
  | some b =>
    obtain ⟨g1, g2, g3, g4, g5⟩ := h3
    rw [g1, if_neg (fun z => (nI_m1 (by omega)).mp z)]
    unfold fx_Pr_isLoop
    rw [if_neg (fun z => (nI_m1 (by omega)).mp z), gd_k (by omega) (by omega), nI_clamp (by omega)]
    cases hb2 : b.2.2.2 with
    | true =>
      obtain ⟨j1, j2⟩ := g4 hb2
      rw [if_pos j1, bn_s, if_neg (by decide)]
      unfold fx_Co_emitBranch_b79
      rw [gd_k (by omega) (by omega), nI_clamp (by omega), hk.2.2.1, g3, nI_add]
      obtain ⟨c1, e1, e2, e3, e4, e5⟩ := k_emit hk hq hz 12 (nI (n + b.2.1)) (nI (n + h - lw r (some b))) (nI (lw r (some b))) (nI b.1) (fun _ => ⟨b.1, by omega, rfl⟩)
      have n_e3 := ke_n3 e3
      exact ⟨c1, by rw [e1, bv_s], e2, e3, e4, b.1, g2.1, Or.inl ⟨hb2, rfl⟩, e5⟩
    | false =>
      obtain ⟨j1, j2, e, he, j3⟩ := g5 hb2
      rw [if_neg j1, bn_s, if_pos rfl, gd_k (by omega) (by omega), j3]
      unfold fx_Co_emitBranch_b79
      rw [gd_k (by omega) (by omega), nI_clamp (by omega), hk.2.2.1, g3, nI_add]
      obtain ⟨c1, e1, e2, e3, e4, e5⟩ := k_emit hk hq hz 12 (nI (n + b.2.1)) (nI (n + h - lw r (some b))) (nI (lw r (some b))) (nI e) (fun _ => ⟨e, by omega, rfl⟩)
      have n_e3 := ke_n3 e3
      refine ⟨c1, by rw [e1, bv_s], e2, e3, e4, e, he.1, Or.inr ⟨hb2, ?_⟩, e5⟩
      rw [e3.2.1 10 b.1 (by decide)]; exact j3
theorem br_ke {c c1 : rs_T} {n r h q w Q : Nat} {Z : Nat → Int32} {lb : Option kl_T} (hk : ke c c1 Q) (hq : q < Q) (hb : brc c n r h Z lb q w) : brc c1 n r h Z lb q w := by
  cases lb with
  | none => exact ci_ke hb hk hq
  | some b =>
    obtain ⟨e, he, ht, hc⟩ := hb
    refine ⟨e, he, ?_, ci_ke hc hk hq⟩
    rcases ht with ⟨h1, h2⟩ | ⟨h1, h2⟩
    · exact Or.inl ⟨h1, h2⟩
    · exact Or.inr ⟨h1, (hk.2.1 10 b.1 (by decide)).trans h2⟩
