-- ===== the compiler: what it keeps, what it writes =====
def kst (c : rs_T) (n f q p h : Nat) (W : Nat → Int32) : Prop := rI c 19 = nI q ∧ rI c 21 = nI f ∧ rI c 22 = nI n ∧ rI c 23 = nI h ∧ rI c 24 = nI p ∧ ∀ i, i < h → rA c 29 i = W i
def ke (c c1 : rs_T) (q : Nat) : Prop := (∀ k, (k < 19 ∨ k = 20 ∨ k = 21 ∨ k = 22 ∨ 24 < k) → rI c1 k = rI c k) ∧ (∀ j x, j < 23 → rA c1 j x = rA c j x) ∧ (∀ j x, 23 ≤ j → j ≤ 28 → x < q → rA c1 j x = rA c j x) ∧ (∀ x, rA c1 30 x = rA c 30 x) ∧ (∀ j x, rL c1 j x = rL c j x) ∧ c1.2.2.2 = c.2.2.2
def zk (c : rs_T) (s q : Nat) : Prop := ∀ x, s ≤ x → x < q → (rA c 23 x = 12 ∨ rA c 23 x = 4) → ∃ y : Nat, y < rN c 0 ∧ rA c 28 x = nI y
def ci (c : rs_T) (q : Nat) (o w to x y z : Int32) : Prop := rA c 23 q = o ∧ rA c 24 q = w ∧ rA c 25 q = to ∧ rA c 26 q = x ∧ rA c 27 q = y ∧ rA c 28 q = z
theorem ke_rfl (c : rs_T) (q : Nat) : ke c c q := ⟨fun _ _ => rfl, fun _ _ _ => rfl, fun _ _ _ _ _ => rfl, fun _ => rfl, fun _ _ => rfl, rfl⟩
theorem ke_tr {c c1 c2 : rs_T} {q q1 : Nat} (h1 : ke c c1 q) (h2 : ke c1 c2 q1) (h : q ≤ q1) : ke c c2 q := by
  obtain ⟨a1, a2, a3, a4, a5, a6⟩ := h1
  obtain ⟨b1, b2, b3, b4, b5, b6⟩ := h2
  exact ⟨fun k hk => (b1 k hk).trans (a1 k hk), fun j x hj => (b2 j x hj).trans (a2 j x hj), fun j x h1 h2 hx => (b3 j x h1 h2 (by omega)).trans (a3 j x h1 h2 hx), fun x => (b4 x).trans (a4 x), fun j x => (b5 j x).trans (a5 j x), b6.trans a6⟩
theorem ke_n {c c1 : rs_T} {q : Nat} (h : ke c c1 q) (k : Nat) : rN c1 k = rN c k := congrFun h.2.2.2.2.2 k
theorem ke_n3 {c c1 : rs_T} {q : Nat} (h : ke c c1 q) : rN c1 0 = rN c 0 ∧ rN c1 2 = rN c 2 ∧ rN c1 3 = rN c 3 := ⟨ke_n h 0, ke_n h 2, ke_n h 3⟩
theorem ci_ke {c c1 : rs_T} {q q1 : Nat} {o w to x y z : Int32} (h : ci c q o w to x y z) (hk : ke c c1 q1) (hq : q < q1) : ci c1 q o w to x y z := by
  obtain ⟨a1, a2, a3, a4, a5, a6⟩ := h
  have e := hk.2.2.1
  exact ⟨(e 23 q (by decide) (by decide) hq).trans a1, (e 24 q (by decide) (by decide) hq).trans a2, (e 25 q (by decide) (by decide) hq).trans a3, (e 26 q (by decide) (by decide) hq).trans a4, (e 27 q (by decide) (by decide) hq).trans a5, (e 28 q (by decide) (by decide) hq).trans a6⟩
theorem zk_ke {c c1 : rs_T} {s q : Nat} (h : zk c s q) (hk : ke c c1 q) : zk c1 s q := by
  intro x h1 h2
  rw [hk.2.2.1 23 x (by decide) (by decide) h2, hk.2.2.1 28 x (by decide) (by decide) h2, ke_n hk 0]
  exact h x h1 h2
theorem k_emit {c : rs_T} {n f q p h s : Nat} {W : Nat → Int32} (hk : kst c n f q p h W) (hq : q < rN c 2 ∧ rN c 2 ≤ 3000) (hz : zk c s q) (o to x y z : Int32) (hz2 : (o = 12 ∨ o = 4) → ∃ y : Nat, y < rN c 0 ∧ z = nI y) : ∃ c1, fx_Co_emit o to x y z c = some c1 ∧ kst c1 n f (q + 1) 0 h W ∧ ke c c1 q ∧ zk c1 s (q + 1) ∧ ci c1 q o (nI p) to x y z := by
  obtain ⟨k1, k2, k3, k4, k5, k6⟩ := hk
  have hlt : nI q < nI (rN c 2) := nI_lt hq.1 (by omega)
  unfold fx_Co_emit
  rw [k1, bd_s, if_pos hlt, gd_k (by omega) (by omega), gd_k (by omega) (by omega), gd_k (by omega) (by omega), gd_k (by omega) (by omega), gd_k (by omega) (by omega), gd_k (by omega) (by omega), nI_clamp (by omega), k5, nI_1]
  have hr : ∀ j x', 23 ≤ j → j ≤ 28 → ¬ x' = q → rA (wI (wI (wA (wA (wA (wA (wA (wA c 23 q o) 24 q (nI p)) 25 q to) 26 q x) 27 q y) 28 q z) 19 (nI (q + 1))) 24 0) j x' = rA c j x' := by
    intro j x' h1 h2 h3
    simp only [rA_wI, rA_wA]
    rw [if_neg (fun z => h3 z.2), if_neg (fun z => h3 z.2), if_neg (fun z => h3 z.2), if_neg (fun z => h3 z.2), if_neg (fun z => h3 z.2), if_neg (fun z => h3 z.2)]
  have hc : ci (wI (wI (wA (wA (wA (wA (wA (wA c 23 q o) 24 q (nI p)) 25 q to) 26 q x) 27 q y) 28 q z) 19 (nI (q + 1))) 24 0) q o (nI p) to x y z := by
    refine ⟨?_, ?_, ?_, ?_, ?_, ?_⟩ <;> simp (disch := omega) only [bn_s, bv_s, bd_s, gb_0, gb_1, rI_ws, rI_wn, rI_wA, rI_wL, rA_wI, rA_wL, rL_wI, rL_wA, rA_wss, rA_wn, rA_wsn, rL_wss, rL_wn, rL_wsn, rN_wI, rN_wA, rN_wL]
  refine ⟨_, rfl, ⟨?_, ?_, ?_, ?_, ?_, fun i hi => ?_⟩, ⟨fun k hk => ?_, fun j x' hj => ?_, fun j x' h1 h2 h3 => hr j x' h1 h2 (by omega), fun x' => ?_, fun j x' => ?_, rfl⟩, fun x' h1 h2 ho => ?_, hc⟩
  · simp (disch := omega) only [bn_s, bv_s, bd_s, gb_0, gb_1, rI_ws, rI_wn, rI_wA, rI_wL, rA_wI, rA_wL, rL_wI, rL_wA, rA_wss, rA_wn, rA_wsn, rL_wss, rL_wn, rL_wsn, rN_wI, rN_wA, rN_wL]
  · simp (disch := omega) only [bn_s, bv_s, bd_s, gb_0, gb_1, rI_ws, rI_wn, rI_wA, rI_wL, rA_wI, rA_wL, rL_wI, rL_wA, rA_wss, rA_wn, rA_wsn, rL_wss, rL_wn, rL_wsn, rN_wI, rN_wA, rN_wL]; exact k2
  · simp (disch := omega) only [bn_s, bv_s, bd_s, gb_0, gb_1, rI_ws, rI_wn, rI_wA, rI_wL, rA_wI, rA_wL, rL_wI, rL_wA, rA_wss, rA_wn, rA_wsn, rL_wss, rL_wn, rL_wsn, rN_wI, rN_wA, rN_wL]; exact k3
  · simp (disch := omega) only [bn_s, bv_s, bd_s, gb_0, gb_1, rI_ws, rI_wn, rI_wA, rI_wL, rA_wI, rA_wL, rL_wI, rL_wA, rA_wss, rA_wn, rA_wsn, rL_wss, rL_wn, rL_wsn, rN_wI, rN_wA, rN_wL]; exact k4
  · simp (disch := omega) only [bn_s, bv_s, bd_s, gb_0, gb_1, rI_ws, rI_wn, rI_wA, rI_wL, rA_wI, rA_wL, rL_wI, rL_wA, rA_wss, rA_wn, rA_wsn, rL_wss, rL_wn, rL_wsn, rN_wI, rN_wA, rN_wL, nI_0]
  · simp (disch := omega) only [bn_s, bv_s, bd_s, gb_0, gb_1, rI_ws, rI_wn, rI_wA, rI_wL, rA_wI, rA_wL, rL_wI, rL_wA, rA_wss, rA_wn, rA_wsn, rL_wss, rL_wn, rL_wsn, rN_wI, rN_wA, rN_wL]; exact k6 i hi
  · simp (disch := omega) only [bn_s, bv_s, bd_s, gb_0, gb_1, rI_ws, rI_wn, rI_wA, rI_wL, rA_wI, rA_wL, rL_wI, rL_wA, rA_wss, rA_wn, rA_wsn, rL_wss, rL_wn, rL_wsn, rN_wI, rN_wA, rN_wL]
  · simp (disch := omega) only [bn_s, bv_s, bd_s, gb_0, gb_1, rI_ws, rI_wn, rI_wA, rI_wL, rA_wI, rA_wL, rL_wI, rL_wA, rA_wss, rA_wn, rA_wsn, rL_wss, rL_wn, rL_wsn, rN_wI, rN_wA, rN_wL]
  · simp (disch := omega) only [bn_s, bv_s, bd_s, gb_0, gb_1, rI_ws, rI_wn, rI_wA, rI_wL, rA_wI, rA_wL, rL_wI, rL_wA, rA_wss, rA_wn, rA_wsn, rL_wss, rL_wn, rL_wsn, rN_wI, rN_wA, rN_wL]
  · simp (disch := omega) only [bn_s, bv_s, bd_s, gb_0, gb_1, rI_ws, rI_wn, rI_wA, rI_wL, rA_wI, rA_wL, rL_wI, rL_wA, rA_wss, rA_wn, rA_wsn, rL_wss, rL_wn, rL_wsn, rN_wI, rN_wA, rN_wL]
  · by_cases e : x' = q
    · subst e
      rw [hc.1] at ho
      rw [hc.2.2.2.2.2]
      exact hz2 ho
    · rw [hr 23 x' (by decide) (by decide) e] at ho
      rw [hr 28 x' (by decide) (by decide) e]
      exact hz x' h1 (by omega) ho
theorem k_push {c : rs_T} {n f q p h s : Nat} {W : Nat → Int32} (hk : kst c n f q p h W) (hh : h < 220) (hz : zk c s q) (w : Int32) : ∃ c1, fx_Co_push w c = some c1 ∧ kst c1 n f q p (h + 1) (upd W h w) ∧ ke c c1 q ∧ zk c1 s q := by
  obtain ⟨k1, k2, k3, k4, k5, k6⟩ := hk
  have hn : ¬ (220 : Int32) ≤ nI h := fun z => by
    have : 220 ≤ h := (lit_le (k := 220) (show h < 2 ^ 31 by omega) (by omega)).mp z
    omega
  unfold fx_Co_push
  rw [k4, if_neg hn, gd_k (by omega) (by omega), nI_clamp (by omega), nI_1]
  have hke : ke c (wI (wA c 29 h w) 23 (nI (h + 1))) q := by
    refine ⟨fun k hk => ?_, fun j x' hj => ?_, fun j x' h1 h2 h3 => ?_, fun x' => ?_, fun j x' => ?_, rfl⟩ <;> simp (disch := omega) only [bn_s, bv_s, bd_s, gb_0, gb_1, rI_ws, rI_wn, rI_wA, rI_wL, rA_wI, rA_wL, rL_wI, rL_wA, rA_wss, rA_wn, rA_wsn, rL_wss, rL_wn, rL_wsn, rN_wI, rN_wA, rN_wL]
  refine ⟨_, rfl, ⟨?_, ?_, ?_, ?_, ?_, fun i hi => ?_⟩, hke, zk_ke hz hke⟩
  · simp (disch := omega) only [bn_s, bv_s, bd_s, gb_0, gb_1, rI_ws, rI_wn, rI_wA, rI_wL, rA_wI, rA_wL, rL_wI, rL_wA, rA_wss, rA_wn, rA_wsn, rL_wss, rL_wn, rL_wsn, rN_wI, rN_wA, rN_wL]; exact k1
  · simp (disch := omega) only [bn_s, bv_s, bd_s, gb_0, gb_1, rI_ws, rI_wn, rI_wA, rI_wL, rA_wI, rA_wL, rL_wI, rL_wA, rA_wss, rA_wn, rA_wsn, rL_wss, rL_wn, rL_wsn, rN_wI, rN_wA, rN_wL]; exact k2
  · simp (disch := omega) only [bn_s, bv_s, bd_s, gb_0, gb_1, rI_ws, rI_wn, rI_wA, rI_wL, rA_wI, rA_wL, rL_wI, rL_wA, rA_wss, rA_wn, rA_wsn, rL_wss, rL_wn, rL_wsn, rN_wI, rN_wA, rN_wL]; exact k3
  · simp (disch := omega) only [bn_s, bv_s, bd_s, gb_0, gb_1, rI_ws, rI_wn, rI_wA, rI_wL, rA_wI, rA_wL, rL_wI, rL_wA, rA_wss, rA_wn, rA_wsn, rL_wss, rL_wn, rL_wsn, rN_wI, rN_wA, rN_wL]
  · simp (disch := omega) only [bn_s, bv_s, bd_s, gb_0, gb_1, rI_ws, rI_wn, rI_wA, rI_wL, rA_wI, rA_wL, rL_wI, rL_wA, rA_wss, rA_wn, rA_wsn, rL_wss, rL_wn, rL_wsn, rN_wI, rN_wA, rN_wL]; exact k5
  · by_cases e : i = h
    · subst e; simp (disch := omega) only [bn_s, bv_s, bd_s, gb_0, gb_1, rI_ws, rI_wn, rI_wA, rI_wL, rA_wI, rA_wL, rL_wI, rL_wA, rA_wss, rA_wn, rA_wsn, rL_wss, rL_wn, rL_wsn, rN_wI, rN_wA, rN_wL]; rw [pk_us]
    · simp (disch := omega) only [bn_s, bv_s, bd_s, gb_0, gb_1, rI_ws, rI_wn, rI_wA, rI_wL, rA_wI, rA_wL, rL_wI, rL_wA, rA_wss, rA_wn, rA_wsn, rL_wss, rL_wn, rL_wsn, rN_wI, rN_wA, rN_wL]; rw [pk_un e]; exact k6 i (by omega)
theorem k_pop {c : rs_T} {n f q p h s : Nat} {W : Nat → Int32} (hk : kst c n f q p (h + 1) W) (hh : h < 220) (hz : zk c s q) : ∃ c1, fx_Co_pop c = some (W h, c1) ∧ kst c1 n f q p h W ∧ ke c c1 q ∧ zk c1 s q := by
  obtain ⟨k1, k2, k3, k4, k5, k6⟩ := hk
  have hn : (0 : Int32) < nI (h + 1) := (lit_lt (k := 0) (show h + 1 < 2 ^ 31 by omega) (by omega)).mpr (Nat.succ_pos _)
  unfold fx_Co_pop
  rw [k4, if_pos hn, nI_pred, gd_k (by omega) (by omega), nI_clamp (by omega), k6 h (by omega)]
  have hke : ke c (wI c 23 (nI h)) q := by
    refine ⟨fun k hk => ?_, fun j x' hj => ?_, fun j x' h1 h2 h3 => ?_, fun x' => ?_, fun j x' => ?_, rfl⟩ <;> simp (disch := omega) only [bn_s, bv_s, bd_s, gb_0, gb_1, rI_ws, rI_wn, rI_wA, rI_wL, rA_wI, rA_wL, rL_wI, rL_wA, rA_wss, rA_wn, rA_wsn, rL_wss, rL_wn, rL_wsn, rN_wI, rN_wA, rN_wL]
  refine ⟨_, rfl, ⟨?_, ?_, ?_, ?_, ?_, fun i hi => ?_⟩, hke, zk_ke hz hke⟩
  · simp (disch := omega) only [bn_s, bv_s, bd_s, gb_0, gb_1, rI_ws, rI_wn, rI_wA, rI_wL, rA_wI, rA_wL, rL_wI, rL_wA, rA_wss, rA_wn, rA_wsn, rL_wss, rL_wn, rL_wsn, rN_wI, rN_wA, rN_wL]; exact k1
  · simp (disch := omega) only [bn_s, bv_s, bd_s, gb_0, gb_1, rI_ws, rI_wn, rI_wA, rI_wL, rA_wI, rA_wL, rL_wI, rL_wA, rA_wss, rA_wn, rA_wsn, rL_wss, rL_wn, rL_wsn, rN_wI, rN_wA, rN_wL]; exact k2
  · simp (disch := omega) only [bn_s, bv_s, bd_s, gb_0, gb_1, rI_ws, rI_wn, rI_wA, rI_wL, rA_wI, rA_wL, rL_wI, rL_wA, rA_wss, rA_wn, rA_wsn, rL_wss, rL_wn, rL_wsn, rN_wI, rN_wA, rN_wL]; exact k3
  · simp (disch := omega) only [bn_s, bv_s, bd_s, gb_0, gb_1, rI_ws, rI_wn, rI_wA, rI_wL, rA_wI, rA_wL, rL_wI, rL_wA, rA_wss, rA_wn, rA_wsn, rL_wss, rL_wn, rL_wsn, rN_wI, rN_wA, rN_wL]
  · simp (disch := omega) only [bn_s, bv_s, bd_s, gb_0, gb_1, rI_ws, rI_wn, rI_wA, rI_wL, rA_wI, rA_wL, rL_wI, rL_wA, rA_wss, rA_wn, rA_wsn, rL_wss, rL_wn, rL_wsn, rN_wI, rN_wA, rN_wL]; exact k5
  · simp (disch := omega) only [bn_s, bv_s, bd_s, gb_0, gb_1, rI_ws, rI_wn, rI_wA, rI_wL, rA_wI, rA_wL, rL_wI, rL_wA, rA_wss, rA_wn, rA_wsn, rL_wss, rL_wn, rL_wsn, rN_wI, rN_wA, rN_wL]; exact k6 i (by omega)
-- one step more is pending
theorem k_pend {c : rs_T} {n f q p h s : Nat} {W : Nat → Int32} (hk : kst c n f q p h W) (hz : zk c s q) : kst (wI c 24 (rI c 24 + 1)) n f q (p + 1) h W ∧ ke c (wI c 24 (rI c 24 + 1)) q ∧ zk (wI c 24 (rI c 24 + 1)) s q := by
  obtain ⟨k1, k2, k3, k4, k5, k6⟩ := hk
  rw [k5, nI_1]
  have hke : ke c (wI c 24 (nI (p + 1))) q := by
    refine ⟨fun k hk => ?_, fun j x' hj => ?_, fun j x' h1 h2 h3 => ?_, fun x' => ?_, fun j x' => ?_, rfl⟩ <;> simp (disch := omega) only [bn_s, bv_s, bd_s, gb_0, gb_1, rI_ws, rI_wn, rI_wA, rI_wL, rA_wI, rA_wL, rL_wI, rL_wA, rA_wss, rA_wn, rA_wsn, rL_wss, rL_wn, rL_wsn, rN_wI, rN_wA, rN_wL]
  refine ⟨⟨?_, ?_, ?_, ?_, ?_, fun i hi => ?_⟩, hke, zk_ke hz hke⟩
  · simp (disch := omega) only [bn_s, bv_s, bd_s, gb_0, gb_1, rI_ws, rI_wn, rI_wA, rI_wL, rA_wI, rA_wL, rL_wI, rL_wA, rA_wss, rA_wn, rA_wsn, rL_wss, rL_wn, rL_wsn, rN_wI, rN_wA, rN_wL]; exact k1
  · simp (disch := omega) only [bn_s, bv_s, bd_s, gb_0, gb_1, rI_ws, rI_wn, rI_wA, rI_wL, rA_wI, rA_wL, rL_wI, rL_wA, rA_wss, rA_wn, rA_wsn, rL_wss, rL_wn, rL_wsn, rN_wI, rN_wA, rN_wL]; exact k2
  · simp (disch := omega) only [bn_s, bv_s, bd_s, gb_0, gb_1, rI_ws, rI_wn, rI_wA, rI_wL, rA_wI, rA_wL, rL_wI, rL_wA, rA_wss, rA_wn, rA_wsn, rL_wss, rL_wn, rL_wsn, rN_wI, rN_wA, rN_wL]; exact k3
  · simp (disch := omega) only [bn_s, bv_s, bd_s, gb_0, gb_1, rI_ws, rI_wn, rI_wA, rI_wL, rA_wI, rA_wL, rL_wI, rL_wA, rA_wss, rA_wn, rA_wsn, rL_wss, rL_wn, rL_wsn, rN_wI, rN_wA, rN_wL]; exact k4
  · simp (disch := omega) only [bn_s, bv_s, bd_s, gb_0, gb_1, rI_ws, rI_wn, rI_wA, rI_wL, rA_wI, rA_wL, rL_wI, rL_wA, rA_wss, rA_wn, rA_wsn, rL_wss, rL_wn, rL_wsn, rN_wI, rN_wA, rN_wL]
  · simp (disch := omega) only [bn_s, bv_s, bd_s, gb_0, gb_1, rI_ws, rI_wn, rI_wA, rI_wL, rA_wI, rA_wL, rL_wI, rL_wA, rA_wss, rA_wn, rA_wsn, rL_wss, rL_wn, rL_wsn, rN_wI, rN_wA, rN_wL]; exact k6 i (by omega)
-- the operands from a on in their slots
def kw (n : Nat) (W : Nat → Int32) (a : Nat) : Nat → Int32 := fun i => if i < a then W i else nI (n + i)
theorem k_put {n f q p s e : Nat} (N : Nat) (he : e ≤ 1000) : ∀ (k fu : Nat) (c : rs_T) (h : Nat) (W : Nat → Int32) (i : Nat), k < fu → i + k = e → h + k ≤ 220 → n ≤ 16 → kst c n f q p h W → zk c s q → ∃ c1, fx_Co_putSlots_b2 N fu (nI e) (nI i) c = some c1 ∧ kst c1 n f q p (h + k) (kw n W h) ∧ ke c c1 q ∧ zk c1 s q := by
  intro k
  induction k with
  | zero =>
    intro fu c h W i hfu hi hh hn hk hz
    obtain ⟨fu, rfl⟩ : ∃ g, fu = g + 1 := ⟨fu - 1, by omega⟩
    unfold fx_Co_putSlots_b2
    have : i = e := by omega
    subst this
    rw [if_pos (Int32.le_refl _)]
    refine ⟨c, rfl, ⟨hk.1, hk.2.1, hk.2.2.1, hk.2.2.2.1, hk.2.2.2.2.1, fun i hi => ?_⟩, ke_rfl _ _, hz⟩
    unfold kw
    have hi2 : i < h := hi
    rw [if_pos hi2]
    exact hk.2.2.2.2.2 i hi
  | succ k ih =>
    intro fu c h W i hfu hi hh hn hk hz
    obtain ⟨fu, rfl⟩ : ∃ g, fu = g + 1 := ⟨fu - 1, by omega⟩
    have hlt : ¬ nI e ≤ nI i := nI_ge (by omega) (by omega)
    have hn2 : ¬ (220 : Int32) ≤ nI h := fun z => by
      have : 220 ≤ h := (lit_le (k := 220) (show h < 2 ^ 31 by omega) (by omega)).mp z
      omega
    obtain ⟨k1, k2, k3, k4, k5, k6⟩ := id hk
    unfold fx_Co_putSlots_b2
    rw [if_neg hlt, k4, if_neg hn2, gd_k (by omega) (by omega), bd_s, nI_1, nI_1, nI_clamp (by omega), k3, nI_add]
    have hke : ke c (wI (wA c 29 h (nI (n + h))) 23 (nI (h + 1))) q := by
      refine ⟨fun k hk => ?_, fun j x' hj => ?_, fun j x' h1 h2 h3 => ?_, fun x' => ?_, fun j x' => ?_, rfl⟩ <;> simp (disch := omega) only [bn_s, bv_s, bd_s, gb_0, gb_1, rI_ws, rI_wn, rI_wA, rI_wL, rA_wI, rA_wL, rL_wI, rL_wA, rA_wss, rA_wn, rA_wsn, rL_wss, rL_wn, rL_wsn, rN_wI, rN_wA, rN_wL]
    obtain ⟨c1, e1, e2, e3, e4⟩ := ih fu (wI (wA c 29 h (nI (n + h))) 23 (nI (h + 1))) (h + 1) (kw n W h) (i + 1) (by omega) (by omega) (by omega) hn ⟨by simp (disch := omega) only [bn_s, bv_s, bd_s, gb_0, gb_1, rI_ws, rI_wn, rI_wA, rI_wL, rA_wI, rA_wL, rL_wI, rL_wA, rA_wss, rA_wn, rA_wsn, rL_wss, rL_wn, rL_wsn, rN_wI, rN_wA, rN_wL]; exact k1, by simp (disch := omega) only [bn_s, bv_s, bd_s, gb_0, gb_1, rI_ws, rI_wn, rI_wA, rI_wL, rA_wI, rA_wL, rL_wI, rL_wA, rA_wss, rA_wn, rA_wsn, rL_wss, rL_wn, rL_wsn, rN_wI, rN_wA, rN_wL]; exact k2, by simp (disch := omega) only [bn_s, bv_s, bd_s, gb_0, gb_1, rI_ws, rI_wn, rI_wA, rI_wL, rA_wI, rA_wL, rL_wI, rL_wA, rA_wss, rA_wn, rA_wsn, rL_wss, rL_wn, rL_wsn, rN_wI, rN_wA, rN_wL]; exact k3, by simp (disch := omega) only [bn_s, bv_s, bd_s, gb_0, gb_1, rI_ws, rI_wn, rI_wA, rI_wL, rA_wI, rA_wL, rL_wI, rL_wA, rA_wss, rA_wn, rA_wsn, rL_wss, rL_wn, rL_wsn, rN_wI, rN_wA, rN_wL], by simp (disch := omega) only [bn_s, bv_s, bd_s, gb_0, gb_1, rI_ws, rI_wn, rI_wA, rI_wL, rA_wI, rA_wL, rL_wI, rL_wA, rA_wss, rA_wn, rA_wsn, rL_wss, rL_wn, rL_wsn, rN_wI, rN_wA, rN_wL]; exact k5, fun j hj => by
      unfold kw
      by_cases e : j = h
      · subst e; simp (disch := omega) only [bn_s, bv_s, bd_s, gb_0, gb_1, rI_ws, rI_wn, rI_wA, rI_wL, rA_wI, rA_wL, rL_wI, rL_wA, rA_wss, rA_wn, rA_wsn, rL_wss, rL_wn, rL_wsn, rN_wI, rN_wA, rN_wL, if_neg (Nat.lt_irrefl _)]
      · have : j < h := by omega
        simp (disch := omega) only [bn_s, bv_s, bd_s, gb_0, gb_1, rI_ws, rI_wn, rI_wA, rI_wL, rA_wI, rA_wL, rL_wI, rL_wA, rA_wss, rA_wn, rA_wsn, rL_wss, rL_wn, rL_wsn, rN_wI, rN_wA, rN_wL, if_pos this]; exact k6 j this⟩ (zk_ke hz hke)
    refine ⟨c1, e1, ?_, ke_tr hke e3 (Nat.le_refl _), e4⟩
    obtain ⟨g1, g2, g3, g4, g5, g6⟩ := e2
    refine ⟨g1, g2, g3, ?_, g5, fun j hj => ?_⟩
    · rw [g4]; congr 1; omega
    · rw [g6 j (by omega)]
      unfold kw
      by_cases z : j < h
      · rw [if_pos (by omega)]
      · by_cases z2 : j < h + 1
        · rw [if_pos z2]
        · rw [if_neg z2, if_neg z]
