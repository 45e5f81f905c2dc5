-- ===== lengths of rows, and how much was made =====
def ln_ok (f : Nat → Nat) : Prop := 32 ≤ f 0 ∧ f 0 ≤ 1500 ∧ 32 ≤ f 1 ∧ f 1 ≤ 1501 ∧ 64 ≤ f 2 ∧ f 2 ≤ 3000 ∧ 32 ≤ f 3 ∧ (f 3 = f 0 ∨ 2 * f 3 ≤ f 0) ∧ f 4 ≤ f 5 ∧ f 5 ≤ 12 * f 0 + 4 * f 1 + 12 * f 2 + 2 * f 3
def wG (c : rs_T) (g : Nat → Nat) : rs_T := (c.1, c.2.1, c.2.2.1, g)
theorem wG_s (c : rs_T) : wG c c.2.2.2 = c := rfl
theorem nI_mul (a b : Nat) : nI a * nI b = nI (a * b) := (Int32.ofNat_mul a b).symm
theorem two_nI (a : Nat) : (2 : Int32) * nI a = nI (2 * a) := nI_mul 2 a
theorem gm_k {α : Type} {s : rs_T} {g n v : Nat} {x : Option α} (h1 : rN s g < v) (h2 : v ≤ 4096) (h3 : rN s 4 + n ≤ 100000) (h4 : rN s 5 + n * v ≤ 1000000) : gm s g (nI v) n x = x := by
  unfold gm
  rw [nI_clamp (by omega), nI_toInt (by omega)]
  exact if_pos ⟨h1, by omega, by omega, h3, h4⟩
theorem pr_mk {c : rs_T} {t : Nat} (h4 : rI c 4 = nI t) (ht : t < 512) (hL : ln_ok c.2.2.2) (hle : t ≤ rN c 0) : ∃ g, fx_Pr_makeRoom c = some (1, wG c g) ∧ ln_ok g ∧ (t < g 0 ∧ rN c 0 ≤ g 0) ∧ g 1 = rN c 1 ∧ g 2 = rN c 2 := by
  have hL0 := hL
  unfold ln_ok at hL0
  have r0 : rN c 0 = c.2.2.2 0 := rfl
  have r1 : rN c 1 = c.2.2.2 1 := rfl
  have r2 : rN c 2 = c.2.2.2 2 := rfl
  have r4 : rN c 4 = c.2.2.2 4 := rfl
  have r5 : rN c 5 = c.2.2.2 5 := rfl
  unfold fx_Pr_makeRoom
  rw [h4]
  by_cases e : t < rN c 0
  · refine ⟨c.2.2.2, ?_, hL, ⟨e, Nat.le_refl _⟩, rfl, rfl⟩
    rw [if_pos (nI_lt e (by omega))]
    unfold fx_Pr_makeRoom_b108
    rw [h4, if_neg (nI_ge e (by omega))]
    rfl
  · have n4 : ¬ (1500 : Int32) ≤ nI t := nI_ge (a := t) (b := 1500) (by omega) (by omega)
    have hv : (if (1500 : Int32) < 2 * nI (rN c 0) then 1500 else 2 * nI (rN c 0)) = nI (2 * rN c 0) := by
      rw [two_nI]
      exact if_neg (nI_nlt (a := 1500) (b := 2 * rN c 0) (by omega) (by omega))
    refine ⟨(gN c 0 (2 * rN c 0) 6).2.2.2, ?_, ?_, ?_, rfl, rfl⟩
    · rw [if_neg (nI_nlt (by omega) (by omega)), if_neg n4, bd_s, hv, gm_k (by omega) (by omega) (by omega) (by omega), nI_clamp (by omega)]
      unfold fx_Pr_makeRoom_b108
      have e1 : rI (gN c 0 (2 * rN c 0) 6) 4 = nI t := h4
      have e2 : rN (gN c 0 (2 * rN c 0) 6) 0 = 2 * rN c 0 := rfl
      rw [e1, e2, if_neg (nI_ge (by omega) (by omega))]
      rfl
    · show 32 ≤ 2 * rN c 0 ∧ 2 * rN c 0 ≤ 1500 ∧ 32 ≤ c.2.2.2 1 ∧ c.2.2.2 1 ≤ 1501 ∧ 64 ≤ c.2.2.2 2 ∧ c.2.2.2 2 ≤ 3000 ∧ 32 ≤ c.2.2.2 3 ∧ (c.2.2.2 3 = 2 * rN c 0 ∨ 2 * c.2.2.2 3 ≤ 2 * rN c 0) ∧ rN c 4 + 6 ≤ rN c 5 + 6 * (2 * rN c 0) ∧ rN c 5 + 6 * (2 * rN c 0) ≤ 12 * (2 * rN c 0) + 4 * c.2.2.2 1 + 12 * c.2.2.2 2 + 2 * c.2.2.2 3
      omega
    · show t < 2 * rN c 0 ∧ rN c 0 ≤ 2 * rN c 0
      omega
theorem wr_mk {c : rs_T} {t : Nat} (h5 : rI c 5 = nI t) (ht : t ≤ 512) (hL : ln_ok c.2.2.2) (hle : t ≤ rN c 1) : ∃ g, fx_Wr_makeRoom c = some (1, wG c g) ∧ ln_ok g ∧ t < g 1 ∧ g 0 = rN c 0 ∧ g 2 = rN c 2 := by
  have hL0 := hL
  unfold ln_ok at hL0
  have r0 : rN c 0 = c.2.2.2 0 := rfl
  have r1 : rN c 1 = c.2.2.2 1 := rfl
  have r2 : rN c 2 = c.2.2.2 2 := rfl
  have r4 : rN c 4 = c.2.2.2 4 := rfl
  have r5 : rN c 5 = c.2.2.2 5 := rfl
  unfold fx_Wr_makeRoom
  rw [bd_s, h5]
  by_cases e : t < rN c 1
  · refine ⟨c.2.2.2, ?_, hL, e, rfl, rfl⟩
    rw [if_pos (nI_lt e (by omega))]
    unfold fx_Wr_makeRoom_b84
    rw [h5, if_neg (nI_ge e (by omega))]
    rfl
  · have n4 : ¬ (1501 : Int32) ≤ nI t := nI_ge (a := t) (b := 1501) (by omega) (by omega)
    have hv : (if (1501 : Int32) < 2 * nI (rN c 1) then 1501 else 2 * nI (rN c 1)) = nI (2 * rN c 1) := by
      rw [two_nI]
      exact if_neg (nI_nlt (a := 1501) (b := 2 * rN c 1) (by omega) (by omega))
    refine ⟨(gN c 1 (2 * rN c 1) 2).2.2.2, ?_, ?_, ?_, rfl, rfl⟩
    · rw [if_neg (nI_nlt (by omega) (by omega)), if_neg n4, bd_s, hv, gm_k (by omega) (by omega) (by omega) (by omega), nI_clamp (by omega)]
      unfold fx_Wr_makeRoom_b84
      have e1 : rI (gN c 1 (2 * rN c 1) 2) 5 = nI t := h5
      have e2 : rN (gN c 1 (2 * rN c 1) 2) 1 = 2 * rN c 1 := rfl
      rw [e1, e2, if_neg (nI_ge (by omega) (by omega))]
      rfl
    · show 32 ≤ c.2.2.2 0 ∧ c.2.2.2 0 ≤ 1500 ∧ 32 ≤ 2 * rN c 1 ∧ 2 * rN c 1 ≤ 1501 ∧ 64 ≤ c.2.2.2 2 ∧ c.2.2.2 2 ≤ 3000 ∧ 32 ≤ c.2.2.2 3 ∧ (c.2.2.2 3 = c.2.2.2 0 ∨ 2 * c.2.2.2 3 ≤ c.2.2.2 0) ∧ rN c 4 + 2 ≤ rN c 5 + 2 * (2 * rN c 1) ∧ rN c 5 + 2 * (2 * rN c 1) ≤ 12 * c.2.2.2 0 + 4 * (2 * rN c 1) + 12 * c.2.2.2 2 + 2 * c.2.2.2 3
      omega
    · show t < 2 * rN c 1
      omega
theorem rc_mk {c : rs_T} {q n : Nat} (h19 : rI c 19 = nI q) (hq : q + 2 * n ≤ 1100) (hL : ln_ok c.2.2.2) : ∃ g, fx_Rc_makeRoom (nI n) c = some (wG c g) ∧ ln_ok g ∧ q + 2 * n ≤ g 2 ∧ g 0 = rN c 0 ∧ g 1 = rN c 1 ∧ g 3 = rN c 3 := by
  have hL0 := hL
  unfold ln_ok at hL0
  have r0 : rN c 0 = c.2.2.2 0 := rfl
  have r1 : rN c 1 = c.2.2.2 1 := rfl
  have r2 : rN c 2 = c.2.2.2 2 := rfl
  have r3 : rN c 3 = c.2.2.2 3 := rfl
  have r4 : rN c 4 = c.2.2.2 4 := rfl
  have r5 : rN c 5 = c.2.2.2 5 := rfl
  unfold fx_Rc_makeRoom
  rw [bd_s, h19, two_nI, nI_add]
  by_cases e : q + 2 * n ≤ rN c 2
  · refine ⟨c.2.2.2, ?_, hL, e, rfl, rfl, rfl⟩
    rw [if_pos (nI_le e (by omega))]
    rfl
  · obtain ⟨v, hv⟩ : ∃ v : Nat, v = max (q + 2 * n) (2 * rN c 2) := ⟨_, rfl⟩
    have hmx : (if nI (q + 2 * n) < 2 * nI (rN c 2) then 2 * nI (rN c 2) else nI (q + 2 * n)) = nI v := by
      rw [two_nI]
      by_cases e2 : q + 2 * n < 2 * rN c 2
      · rw [if_pos (nI_lt e2 (by omega)), hv, Nat.max_eq_right (by omega)]
      · rw [if_neg (nI_nlt (by omega) (by omega)), hv, Nat.max_eq_left (by omega)]
    have hv1 : q + 2 * n ≤ v := by rw [hv]; exact Nat.le_max_left _ _
    have hv2 : 2 * rN c 2 ≤ v := by rw [hv]; exact Nat.le_max_right _ _
    have hv3 : v ≤ 2200 := by rw [hv]; omega
    have hmn : (if (3000 : Int32) < nI v then 3000 else nI v) = nI v := if_neg (nI_nlt (a := 3000) (b := v) (by omega) (by omega))
    refine ⟨(gN c 2 v 6).2.2.2, ?_, ?_, ?_, rfl, rfl, rfl⟩
    · rw [if_neg (nI_ge (by omega) (by omega)), hmx, hmn, bd_s, gm_k (by omega) (by omega) (by omega) (by omega), nI_clamp (by omega)]
      rfl
    · show 32 ≤ c.2.2.2 0 ∧ c.2.2.2 0 ≤ 1500 ∧ 32 ≤ c.2.2.2 1 ∧ c.2.2.2 1 ≤ 1501 ∧ 64 ≤ v ∧ v ≤ 3000 ∧ 32 ≤ c.2.2.2 3 ∧ (c.2.2.2 3 = c.2.2.2 0 ∨ 2 * c.2.2.2 3 ≤ c.2.2.2 0) ∧ rN c 4 + 6 ≤ rN c 5 + 6 * v ∧ rN c 5 + 6 * v ≤ 12 * c.2.2.2 0 + 4 * c.2.2.2 1 + 12 * v + 2 * c.2.2.2 3
      omega
    · exact hv1
theorem co_mk {c : rs_T} {f q s e : Nat} (h21 : rI c 21 = nI f) (hf : f < 40) (h5 : rA c 5 f = nI (e - 1)) (h4 : rA c 4 f = nI s) (hse : s < e) (he : e ≤ 512) (h19 : rI c 19 = nI q) (hq : q + 2 * (e - s) ≤ 1100) (hL : ln_ok c.2.2.2) : ∃ c1, fx_Co_makeRoom c = some c1 ∧ (∀ j, rI c1 j = rI c j) ∧ (∀ j x, ¬ j = 30 → rA c1 j x = rA c j x) ∧ (∀ j x, rL c1 j x = rL c j x) ∧ ln_ok c1.2.2.2 ∧ q + 2 * (e - s) ≤ rN c1 2 ∧ rN c1 0 = rN c 0 ∧ rN c1 1 = rN c 1 ∧ rN c1 0 ≤ rN c1 3 := by
  unfold fx_Co_makeRoom
  rw [h21, gd_k (by omega) (by omega), gd_k (by omega) (by omega), nI_clamp (by omega), h5, h4, nI_sub (by omega), nI_1, show e - 1 - s + 1 = e - s by omega]
  obtain ⟨g, e1, e2, e3, e4, e5, e6⟩ := rc_mk h19 hq hL
  rw [e1, bv_s]
  have e20 := e2
  unfold ln_ok at e20
  have w0 : rN (wG c g) 0 = g 0 := rfl
  have w3 : rN (wG c g) 3 = g 3 := rfl
  have w4 : rN (wG c g) 4 = g 4 := rfl
  have w5 : rN (wG c g) 5 = g 5 := rfl
  by_cases h : g 0 ≤ g 3
  · refine ⟨wG c g, ?_, fun _ => rfl, fun _ _ _ => rfl, fun _ _ => rfl, e2, e3, e4, e5, h⟩
    rw [w0, w3, if_pos (nI_le h (by omega))]
  · refine ⟨gP (wG c g) (g 0), ?_, fun _ => rfl, fun j x hj => rA_gP hj, fun _ _ => rfl, ?_, e3, e4, e5, Nat.le_refl _⟩
    · rw [w0, w3, if_neg (nI_ge (by omega) (by omega)), gm_k (by omega) (by omega) (by omega) (by omega), nI_clamp (by omega)]
    · show 32 ≤ g 0 ∧ g 0 ≤ 1500 ∧ 32 ≤ g 1 ∧ g 1 ≤ 1501 ∧ 64 ≤ g 2 ∧ g 2 ≤ 3000 ∧ 32 ≤ g 0 ∧ (g 0 = g 0 ∨ 2 * g 0 ≤ g 0) ∧ g 4 + 1 ≤ g 5 + 1 * g 0 ∧ g 5 + 1 * g 0 ≤ 12 * g 0 + 4 * g 1 + 12 * g 2 + 2 * g 0
      omega
