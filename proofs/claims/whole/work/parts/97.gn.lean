theorem fn_pK {c m : rs_T} {T : Nat → ts_T} {S E M : Nat → Nat} {F t : Nat} {p r l : Int32} (hE : ∀ g, g < F → E g ≤ t) : pK c m (cs_0 c F t p r l) (ms_0 m F t p r l) T (fun i => if i = t then t_0 else T i) S (fun g => if g = F then t else S g) E (fun g => if g = F then t else E g) M (fun g => if g = F then 0 else M g) F (F + 1) false true := by
  unfold cs_0 ms_0
  refine ⟨fun x => Or.inl ?_, fun g hg _ => ⟨?_, ?_, ?_⟩, fun g hg _ => ⟨by omega, fun _ => by omega, if_neg (by omega), if_neg (by omega), if_neg (by omega), fun i hi => ⟨if_neg (by have := hE g hg; omega), ?_, ?_, ?_, ?_, ?_, ?_⟩⟩⟩
  · simp (disch := omega) only [bn_s, bv_s, bd_s, gb_0, gb_1, rI_ws, rI_wn, rI_wA, rI_wL, rA_wI, rA_wL, rL_wI, rL_wA, rA_wss, rA_wn, rA_wsn, rL_wss, rL_wn, rL_wsn, rN_wI, rN_wA, rN_wL]
  · show (rA _ 2 g).toNatClampNeg = (rA m 2 g).toNatClampNeg
    simp (disch := omega) only [bn_s, bv_s, bd_s, gb_0, gb_1, rI_ws, rI_wn, rI_wA, rI_wL, rA_wI, rA_wL, rL_wI, rL_wA, rA_wss, rA_wn, rA_wsn, rL_wss, rL_wn, rL_wsn, rN_wI, rN_wA, rN_wL]
  · show (rA _ 3 g).toNatClampNeg = (rA m 3 g).toNatClampNeg
    simp (disch := omega) only [bn_s, bv_s, bd_s, gb_0, gb_1, rI_ws, rI_wn, rI_wA, rI_wL, rA_wI, rA_wL, rL_wI, rL_wA, rA_wss, rA_wn, rA_wsn, rL_wss, rL_wn, rL_wsn, rN_wI, rN_wA, rN_wL]
  · show (rA _ 4 g).toNatClampNeg = (rA m 4 g).toNatClampNeg
    simp (disch := omega) only [bn_s, bv_s, bd_s, gb_0, gb_1, rI_ws, rI_wn, rI_wA, rI_wL, rA_wI, rA_wL, rL_wI, rL_wA, rA_wss, rA_wn, rA_wsn, rL_wss, rL_wn, rL_wsn, rN_wI, rN_wA, rN_wL]
  · show rA _ 6 i = rA m 6 i
    simp (disch := omega) only [bn_s, bv_s, bd_s, gb_0, gb_1, rI_ws, rI_wn, rI_wA, rI_wL, rA_wI, rA_wL, rL_wI, rL_wA, rA_wss, rA_wn, rA_wsn, rL_wss, rL_wn, rL_wsn, rN_wI, rN_wA, rN_wL]
  · show rA _ 7 i = rA m 7 i
    simp (disch := omega) only [bn_s, bv_s, bd_s, gb_0, gb_1, rI_ws, rI_wn, rI_wA, rI_wL, rA_wI, rA_wL, rL_wI, rL_wA, rA_wss, rA_wn, rA_wsn, rL_wss, rL_wn, rL_wsn, rN_wI, rN_wA, rN_wL]
  · show rA _ 8 i = rA m 8 i
    simp (disch := omega) only [bn_s, bv_s, bd_s, gb_0, gb_1, rI_ws, rI_wn, rI_wA, rI_wL, rA_wI, rA_wL, rL_wI, rL_wA, rA_wss, rA_wn, rA_wsn, rL_wss, rL_wn, rL_wsn, rN_wI, rN_wA, rN_wL]
  · show (rA _ 9 i).toNatClampNeg = (rA m 9 i).toNatClampNeg
    simp (disch := omega) only [bn_s, bv_s, bd_s, gb_0, gb_1, rI_ws, rI_wn, rI_wA, rI_wL, rA_wI, rA_wL, rL_wI, rL_wA, rA_wss, rA_wn, rA_wsn, rL_wss, rL_wn, rL_wsn, rN_wI, rN_wA, rN_wL]
  · simp (disch := omega) only [bn_s, bv_s, bd_s, gb_0, gb_1, rI_ws, rI_wn, rI_wA, rI_wL, rA_wI, rA_wL, rL_wI, rL_wA, rA_wss, rA_wn, rA_wsn, rL_wss, rL_wn, rL_wsn, rN_wI, rN_wA, rN_wL]
  · simp (disch := omega) only [bn_s, bv_s, bd_s, gb_0, gb_1, rI_ws, rI_wn, rI_wA, rI_wL, rA_wI, rA_wL, rL_wI, rL_wA, rA_wss, rA_wn, rA_wsn, rL_wss, rL_wn, rL_wsn, rN_wI, rN_wA, rN_wL]
theorem pb_function2 {c m : rs_T} {T : Nat → ts_T} {S E M : Nat → Nat} {F t : Nat} {w : Bool} (h : pb c m T S E M F t w) (p r l : Int32) : (fx_Ma_function p r l c = some (-1, c) ∧ fx_Md_function p r l m = some (-1, m)) ∨ ∃ (c2 m2 : rs_T) (T2 : Nat → ts_T) (S2 E2 M2 : Nat → Nat), w = false ∧ F < 40 ∧ fx_Ma_function p r l c = some (nI F, c2) ∧ fx_Md_function p r l m = some (nI F, m2) ∧ pb c2 m2 T2 S2 E2 M2 (F + 1) t true ∧ fr_C6 c c2 F ∧ fr_M6 m m2 F ∧ pK c m c2 m2 T T2 S S2 E E2 M M2 F (F + 1) w true := by
  obtain ⟨h1, h2, h3, h4, h5, h6, h7, hA, hF, hP, hE, hW, hU, hN, hLn, hLt, hL7⟩ := id h
  cases w with
  | true =>
    obtain ⟨f, rfl, hEt, hu⟩ := hU rfl
    refine Or.inl ⟨?_, ?_⟩
    · have n3 : ¬ rI c 3 = -1 := by rw [hu.2.2.2.2.2.2.1]; exact fun z => (nI_m1 (by omega)).mp z
      unfold fx_Ma_function fx_Wr_start
      rw [bd_s, if_neg n3, bn_s]
    · have n2 : ¬ rI m 2 = 0 := by rw [h7]; exact i10
      unfold fx_Md_function
      rw [if_neg n2]
  | false =>
    obtain ⟨n3, n5, n6, n7⟩ := hN rfl
    have m20 : rI m 2 = 0 := h7
    by_cases hF40 : F < 40
    · -- the three numbers
      have key : ∀ q : Int32, (∃ j : Nat, j ≤ 8 ∧ q = nI j) ∨ ((fx_Ma_isWithin q 8 c = some (0, c)) ∧ fx_Md_within q 8 m = some (0, m)) := fun q => by
        rcases wi_C q 8 (by omega) c with ⟨j, hj, e, -⟩ | ⟨e, e2⟩
        · exact Or.inl ⟨j, hj, e⟩
        · rcases wi_M q 8 (by omega) m with ⟨j, hj, e', -⟩ | ⟨-, e3⟩
          · exact absurd e' (e j hj)
          · exact Or.inr ⟨e2, e3⟩
      have n40 : ¬ (40 : Int32) ≤ nI F := fun q => by
        have : 40 ≤ F := (lit_le (k := 40) (show F < 2 ^ 31 by omega) (by omega)).mp q
        omega
      have n41 : ¬ nI F = 40 := fun q => by
        have : F = 40 := (eq_lit (k := 40) (show F < 2 ^ 31 by omega) (by omega)).mp q
        omega
      have okC : ∀ k, k ≤ 8 → fx_Ma_isWithin (nI k) 8 c = some (1, c) := fun k hk => by
        rcases wi_C (nI k) 8 (by omega) c with ⟨j, -, -, e⟩ | ⟨e, -⟩
        · exact e
        · exact absurd rfl (e k hk)
      have okM : ∀ k, k ≤ 8 → fx_Md_within (nI k) 8 m = some (1, m) := fun k hk => by
        rcases wi_M (nI k) 8 (by omega) m with ⟨j, -, -, e⟩ | ⟨e, -⟩
        · exact e
        · exact absurd rfl (e k hk)
      rcases key p with ⟨x, hx, ex⟩ | ⟨ec, em⟩
      · rcases key r with ⟨y, hy, ey⟩ | ⟨ec, em⟩
        · rcases key l with ⟨z, hz, ez⟩ | ⟨ec, em⟩
          · subst ex ey ez
            refine Or.inr ⟨cs_0 c F t (nI x) (nI y) (nI z), ms_0 m F t (nI x) (nI y) (nI z), fun i => if i = t then t_0 else T i, fun g => if g = F then t else S g, fun g => if g = F then t else E g, fun g => if g = F then 0 else M g, rfl, hF40, c_start n3 h3 h5 hF40 hx hy hz (by have hL0 := hLn; unfold ln_ok at hL0; have r1 : rN c 1 = c.2.2.2 1 := rfl; omega), m_start m20 h4 h6 hF40 hx hy hz, ?_, ?_, ?_, fn_pK (fun g hg => (hP g hg).2.2.2.2.2.2.2)⟩
            · have hvp : v_par (vm m) (vm (ms_0 m F t (nI x) (nI y) (nI z))) F := by
                unfold ms_0
                refine ⟨funext fun i => ?_, funext fun i => ?_, funext fun i => ?_, funext fun i => ?_, fun g hg => ⟨?_, ?_, ?_⟩⟩
                · show rA _ 6 i = rA m 6 i
                  simp (disch := omega) only [bn_s, bv_s, bd_s, gb_0, gb_1, rI_ws, rI_wn, rI_wA, rI_wL, rA_wI, rA_wL, rL_wI, rL_wA, rA_wss, rA_wn, rA_wsn, rL_wss, rL_wn, rL_wsn, rN_wI, rN_wA, rN_wL]
                · show rA _ 7 i = rA m 7 i
                  simp (disch := omega) only [bn_s, bv_s, bd_s, gb_0, gb_1, rI_ws, rI_wn, rI_wA, rI_wL, rA_wI, rA_wL, rL_wI, rL_wA, rA_wss, rA_wn, rA_wsn, rL_wss, rL_wn, rL_wsn, rN_wI, rN_wA, rN_wL]
                · show rA _ 8 i = rA m 8 i
                  simp (disch := omega) only [bn_s, bv_s, bd_s, gb_0, gb_1, rI_ws, rI_wn, rI_wA, rI_wL, rA_wI, rA_wL, rL_wI, rL_wA, rA_wss, rA_wn, rA_wsn, rL_wss, rL_wn, rL_wsn, rN_wI, rN_wA, rN_wL]
                · show (rA _ 9 i).toNatClampNeg = (rA m 9 i).toNatClampNeg
                  simp (disch := omega) only [bn_s, bv_s, bd_s, gb_0, gb_1, rI_ws, rI_wn, rI_wA, rI_wL, rA_wI, rA_wL, rL_wI, rL_wA, rA_wss, rA_wn, rA_wsn, rL_wss, rL_wn, rL_wsn, rN_wI, rN_wA, rN_wL]
                · show (rA _ 2 g).toNatClampNeg = (rA m 2 g).toNatClampNeg
                  simp (disch := omega) only [bn_s, bv_s, bd_s, gb_0, gb_1, rI_ws, rI_wn, rI_wA, rI_wL, rA_wI, rA_wL, rL_wI, rL_wA, rA_wss, rA_wn, rA_wsn, rL_wss, rL_wn, rL_wsn, rN_wI, rN_wA, rN_wL]
                · show (rA _ 3 g).toNatClampNeg = (rA m 3 g).toNatClampNeg
                  simp (disch := omega) only [bn_s, bv_s, bd_s, gb_0, gb_1, rI_ws, rI_wn, rI_wA, rI_wL, rA_wI, rA_wL, rL_wI, rL_wA, rA_wss, rA_wn, rA_wsn, rL_wss, rL_wn, rL_wsn, rN_wI, rN_wA, rN_wL]
                · show (rA _ 4 g).toNatClampNeg = (rA m 4 g).toNatClampNeg
                  simp (disch := omega) only [bn_s, bv_s, bd_s, gb_0, gb_1, rI_ws, rI_wn, rI_wA, rI_wL, rA_wI, rA_wL, rL_wI, rL_wA, rA_wss, rA_wn, rA_wsn, rL_wss, rL_wn, rL_wsn, rN_wI, rN_wA, rN_wL]
              have vF : v_p (vm (ms_0 m F t (nI x) (nI y) (nI z))) F = x ∧ v_r (vm (ms_0 m F t (nI x) (nI y) (nI z))) F = y ∧ v_c (vm (ms_0 m F t (nI x) (nI y) (nI z))) F = z := by
                unfold ms_0
                refine ⟨?_, ?_, ?_⟩
                · show (rA _ 2 F).toNatClampNeg = x
                  simp (disch := omega) only [bn_s, bv_s, bd_s, gb_0, gb_1, rI_ws, rI_wn, rI_wA, rI_wL, rA_wI, rA_wL, rL_wI, rL_wA, rA_wss, rA_wn, rA_wsn, rL_wss, rL_wn, rL_wsn, rN_wI, rN_wA, rN_wL, nI_clamp]
                · show (rA _ 3 F).toNatClampNeg = y
                  simp (disch := omega) only [bn_s, bv_s, bd_s, gb_0, gb_1, rI_ws, rI_wn, rI_wA, rI_wL, rA_wI, rA_wL, rL_wI, rL_wA, rA_wss, rA_wn, rA_wsn, rL_wss, rL_wn, rL_wsn, rN_wI, rN_wA, rN_wL, nI_clamp]
                · show (rA _ 4 F).toNatClampNeg = z
                  simp (disch := omega) only [bn_s, bv_s, bd_s, gb_0, gb_1, rI_ws, rI_wn, rI_wA, rI_wL, rA_wI, rA_wL, rL_wI, rL_wA, rA_wss, rA_wn, rA_wsn, rL_wss, rL_wn, rL_wsn, rN_wI, rN_wA, rN_wL, nI_clamp]
              have hTt : (fun i => if i = t then t_0 else T i) t = t_0 := if_pos rfl
              have hTo : ∀ i, ¬ i = t → (fun i => if i = t then t_0 else T i) i = T i := fun i hi => if_neg hi
              generalize (fun i => if i = t then t_0 else T i) = T' at hTt hTo
              refine ⟨by omega, h2, ?_, ?_, ?_, ?_, ?_, ?_, ?_, fun g hg => ?_, fun g hg => ?_, fun g hg hg2 => ?_, fun _ => ⟨F, rfl, if_pos rfl, ?_⟩, fun z => absurd z.symm Bool.false_ne_true, hLn, hLt, hL7⟩
              · unfold cs_0; simp (disch := omega) only [bn_s, bv_s, bd_s, gb_0, gb_1, rI_ws, rI_wn, rI_wA, rI_wL, rA_wI, rA_wL, rL_wI, rL_wA, rA_wss, rA_wn, rA_wsn, rL_wss, rL_wn, rL_wsn, rN_wI, rN_wA, rN_wL]
              · unfold ms_0; simp (disch := omega) only [bn_s, bv_s, bd_s, gb_0, gb_1, rI_ws, rI_wn, rI_wA, rI_wL, rA_wI, rA_wL, rL_wI, rL_wA, rA_wss, rA_wn, rA_wsn, rL_wss, rL_wn, rL_wsn, rN_wI, rN_wA, rN_wL]
              · unfold cs_0; simp (disch := omega) only [bn_s, bv_s, bd_s, gb_0, gb_1, rI_ws, rI_wn, rI_wA, rI_wL, rA_wI, rA_wL, rL_wI, rL_wA, rA_wss, rA_wn, rA_wsn, rL_wss, rL_wn, rL_wsn, rN_wI, rN_wA, rN_wL]; exact h5
              · unfold ms_0; simp (disch := omega) only [bn_s, bv_s, bd_s, gb_0, gb_1, rI_ws, rI_wn, rI_wA, rI_wL, rA_wI, rA_wL, rL_wI, rL_wA, rA_wss, rA_wn, rA_wsn, rL_wss, rL_wn, rL_wsn, rN_wI, rN_wA, rN_wL]; exact h6
              · unfold ms_0; simp (disch := omega) only [bn_s, bv_s, bd_s, gb_0, gb_1, rI_ws, rI_wn, rI_wA, rI_wL, rA_wI, rA_wL, rL_wI, rL_wA, rA_wss, rA_wn, rA_wsn, rL_wss, rL_wn, rL_wsn, rN_wI, rN_wA, rN_wL]; rfl
              · refine ⟨fun i => ⟨?_, ?_, ?_⟩, fun g => ⟨?_, ?_, ?_⟩⟩
                · unfold cs_0 ms_0; simp (disch := omega) only [bn_s, bv_s, bd_s, gb_0, gb_1, rI_ws, rI_wn, rI_wA, rI_wL, rA_wI, rA_wL, rL_wI, rL_wA, rA_wss, rA_wn, rA_wsn, rL_wss, rL_wn, rL_wsn, rN_wI, rN_wA, rN_wL]; exact (hA.1 i).1
                · unfold cs_0 ms_0; simp (disch := omega) only [bn_s, bv_s, bd_s, gb_0, gb_1, rI_ws, rI_wn, rI_wA, rI_wL, rA_wI, rA_wL, rL_wI, rL_wA, rA_wss, rA_wn, rA_wsn, rL_wss, rL_wn, rL_wsn, rN_wI, rN_wA, rN_wL]; exact (hA.1 i).2.1
                · unfold cs_0 ms_0; simp (disch := omega) only [bn_s, bv_s, bd_s, gb_0, gb_1, rI_ws, rI_wn, rI_wA, rI_wL, rA_wI, rA_wL, rL_wI, rL_wA, rA_wss, rA_wn, rA_wsn, rL_wss, rL_wn, rL_wsn, rN_wI, rN_wA, rN_wL]; exact (hA.1 i).2.2
                · unfold cs_0 ms_0
                  by_cases e : g = F
                  · subst e; simp (disch := omega) only [bn_s, bv_s, bd_s, gb_0, gb_1, rI_ws, rI_wn, rI_wA, rI_wL, rA_wI, rA_wL, rL_wI, rL_wA, rA_wss, rA_wn, rA_wsn, rL_wss, rL_wn, rL_wsn, rN_wI, rN_wA, rN_wL]
                  · simp (disch := omega) only [bn_s, bv_s, bd_s, gb_0, gb_1, rI_ws, rI_wn, rI_wA, rI_wL, rA_wI, rA_wL, rL_wI, rL_wA, rA_wss, rA_wn, rA_wsn, rL_wss, rL_wn, rL_wsn, rN_wI, rN_wA, rN_wL]; exact (hA.2 g).1
                · unfold cs_0 ms_0
                  by_cases e : g = F
                  · subst e; simp (disch := omega) only [bn_s, bv_s, bd_s, gb_0, gb_1, rI_ws, rI_wn, rI_wA, rI_wL, rA_wI, rA_wL, rL_wI, rL_wA, rA_wss, rA_wn, rA_wsn, rL_wss, rL_wn, rL_wsn, rN_wI, rN_wA, rN_wL]
                  · simp (disch := omega) only [bn_s, bv_s, bd_s, gb_0, gb_1, rI_ws, rI_wn, rI_wA, rI_wL, rA_wI, rA_wL, rL_wI, rL_wA, rA_wss, rA_wn, rA_wsn, rL_wss, rL_wn, rL_wsn, rN_wI, rN_wA, rN_wL]; exact (hA.2 g).2.1
                · unfold cs_0 ms_0
                  by_cases e : g = F
                  · subst e; simp (disch := omega) only [bn_s, bv_s, bd_s, gb_0, gb_1, rI_ws, rI_wn, rI_wA, rI_wL, rA_wI, rA_wL, rL_wI, rL_wA, rA_wss, rA_wn, rA_wsn, rL_wss, rL_wn, rL_wsn, rN_wI, rN_wA, rN_wL]
                  · simp (disch := omega) only [bn_s, bv_s, bd_s, gb_0, gb_1, rI_ws, rI_wn, rI_wA, rI_wL, rA_wI, rA_wL, rL_wI, rL_wA, rA_wss, rA_wn, rA_wsn, rL_wss, rL_wn, rL_wsn, rN_wI, rN_wA, rN_wL]; exact (hA.2 g).2.2
              · refine ⟨by omega, fun g hg => ?_⟩
                by_cases e : g = F
                · subst e
                  rw [vF.1, vF.2.1, vF.2.2]
                  refine ⟨?_, ?_, ?_, hx, hy, hz⟩
                  · unfold ms_0; simp (disch := omega) only [bn_s, bv_s, bd_s, gb_0, gb_1, rI_ws, rI_wn, rI_wA, rI_wL, rA_wI, rA_wL, rL_wI, rL_wA, rA_wss, rA_wn, rA_wsn, rL_wss, rL_wn, rL_wsn, rN_wI, rN_wA, rN_wL]
                  · unfold ms_0; simp (disch := omega) only [bn_s, bv_s, bd_s, gb_0, gb_1, rI_ws, rI_wn, rI_wA, rI_wL, rA_wI, rA_wL, rL_wI, rL_wA, rA_wss, rA_wn, rA_wsn, rL_wss, rL_wn, rL_wsn, rN_wI, rN_wA, rN_wL]
                  · unfold ms_0; simp (disch := omega) only [bn_s, bv_s, bd_s, gb_0, gb_1, rI_ws, rI_wn, rI_wA, rI_wL, rA_wI, rA_wL, rL_wI, rL_wA, rA_wss, rA_wn, rA_wsn, rL_wss, rL_wn, rL_wsn, rN_wI, rN_wA, rN_wL]
                · obtain ⟨a1, a2, a3, a4, a5, a6⟩ := hF.2 g (by omega)
                  obtain ⟨b1, b2, b3⟩ := hvp.2.2.2.2 g (by omega)
                  rw [b1, b2, b3]
                  refine ⟨?_, ?_, ?_, a4, a5, a6⟩
                  · unfold ms_0; simp (disch := omega) only [bn_s, bv_s, bd_s, gb_0, gb_1, rI_ws, rI_wn, rI_wA, rI_wL, rA_wI, rA_wL, rL_wI, rL_wA, rA_wss, rA_wn, rA_wsn, rL_wss, rL_wn, rL_wsn, rN_wI, rN_wA, rN_wL]; exact a1
                  · unfold ms_0; simp (disch := omega) only [bn_s, bv_s, bd_s, gb_0, gb_1, rI_ws, rI_wn, rI_wA, rI_wL, rA_wI, rA_wL, rL_wI, rL_wA, rA_wss, rA_wn, rA_wsn, rL_wss, rL_wn, rL_wsn, rN_wI, rN_wA, rN_wL]; exact a2
                  · unfold ms_0; simp (disch := omega) only [bn_s, bv_s, bd_s, gb_0, gb_1, rI_ws, rI_wn, rI_wA, rI_wL, rA_wI, rA_wL, rL_wI, rL_wA, rA_wss, rA_wn, rA_wsn, rL_wss, rL_wn, rL_wsn, rN_wI, rN_wA, rN_wL]; exact a3
              · by_cases e : g = F
                · subst e
                  show pb_1 _ _ _ (if g = g then t else S g) (if g = g then t else E g) (if g = g then 0 else M g) _
                  rw [if_pos rfl, if_pos rfl, if_pos rfl]
                  refine ⟨?_, ?_, ?_, ?_, ?_, by omega, Nat.le_refl _, Nat.le_refl _⟩
                  · unfold cs_0; simp (disch := omega) only [bn_s, bv_s, bd_s, gb_0, gb_1, rI_ws, rI_wn, rI_wA, rI_wL, rA_wI, rA_wL, rL_wI, rL_wA, rA_wss, rA_wn, rA_wsn, rL_wss, rL_wn, rL_wsn, rN_wI, rN_wA, rN_wL]
                  · unfold ms_0; simp (disch := omega) only [bn_s, bv_s, bd_s, gb_0, gb_1, rI_ws, rI_wn, rI_wA, rI_wL, rA_wI, rA_wL, rL_wI, rL_wA, rA_wss, rA_wn, rA_wsn, rL_wss, rL_wn, rL_wsn, rN_wI, rN_wA, rN_wL]
                  · unfold ms_0; simp (disch := omega) only [bn_s, bv_s, bd_s, gb_0, gb_1, rI_ws, rI_wn, rI_wA, rI_wL, rA_wI, rA_wL, rL_wI, rL_wA, rA_wss, rA_wn, rA_wsn, rL_wss, rL_wn, rL_wsn, rN_wI, rN_wA, rN_wL, Nat.sub_self, nI_0]
                  · unfold cs_0; simp (disch := omega) only [bn_s, bv_s, bd_s, gb_0, gb_1, rI_ws, rI_wn, rI_wA, rI_wL, rA_wI, rA_wL, rL_wI, rL_wA, rA_wss, rA_wn, rA_wsn, rL_wss, rL_wn, rL_wsn, rN_wI, rN_wA, rN_wL, nI_0]
                  · unfold ms_0; simp (disch := omega) only [bn_s, bv_s, bd_s, gb_0, gb_1, rI_ws, rI_wn, rI_wA, rI_wL, rA_wI, rA_wL, rL_wI, rL_wA, rA_wss, rA_wn, rA_wsn, rL_wss, rL_wn, rL_wsn, rN_wI, rN_wA, rN_wL, nI_0]
                · show pb_1 _ _ _ (if g = F then t else S g) (if g = F then t else E g) (if g = F then 0 else M g) _
                  rw [if_neg e, if_neg e, if_neg e]
                  obtain ⟨b1, b2, b3, b4, b5, b6, b7, b8⟩ := hP g (by omega)
                  refine ⟨?_, ?_, ?_, ?_, ?_, b6, b7, b8⟩
                  · unfold cs_0; simp (disch := omega) only [bn_s, bv_s, bd_s, gb_0, gb_1, rI_ws, rI_wn, rI_wA, rI_wL, rA_wI, rA_wL, rL_wI, rL_wA, rA_wss, rA_wn, rA_wsn, rL_wss, rL_wn, rL_wsn, rN_wI, rN_wA, rN_wL]; exact b1
                  · unfold ms_0; simp (disch := omega) only [bn_s, bv_s, bd_s, gb_0, gb_1, rI_ws, rI_wn, rI_wA, rI_wL, rA_wI, rA_wL, rL_wI, rL_wA, rA_wss, rA_wn, rA_wsn, rL_wss, rL_wn, rL_wsn, rN_wI, rN_wA, rN_wL]; exact b2
                  · unfold ms_0; simp (disch := omega) only [bn_s, bv_s, bd_s, gb_0, gb_1, rI_ws, rI_wn, rI_wA, rI_wL, rA_wI, rA_wL, rL_wI, rL_wA, rA_wss, rA_wn, rA_wsn, rL_wss, rL_wn, rL_wsn, rN_wI, rN_wA, rN_wL]; exact b3
                  · unfold cs_0; simp (disch := omega) only [bn_s, bv_s, bd_s, gb_0, gb_1, rI_ws, rI_wn, rI_wA, rI_wL, rA_wI, rA_wL, rL_wI, rL_wA, rA_wss, rA_wn, rA_wsn, rL_wss, rL_wn, rL_wsn, rN_wI, rN_wA, rN_wL]; exact b4
                  · unfold ms_0; simp (disch := omega) only [bn_s, bv_s, bd_s, gb_0, gb_1, rI_ws, rI_wn, rI_wA, rI_wL, rA_wI, rA_wL, rL_wI, rL_wA, rA_wss, rA_wn, rA_wsn, rL_wss, rL_wn, rL_wsn, rN_wI, rN_wA, rN_wL]; exact b5
              · show (if g = F then t else E g) ≤ (if g + 1 = F then t else S (g + 1))
                rw [if_neg (by omega)]
                by_cases e : g + 1 = F
                · rw [if_pos e]; exact (hP g (by omega)).2.2.2.2.2.2.2
                · rw [if_neg e]; exact hE g (by omega)
              · have hgF : g < F := by have := hg2 rfl; omega
                show pb_W _ _ _ _ (if g = F then t else S g) (if g = F then t else E g) (if g = F then 0 else M g)
                rw [if_neg (by omega), if_neg (by omega), if_neg (by omega)]
                have het := (hP g hgF).2.2.2.2.2.2.2
                refine pb_W_par (hW g hgF (fun z => absurd z Bool.false_ne_true)) hvp hgF (by omega) (fun i hi => hTo i (by omega)) ?_ (fun x => ⟨?_, ?_, ?_⟩) (by omega)
                · unfold cs_0; simp (disch := omega) only [bn_s, bv_s, bd_s, gb_0, gb_1, rI_ws, rI_wn, rI_wA, rI_wL, rA_wI, rA_wL, rL_wI, rL_wA, rA_wss, rA_wn, rA_wsn, rL_wss, rL_wn, rL_wsn, rN_wI, rN_wA, rN_wL]
                · unfold cs_0; simp (disch := omega) only [bn_s, bv_s, bd_s, gb_0, gb_1, rI_ws, rI_wn, rI_wA, rI_wL, rA_wI, rA_wL, rL_wI, rL_wA, rA_wss, rA_wn, rA_wsn, rL_wss, rL_wn, rL_wsn, rN_wI, rN_wA, rN_wL]
                · unfold cs_0; simp (disch := omega) only [bn_s, bv_s, bd_s, gb_0, gb_1, rI_ws, rI_wn, rI_wA, rI_wL, rA_wI, rA_wL, rL_wI, rL_wA, rA_wss, rA_wn, rA_wsn, rL_wss, rL_wn, rL_wsn, rN_wI, rN_wA, rN_wL]
                · unfold cs_0; simp (disch := omega) only [bn_s, bv_s, bd_s, gb_0, gb_1, rI_ws, rI_wn, rI_wA, rI_wL, rA_wI, rA_wL, rL_wI, rL_wA, rA_wss, rA_wn, rA_wsn, rL_wss, rL_wn, rL_wsn, rN_wI, rN_wA, rN_wL]
              · show pb_U _ _ _ _ (if F = F then t else S F) _ (if F = F then 0 else M F)
                rw [if_pos rfl, if_pos rfl]
                refine ⟨ty_0 hTt h2, fun i i1 i2 => by omega, ?_, fun i i1 i2 => by omega, ?_, ?_⟩
                · intro q hq; rw [hTt] at hq; cases hq
                · rw [hTt]
                  refine ⟨?_, ?_, ?_, ?_, ?_, fun z => absurd rfl z, ?_, trivial⟩
                  · unfold ms_0; simp (disch := omega) only [bn_s, bv_s, bd_s, gb_0, gb_1, rI_ws, rI_wn, rI_wA, rI_wL, rA_wI, rA_wL, rL_wI, rL_wA, rA_wss, rA_wn, rA_wsn, rL_wss, rL_wn, rL_wsn, rN_wI, rN_wA, rN_wL]
                  · unfold ms_0; simp (disch := omega) only [bn_s, bv_s, bd_s, gb_0, gb_1, rI_ws, rI_wn, rI_wA, rI_wL, rA_wI, rA_wL, rL_wI, rL_wA, rA_wss, rA_wn, rA_wsn, rL_wss, rL_wn, rL_wsn, rN_wI, rN_wA, rN_wL]; exact h6
                  · unfold ms_0; simp (disch := omega) only [bn_s, bv_s, bd_s, gb_0, gb_1, rI_ws, rI_wn, rI_wA, rI_wL, rA_wI, rA_wL, rL_wI, rL_wA, rA_wss, rA_wn, rA_wsn, rL_wss, rL_wn, rL_wsn, rN_wI, rN_wA, rN_wL]
                  · unfold ms_0; simp (disch := omega) only [bn_s, bv_s, bd_s, gb_0, gb_1, rI_ws, rI_wn, rI_wA, rI_wL, rA_wI, rA_wL, rL_wI, rL_wA, rA_wss, rA_wn, rA_wsn, rL_wss, rL_wn, rL_wsn, rN_wI, rN_wA, rN_wL]; rfl
                  · unfold ms_0; simp (disch := omega) only [bn_s, bv_s, bd_s, gb_0, gb_1, rI_ws, rI_wn, rI_wA, rI_wL, rA_wI, rA_wL, rL_wI, rL_wA, rA_wss, rA_wn, rA_wsn, rL_wss, rL_wn, rL_wsn, rN_wI, rN_wA, rN_wL]; exact nI_0.symm
                  · refine ⟨?_, ?_, ?_, ?_, ?_⟩
                    · unfold ms_0; simp (disch := omega) only [bn_s, bv_s, bd_s, gb_0, gb_1, rI_ws, rI_wn, rI_wA, rI_wL, rA_wI, rA_wL, rL_wI, rL_wA, rA_wss, rA_wn, rA_wsn, rL_wss, rL_wn, rL_wsn, rN_wI, rN_wA, rN_wL]
                    · rw [vF.2.1]; unfold ms_0; simp (disch := omega) only [bn_s, bv_s, bd_s, gb_0, gb_1, rI_ws, rI_wn, rI_wA, rI_wL, rA_wI, rA_wL, rL_wI, rL_wA, rA_wss, rA_wn, rA_wsn, rL_wss, rL_wn, rL_wsn, rN_wI, rN_wA, rN_wL]
                    · unfold ms_0; simp (disch := omega) only [bn_s, bv_s, bd_s, gb_0, gb_1, rI_ws, rI_wn, rI_wA, rI_wL, rA_wI, rA_wL, rL_wI, rL_wA, rA_wss, rA_wn, rA_wsn, rL_wss, rL_wn, rL_wsn, rN_wI, rN_wA, rN_wL, nI_0]
                    · show rA _ 14 0 = nI 0
                      unfold ms_0; simp (disch := omega) only [bn_s, bv_s, bd_s, gb_0, gb_1, rI_ws, rI_wn, rI_wA, rI_wL, rA_wI, rA_wL, rL_wI, rL_wA, rA_wss, rA_wn, rA_wsn, rL_wss, rL_wn, rL_wsn, rN_wI, rN_wA, rN_wL, nI_0]
                    · unfold ms_0; simp (disch := omega) only [bn_s, bv_s, bd_s, gb_0, gb_1, rI_ws, rI_wn, rI_wA, rI_wL, rA_wI, rA_wL, rL_wI, rL_wA, rA_wss, rA_wn, rA_wsn, rL_wss, rL_wn, rL_wsn, rN_wI, rN_wA, rN_wL]; rfl
                · rw [hTt]
                  refine ⟨?_, ?_, ?_, ?_, ?_, ?_, fun z => absurd rfl z, ⟨?_, ?_⟩, trivial, hF40, ?_, by show t ≤ rN c 0 ∧ rN c 0 ≤ 1500 ∧ 0 + 1 ≤ rN c 1 ∧ rN c 1 ≤ 1501; have hL0 := hLn; unfold ln_ok at hL0; have r0 : rN c 0 = c.2.2.2 0 := rfl; have r1 : rN c 1 = c.2.2.2 1 := rfl; omega⟩
                  · unfold cs_0; simp (disch := omega) only [bn_s, bv_s, bd_s, gb_0, gb_1, rI_ws, rI_wn, rI_wA, rI_wL, rA_wI, rA_wL, rL_wI, rL_wA, rA_wss, rA_wn, rA_wsn, rL_wss, rL_wn, rL_wsn, rN_wI, rN_wA, rN_wL]
                  · unfold cs_0; simp (disch := omega) only [bn_s, bv_s, bd_s, gb_0, gb_1, rI_ws, rI_wn, rI_wA, rI_wL, rA_wI, rA_wL, rL_wI, rL_wA, rA_wss, rA_wn, rA_wsn, rL_wss, rL_wn, rL_wsn, rN_wI, rN_wA, rN_wL]
                  · unfold cs_0; simp (disch := omega) only [bn_s, bv_s, bd_s, gb_0, gb_1, rI_ws, rI_wn, rI_wA, rI_wL, rA_wI, rA_wL, rL_wI, rL_wA, rA_wss, rA_wn, rA_wsn, rL_wss, rL_wn, rL_wsn, rN_wI, rN_wA, rN_wL]; exact h5
                  · unfold cs_0; simp (disch := omega) only [bn_s, bv_s, bd_s, gb_0, gb_1, rI_ws, rI_wn, rI_wA, rI_wL, rA_wI, rA_wL, rL_wI, rL_wA, rA_wss, rA_wn, rA_wsn, rL_wss, rL_wn, rL_wsn, rN_wI, rN_wA, rN_wL]; rfl
                  · show rI _ 6 = nI 0
                    unfold cs_0; simp (disch := omega) only [bn_s, bv_s, bd_s, gb_0, gb_1, rI_ws, rI_wn, rI_wA, rI_wL, rA_wI, rA_wL, rL_wI, rL_wA, rA_wss, rA_wn, rA_wsn, rL_wss, rL_wn, rL_wsn, rN_wI, rN_wA, rN_wL, nI_0]
                  · show rI _ 7 = nI 0
                    unfold cs_0; simp (disch := omega) only [bn_s, bv_s, bd_s, gb_0, gb_1, rI_ws, rI_wn, rI_wA, rI_wL, rA_wI, rA_wL, rL_wI, rL_wA, rA_wss, rA_wn, rA_wsn, rL_wss, rL_wn, rL_wsn, rN_wI, rN_wA, rN_wL, nI_0]
                  · unfold cs_0; simp (disch := omega) only [bn_s, bv_s, bd_s, gb_0, gb_1, rI_ws, rI_wn, rI_wA, rI_wL, rA_wI, rA_wL, rL_wI, rL_wA, rA_wss, rA_wn, rA_wsn, rL_wss, rL_wn, rL_wsn, rN_wI, rN_wA, rN_wL]
                  · unfold cs_0; simp (disch := omega) only [bn_s, bv_s, bd_s, gb_0, gb_1, rI_ws, rI_wn, rI_wA, rI_wL, rA_wI, rA_wL, rL_wI, rL_wA, rA_wss, rA_wn, rA_wsn, rL_wss, rL_wn, rL_wsn, rN_wI, rN_wA, rN_wL]; rfl
                  · rw [vF.2.1]; unfold cs_0; simp (disch := omega) only [bn_s, bv_s, bd_s, gb_0, gb_1, rI_ws, rI_wn, rI_wA, rI_wL, rA_wI, rA_wL, rL_wI, rL_wA, rA_wss, rA_wn, rA_wsn, rL_wss, rL_wn, rL_wsn, rN_wI, rN_wA, rN_wL]
            · unfold cs_0
              refine ⟨fun q hq => ?_, fun j x hj => ?_, fun x hx => ?_, ?_, fun j x => ?_, rfl⟩
              all_goals simp (disch := omega) only [bn_s, bv_s, bd_s, gb_0, gb_1, rI_ws, rI_wn, rI_wA, rI_wL, rA_wI, rA_wL, rL_wI, rL_wA, rA_wss, rA_wn, rA_wsn, rL_wss, rL_wn, rL_wsn, rN_wI, rN_wA, rN_wL]
            · unfold ms_0
              refine ⟨fun q hq => ?_, fun j x hj h1 h2 => ?_, fun x hx => ⟨?_, ?_⟩, ?_, ?_, fun j x => ?_⟩
              all_goals simp (disch := omega) only [bn_s, bv_s, bd_s, gb_0, gb_1, rI_ws, rI_wn, rI_wA, rI_wL, rA_wI, rA_wL, rL_wI, rL_wA, rA_wss, rA_wn, rA_wsn, rL_wss, rL_wn, rL_wsn, rN_wI, rN_wA, rN_wL]
          · subst ex ey
            refine Or.inl ⟨?_, ?_⟩
            · unfold fx_Ma_function fx_Wr_start
              rw [bd_s, if_pos n3, h3, if_neg n40, okC x hx, bn_s, if_neg i10, okC y hy, bn_s, if_neg i10, ec, bn_s, if_pos rfl, bn_s]
            · unfold fx_Md_function
              rw [if_pos m20, h4, if_neg n41, okM x hx, bn_s, if_neg i10, okM y hy, bn_s, if_neg i10, em, bn_s, if_pos rfl]
        · subst ex
          refine Or.inl ⟨?_, ?_⟩
          · unfold fx_Ma_function fx_Wr_start
            rw [bd_s, if_pos n3, h3, if_neg n40, okC x hx, bn_s, if_neg i10, ec, bn_s, if_pos rfl, bn_s]
          · unfold fx_Md_function
            rw [if_pos m20, h4, if_neg n41, okM x hx, bn_s, if_neg i10, em, bn_s, if_pos rfl]
      · refine Or.inl ⟨?_, ?_⟩
        · unfold fx_Ma_function fx_Wr_start
          rw [bd_s, if_pos n3, h3, if_neg n40, ec, bn_s, if_pos rfl, bn_s]
        · unfold fx_Md_function
          rw [if_pos m20, h4, if_neg n41, em, bn_s, if_pos rfl]
    · have hF' : F = 40 := by omega
      refine Or.inl ⟨?_, ?_⟩
      · unfold fx_Ma_function fx_Wr_start
        rw [bd_s, if_pos n3, h3, if_pos (by rw [hF']; decide), bn_s]
      · unfold fx_Md_function
        rw [if_pos m20, h4, if_pos (by rw [hF']; rfl)]
