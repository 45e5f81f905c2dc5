-- ===== all calls, both objects =====
def sS (n : Nat) (c m : rs_T) : Prop := ∃ T S E M F t w KK ZZ QS QE, t ≤ n ∧ IQ c m T S E M F t w KK ZZ QS QE
theorem code_both {c m : rs_T} {n : Nat} (hn : n < 512) (h : sS n c m) (o a b : Int32) : ∃ r c1 m1, fx_Ma_code o a b c = some (r, c1) ∧ fx_Md_code o a b m = some (r, m1) ∧ sS (n + 1) c1 m1 := by
  obtain ⟨T, S, E, M, F, t, w, KK, ZZ, QS, QE, ht, h⟩ := h
  obtain ⟨r, c2, m2, T2, E2, M2, t2, w2, e1, e2, e3, e4, e5, e6, e7⟩ := pb_code2 h.1.1 (by omega) o a b
  refine ⟨r, c2, m2, e1, e2, T2, S, E2, M2, F, t2, w2, KK, ZZ, QS, QE, by omega, IQ_pK h e3 e7 e5.1 (fun j x hj => e5.2.1 j x (Or.inr hj)) e5.2.2.1 (fun f _ hf => ?_) e6.1 (fun j x hj _ _ => e6.2.1 j x hj) e6.2.2 (fun f _ => Or.inl (e6.2.1 22 f (by decide))) e5.2.2.2⟩
  rw [e5.2.1 6 f (Or.inl rfl), e6.2.1 21 f (by decide)]; exact hf
theorem function_both {c m : rs_T} {n : Nat} (h : sS n c m) (p r l : Int32) : ∃ x c1 m1, fx_Ma_function p r l c = some (x, c1) ∧ fx_Md_function p r l m = some (x, m1) ∧ sS (n + 1) c1 m1 := by
  obtain ⟨T, S, E, M, F, t, w, KK, ZZ, QS, QE, ht, h⟩ := h
  rcases pb_function2 h.1.1 p r l with ⟨e1, e2⟩ | ⟨c2, m2, T2, S2, E2, M2, ew, hF, e1, e2, e3, e5, e6, e7⟩
  · exact ⟨-1, c, m, e1, e2, T, S, E, M, F, t, w, KK, ZZ, QS, QE, by omega, h⟩
  · refine ⟨nI F, c2, m2, e1, e2, T2, S2, E2, M2, F + 1, t, true, KK, ZZ, QS, QE, by omega, IQ_pK h e3 e7 e5.1 e5.2.1 e5.2.2.2.2.1 (fun f _ hf => ?_) e6.1 (fun j x hj h1 h2 => e6.2.1 j x hj h1 h2) e6.2.2.2.2.2 (fun f _ => ?_) e5.2.2.2.2.2⟩
    · by_cases z : f = F
      · rw [z, e5.2.2.2.1, e6.2.2.2.1]
      · rw [e5.2.2.1 f z, (e6.2.2.1 f z).1]; exact hf
    · by_cases z : f = F
      · refine Or.inr ⟨by rw [z]; exact e6.2.2.2.2.1, fun y => ?_⟩
        have := y.1
        omega
      · exact Or.inl (e6.2.2.1 f z).2
theorem drop_both {c m : rs_T} {n : Nat} (h : sS n c m) : ∃ x c1 m1, fx_Ma_drop c = some (x, c1) ∧ fx_Md_drop m = some (x, m1) ∧ sS (n + 1) c1 m1 := by
  obtain ⟨T, S, E, M, F, t, w, KK, ZZ, QS, QE, ht, h⟩ := h
  rcases pb_drop2 h.1.1 with ⟨-, e1, e2⟩ | ⟨c2, m2, f, ew, eF, e1, e2, e3, e4, e5, e6, e7⟩
  · exact ⟨0, c, m, e1, e2, T, S, E, M, F, t, w, KK, ZZ, QS, QE, by omega, h⟩
  · refine ⟨1, c2, m2, e1, e2, T, S, E, M, f, S f, false, KK, ZZ, QS, QE, by omega, IQ_pK h e3 e7 e5.1 (fun j x hj => e5.2.1 j x (Or.inr hj)) e5.2.2.1 (fun f _ hf => ?_) e6.1 (fun j x hj _ _ => e6.2.1 j x hj) e6.2.2 (fun f _ => Or.inl (e6.2.1 22 f (by decide))) e5.2.2.2⟩
    rw [e5.2.1 6 f (Or.inl rfl), e6.2.1 21 f (by decide)]; exact hf
theorem new_both : sS 0 i0_C i0_M := by
  refine ⟨fun _ => t_0, fun _ => 0, fun _ => 0, fun _ => 0, 0, 0, false, fun _ _ => (0, 0, fun _ => 0), fun _ _ => 0, fun _ => 0, fun _ => 0, Nat.le_refl _, ⟨pb_new, ?_, ?_, ?_⟩, fun z => absurd z (show ¬ (0 : Int32) = 1 by decide)⟩
  · refine ⟨fun k _ => ⟨rfl, Or.inl rfl⟩, fun k _ => rfl, fun i _ => ⟨0, by omega, rfl, show (0 : Int32) &&& 255 = nI 0 by decide⟩, ⟨1, by omega, by omega, rfl, rfl⟩, ⟨0, by omega, rfl, rfl, fun i hi => by omega⟩, rfl, ?_⟩
    show (0 : Int) ≤ (2 : Int32).toInt
    decide
  · exact ⟨0, rfl, ⟨Nat.zero_le _, Nat.zero_le _⟩, rfl, fun f _ => Or.inl ⟨rfl, rfl⟩⟩
  · refine ⟨rfl, rfl, rfl, rfl, Or.inl rfl, fun f _ => rfl, fun z => absurd z (show ¬ (0 : Int32) = 2 by decide), fun _ => rfl, fun x => ?_⟩
    show (0 : Int) ≤ (0 : Int32).toInt
    decide
theorem sm_done : sm_ok 1000000 sS := by
  refine ⟨fun n c m _ h z0 z1 z2 => function_both h z0 z1 z2, fun n c m hn h z0 z1 z2 => code_both hn h z0 z1 z2, fun n c m _ h => drop_both h, fun n c m _ h z0 z1 => ?_, fun n c m _ h z0 => ?_, fun n c m _ h z0 => ?_, fun n c m _ h z0 => ?_, fun n c m _ h z0 => ?_, fun n c m _ h z0 => ?_, fun n c m _ h z0 => ?_, fun n c m _ h z0 => ?_, fun n c m _ h z0 => ?_, fun n c m _ h z0 z1 => ?_, fun n c m h => ?_, new_both⟩
  · obtain ⟨T, S, E, M, F, t, w, KK, ZZ, QS, QE, ht, h⟩ := h
    obtain ⟨r, c1, m1, e1, e2, e3⟩ := entry_both h z0 z1
    exact ⟨r, c1, m1, e1, e2, T, S, E, M, F, t, w, KK, ZZ, QS, QE, by omega, e3⟩
  · obtain ⟨T, S, E, M, F, t, w, KK, ZZ, QS, QE, ht, h⟩ := h
    obtain ⟨r, c1, m1, e1, e2, e3⟩ := argument_both h z0
    exact ⟨r, c1, m1, e1, e2, T, S, E, M, F, t, w, KK, ZZ, QS, QE, by omega, e3⟩
  · obtain ⟨T, S, E, M, F, t, w, KK, ZZ, QS, QE, ht, h⟩ := h
    obtain ⟨r, c1, m1, KK1, ZZ1, QS1, QE1, e1, e2, e3⟩ := call_both (N := 1000000) (Nat.le_refl _) h z0
    exact ⟨r, c1, m1, e1, e2, T, S, E, M, F, t, w, KK1, ZZ1, QS1, QE1, by omega, e3⟩
  · obtain ⟨T, S, E, M, F, t, w, KK, ZZ, QS, QE, ht, h⟩ := h
    obtain ⟨r, c1, m1, KK1, ZZ1, QS1, QE1, e1, e2, e3⟩ := run_both (N := 1000000) (Nat.le_refl _) h z0
    exact ⟨r, c1, m1, e1, e2, T, S, E, M, F, t, w, KK1, ZZ1, QS1, QE1, by omega, e3⟩
  · obtain ⟨T, S, E, M, F, t, w, KK, ZZ, QS, QE, ht, h⟩ := h
    obtain ⟨r, e1, e2⟩ := state_both (N := 1000000) (by omega) h z0
    exact ⟨r, c, m, e1, e2, T, S, E, M, F, t, w, KK, ZZ, QS, QE, by omega, h⟩
  · obtain ⟨T, S, E, M, F, t, w, KK, ZZ, QS, QE, ht, h⟩ := h
    obtain ⟨r, c1, m1, e1, e2, e3⟩ := tier_both h z0
    exact ⟨r, c1, m1, e1, e2, T, S, E, M, F, t, w, KK, ZZ, QS, QE, by omega, e3⟩
  · obtain ⟨T, S, E, M, F, t, w, KK, ZZ, QS, QE, ht, h⟩ := h
    obtain ⟨r, e1, e2⟩ := result_both h.1.2.2.2 z0
    exact ⟨r, c, m, e1, e2, T, S, E, M, F, t, w, KK, ZZ, QS, QE, by omega, h⟩
  · obtain ⟨T, S, E, M, F, t, w, KK, ZZ, QS, QE, ht, h⟩ := h
    obtain ⟨r, e1, e2⟩ := wb_global h.1.2.1 z0
    exact ⟨r, c, m, e1, e2, T, S, E, M, F, t, w, KK, ZZ, QS, QE, by omega, h⟩
  · obtain ⟨T, S, E, M, F, t, w, KK, ZZ, QS, QE, ht, h⟩ := h
    obtain ⟨r, e1, e2⟩ := wb_memory h.1.2.1 z0
    exact ⟨r, c, m, e1, e2, T, S, E, M, F, t, w, KK, ZZ, QS, QE, by omega, h⟩
  · obtain ⟨T, S, E, M, F, t, w, KK, ZZ, QS, QE, ht, h⟩ := h
    obtain ⟨r, e1, e2⟩ := pb_look h.1.1 z0 z1
    exact ⟨r, c, m, e1, e2, T, S, E, M, F, t, w, KK, ZZ, QS, QE, by omega, h⟩
  · obtain ⟨T, S, E, M, F, t, w, KK, ZZ, QS, QE, ht, h⟩ := h
    exact ⟨T, S, E, M, F, t, w, KK, ZZ, QS, QE, by omega, h⟩
