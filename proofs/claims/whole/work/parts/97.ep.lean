-- ===== the compiler from place to place: plain instructions =====
def kH (c m : rs_T) (T : Nat → ts_T) (f s E ms F n i N qs : Nat) : Prop := pb_W c m T f s E ms ∧ pb_A c m ∧ cf_ok c (vm m) F ∧ f < F ∧ E ≤ 512 ∧ s ≤ i ∧ i < E ∧ n = v_p (vm m) f + v_c (vm m) f ∧ n + ms ≤ 220 ∧ 1000 ≤ N ∧ (qs + 2 * (E - s) ≤ 1100 ∧ qs + 2 * (E - s) ≤ rN c 2 ∧ rN c 2 ≤ 3000 ∧ E ≤ rN c 0 ∧ rN c 0 ≤ 1500 ∧ rN c 0 ≤ rN c 3 ∧ rN c 3 ≤ 1500)
theorem kH_live {c m : rs_T} {T : Nat → ts_T} {f s E ms F n i N qs q p : Nat} {W : Nat → Int32} (hH : kH c m T f s E ms F n i N qs) (hC : kC c n f s qs T i (q, p, W)) (hl : tl (T i)) : kin c N n f qs q p (T i).2.2.1 W i (v_o (vm m) i) ∧ rI c 26 = 0 ∧ q + pt n W (T i).2.2.1 ≤ qs + 2 * (i - s) ∧ p ≤ i - s ∧ qs ≤ q ∧ (∀ x ∈ (T i).1, tl (T x.1)) ∧ (T i).2.2.1 ≤ ms ∧ n ≤ 16 := by
  obtain ⟨hW, hA, hF, hf, hE, hi, hi2, hn, hms, hN, hqs⟩ := hH
  obtain ⟨h, d, k1, k2, k3, k4, k5, k6, k7, k8, k9⟩ := hC
  obtain ⟨k31, k32⟩ := k3 hl
  subst k32
  have hall := ds_tl (ds_all hW.2.2.1 i hi (by omega)) hl.1 hl.2.1
  have hd := dlp_z hall k6
  subst hd
  obtain ⟨-, -, -, hh, -, -⟩ := hW.2.2.1.2.2 i hi (by omega)
  obtain ⟨-, -, -, f1, -, f2⟩ := hF.2 f hf
  rw [hl.2.2] at k7
  have k7 : q + pt n W (T i).2.2.1 ≤ qs + 2 * (i - s) := k7
  have hn16 : n ≤ 16 := by omega
  exact ⟨⟨k1, k2, k31, (hA.1 i).1, by omega, by omega, hn16, by omega, hN⟩, k5, k7, k8, k9, hall, hh, hn16⟩
theorem lnp_n {V : vw_T} {T : Nat → ts_T} {i : Nat} (h : ¬ v_o V i ∈ ([3, 5, 11] : List Int32)) : ¬ lnp V T i := by
  rintro (⟨z, -⟩ | ⟨z | z, -⟩)
  · exact h (by rw [z]; decide)
  · exact h (by rw [z]; decide)
  · exact h (by rw [z]; decide)
theorem kn_plain {c m : rs_T} {T : Nat → ts_T} {f s E ms F n i N qs q p : Nat} {W : Nat → Int32} (hH : kH c m T f s E ms F n i N qs) (hi1 : i + 1 < E) (hC : kC c n f s qs T i (q, p, W)) (hl : tl (T i)) (hp : t_plain (vm m) f i (T i) = some (T (i + 1))) : ∃ c1 K1, fx_Co_translate N (nI i) c = some c1 ∧ kC c1 n f s qs T (i + 1) K1 ∧ kN c c1 (vm m) T f n (E - 1) i (q, p, W) K1 := by
  obtain ⟨hkin, h26, hsz, hpp, hq, hall, hhm, hn16⟩ := kH_live hH hC hl
  obtain ⟨hW, hA, hF, hf, hE, hi, hi2, hn, hms, hN, hqs⟩ := hH
  obtain ⟨n0, k0, har, hlim, htu⟩ := plain_some hp
  obtain ⟨hn0, hT1, hl1⟩ := tl_tu hl htu
  have hall1 := ds_tl (ds_all hW.2.2.1 (i + 1) (by omega) (by omega)) hl1.1 hl1.2.1
  obtain ⟨-, -, -, hh1, -, -⟩ := hW.2.2.1.2.2 (i + 1) (by omega) (by omega)
  have hT : (T (i + 1)).2.2.1 = (T i).2.2.1 - n0 + k0 := by rw [hT1]
  have h8 : rA c 8 i = v_a (vm m) i := (hA.1 i).2.1
  obtain ⟨h, hh⟩ : ∃ h, (T i).2.2.1 = h := ⟨_, rfl⟩
  rw [hh] at hkin hsz hT hn0 hhm
  have hlocal : v_o (vm m) i ∈ ([32, 33, 34] : List Int32) → ∃ a, a < n ∧ v_a (vm m) i = nI a := by
    intro z
    unfold t_lim at hlim
    rw [if_pos z] at hlim
    cases hb : Nat.ble (v_p (vm m) f + v_c (vm m) f) 0 with
    | true => rw [hb] at hlim; cases hlim
    | false =>
      rw [hb] at hlim
      have hlim : (t_n (v_a (vm m) i) (v_p (vm m) f + v_c (vm m) f - 1)).isSome = true := hlim
      cases ht : t_n (v_a (vm m) i) (v_p (vm m) f + v_c (vm m) f - 1) with
      | none => rw [ht] at hlim; cases hlim
      | some a =>
        obtain ⟨a1, a2⟩ := t_n_some (by omega) ht
        have : ¬ v_p (vm m) f + v_c (vm m) f ≤ 0 := fun z => by
          have := Nat.ble_eq_true_of_le z
          rw [hb] at this; cases this
        exact ⟨a, by omega, a2⟩
  rcases ar_cases har with ⟨ho, rfl, rfl⟩ | ⟨ho, rfl, rfl⟩ | ⟨ho, rfl, rfl⟩ | ⟨ho, rfl, rfl⟩ | ⟨ho, rfl, rfl⟩ | ⟨ho, rfl, rfl⟩ | ⟨ho, rfl, rfl⟩ | ⟨ho, rfl, rfl⟩
  · simp only [List.mem_cons, List.not_mem_nil, or_false] at ho
    rw [ho] at hkin
    obtain ⟨c1, e1, e2⟩ := kt_1 hkin
    refine ⟨c1, (q, p + 1, W), e1, kC_live e2 hl1 (by rw [hT]; omega) h26 (by omega) (by first | exact Nat.zero_le _ | (show p + 1 ≤ _; omega)) hall1 hq, e2.2.2.1, e2.2.2.2.1, fun _ => ?_, fun z => absurd z (lnp_n (by rw [ho]; decide))⟩
    unfold kcV
    rw [hh, ho]
    exact ⟨fun _ => rfl, fun z => absurd z (by decide), fun z => absurd z (by decide), fun z => absurd z (by decide), fun z => absurd z (by decide), fun z => absurd z (by decide), fun z => absurd z (by decide), fun z => absurd z (by decide), fun z => absurd z (by decide), fun z => absurd z (by decide), fun z => absurd z (by decide), fun z => absurd z (by decide), fun z => absurd z (by decide), fun z => absurd z (by decide), fun z => absurd z (by decide), fun z => absurd z (by decide), fun z => absurd z (by decide), fun z => absurd z (by decide), fun z => absurd z (by decide), fun z => absurd z (by decide), fun z => absurd z (by decide), fun z => absurd z (by decide), fun z => absurd z (by decide), fun z => absurd z (by decide), fun z => absurd z (by decide), fun z _ => absurd z (by decide), fun z _ => absurd z (by decide)⟩
  · simp only [List.mem_cons, List.not_mem_nil, or_false] at ho
    rcases ho with ho | ho | ho
    · obtain ⟨h, rfl⟩ : ∃ h', h = h' + 1 := ⟨h - 1, by omega⟩
      rw [ho] at hkin
      obtain ⟨c1, e1, e2⟩ := kt_26 hkin
      refine ⟨c1, (q, p + 1, W), e1, kC_live e2 hl1 (by rw [hT]; omega) h26 (by omega) (by first | exact Nat.zero_le _ | (show p + 1 ≤ _; omega)) hall1 hq, e2.2.2.1, e2.2.2.2.1, fun _ => ?_, fun z => absurd z (lnp_n (by rw [ho]; decide))⟩
      unfold kcV
      rw [hh, ho]
      exact ⟨fun z => absurd z (by decide), fun z => absurd z (by decide), fun _ => rfl, fun z => absurd z (by decide), fun z => absurd z (by decide), fun z => absurd z (by decide), fun z => absurd z (by decide), fun z => absurd z (by decide), fun z => absurd z (by decide), fun z => absurd z (by decide), fun z => absurd z (by decide), fun z => absurd z (by decide), fun z => absurd z (by decide), fun z => absurd z (by decide), fun z => absurd z (by decide), fun z => absurd z (by decide), fun z => absurd z (by decide), fun z => absurd z (by decide), fun z => absurd z (by decide), fun z => absurd z (by decide), fun z => absurd z (by decide), fun z => absurd z (by decide), fun z => absurd z (by decide), fun z => absurd z (by decide), fun z => absurd z (by decide), fun z _ => absurd z (by decide), fun z _ => absurd z (by decide)⟩
    · obtain ⟨h, rfl⟩ : ∃ h', h = h' + 1 := ⟨h - 1, by omega⟩
      obtain ⟨a, ha, ea⟩ := hlocal (by rw [ho]; decide)
      rw [ho] at hkin
      rw [ea] at h8
      obtain ⟨c1, K1, e1, e2, e3⟩ := kt_33 hkin h8 ha
      have hp1 : K1.2.1 ≤ i + 1 - s := by
        rcases e3 with ⟨-, z⟩ | ⟨-, q1, p1, -, -, z⟩
        · rw [z]; show p + 1 ≤ _; omega
        · rw [z]; exact Nat.zero_le _
      refine ⟨c1, K1, e1, kC_live e2 hl1 (by rw [hT]; omega) h26 (by omega) hp1 hall1 hq, e2.2.2.1, e2.2.2.2.1, fun _ => ?_, fun z => absurd z (lnp_n (by rw [ho]; decide))⟩
      unfold kcV
      rw [hh, ho, ea]
      exact ⟨fun z => absurd z (by decide), fun z => absurd z (by decide), fun z => absurd z (by decide), fun z => absurd z (by decide), fun _ => e3, fun z => absurd z (by decide), fun z => absurd z (by decide), fun z => absurd z (by decide), fun z => absurd z (by decide), fun z => absurd z (by decide), fun z => absurd z (by decide), fun z => absurd z (by decide), fun z => absurd z (by decide), fun z => absurd z (by decide), fun z => absurd z (by decide), fun z => absurd z (by decide), fun z => absurd z (by decide), fun z => absurd z (by decide), fun z => absurd z (by decide), fun z => absurd z (by decide), fun z => absurd z (by decide), fun z => absurd z (by decide), fun z => absurd z (by decide), fun z => absurd z (by decide), fun z => absurd z (by decide), fun z _ => absurd z (by decide), fun z _ => absurd z (by decide)⟩
    · obtain ⟨h, rfl⟩ : ∃ h', h = h' + 1 := ⟨h - 1, by omega⟩
      rw [ho] at hkin
      obtain ⟨c1, e1, e2, j0⟩ := kt_36 hkin
      refine ⟨c1, (q + 1, 0, W), e1, kC_live e2 hl1 (by rw [hT]; omega) h26 (by omega) (by first | exact Nat.zero_le _ | (show p + 1 ≤ _; omega)) hall1 hq, e2.2.2.1, e2.2.2.2.1, fun _ => ?_, fun z => absurd z (lnp_n (by rw [ho]; decide))⟩
      unfold kcV
      rw [hh, ho, ← h8]
      exact ⟨fun z => absurd z (by decide), fun z => absurd z (by decide), fun z => absurd z (by decide), fun z => absurd z (by decide), fun z => absurd z (by decide), fun z => absurd z (by decide), fun z => absurd z (by decide), fun z => absurd z (by decide), fun _ => ⟨j0, rfl⟩, fun z => absurd z (by decide), fun z => absurd z (by decide), fun z => absurd z (by decide), fun z => absurd z (by decide), fun z => absurd z (by decide), fun z => absurd z (by decide), fun z => absurd z (by decide), fun z => absurd z (by decide), fun z => absurd z (by decide), fun z => absurd z (by decide), fun z => absurd z (by decide), fun z => absurd z (by decide), fun z => absurd z (by decide), fun z => absurd z (by decide), fun z => absurd z (by decide), fun z => absurd z (by decide), fun z _ => absurd z (by decide), fun z _ => absurd z (by decide)⟩
  · simp only [List.mem_cons, List.not_mem_nil, or_false] at ho
    obtain ⟨h, rfl⟩ : ∃ h', h = h' + 3 := ⟨h - 3, by omega⟩
    rw [ho] at hkin
    obtain ⟨c1, e1, e2, j0⟩ := kt_27 hkin
    refine ⟨c1, (q + 1, 0, kw n W h), e1, kC_live e2 hl1 (by rw [hT]; omega) h26 (by omega) (by first | exact Nat.zero_le _ | (show p + 1 ≤ _; omega)) hall1 hq, e2.2.2.1, e2.2.2.2.1, fun _ => ?_, fun z => absurd z (lnp_n (by rw [ho]; decide))⟩
    unfold kcV
    rw [hh, ho]
    exact ⟨fun z => absurd z (by decide), fun z => absurd z (by decide), fun z => absurd z (by decide), fun z => absurd z (by decide), fun z => absurd z (by decide), fun z => absurd z (by decide), fun _ => ⟨j0, rfl⟩, fun z => absurd z (by decide), fun z => absurd z (by decide), fun z => absurd z (by decide), fun z => absurd z (by decide), fun z => absurd z (by decide), fun z => absurd z (by decide), fun z => absurd z (by decide), fun z => absurd z (by decide), fun z => absurd z (by decide), fun z => absurd z (by decide), fun z => absurd z (by decide), fun z => absurd z (by decide), fun z => absurd z (by decide), fun z => absurd z (by decide), fun z => absurd z (by decide), fun z => absurd z (by decide), fun z => absurd z (by decide), fun z => absurd z (by decide), fun z _ => absurd z (by decide), fun z _ => absurd z (by decide)⟩
  · simp only [List.mem_cons, List.not_mem_nil, or_false] at ho
    rcases ho with ho | ho | ho | ho | ho
    · rw [ho] at hkin
      obtain ⟨c1, e1, e2⟩ := kt_32 hkin (by omega)
      refine ⟨c1, (q, p + 1, upd W h (rA c 8 i)), e1, kC_live e2 hl1 (by rw [hT]; omega) h26 (by omega) (by first | exact Nat.zero_le _ | (show p + 1 ≤ _; omega)) hall1 hq, e2.2.2.1, e2.2.2.2.1, fun _ => ?_, fun z => absurd z (lnp_n (by rw [ho]; decide))⟩
      unfold kcV
      rw [hh, ho, ← h8]
      exact ⟨fun z => absurd z (by decide), fun z => absurd z (by decide), fun z => absurd z (by decide), fun _ => rfl, fun z => absurd z (by decide), fun z => absurd z (by decide), fun z => absurd z (by decide), fun z => absurd z (by decide), fun z => absurd z (by decide), fun z => absurd z (by decide), fun z => absurd z (by decide), fun z => absurd z (by decide), fun z => absurd z (by decide), fun z => absurd z (by decide), fun z => absurd z (by decide), fun z => absurd z (by decide), fun z => absurd z (by decide), fun z => absurd z (by decide), fun z => absurd z (by decide), fun z => absurd z (by decide), fun z => absurd z (by decide), fun z => absurd z (by decide), fun z => absurd z (by decide), fun z => absurd z (by decide), fun z => absurd z (by decide), fun z _ => absurd z (by decide), fun z _ => absurd z (by decide)⟩
    · rw [ho] at hkin
      obtain ⟨c1, e1, e2, j0⟩ := kt_35 hkin (by omega)
      refine ⟨c1, (q + 1, 0, kw n W h), e1, kC_live e2 hl1 (by rw [hT]; omega) h26 (by omega) (by first | exact Nat.zero_le _ | (show p + 1 ≤ _; omega)) hall1 hq, e2.2.2.1, e2.2.2.2.1, fun _ => ?_, fun z => absurd z (lnp_n (by rw [ho]; decide))⟩
      unfold kcV
      rw [hh, ho, ← h8]
      exact ⟨fun z => absurd z (by decide), fun z => absurd z (by decide), fun z => absurd z (by decide), fun z => absurd z (by decide), fun z => absurd z (by decide), fun z => absurd z (by decide), fun z => absurd z (by decide), fun _ => ⟨j0, rfl⟩, fun z => absurd z (by decide), fun z => absurd z (by decide), fun z => absurd z (by decide), fun z => absurd z (by decide), fun z => absurd z (by decide), fun z => absurd z (by decide), fun z => absurd z (by decide), fun z => absurd z (by decide), fun z => absurd z (by decide), fun z => absurd z (by decide), fun z => absurd z (by decide), fun z => absurd z (by decide), fun z => absurd z (by decide), fun z => absurd z (by decide), fun z => absurd z (by decide), fun z => absurd z (by decide), fun z => absurd z (by decide), fun z _ => absurd z (by decide), fun z _ => absurd z (by decide)⟩
    · rw [ho] at hkin
      obtain ⟨c1, e1, e2, j0⟩ := kt_63 hkin (by omega)
      refine ⟨c1, (q + 1, 0, kw n W h), e1, kC_live e2 hl1 (by rw [hT]; omega) h26 (by omega) (by first | exact Nat.zero_le _ | (show p + 1 ≤ _; omega)) hall1 hq, e2.2.2.1, e2.2.2.2.1, fun _ => ?_, fun z => absurd z (lnp_n (by rw [ho]; decide))⟩
      unfold kcV
      rw [hh, ho, ← h8]
      exact ⟨fun z => absurd z (by decide), fun z => absurd z (by decide), fun z => absurd z (by decide), fun z => absurd z (by decide), fun z => absurd z (by decide), fun z => absurd z (by decide), fun z => absurd z (by decide), fun z => absurd z (by decide), fun z => absurd z (by decide), fun z => absurd z (by decide), fun _ => ⟨j0, rfl⟩, fun z => absurd z (by decide), fun z => absurd z (by decide), fun z => absurd z (by decide), fun z => absurd z (by decide), fun z => absurd z (by decide), fun z => absurd z (by decide), fun z => absurd z (by decide), fun z => absurd z (by decide), fun z => absurd z (by decide), fun z => absurd z (by decide), fun z => absurd z (by decide), fun z => absurd z (by decide), fun z => absurd z (by decide), fun z => absurd z (by decide), fun z _ => absurd z (by decide), fun z _ => absurd z (by decide)⟩
    · rw [ho] at hkin
      obtain ⟨c1, e1, e2⟩ := kt_65 hkin (Or.inl rfl) (by omega)
      refine ⟨c1, (q, p + 1, upd W h (nI i ^^^ (-1))), e1, kC_live e2 hl1 (by rw [hT]; omega) h26 (by omega) (by first | exact Nat.zero_le _ | (show p + 1 ≤ _; omega)) hall1 hq, e2.2.2.1, e2.2.2.2.1, fun _ => ?_, fun z => absurd z (lnp_n (by rw [ho]; decide))⟩
      unfold kcV
      rw [hh, ho]
      exact ⟨fun z => absurd z (by decide), fun _ => rfl, fun z => absurd z (by decide), fun z => absurd z (by decide), fun z => absurd z (by decide), fun z => absurd z (by decide), fun z => absurd z (by decide), fun z => absurd z (by decide), fun z => absurd z (by decide), fun z => absurd z (by decide), fun z => absurd z (by decide), fun z => absurd z (by decide), fun z => absurd z (by decide), fun z => absurd z (by decide), fun z => absurd z (by decide), fun z => absurd z (by decide), fun z => absurd z (by decide), fun z => absurd z (by decide), fun z => absurd z (by decide), fun z => absurd z (by decide), fun z => absurd z (by decide), fun z => absurd z (by decide), fun z => absurd z (by decide), fun z => absurd z (by decide), fun z => absurd z (by decide), fun z _ => absurd z (by decide), fun z _ => absurd z (by decide)⟩
    · rw [ho] at hkin
      obtain ⟨c1, e1, e2⟩ := kt_65 hkin (Or.inr rfl) (by omega)
      refine ⟨c1, (q, p + 1, upd W h (nI i ^^^ (-1))), e1, kC_live e2 hl1 (by rw [hT]; omega) h26 (by omega) (by first | exact Nat.zero_le _ | (show p + 1 ≤ _; omega)) hall1 hq, e2.2.2.1, e2.2.2.2.1, fun _ => ?_, fun z => absurd z (lnp_n (by rw [ho]; decide))⟩
      unfold kcV
      rw [hh, ho]
      exact ⟨fun z => absurd z (by decide), fun _ => rfl, fun z => absurd z (by decide), fun z => absurd z (by decide), fun z => absurd z (by decide), fun z => absurd z (by decide), fun z => absurd z (by decide), fun z => absurd z (by decide), fun z => absurd z (by decide), fun z => absurd z (by decide), fun z => absurd z (by decide), fun z => absurd z (by decide), fun z => absurd z (by decide), fun z => absurd z (by decide), fun z => absurd z (by decide), fun z => absurd z (by decide), fun z => absurd z (by decide), fun z => absurd z (by decide), fun z => absurd z (by decide), fun z => absurd z (by decide), fun z => absurd z (by decide), fun z => absurd z (by decide), fun z => absurd z (by decide), fun z => absurd z (by decide), fun z => absurd z (by decide), fun z _ => absurd z (by decide), fun z _ => absurd z (by decide)⟩
  · simp only [List.mem_cons, List.not_mem_nil, or_false] at ho
    rcases ho with ho | ho | ho | ho | ho | ho
    · obtain ⟨h, rfl⟩ : ∃ h', h = h' + 1 := ⟨h - 1, by omega⟩
      obtain ⟨a, ha, ea⟩ := hlocal (by rw [ho]; decide)
      rw [ho] at hkin
      rw [ea] at h8
      obtain ⟨c1, K1, e1, e2, e3⟩ := kt_34 hkin h8 ha
      have hp1 : K1.2.1 ≤ i + 1 - s := by
        rcases e3 with ⟨-, z⟩ | ⟨-, q1, p1, -, -, z⟩
        · rw [z]; show p + 1 ≤ _; omega
        · rw [z]; exact Nat.zero_le _
      refine ⟨c1, K1, e1, kC_live e2 hl1 (by rw [hT]; omega) h26 (by omega) hp1 hall1 hq, e2.2.2.1, e2.2.2.2.1, fun _ => ?_, fun z => absurd z (lnp_n (by rw [ho]; decide))⟩
      unfold kcV
      rw [hh, ho, ea]
      exact ⟨fun z => absurd z (by decide), fun z => absurd z (by decide), fun z => absurd z (by decide), fun z => absurd z (by decide), fun z => absurd z (by decide), fun _ => e3, fun z => absurd z (by decide), fun z => absurd z (by decide), fun z => absurd z (by decide), fun z => absurd z (by decide), fun z => absurd z (by decide), fun z => absurd z (by decide), fun z => absurd z (by decide), fun z => absurd z (by decide), fun z => absurd z (by decide), fun z => absurd z (by decide), fun z => absurd z (by decide), fun z => absurd z (by decide), fun z => absurd z (by decide), fun z => absurd z (by decide), fun z => absurd z (by decide), fun z => absurd z (by decide), fun z => absurd z (by decide), fun z => absurd z (by decide), fun z => absurd z (by decide), fun z _ => absurd z (by decide), fun z _ => absurd z (by decide)⟩
    · obtain ⟨h, rfl⟩ : ∃ h', h = h' + 1 := ⟨h - 1, by omega⟩
      rw [ho] at hkin
      obtain ⟨c1, e1, e2, j0⟩ := kt_40 hkin (by decide)
      refine ⟨c1, (q + 1, 0, kw n W h), e1, kC_live e2 hl1 (by rw [hT]; omega) h26 (by omega) (by first | exact Nat.zero_le _ | (show p + 1 ≤ _; omega)) hall1 hq, e2.2.2.1, e2.2.2.2.1, fun _ => ?_, fun z => absurd z (lnp_n (by rw [ho]; decide))⟩
      unfold kcV
      rw [hh, ho, ← h8]
      exact ⟨fun z => absurd z (by decide), fun z => absurd z (by decide), fun z => absurd z (by decide), fun z => absurd z (by decide), fun z => absurd z (by decide), fun z => absurd z (by decide), fun z => absurd z (by decide), fun z => absurd z (by decide), fun z => absurd z (by decide), fun _ => ⟨j0, rfl⟩, fun z => absurd z (by decide), fun z => absurd z (by decide), fun z => absurd z (by decide), fun z => absurd z (by decide), fun z => absurd z (by decide), fun z => absurd z (by decide), fun z => absurd z (by decide), fun z => absurd z (by decide), fun z => absurd z (by decide), fun z => absurd z (by decide), fun z => absurd z (by decide), fun z => absurd z (by decide), fun z => absurd z (by decide), fun z => absurd z (by decide), fun z => absurd z (by decide), fun z _ => absurd z (by decide), fun z _ => absurd z (by decide)⟩
    · obtain ⟨h, rfl⟩ : ∃ h', h = h' + 1 := ⟨h - 1, by omega⟩
      rw [ho] at hkin
      obtain ⟨c1, e1, e2, j0⟩ := kt_69 hkin (by decide)
      refine ⟨c1, (q + 1, 0, kw n W h), e1, kC_live e2 hl1 (by rw [hT]; omega) h26 (by omega) (by first | exact Nat.zero_le _ | (show p + 1 ≤ _; omega)) hall1 hq, e2.2.2.1, e2.2.2.2.1, fun _ => ?_, fun z => absurd z (lnp_n (by rw [ho]; decide))⟩
      unfold kcV
      rw [hh, ho]
      exact ⟨fun z => absurd z (by decide), fun z => absurd z (by decide), fun z => absurd z (by decide), fun z => absurd z (by decide), fun z => absurd z (by decide), fun z => absurd z (by decide), fun z => absurd z (by decide), fun z => absurd z (by decide), fun z => absurd z (by decide), fun z => absurd z (by decide), fun z => absurd z (by decide), fun z => absurd z (by decide), fun _ => ⟨j0, rfl⟩, fun z => absurd z (by decide), fun z => absurd z (by decide), fun z => absurd z (by decide), fun z => absurd z (by decide), fun z => absurd z (by decide), fun z => absurd z (by decide), fun z => absurd z (by decide), fun z => absurd z (by decide), fun z => absurd z (by decide), fun z => absurd z (by decide), fun z => absurd z (by decide), fun z => absurd z (by decide), fun z _ => absurd z (by decide), fun z _ => absurd z (by decide)⟩
    · obtain ⟨h, rfl⟩ : ∃ h', h = h' + 1 := ⟨h - 1, by omega⟩
      rw [ho] at hkin
      obtain ⟨c1, e1, e2, j0⟩ := kt_69 hkin (by decide)
      refine ⟨c1, (q + 1, 0, kw n W h), e1, kC_live e2 hl1 (by rw [hT]; omega) h26 (by omega) (by first | exact Nat.zero_le _ | (show p + 1 ≤ _; omega)) hall1 hq, e2.2.2.1, e2.2.2.2.1, fun _ => ?_, fun z => absurd z (lnp_n (by rw [ho]; decide))⟩
      unfold kcV
      rw [hh, ho]
      exact ⟨fun z => absurd z (by decide), fun z => absurd z (by decide), fun z => absurd z (by decide), fun z => absurd z (by decide), fun z => absurd z (by decide), fun z => absurd z (by decide), fun z => absurd z (by decide), fun z => absurd z (by decide), fun z => absurd z (by decide), fun z => absurd z (by decide), fun z => absurd z (by decide), fun z => absurd z (by decide), fun _ => ⟨j0, rfl⟩, fun z => absurd z (by decide), fun z => absurd z (by decide), fun z => absurd z (by decide), fun z => absurd z (by decide), fun z => absurd z (by decide), fun z => absurd z (by decide), fun z => absurd z (by decide), fun z => absurd z (by decide), fun z => absurd z (by decide), fun z => absurd z (by decide), fun z => absurd z (by decide), fun z => absurd z (by decide), fun z _ => absurd z (by decide), fun z _ => absurd z (by decide)⟩
    · obtain ⟨h, rfl⟩ : ∃ h', h = h' + 1 := ⟨h - 1, by omega⟩
      rw [ho] at hkin
      obtain ⟨c1, e1, e2, j0⟩ := kt_69 hkin (by decide)
      refine ⟨c1, (q + 1, 0, kw n W h), e1, kC_live e2 hl1 (by rw [hT]; omega) h26 (by omega) (by first | exact Nat.zero_le _ | (show p + 1 ≤ _; omega)) hall1 hq, e2.2.2.1, e2.2.2.2.1, fun _ => ?_, fun z => absurd z (lnp_n (by rw [ho]; decide))⟩
      unfold kcV
      rw [hh, ho]
      exact ⟨fun z => absurd z (by decide), fun z => absurd z (by decide), fun z => absurd z (by decide), fun z => absurd z (by decide), fun z => absurd z (by decide), fun z => absurd z (by decide), fun z => absurd z (by decide), fun z => absurd z (by decide), fun z => absurd z (by decide), fun z => absurd z (by decide), fun z => absurd z (by decide), fun z => absurd z (by decide), fun _ => ⟨j0, rfl⟩, fun z => absurd z (by decide), fun z => absurd z (by decide), fun z => absurd z (by decide), fun z => absurd z (by decide), fun z => absurd z (by decide), fun z => absurd z (by decide), fun z => absurd z (by decide), fun z => absurd z (by decide), fun z => absurd z (by decide), fun z => absurd z (by decide), fun z => absurd z (by decide), fun z => absurd z (by decide), fun z _ => absurd z (by decide), fun z _ => absurd z (by decide)⟩
    · obtain ⟨h, rfl⟩ : ∃ h', h = h' + 1 := ⟨h - 1, by omega⟩
      rw [ho] at hkin
      obtain ⟨c1, e1, e2, j0⟩ := kt_69 hkin (by decide)
      refine ⟨c1, (q + 1, 0, kw n W h), e1, kC_live e2 hl1 (by rw [hT]; omega) h26 (by omega) (by first | exact Nat.zero_le _ | (show p + 1 ≤ _; omega)) hall1 hq, e2.2.2.1, e2.2.2.2.1, fun _ => ?_, fun z => absurd z (lnp_n (by rw [ho]; decide))⟩
      unfold kcV
      rw [hh, ho]
      exact ⟨fun z => absurd z (by decide), fun z => absurd z (by decide), fun z => absurd z (by decide), fun z => absurd z (by decide), fun z => absurd z (by decide), fun z => absurd z (by decide), fun z => absurd z (by decide), fun z => absurd z (by decide), fun z => absurd z (by decide), fun z => absurd z (by decide), fun z => absurd z (by decide), fun z => absurd z (by decide), fun _ => ⟨j0, rfl⟩, fun z => absurd z (by decide), fun z => absurd z (by decide), fun z => absurd z (by decide), fun z => absurd z (by decide), fun z => absurd z (by decide), fun z => absurd z (by decide), fun z => absurd z (by decide), fun z => absurd z (by decide), fun z => absurd z (by decide), fun z => absurd z (by decide), fun z => absurd z (by decide), fun z => absurd z (by decide), fun z _ => absurd z (by decide), fun z _ => absurd z (by decide)⟩
  · simp only [List.mem_cons, List.not_mem_nil, or_false] at ho
    rcases ho with ho | ho | ho | ho | ho | ho | ho | ho | ho | ho | ho | ho | ho | ho | ho
    · obtain ⟨h, rfl⟩ : ∃ h', h = h' + 2 := ⟨h - 2, by omega⟩
      rw [ho] at hkin
      obtain ⟨c1, e1, e2, j0⟩ := kt_70 hkin (by decide)
      refine ⟨c1, (q + 1, 0, kw n W h), e1, kC_live e2 hl1 (by rw [hT]; omega) h26 (by omega) (by first | exact Nat.zero_le _ | (show p + 1 ≤ _; omega)) hall1 hq, e2.2.2.1, e2.2.2.2.1, fun _ => ?_, fun z => absurd z (lnp_n (by rw [ho]; decide))⟩
      unfold kcV
      rw [hh, ho]
      exact ⟨fun z => absurd z (by decide), fun z => absurd z (by decide), fun z => absurd z (by decide), fun z => absurd z (by decide), fun z => absurd z (by decide), fun z => absurd z (by decide), fun z => absurd z (by decide), fun z => absurd z (by decide), fun z => absurd z (by decide), fun z => absurd z (by decide), fun z => absurd z (by decide), fun z => absurd z (by decide), fun z => absurd z (by decide), fun _ => ⟨j0, rfl⟩, fun z => absurd z (by decide), fun z => absurd z (by decide), fun z => absurd z (by decide), fun z => absurd z (by decide), fun z => absurd z (by decide), fun z => absurd z (by decide), fun z => absurd z (by decide), fun z => absurd z (by decide), fun z => absurd z (by decide), fun z => absurd z (by decide), fun z => absurd z (by decide), fun z _ => absurd z (by decide), fun z _ => absurd z (by decide)⟩
    · obtain ⟨h, rfl⟩ : ∃ h', h = h' + 2 := ⟨h - 2, by omega⟩
      rw [ho] at hkin
      obtain ⟨c1, e1, e2, j0⟩ := kt_70 hkin (by decide)
      refine ⟨c1, (q + 1, 0, kw n W h), e1, kC_live e2 hl1 (by rw [hT]; omega) h26 (by omega) (by first | exact Nat.zero_le _ | (show p + 1 ≤ _; omega)) hall1 hq, e2.2.2.1, e2.2.2.2.1, fun _ => ?_, fun z => absurd z (lnp_n (by rw [ho]; decide))⟩
      unfold kcV
      rw [hh, ho]
      exact ⟨fun z => absurd z (by decide), fun z => absurd z (by decide), fun z => absurd z (by decide), fun z => absurd z (by decide), fun z => absurd z (by decide), fun z => absurd z (by decide), fun z => absurd z (by decide), fun z => absurd z (by decide), fun z => absurd z (by decide), fun z => absurd z (by decide), fun z => absurd z (by decide), fun z => absurd z (by decide), fun z => absurd z (by decide), fun _ => ⟨j0, rfl⟩, fun z => absurd z (by decide), fun z => absurd z (by decide), fun z => absurd z (by decide), fun z => absurd z (by decide), fun z => absurd z (by decide), fun z => absurd z (by decide), fun z => absurd z (by decide), fun z => absurd z (by decide), fun z => absurd z (by decide), fun z => absurd z (by decide), fun z => absurd z (by decide), fun z _ => absurd z (by decide), fun z _ => absurd z (by decide)⟩
    · obtain ⟨h, rfl⟩ : ∃ h', h = h' + 2 := ⟨h - 2, by omega⟩
      rw [ho] at hkin
      obtain ⟨c1, e1, e2, j0⟩ := kt_70 hkin (by decide)
      refine ⟨c1, (q + 1, 0, kw n W h), e1, kC_live e2 hl1 (by rw [hT]; omega) h26 (by omega) (by first | exact Nat.zero_le _ | (show p + 1 ≤ _; omega)) hall1 hq, e2.2.2.1, e2.2.2.2.1, fun _ => ?_, fun z => absurd z (lnp_n (by rw [ho]; decide))⟩
      unfold kcV
      rw [hh, ho]
      exact ⟨fun z => absurd z (by decide), fun z => absurd z (by decide), fun z => absurd z (by decide), fun z => absurd z (by decide), fun z => absurd z (by decide), fun z => absurd z (by decide), fun z => absurd z (by decide), fun z => absurd z (by decide), fun z => absurd z (by decide), fun z => absurd z (by decide), fun z => absurd z (by decide), fun z => absurd z (by decide), fun z => absurd z (by decide), fun _ => ⟨j0, rfl⟩, fun z => absurd z (by decide), fun z => absurd z (by decide), fun z => absurd z (by decide), fun z => absurd z (by decide), fun z => absurd z (by decide), fun z => absurd z (by decide), fun z => absurd z (by decide), fun z => absurd z (by decide), fun z => absurd z (by decide), fun z => absurd z (by decide), fun z => absurd z (by decide), fun z _ => absurd z (by decide), fun z _ => absurd z (by decide)⟩
    · obtain ⟨h, rfl⟩ : ∃ h', h = h' + 2 := ⟨h - 2, by omega⟩
      rw [ho] at hkin
      obtain ⟨c1, e1, e2, j0⟩ := kt_70 hkin (by decide)
      refine ⟨c1, (q + 1, 0, kw n W h), e1, kC_live e2 hl1 (by rw [hT]; omega) h26 (by omega) (by first | exact Nat.zero_le _ | (show p + 1 ≤ _; omega)) hall1 hq, e2.2.2.1, e2.2.2.2.1, fun _ => ?_, fun z => absurd z (lnp_n (by rw [ho]; decide))⟩
      unfold kcV
      rw [hh, ho]
      exact ⟨fun z => absurd z (by decide), fun z => absurd z (by decide), fun z => absurd z (by decide), fun z => absurd z (by decide), fun z => absurd z (by decide), fun z => absurd z (by decide), fun z => absurd z (by decide), fun z => absurd z (by decide), fun z => absurd z (by decide), fun z => absurd z (by decide), fun z => absurd z (by decide), fun z => absurd z (by decide), fun z => absurd z (by decide), fun _ => ⟨j0, rfl⟩, fun z => absurd z (by decide), fun z => absurd z (by decide), fun z => absurd z (by decide), fun z => absurd z (by decide), fun z => absurd z (by decide), fun z => absurd z (by decide), fun z => absurd z (by decide), fun z => absurd z (by decide), fun z => absurd z (by decide), fun z => absurd z (by decide), fun z => absurd z (by decide), fun z _ => absurd z (by decide), fun z _ => absurd z (by decide)⟩
    · obtain ⟨h, rfl⟩ : ∃ h', h = h' + 2 := ⟨h - 2, by omega⟩
      rw [ho] at hkin
      obtain ⟨c1, e1, e2, j0⟩ := kt_70 hkin (by decide)
      refine ⟨c1, (q + 1, 0, kw n W h), e1, kC_live e2 hl1 (by rw [hT]; omega) h26 (by omega) (by first | exact Nat.zero_le _ | (show p + 1 ≤ _; omega)) hall1 hq, e2.2.2.1, e2.2.2.2.1, fun _ => ?_, fun z => absurd z (lnp_n (by rw [ho]; decide))⟩
      unfold kcV
      rw [hh, ho]
      exact ⟨fun z => absurd z (by decide), fun z => absurd z (by decide), fun z => absurd z (by decide), fun z => absurd z (by decide), fun z => absurd z (by decide), fun z => absurd z (by decide), fun z => absurd z (by decide), fun z => absurd z (by decide), fun z => absurd z (by decide), fun z => absurd z (by decide), fun z => absurd z (by decide), fun z => absurd z (by decide), fun z => absurd z (by decide), fun _ => ⟨j0, rfl⟩, fun z => absurd z (by decide), fun z => absurd z (by decide), fun z => absurd z (by decide), fun z => absurd z (by decide), fun z => absurd z (by decide), fun z => absurd z (by decide), fun z => absurd z (by decide), fun z => absurd z (by decide), fun z => absurd z (by decide), fun z => absurd z (by decide), fun z => absurd z (by decide), fun z _ => absurd z (by decide), fun z _ => absurd z (by decide)⟩
    · obtain ⟨h, rfl⟩ : ∃ h', h = h' + 2 := ⟨h - 2, by omega⟩
      rw [ho] at hkin
      obtain ⟨c1, e1, e2, j0⟩ := kt_70 hkin (by decide)
      refine ⟨c1, (q + 1, 0, kw n W h), e1, kC_live e2 hl1 (by rw [hT]; omega) h26 (by omega) (by first | exact Nat.zero_le _ | (show p + 1 ≤ _; omega)) hall1 hq, e2.2.2.1, e2.2.2.2.1, fun _ => ?_, fun z => absurd z (lnp_n (by rw [ho]; decide))⟩
      unfold kcV
      rw [hh, ho]
      exact ⟨fun z => absurd z (by decide), fun z => absurd z (by decide), fun z => absurd z (by decide), fun z => absurd z (by decide), fun z => absurd z (by decide), fun z => absurd z (by decide), fun z => absurd z (by decide), fun z => absurd z (by decide), fun z => absurd z (by decide), fun z => absurd z (by decide), fun z => absurd z (by decide), fun z => absurd z (by decide), fun z => absurd z (by decide), fun _ => ⟨j0, rfl⟩, fun z => absurd z (by decide), fun z => absurd z (by decide), fun z => absurd z (by decide), fun z => absurd z (by decide), fun z => absurd z (by decide), fun z => absurd z (by decide), fun z => absurd z (by decide), fun z => absurd z (by decide), fun z => absurd z (by decide), fun z => absurd z (by decide), fun z => absurd z (by decide), fun z _ => absurd z (by decide), fun z _ => absurd z (by decide)⟩
    · obtain ⟨h, rfl⟩ : ∃ h', h = h' + 2 := ⟨h - 2, by omega⟩
      rw [ho] at hkin
      obtain ⟨c1, e1, e2, j0⟩ := kt_70 hkin (by decide)
      refine ⟨c1, (q + 1, 0, kw n W h), e1, kC_live e2 hl1 (by rw [hT]; omega) h26 (by omega) (by first | exact Nat.zero_le _ | (show p + 1 ≤ _; omega)) hall1 hq, e2.2.2.1, e2.2.2.2.1, fun _ => ?_, fun z => absurd z (lnp_n (by rw [ho]; decide))⟩
      unfold kcV
      rw [hh, ho]
      exact ⟨fun z => absurd z (by decide), fun z => absurd z (by decide), fun z => absurd z (by decide), fun z => absurd z (by decide), fun z => absurd z (by decide), fun z => absurd z (by decide), fun z => absurd z (by decide), fun z => absurd z (by decide), fun z => absurd z (by decide), fun z => absurd z (by decide), fun z => absurd z (by decide), fun z => absurd z (by decide), fun z => absurd z (by decide), fun _ => ⟨j0, rfl⟩, fun z => absurd z (by decide), fun z => absurd z (by decide), fun z => absurd z (by decide), fun z => absurd z (by decide), fun z => absurd z (by decide), fun z => absurd z (by decide), fun z => absurd z (by decide), fun z => absurd z (by decide), fun z => absurd z (by decide), fun z => absurd z (by decide), fun z => absurd z (by decide), fun z _ => absurd z (by decide), fun z _ => absurd z (by decide)⟩
    · obtain ⟨h, rfl⟩ : ∃ h', h = h' + 2 := ⟨h - 2, by omega⟩
      rw [ho] at hkin
      obtain ⟨c1, e1, e2, j0⟩ := kt_70 hkin (by decide)
      refine ⟨c1, (q + 1, 0, kw n W h), e1, kC_live e2 hl1 (by rw [hT]; omega) h26 (by omega) (by first | exact Nat.zero_le _ | (show p + 1 ≤ _; omega)) hall1 hq, e2.2.2.1, e2.2.2.2.1, fun _ => ?_, fun z => absurd z (lnp_n (by rw [ho]; decide))⟩
      unfold kcV
      rw [hh, ho]
      exact ⟨fun z => absurd z (by decide), fun z => absurd z (by decide), fun z => absurd z (by decide), fun z => absurd z (by decide), fun z => absurd z (by decide), fun z => absurd z (by decide), fun z => absurd z (by decide), fun z => absurd z (by decide), fun z => absurd z (by decide), fun z => absurd z (by decide), fun z => absurd z (by decide), fun z => absurd z (by decide), fun z => absurd z (by decide), fun _ => ⟨j0, rfl⟩, fun z => absurd z (by decide), fun z => absurd z (by decide), fun z => absurd z (by decide), fun z => absurd z (by decide), fun z => absurd z (by decide), fun z => absurd z (by decide), fun z => absurd z (by decide), fun z => absurd z (by decide), fun z => absurd z (by decide), fun z => absurd z (by decide), fun z => absurd z (by decide), fun z _ => absurd z (by decide), fun z _ => absurd z (by decide)⟩
    · obtain ⟨h, rfl⟩ : ∃ h', h = h' + 2 := ⟨h - 2, by omega⟩
      rw [ho] at hkin
      obtain ⟨c1, e1, e2, j0⟩ := kt_70 hkin (by decide)
      refine ⟨c1, (q + 1, 0, kw n W h), e1, kC_live e2 hl1 (by rw [hT]; omega) h26 (by omega) (by first | exact Nat.zero_le _ | (show p + 1 ≤ _; omega)) hall1 hq, e2.2.2.1, e2.2.2.2.1, fun _ => ?_, fun z => absurd z (lnp_n (by rw [ho]; decide))⟩
      unfold kcV
      rw [hh, ho]
      exact ⟨fun z => absurd z (by decide), fun z => absurd z (by decide), fun z => absurd z (by decide), fun z => absurd z (by decide), fun z => absurd z (by decide), fun z => absurd z (by decide), fun z => absurd z (by decide), fun z => absurd z (by decide), fun z => absurd z (by decide), fun z => absurd z (by decide), fun z => absurd z (by decide), fun z => absurd z (by decide), fun z => absurd z (by decide), fun _ => ⟨j0, rfl⟩, fun z => absurd z (by decide), fun z => absurd z (by decide), fun z => absurd z (by decide), fun z => absurd z (by decide), fun z => absurd z (by decide), fun z => absurd z (by decide), fun z => absurd z (by decide), fun z => absurd z (by decide), fun z => absurd z (by decide), fun z => absurd z (by decide), fun z => absurd z (by decide), fun z _ => absurd z (by decide), fun z _ => absurd z (by decide)⟩
    · obtain ⟨h, rfl⟩ : ∃ h', h = h' + 2 := ⟨h - 2, by omega⟩
      rw [ho] at hkin
      obtain ⟨c1, e1, e2, j0⟩ := kt_70 hkin (by decide)
      refine ⟨c1, (q + 1, 0, kw n W h), e1, kC_live e2 hl1 (by rw [hT]; omega) h26 (by omega) (by first | exact Nat.zero_le _ | (show p + 1 ≤ _; omega)) hall1 hq, e2.2.2.1, e2.2.2.2.1, fun _ => ?_, fun z => absurd z (lnp_n (by rw [ho]; decide))⟩
      unfold kcV
      rw [hh, ho]
      exact ⟨fun z => absurd z (by decide), fun z => absurd z (by decide), fun z => absurd z (by decide), fun z => absurd z (by decide), fun z => absurd z (by decide), fun z => absurd z (by decide), fun z => absurd z (by decide), fun z => absurd z (by decide), fun z => absurd z (by decide), fun z => absurd z (by decide), fun z => absurd z (by decide), fun z => absurd z (by decide), fun z => absurd z (by decide), fun _ => ⟨j0, rfl⟩, fun z => absurd z (by decide), fun z => absurd z (by decide), fun z => absurd z (by decide), fun z => absurd z (by decide), fun z => absurd z (by decide), fun z => absurd z (by decide), fun z => absurd z (by decide), fun z => absurd z (by decide), fun z => absurd z (by decide), fun z => absurd z (by decide), fun z => absurd z (by decide), fun z _ => absurd z (by decide), fun z _ => absurd z (by decide)⟩
    · obtain ⟨h, rfl⟩ : ∃ h', h = h' + 2 := ⟨h - 2, by omega⟩
      rw [ho] at hkin
      obtain ⟨c1, e1, e2, j0⟩ := kt_70 hkin (by decide)
      refine ⟨c1, (q + 1, 0, kw n W h), e1, kC_live e2 hl1 (by rw [hT]; omega) h26 (by omega) (by first | exact Nat.zero_le _ | (show p + 1 ≤ _; omega)) hall1 hq, e2.2.2.1, e2.2.2.2.1, fun _ => ?_, fun z => absurd z (lnp_n (by rw [ho]; decide))⟩
      unfold kcV
      rw [hh, ho]
      exact ⟨fun z => absurd z (by decide), fun z => absurd z (by decide), fun z => absurd z (by decide), fun z => absurd z (by decide), fun z => absurd z (by decide), fun z => absurd z (by decide), fun z => absurd z (by decide), fun z => absurd z (by decide), fun z => absurd z (by decide), fun z => absurd z (by decide), fun z => absurd z (by decide), fun z => absurd z (by decide), fun z => absurd z (by decide), fun _ => ⟨j0, rfl⟩, fun z => absurd z (by decide), fun z => absurd z (by decide), fun z => absurd z (by decide), fun z => absurd z (by decide), fun z => absurd z (by decide), fun z => absurd z (by decide), fun z => absurd z (by decide), fun z => absurd z (by decide), fun z => absurd z (by decide), fun z => absurd z (by decide), fun z => absurd z (by decide), fun z _ => absurd z (by decide), fun z _ => absurd z (by decide)⟩
    · obtain ⟨h, rfl⟩ : ∃ h', h = h' + 2 := ⟨h - 2, by omega⟩
      rw [ho] at hkin
      obtain ⟨c1, e1, e2, j0⟩ := kt_70 hkin (by decide)
      refine ⟨c1, (q + 1, 0, kw n W h), e1, kC_live e2 hl1 (by rw [hT]; omega) h26 (by omega) (by first | exact Nat.zero_le _ | (show p + 1 ≤ _; omega)) hall1 hq, e2.2.2.1, e2.2.2.2.1, fun _ => ?_, fun z => absurd z (lnp_n (by rw [ho]; decide))⟩
      unfold kcV
      rw [hh, ho]
      exact ⟨fun z => absurd z (by decide), fun z => absurd z (by decide), fun z => absurd z (by decide), fun z => absurd z (by decide), fun z => absurd z (by decide), fun z => absurd z (by decide), fun z => absurd z (by decide), fun z => absurd z (by decide), fun z => absurd z (by decide), fun z => absurd z (by decide), fun z => absurd z (by decide), fun z => absurd z (by decide), fun z => absurd z (by decide), fun _ => ⟨j0, rfl⟩, fun z => absurd z (by decide), fun z => absurd z (by decide), fun z => absurd z (by decide), fun z => absurd z (by decide), fun z => absurd z (by decide), fun z => absurd z (by decide), fun z => absurd z (by decide), fun z => absurd z (by decide), fun z => absurd z (by decide), fun z => absurd z (by decide), fun z => absurd z (by decide), fun z _ => absurd z (by decide), fun z _ => absurd z (by decide)⟩
    · obtain ⟨h, rfl⟩ : ∃ h', h = h' + 2 := ⟨h - 2, by omega⟩
      rw [ho] at hkin
      obtain ⟨c1, e1, e2, j0⟩ := kt_70 hkin (by decide)
      refine ⟨c1, (q + 1, 0, kw n W h), e1, kC_live e2 hl1 (by rw [hT]; omega) h26 (by omega) (by first | exact Nat.zero_le _ | (show p + 1 ≤ _; omega)) hall1 hq, e2.2.2.1, e2.2.2.2.1, fun _ => ?_, fun z => absurd z (lnp_n (by rw [ho]; decide))⟩
      unfold kcV
      rw [hh, ho]
      exact ⟨fun z => absurd z (by decide), fun z => absurd z (by decide), fun z => absurd z (by decide), fun z => absurd z (by decide), fun z => absurd z (by decide), fun z => absurd z (by decide), fun z => absurd z (by decide), fun z => absurd z (by decide), fun z => absurd z (by decide), fun z => absurd z (by decide), fun z => absurd z (by decide), fun z => absurd z (by decide), fun z => absurd z (by decide), fun _ => ⟨j0, rfl⟩, fun z => absurd z (by decide), fun z => absurd z (by decide), fun z => absurd z (by decide), fun z => absurd z (by decide), fun z => absurd z (by decide), fun z => absurd z (by decide), fun z => absurd z (by decide), fun z => absurd z (by decide), fun z => absurd z (by decide), fun z => absurd z (by decide), fun z => absurd z (by decide), fun z _ => absurd z (by decide), fun z _ => absurd z (by decide)⟩
    · obtain ⟨h, rfl⟩ : ∃ h', h = h' + 2 := ⟨h - 2, by omega⟩
      rw [ho] at hkin
      obtain ⟨c1, e1, e2, j0⟩ := kt_70 hkin (by decide)
      refine ⟨c1, (q + 1, 0, kw n W h), e1, kC_live e2 hl1 (by rw [hT]; omega) h26 (by omega) (by first | exact Nat.zero_le _ | (show p + 1 ≤ _; omega)) hall1 hq, e2.2.2.1, e2.2.2.2.1, fun _ => ?_, fun z => absurd z (lnp_n (by rw [ho]; decide))⟩
      unfold kcV
      rw [hh, ho]
      exact ⟨fun z => absurd z (by decide), fun z => absurd z (by decide), fun z => absurd z (by decide), fun z => absurd z (by decide), fun z => absurd z (by decide), fun z => absurd z (by decide), fun z => absurd z (by decide), fun z => absurd z (by decide), fun z => absurd z (by decide), fun z => absurd z (by decide), fun z => absurd z (by decide), fun z => absurd z (by decide), fun z => absurd z (by decide), fun _ => ⟨j0, rfl⟩, fun z => absurd z (by decide), fun z => absurd z (by decide), fun z => absurd z (by decide), fun z => absurd z (by decide), fun z => absurd z (by decide), fun z => absurd z (by decide), fun z => absurd z (by decide), fun z => absurd z (by decide), fun z => absurd z (by decide), fun z => absurd z (by decide), fun z => absurd z (by decide), fun z _ => absurd z (by decide), fun z _ => absurd z (by decide)⟩
    · obtain ⟨h, rfl⟩ : ∃ h', h = h' + 2 := ⟨h - 2, by omega⟩
      rw [ho] at hkin
      obtain ⟨c1, e1, e2, j0⟩ := kt_70 hkin (by decide)
      refine ⟨c1, (q + 1, 0, kw n W h), e1, kC_live e2 hl1 (by rw [hT]; omega) h26 (by omega) (by first | exact Nat.zero_le _ | (show p + 1 ≤ _; omega)) hall1 hq, e2.2.2.1, e2.2.2.2.1, fun _ => ?_, fun z => absurd z (lnp_n (by rw [ho]; decide))⟩
      unfold kcV
      rw [hh, ho]
      exact ⟨fun z => absurd z (by decide), fun z => absurd z (by decide), fun z => absurd z (by decide), fun z => absurd z (by decide), fun z => absurd z (by decide), fun z => absurd z (by decide), fun z => absurd z (by decide), fun z => absurd z (by decide), fun z => absurd z (by decide), fun z => absurd z (by decide), fun z => absurd z (by decide), fun z => absurd z (by decide), fun z => absurd z (by decide), fun _ => ⟨j0, rfl⟩, fun z => absurd z (by decide), fun z => absurd z (by decide), fun z => absurd z (by decide), fun z => absurd z (by decide), fun z => absurd z (by decide), fun z => absurd z (by decide), fun z => absurd z (by decide), fun z => absurd z (by decide), fun z => absurd z (by decide), fun z => absurd z (by decide), fun z => absurd z (by decide), fun z _ => absurd z (by decide), fun z _ => absurd z (by decide)⟩
  · simp only [List.mem_cons, List.not_mem_nil, or_false] at ho
    rcases ho with ho | ho | ho | ho | ho | ho | ho | ho | ho | ho | ho | ho | ho | ho
    · obtain ⟨h, rfl⟩ : ∃ h', h = h' + 1 := ⟨h - 1, by omega⟩
      rw [ho] at hkin
      obtain ⟨c1, e1, e2, j0⟩ := kt_40 hkin (by decide)
      refine ⟨c1, (q + 1, 0, kw n W h), e1, kC_live e2 hl1 (by rw [hT]; omega) h26 (by omega) (by first | exact Nat.zero_le _ | (show p + 1 ≤ _; omega)) hall1 hq, e2.2.2.1, e2.2.2.2.1, fun _ => ?_, fun z => absurd z (lnp_n (by rw [ho]; decide))⟩
      unfold kcV
      rw [hh, ho, ← h8]
      exact ⟨fun z => absurd z (by decide), fun z => absurd z (by decide), fun z => absurd z (by decide), fun z => absurd z (by decide), fun z => absurd z (by decide), fun z => absurd z (by decide), fun z => absurd z (by decide), fun z => absurd z (by decide), fun z => absurd z (by decide), fun _ => ⟨j0, rfl⟩, fun z => absurd z (by decide), fun z => absurd z (by decide), fun z => absurd z (by decide), fun z => absurd z (by decide), fun z => absurd z (by decide), fun z => absurd z (by decide), fun z => absurd z (by decide), fun z => absurd z (by decide), fun z => absurd z (by decide), fun z => absurd z (by decide), fun z => absurd z (by decide), fun z => absurd z (by decide), fun z => absurd z (by decide), fun z => absurd z (by decide), fun z => absurd z (by decide), fun z _ => absurd z (by decide), fun z _ => absurd z (by decide)⟩
    · obtain ⟨h, rfl⟩ : ∃ h', h = h' + 1 := ⟨h - 1, by omega⟩
      rw [ho] at hkin
      obtain ⟨c1, e1, e2, j0⟩ := kt_40 hkin (by decide)
      refine ⟨c1, (q + 1, 0, kw n W h), e1, kC_live e2 hl1 (by rw [hT]; omega) h26 (by omega) (by first | exact Nat.zero_le _ | (show p + 1 ≤ _; omega)) hall1 hq, e2.2.2.1, e2.2.2.2.1, fun _ => ?_, fun z => absurd z (lnp_n (by rw [ho]; decide))⟩
      unfold kcV
      rw [hh, ho, ← h8]
      exact ⟨fun z => absurd z (by decide), fun z => absurd z (by decide), fun z => absurd z (by decide), fun z => absurd z (by decide), fun z => absurd z (by decide), fun z => absurd z (by decide), fun z => absurd z (by decide), fun z => absurd z (by decide), fun z => absurd z (by decide), fun _ => ⟨j0, rfl⟩, fun z => absurd z (by decide), fun z => absurd z (by decide), fun z => absurd z (by decide), fun z => absurd z (by decide), fun z => absurd z (by decide), fun z => absurd z (by decide), fun z => absurd z (by decide), fun z => absurd z (by decide), fun z => absurd z (by decide), fun z => absurd z (by decide), fun z => absurd z (by decide), fun z => absurd z (by decide), fun z => absurd z (by decide), fun z => absurd z (by decide), fun z => absurd z (by decide), fun z _ => absurd z (by decide), fun z _ => absurd z (by decide)⟩
    · obtain ⟨h, rfl⟩ : ∃ h', h = h' + 1 := ⟨h - 1, by omega⟩
      rw [ho] at hkin
      obtain ⟨c1, e1, e2, j0⟩ := kt_40 hkin (by decide)
      refine ⟨c1, (q + 1, 0, kw n W h), e1, kC_live e2 hl1 (by rw [hT]; omega) h26 (by omega) (by first | exact Nat.zero_le _ | (show p + 1 ≤ _; omega)) hall1 hq, e2.2.2.1, e2.2.2.2.1, fun _ => ?_, fun z => absurd z (lnp_n (by rw [ho]; decide))⟩
      unfold kcV
      rw [hh, ho, ← h8]
      exact ⟨fun z => absurd z (by decide), fun z => absurd z (by decide), fun z => absurd z (by decide), fun z => absurd z (by decide), fun z => absurd z (by decide), fun z => absurd z (by decide), fun z => absurd z (by decide), fun z => absurd z (by decide), fun z => absurd z (by decide), fun _ => ⟨j0, rfl⟩, fun z => absurd z (by decide), fun z => absurd z (by decide), fun z => absurd z (by decide), fun z => absurd z (by decide), fun z => absurd z (by decide), fun z => absurd z (by decide), fun z => absurd z (by decide), fun z => absurd z (by decide), fun z => absurd z (by decide), fun z => absurd z (by decide), fun z => absurd z (by decide), fun z => absurd z (by decide), fun z => absurd z (by decide), fun z => absurd z (by decide), fun z => absurd z (by decide), fun z _ => absurd z (by decide), fun z _ => absurd z (by decide)⟩
    · obtain ⟨h, rfl⟩ : ∃ h', h = h' + 1 := ⟨h - 1, by omega⟩
      rw [ho] at hkin
      obtain ⟨c1, e1, e2, j0⟩ := kt_40 hkin (by decide)
      refine ⟨c1, (q + 1, 0, kw n W h), e1, kC_live e2 hl1 (by rw [hT]; omega) h26 (by omega) (by first | exact Nat.zero_le _ | (show p + 1 ≤ _; omega)) hall1 hq, e2.2.2.1, e2.2.2.2.1, fun _ => ?_, fun z => absurd z (lnp_n (by rw [ho]; decide))⟩
      unfold kcV
      rw [hh, ho, ← h8]
      exact ⟨fun z => absurd z (by decide), fun z => absurd z (by decide), fun z => absurd z (by decide), fun z => absurd z (by decide), fun z => absurd z (by decide), fun z => absurd z (by decide), fun z => absurd z (by decide), fun z => absurd z (by decide), fun z => absurd z (by decide), fun _ => ⟨j0, rfl⟩, fun z => absurd z (by decide), fun z => absurd z (by decide), fun z => absurd z (by decide), fun z => absurd z (by decide), fun z => absurd z (by decide), fun z => absurd z (by decide), fun z => absurd z (by decide), fun z => absurd z (by decide), fun z => absurd z (by decide), fun z => absurd z (by decide), fun z => absurd z (by decide), fun z => absurd z (by decide), fun z => absurd z (by decide), fun z => absurd z (by decide), fun z => absurd z (by decide), fun z _ => absurd z (by decide), fun z _ => absurd z (by decide)⟩
    · obtain ⟨h, rfl⟩ : ∃ h', h = h' + 1 := ⟨h - 1, by omega⟩
      rw [ho] at hkin
      obtain ⟨c1, e1, e2, j0⟩ := kt_40 hkin (by decide)
      refine ⟨c1, (q + 1, 0, kw n W h), e1, kC_live e2 hl1 (by rw [hT]; omega) h26 (by omega) (by first | exact Nat.zero_le _ | (show p + 1 ≤ _; omega)) hall1 hq, e2.2.2.1, e2.2.2.2.1, fun _ => ?_, fun z => absurd z (lnp_n (by rw [ho]; decide))⟩
      unfold kcV
      rw [hh, ho, ← h8]
      exact ⟨fun z => absurd z (by decide), fun z => absurd z (by decide), fun z => absurd z (by decide), fun z => absurd z (by decide), fun z => absurd z (by decide), fun z => absurd z (by decide), fun z => absurd z (by decide), fun z => absurd z (by decide), fun z => absurd z (by decide), fun _ => ⟨j0, rfl⟩, fun z => absurd z (by decide), fun z => absurd z (by decide), fun z => absurd z (by decide), fun z => absurd z (by decide), fun z => absurd z (by decide), fun z => absurd z (by decide), fun z => absurd z (by decide), fun z => absurd z (by decide), fun z => absurd z (by decide), fun z => absurd z (by decide), fun z => absurd z (by decide), fun z => absurd z (by decide), fun z => absurd z (by decide), fun z => absurd z (by decide), fun z => absurd z (by decide), fun z _ => absurd z (by decide), fun z _ => absurd z (by decide)⟩
    · obtain ⟨h, rfl⟩ : ∃ h', h = h' + 1 := ⟨h - 1, by omega⟩
      rw [ho] at hkin
      obtain ⟨c1, e1, e2, j0⟩ := kt_40 hkin (by decide)
      refine ⟨c1, (q + 1, 0, kw n W h), e1, kC_live e2 hl1 (by rw [hT]; omega) h26 (by omega) (by first | exact Nat.zero_le _ | (show p + 1 ≤ _; omega)) hall1 hq, e2.2.2.1, e2.2.2.2.1, fun _ => ?_, fun z => absurd z (lnp_n (by rw [ho]; decide))⟩
      unfold kcV
      rw [hh, ho, ← h8]
      exact ⟨fun z => absurd z (by decide), fun z => absurd z (by decide), fun z => absurd z (by decide), fun z => absurd z (by decide), fun z => absurd z (by decide), fun z => absurd z (by decide), fun z => absurd z (by decide), fun z => absurd z (by decide), fun z => absurd z (by decide), fun _ => ⟨j0, rfl⟩, fun z => absurd z (by decide), fun z => absurd z (by decide), fun z => absurd z (by decide), fun z => absurd z (by decide), fun z => absurd z (by decide), fun z => absurd z (by decide), fun z => absurd z (by decide), fun z => absurd z (by decide), fun z => absurd z (by decide), fun z => absurd z (by decide), fun z => absurd z (by decide), fun z => absurd z (by decide), fun z => absurd z (by decide), fun z => absurd z (by decide), fun z => absurd z (by decide), fun z _ => absurd z (by decide), fun z _ => absurd z (by decide)⟩
    · obtain ⟨h, rfl⟩ : ∃ h', h = h' + 1 := ⟨h - 1, by omega⟩
      rw [ho] at hkin
      obtain ⟨c1, e1, e2, j0⟩ := kt_40 hkin (by decide)
      refine ⟨c1, (q + 1, 0, kw n W h), e1, kC_live e2 hl1 (by rw [hT]; omega) h26 (by omega) (by first | exact Nat.zero_le _ | (show p + 1 ≤ _; omega)) hall1 hq, e2.2.2.1, e2.2.2.2.1, fun _ => ?_, fun z => absurd z (lnp_n (by rw [ho]; decide))⟩
      unfold kcV
      rw [hh, ho, ← h8]
      exact ⟨fun z => absurd z (by decide), fun z => absurd z (by decide), fun z => absurd z (by decide), fun z => absurd z (by decide), fun z => absurd z (by decide), fun z => absurd z (by decide), fun z => absurd z (by decide), fun z => absurd z (by decide), fun z => absurd z (by decide), fun _ => ⟨j0, rfl⟩, fun z => absurd z (by decide), fun z => absurd z (by decide), fun z => absurd z (by decide), fun z => absurd z (by decide), fun z => absurd z (by decide), fun z => absurd z (by decide), fun z => absurd z (by decide), fun z => absurd z (by decide), fun z => absurd z (by decide), fun z => absurd z (by decide), fun z => absurd z (by decide), fun z => absurd z (by decide), fun z => absurd z (by decide), fun z => absurd z (by decide), fun z => absurd z (by decide), fun z _ => absurd z (by decide), fun z _ => absurd z (by decide)⟩
    · obtain ⟨h, rfl⟩ : ∃ h', h = h' + 1 := ⟨h - 1, by omega⟩
      rw [ho] at hkin
      obtain ⟨c1, e1, e2, j0⟩ := kt_40 hkin (by decide)
      refine ⟨c1, (q + 1, 0, kw n W h), e1, kC_live e2 hl1 (by rw [hT]; omega) h26 (by omega) (by first | exact Nat.zero_le _ | (show p + 1 ≤ _; omega)) hall1 hq, e2.2.2.1, e2.2.2.2.1, fun _ => ?_, fun z => absurd z (lnp_n (by rw [ho]; decide))⟩
      unfold kcV
      rw [hh, ho, ← h8]
      exact ⟨fun z => absurd z (by decide), fun z => absurd z (by decide), fun z => absurd z (by decide), fun z => absurd z (by decide), fun z => absurd z (by decide), fun z => absurd z (by decide), fun z => absurd z (by decide), fun z => absurd z (by decide), fun z => absurd z (by decide), fun _ => ⟨j0, rfl⟩, fun z => absurd z (by decide), fun z => absurd z (by decide), fun z => absurd z (by decide), fun z => absurd z (by decide), fun z => absurd z (by decide), fun z => absurd z (by decide), fun z => absurd z (by decide), fun z => absurd z (by decide), fun z => absurd z (by decide), fun z => absurd z (by decide), fun z => absurd z (by decide), fun z => absurd z (by decide), fun z => absurd z (by decide), fun z => absurd z (by decide), fun z => absurd z (by decide), fun z _ => absurd z (by decide), fun z _ => absurd z (by decide)⟩
    · obtain ⟨h, rfl⟩ : ∃ h', h = h' + 1 := ⟨h - 1, by omega⟩
      rw [ho] at hkin
      obtain ⟨c1, e1, e2, j0⟩ := kt_40 hkin (by decide)
      refine ⟨c1, (q + 1, 0, kw n W h), e1, kC_live e2 hl1 (by rw [hT]; omega) h26 (by omega) (by first | exact Nat.zero_le _ | (show p + 1 ≤ _; omega)) hall1 hq, e2.2.2.1, e2.2.2.2.1, fun _ => ?_, fun z => absurd z (lnp_n (by rw [ho]; decide))⟩
      unfold kcV
      rw [hh, ho, ← h8]
      exact ⟨fun z => absurd z (by decide), fun z => absurd z (by decide), fun z => absurd z (by decide), fun z => absurd z (by decide), fun z => absurd z (by decide), fun z => absurd z (by decide), fun z => absurd z (by decide), fun z => absurd z (by decide), fun z => absurd z (by decide), fun _ => ⟨j0, rfl⟩, fun z => absurd z (by decide), fun z => absurd z (by decide), fun z => absurd z (by decide), fun z => absurd z (by decide), fun z => absurd z (by decide), fun z => absurd z (by decide), fun z => absurd z (by decide), fun z => absurd z (by decide), fun z => absurd z (by decide), fun z => absurd z (by decide), fun z => absurd z (by decide), fun z => absurd z (by decide), fun z => absurd z (by decide), fun z => absurd z (by decide), fun z => absurd z (by decide), fun z _ => absurd z (by decide), fun z _ => absurd z (by decide)⟩
    · obtain ⟨h, rfl⟩ : ∃ h', h = h' + 1 := ⟨h - 1, by omega⟩
      rw [ho] at hkin
      obtain ⟨c1, e1, e2, j0⟩ := kt_40 hkin (by decide)
      refine ⟨c1, (q + 1, 0, kw n W h), e1, kC_live e2 hl1 (by rw [hT]; omega) h26 (by omega) (by first | exact Nat.zero_le _ | (show p + 1 ≤ _; omega)) hall1 hq, e2.2.2.1, e2.2.2.2.1, fun _ => ?_, fun z => absurd z (lnp_n (by rw [ho]; decide))⟩
      unfold kcV
      rw [hh, ho, ← h8]
      exact ⟨fun z => absurd z (by decide), fun z => absurd z (by decide), fun z => absurd z (by decide), fun z => absurd z (by decide), fun z => absurd z (by decide), fun z => absurd z (by decide), fun z => absurd z (by decide), fun z => absurd z (by decide), fun z => absurd z (by decide), fun _ => ⟨j0, rfl⟩, fun z => absurd z (by decide), fun z => absurd z (by decide), fun z => absurd z (by decide), fun z => absurd z (by decide), fun z => absurd z (by decide), fun z => absurd z (by decide), fun z => absurd z (by decide), fun z => absurd z (by decide), fun z => absurd z (by decide), fun z => absurd z (by decide), fun z => absurd z (by decide), fun z => absurd z (by decide), fun z => absurd z (by decide), fun z => absurd z (by decide), fun z => absurd z (by decide), fun z _ => absurd z (by decide), fun z _ => absurd z (by decide)⟩
    · obtain ⟨h, rfl⟩ : ∃ h', h = h' + 1 := ⟨h - 1, by omega⟩
      rw [ho] at hkin
      obtain ⟨c1, e1, e2, j0⟩ := kt_40 hkin (by decide)
      refine ⟨c1, (q + 1, 0, kw n W h), e1, kC_live e2 hl1 (by rw [hT]; omega) h26 (by omega) (by first | exact Nat.zero_le _ | (show p + 1 ≤ _; omega)) hall1 hq, e2.2.2.1, e2.2.2.2.1, fun _ => ?_, fun z => absurd z (lnp_n (by rw [ho]; decide))⟩
      unfold kcV
      rw [hh, ho, ← h8]
      exact ⟨fun z => absurd z (by decide), fun z => absurd z (by decide), fun z => absurd z (by decide), fun z => absurd z (by decide), fun z => absurd z (by decide), fun z => absurd z (by decide), fun z => absurd z (by decide), fun z => absurd z (by decide), fun z => absurd z (by decide), fun _ => ⟨j0, rfl⟩, fun z => absurd z (by decide), fun z => absurd z (by decide), fun z => absurd z (by decide), fun z => absurd z (by decide), fun z => absurd z (by decide), fun z => absurd z (by decide), fun z => absurd z (by decide), fun z => absurd z (by decide), fun z => absurd z (by decide), fun z => absurd z (by decide), fun z => absurd z (by decide), fun z => absurd z (by decide), fun z => absurd z (by decide), fun z => absurd z (by decide), fun z => absurd z (by decide), fun z _ => absurd z (by decide), fun z _ => absurd z (by decide)⟩
    · obtain ⟨h, rfl⟩ : ∃ h', h = h' + 1 := ⟨h - 1, by omega⟩
      rw [ho] at hkin
      obtain ⟨c1, e1, e2, j0⟩ := kt_40 hkin (by decide)
      refine ⟨c1, (q + 1, 0, kw n W h), e1, kC_live e2 hl1 (by rw [hT]; omega) h26 (by omega) (by first | exact Nat.zero_le _ | (show p + 1 ≤ _; omega)) hall1 hq, e2.2.2.1, e2.2.2.2.1, fun _ => ?_, fun z => absurd z (lnp_n (by rw [ho]; decide))⟩
      unfold kcV
      rw [hh, ho, ← h8]
      exact ⟨fun z => absurd z (by decide), fun z => absurd z (by decide), fun z => absurd z (by decide), fun z => absurd z (by decide), fun z => absurd z (by decide), fun z => absurd z (by decide), fun z => absurd z (by decide), fun z => absurd z (by decide), fun z => absurd z (by decide), fun _ => ⟨j0, rfl⟩, fun z => absurd z (by decide), fun z => absurd z (by decide), fun z => absurd z (by decide), fun z => absurd z (by decide), fun z => absurd z (by decide), fun z => absurd z (by decide), fun z => absurd z (by decide), fun z => absurd z (by decide), fun z => absurd z (by decide), fun z => absurd z (by decide), fun z => absurd z (by decide), fun z => absurd z (by decide), fun z => absurd z (by decide), fun z => absurd z (by decide), fun z => absurd z (by decide), fun z _ => absurd z (by decide), fun z _ => absurd z (by decide)⟩
    · obtain ⟨h, rfl⟩ : ∃ h', h = h' + 1 := ⟨h - 1, by omega⟩
      rw [ho] at hkin
      obtain ⟨c1, e1, e2, j0⟩ := kt_40 hkin (by decide)
      refine ⟨c1, (q + 1, 0, kw n W h), e1, kC_live e2 hl1 (by rw [hT]; omega) h26 (by omega) (by first | exact Nat.zero_le _ | (show p + 1 ≤ _; omega)) hall1 hq, e2.2.2.1, e2.2.2.2.1, fun _ => ?_, fun z => absurd z (lnp_n (by rw [ho]; decide))⟩
      unfold kcV
      rw [hh, ho, ← h8]
      exact ⟨fun z => absurd z (by decide), fun z => absurd z (by decide), fun z => absurd z (by decide), fun z => absurd z (by decide), fun z => absurd z (by decide), fun z => absurd z (by decide), fun z => absurd z (by decide), fun z => absurd z (by decide), fun z => absurd z (by decide), fun _ => ⟨j0, rfl⟩, fun z => absurd z (by decide), fun z => absurd z (by decide), fun z => absurd z (by decide), fun z => absurd z (by decide), fun z => absurd z (by decide), fun z => absurd z (by decide), fun z => absurd z (by decide), fun z => absurd z (by decide), fun z => absurd z (by decide), fun z => absurd z (by decide), fun z => absurd z (by decide), fun z => absurd z (by decide), fun z => absurd z (by decide), fun z => absurd z (by decide), fun z => absurd z (by decide), fun z _ => absurd z (by decide), fun z _ => absurd z (by decide)⟩
    · obtain ⟨h, rfl⟩ : ∃ h', h = h' + 1 := ⟨h - 1, by omega⟩
      rw [ho] at hkin
      obtain ⟨c1, e1, e2, j0⟩ := kt_40 hkin (by decide)
      refine ⟨c1, (q + 1, 0, kw n W h), e1, kC_live e2 hl1 (by rw [hT]; omega) h26 (by omega) (by first | exact Nat.zero_le _ | (show p + 1 ≤ _; omega)) hall1 hq, e2.2.2.1, e2.2.2.2.1, fun _ => ?_, fun z => absurd z (lnp_n (by rw [ho]; decide))⟩
      unfold kcV
      rw [hh, ho, ← h8]
      exact ⟨fun z => absurd z (by decide), fun z => absurd z (by decide), fun z => absurd z (by decide), fun z => absurd z (by decide), fun z => absurd z (by decide), fun z => absurd z (by decide), fun z => absurd z (by decide), fun z => absurd z (by decide), fun z => absurd z (by decide), fun _ => ⟨j0, rfl⟩, fun z => absurd z (by decide), fun z => absurd z (by decide), fun z => absurd z (by decide), fun z => absurd z (by decide), fun z => absurd z (by decide), fun z => absurd z (by decide), fun z => absurd z (by decide), fun z => absurd z (by decide), fun z => absurd z (by decide), fun z => absurd z (by decide), fun z => absurd z (by decide), fun z => absurd z (by decide), fun z => absurd z (by decide), fun z => absurd z (by decide), fun z => absurd z (by decide), fun z _ => absurd z (by decide), fun z _ => absurd z (by decide)⟩
  · simp only [List.mem_cons, List.not_mem_nil, or_false] at ho
    rcases ho with ho | ho | ho | ho | ho | ho | ho | ho | ho
    · obtain ⟨h, rfl⟩ : ∃ h', h = h' + 2 := ⟨h - 2, by omega⟩
      rw [ho] at hkin
      obtain ⟨c1, e1, e2, j0⟩ := kt_54 hkin (by decide)
      refine ⟨c1, (q + 1, 0, W), e1, kC_live e2 hl1 (by rw [hT]; omega) h26 (by omega) (by first | exact Nat.zero_le _ | (show p + 1 ≤ _; omega)) hall1 hq, e2.2.2.1, e2.2.2.2.1, fun _ => ?_, fun z => absurd z (lnp_n (by rw [ho]; decide))⟩
      unfold kcV
      rw [hh, ho, ← h8]
      exact ⟨fun z => absurd z (by decide), fun z => absurd z (by decide), fun z => absurd z (by decide), fun z => absurd z (by decide), fun z => absurd z (by decide), fun z => absurd z (by decide), fun z => absurd z (by decide), fun z => absurd z (by decide), fun z => absurd z (by decide), fun z => absurd z (by decide), fun z => absurd z (by decide), fun _ => ⟨j0, rfl⟩, fun z => absurd z (by decide), fun z => absurd z (by decide), fun z => absurd z (by decide), fun z => absurd z (by decide), fun z => absurd z (by decide), fun z => absurd z (by decide), fun z => absurd z (by decide), fun z => absurd z (by decide), fun z => absurd z (by decide), fun z => absurd z (by decide), fun z => absurd z (by decide), fun z => absurd z (by decide), fun z => absurd z (by decide), fun z _ => absurd z (by decide), fun z _ => absurd z (by decide)⟩
    · obtain ⟨h, rfl⟩ : ∃ h', h = h' + 2 := ⟨h - 2, by omega⟩
      rw [ho] at hkin
      obtain ⟨c1, e1, e2, j0⟩ := kt_54 hkin (by decide)
      refine ⟨c1, (q + 1, 0, W), e1, kC_live e2 hl1 (by rw [hT]; omega) h26 (by omega) (by first | exact Nat.zero_le _ | (show p + 1 ≤ _; omega)) hall1 hq, e2.2.2.1, e2.2.2.2.1, fun _ => ?_, fun z => absurd z (lnp_n (by rw [ho]; decide))⟩
      unfold kcV
      rw [hh, ho, ← h8]
      exact ⟨fun z => absurd z (by decide), fun z => absurd z (by decide), fun z => absurd z (by decide), fun z => absurd z (by decide), fun z => absurd z (by decide), fun z => absurd z (by decide), fun z => absurd z (by decide), fun z => absurd z (by decide), fun z => absurd z (by decide), fun z => absurd z (by decide), fun z => absurd z (by decide), fun _ => ⟨j0, rfl⟩, fun z => absurd z (by decide), fun z => absurd z (by decide), fun z => absurd z (by decide), fun z => absurd z (by decide), fun z => absurd z (by decide), fun z => absurd z (by decide), fun z => absurd z (by decide), fun z => absurd z (by decide), fun z => absurd z (by decide), fun z => absurd z (by decide), fun z => absurd z (by decide), fun z => absurd z (by decide), fun z => absurd z (by decide), fun z _ => absurd z (by decide), fun z _ => absurd z (by decide)⟩
    · obtain ⟨h, rfl⟩ : ∃ h', h = h' + 2 := ⟨h - 2, by omega⟩
      rw [ho] at hkin
      obtain ⟨c1, e1, e2, j0⟩ := kt_54 hkin (by decide)
      refine ⟨c1, (q + 1, 0, W), e1, kC_live e2 hl1 (by rw [hT]; omega) h26 (by omega) (by first | exact Nat.zero_le _ | (show p + 1 ≤ _; omega)) hall1 hq, e2.2.2.1, e2.2.2.2.1, fun _ => ?_, fun z => absurd z (lnp_n (by rw [ho]; decide))⟩
      unfold kcV
      rw [hh, ho, ← h8]
      exact ⟨fun z => absurd z (by decide), fun z => absurd z (by decide), fun z => absurd z (by decide), fun z => absurd z (by decide), fun z => absurd z (by decide), fun z => absurd z (by decide), fun z => absurd z (by decide), fun z => absurd z (by decide), fun z => absurd z (by decide), fun z => absurd z (by decide), fun z => absurd z (by decide), fun _ => ⟨j0, rfl⟩, fun z => absurd z (by decide), fun z => absurd z (by decide), fun z => absurd z (by decide), fun z => absurd z (by decide), fun z => absurd z (by decide), fun z => absurd z (by decide), fun z => absurd z (by decide), fun z => absurd z (by decide), fun z => absurd z (by decide), fun z => absurd z (by decide), fun z => absurd z (by decide), fun z => absurd z (by decide), fun z => absurd z (by decide), fun z _ => absurd z (by decide), fun z _ => absurd z (by decide)⟩
    · obtain ⟨h, rfl⟩ : ∃ h', h = h' + 2 := ⟨h - 2, by omega⟩
      rw [ho] at hkin
      obtain ⟨c1, e1, e2, j0⟩ := kt_54 hkin (by decide)
      refine ⟨c1, (q + 1, 0, W), e1, kC_live e2 hl1 (by rw [hT]; omega) h26 (by omega) (by first | exact Nat.zero_le _ | (show p + 1 ≤ _; omega)) hall1 hq, e2.2.2.1, e2.2.2.2.1, fun _ => ?_, fun z => absurd z (lnp_n (by rw [ho]; decide))⟩
      unfold kcV
      rw [hh, ho, ← h8]
      exact ⟨fun z => absurd z (by decide), fun z => absurd z (by decide), fun z => absurd z (by decide), fun z => absurd z (by decide), fun z => absurd z (by decide), fun z => absurd z (by decide), fun z => absurd z (by decide), fun z => absurd z (by decide), fun z => absurd z (by decide), fun z => absurd z (by decide), fun z => absurd z (by decide), fun _ => ⟨j0, rfl⟩, fun z => absurd z (by decide), fun z => absurd z (by decide), fun z => absurd z (by decide), fun z => absurd z (by decide), fun z => absurd z (by decide), fun z => absurd z (by decide), fun z => absurd z (by decide), fun z => absurd z (by decide), fun z => absurd z (by decide), fun z => absurd z (by decide), fun z => absurd z (by decide), fun z => absurd z (by decide), fun z => absurd z (by decide), fun z _ => absurd z (by decide), fun z _ => absurd z (by decide)⟩
    · obtain ⟨h, rfl⟩ : ∃ h', h = h' + 2 := ⟨h - 2, by omega⟩
      rw [ho] at hkin
      obtain ⟨c1, e1, e2, j0⟩ := kt_54 hkin (by decide)
      refine ⟨c1, (q + 1, 0, W), e1, kC_live e2 hl1 (by rw [hT]; omega) h26 (by omega) (by first | exact Nat.zero_le _ | (show p + 1 ≤ _; omega)) hall1 hq, e2.2.2.1, e2.2.2.2.1, fun _ => ?_, fun z => absurd z (lnp_n (by rw [ho]; decide))⟩
      unfold kcV
      rw [hh, ho, ← h8]
      exact ⟨fun z => absurd z (by decide), fun z => absurd z (by decide), fun z => absurd z (by decide), fun z => absurd z (by decide), fun z => absurd z (by decide), fun z => absurd z (by decide), fun z => absurd z (by decide), fun z => absurd z (by decide), fun z => absurd z (by decide), fun z => absurd z (by decide), fun z => absurd z (by decide), fun _ => ⟨j0, rfl⟩, fun z => absurd z (by decide), fun z => absurd z (by decide), fun z => absurd z (by decide), fun z => absurd z (by decide), fun z => absurd z (by decide), fun z => absurd z (by decide), fun z => absurd z (by decide), fun z => absurd z (by decide), fun z => absurd z (by decide), fun z => absurd z (by decide), fun z => absurd z (by decide), fun z => absurd z (by decide), fun z => absurd z (by decide), fun z _ => absurd z (by decide), fun z _ => absurd z (by decide)⟩
    · obtain ⟨h, rfl⟩ : ∃ h', h = h' + 2 := ⟨h - 2, by omega⟩
      rw [ho] at hkin
      obtain ⟨c1, e1, e2, j0⟩ := kt_54 hkin (by decide)
      refine ⟨c1, (q + 1, 0, W), e1, kC_live e2 hl1 (by rw [hT]; omega) h26 (by omega) (by first | exact Nat.zero_le _ | (show p + 1 ≤ _; omega)) hall1 hq, e2.2.2.1, e2.2.2.2.1, fun _ => ?_, fun z => absurd z (lnp_n (by rw [ho]; decide))⟩
      unfold kcV
      rw [hh, ho, ← h8]
      exact ⟨fun z => absurd z (by decide), fun z => absurd z (by decide), fun z => absurd z (by decide), fun z => absurd z (by decide), fun z => absurd z (by decide), fun z => absurd z (by decide), fun z => absurd z (by decide), fun z => absurd z (by decide), fun z => absurd z (by decide), fun z => absurd z (by decide), fun z => absurd z (by decide), fun _ => ⟨j0, rfl⟩, fun z => absurd z (by decide), fun z => absurd z (by decide), fun z => absurd z (by decide), fun z => absurd z (by decide), fun z => absurd z (by decide), fun z => absurd z (by decide), fun z => absurd z (by decide), fun z => absurd z (by decide), fun z => absurd z (by decide), fun z => absurd z (by decide), fun z => absurd z (by decide), fun z => absurd z (by decide), fun z => absurd z (by decide), fun z _ => absurd z (by decide), fun z _ => absurd z (by decide)⟩
    · obtain ⟨h, rfl⟩ : ∃ h', h = h' + 2 := ⟨h - 2, by omega⟩
      rw [ho] at hkin
      obtain ⟨c1, e1, e2, j0⟩ := kt_54 hkin (by decide)
      refine ⟨c1, (q + 1, 0, W), e1, kC_live e2 hl1 (by rw [hT]; omega) h26 (by omega) (by first | exact Nat.zero_le _ | (show p + 1 ≤ _; omega)) hall1 hq, e2.2.2.1, e2.2.2.2.1, fun _ => ?_, fun z => absurd z (lnp_n (by rw [ho]; decide))⟩
      unfold kcV
      rw [hh, ho, ← h8]
      exact ⟨fun z => absurd z (by decide), fun z => absurd z (by decide), fun z => absurd z (by decide), fun z => absurd z (by decide), fun z => absurd z (by decide), fun z => absurd z (by decide), fun z => absurd z (by decide), fun z => absurd z (by decide), fun z => absurd z (by decide), fun z => absurd z (by decide), fun z => absurd z (by decide), fun _ => ⟨j0, rfl⟩, fun z => absurd z (by decide), fun z => absurd z (by decide), fun z => absurd z (by decide), fun z => absurd z (by decide), fun z => absurd z (by decide), fun z => absurd z (by decide), fun z => absurd z (by decide), fun z => absurd z (by decide), fun z => absurd z (by decide), fun z => absurd z (by decide), fun z => absurd z (by decide), fun z => absurd z (by decide), fun z => absurd z (by decide), fun z _ => absurd z (by decide), fun z _ => absurd z (by decide)⟩
    · obtain ⟨h, rfl⟩ : ∃ h', h = h' + 2 := ⟨h - 2, by omega⟩
      rw [ho] at hkin
      obtain ⟨c1, e1, e2, j0⟩ := kt_54 hkin (by decide)
      refine ⟨c1, (q + 1, 0, W), e1, kC_live e2 hl1 (by rw [hT]; omega) h26 (by omega) (by first | exact Nat.zero_le _ | (show p + 1 ≤ _; omega)) hall1 hq, e2.2.2.1, e2.2.2.2.1, fun _ => ?_, fun z => absurd z (lnp_n (by rw [ho]; decide))⟩
      unfold kcV
      rw [hh, ho, ← h8]
      exact ⟨fun z => absurd z (by decide), fun z => absurd z (by decide), fun z => absurd z (by decide), fun z => absurd z (by decide), fun z => absurd z (by decide), fun z => absurd z (by decide), fun z => absurd z (by decide), fun z => absurd z (by decide), fun z => absurd z (by decide), fun z => absurd z (by decide), fun z => absurd z (by decide), fun _ => ⟨j0, rfl⟩, fun z => absurd z (by decide), fun z => absurd z (by decide), fun z => absurd z (by decide), fun z => absurd z (by decide), fun z => absurd z (by decide), fun z => absurd z (by decide), fun z => absurd z (by decide), fun z => absurd z (by decide), fun z => absurd z (by decide), fun z => absurd z (by decide), fun z => absurd z (by decide), fun z => absurd z (by decide), fun z => absurd z (by decide), fun z _ => absurd z (by decide), fun z _ => absurd z (by decide)⟩
    · obtain ⟨h, rfl⟩ : ∃ h', h = h' + 2 := ⟨h - 2, by omega⟩
      rw [ho] at hkin
      obtain ⟨c1, e1, e2, j0⟩ := kt_54 hkin (by decide)
      refine ⟨c1, (q + 1, 0, W), e1, kC_live e2 hl1 (by rw [hT]; omega) h26 (by omega) (by first | exact Nat.zero_le _ | (show p + 1 ≤ _; omega)) hall1 hq, e2.2.2.1, e2.2.2.2.1, fun _ => ?_, fun z => absurd z (lnp_n (by rw [ho]; decide))⟩
      unfold kcV
      rw [hh, ho, ← h8]
      exact ⟨fun z => absurd z (by decide), fun z => absurd z (by decide), fun z => absurd z (by decide), fun z => absurd z (by decide), fun z => absurd z (by decide), fun z => absurd z (by decide), fun z => absurd z (by decide), fun z => absurd z (by decide), fun z => absurd z (by decide), fun z => absurd z (by decide), fun z => absurd z (by decide), fun _ => ⟨j0, rfl⟩, fun z => absurd z (by decide), fun z => absurd z (by decide), fun z => absurd z (by decide), fun z => absurd z (by decide), fun z => absurd z (by decide), fun z => absurd z (by decide), fun z => absurd z (by decide), fun z => absurd z (by decide), fun z => absurd z (by decide), fun z => absurd z (by decide), fun z => absurd z (by decide), fun z => absurd z (by decide), fun z => absurd z (by decide), fun z _ => absurd z (by decide), fun z _ => absurd z (by decide)⟩
