-- ===== one step: branches to labels =====
def mp (N k : Nat) (m m1 : rs_T) : Prop := ∀ n, fx_Md_pass_b0 N (n + k) m = fx_Md_pass_b0 N n m1
def SC (N : Nat) (c m : rs_T) (T : Nat → ts_T) (S E M : Nat → Nat) (F t : Nat) (w : Bool) (o a b : Int32) (r : Bool) : Prop := ∃ m1 m2 c1 k kp KK ZZ QS QE, msb N o a b m = some m1 ∧ kp ≤ 2 ∧ mp N kp m1 m2 ∧ k ≤ 1000 ∧ (r = false → ∃ c2, fx_Sr_perform N c = some c2 ∧ (rI c2 17 = 0 ∨ ¬ rI c2 11 = 1) ∧ vl N k c2 c1) ∧ (r = true → vl N k (wI c 17 (rI c 17 + 1)) c1) ∧ IR c1 m2 T S E M F t w KK ZZ QS QE
theorem SR_SC {N : Nat} {c m : rs_T} {T : Nat → ts_T} {S E M : Nat → Nat} {F t : Nat} {w : Bool} {o a b : Int32} {r : Bool} (h : SR N c m T S E M F t w o a b r) : SC N c m T S E M F t w o a b r := by
  obtain ⟨m1, c1, k, KK, ZZ, QS, QE, h1, h2, h3, h4, h5⟩ := h
  exact ⟨m1, m1, c1, k, 0, KK, ZZ, QS, QE, h1, by omega, fun n => rfl, h2, h3, h4, h5⟩
theorem b9_w {m : rs_T} (h : ∀ x, 0 ≤ (rA m 9 x).toInt) (i : Nat) : rA m 9 i = nI (v_w (vm m) i) := by
  have e : v_w (vm m) i = (rA m 9 i).toNatClampNeg := rfl
  have e2 : (rA m 9 i).toNatClampNeg = (rA m 9 i).toInt.toNat := rfl
  apply Int32.toInt_inj.mp
  have h1 := h i
  have h2 : (rA m 9 i).toInt < 2 ^ 31 := Int32.toInt_lt _
  rw [e, e2, nI_toInt (by omega)]
  omega
-- where a branch to label k of a live place goes
theorem br_tgt {c m : rs_T} {T : Nat → ts_T} {f s E ms i k : Nat} {q : lb_T} (hW : pb_W c m T f s E ms) (hA : pb_A c m) (hE : E ≤ 512) (hi : s ≤ i) (hi2 : i < E) (hl : tl (T i)) (hq : (T i).1[k]? = some q) : ∃ at1 e, s ≤ at1 ∧ at1 < E ∧ tl (T at1) ∧ (T at1).2.2.1 = v_w (vm m) q.1 + t_want (vm m) f (T i).1 k ∧ v_w (vm m) q.1 ≤ t_ht (vm m) (T i).1 ∧ e < 512 ∧ at1 = e + 1 ∧ lnp (vm m) T e ∧ s ≤ e ∧ q.1 < 512 ∧ s ≤ q.1 ∧ q.1 < i ∧ ((v_o (vm m) q.1 = 3 ∧ e = q.1 ∧ v_a (vm m) q.1 = nI (t_want (vm m) f (T i).1 k)) ∨ (¬ v_o (vm m) q.1 = 3 ∧ rA c 10 q.1 = nI e ∧ v_b (vm m) q.1 = nI (t_want (vm m) f (T i).1 k) ∧ ∀ N, 600 ≤ N → fx_Md_endOf N (nI (q.1 + 1)) 0 m = some (nI e, m))) := by
  have hmem : q ∈ (T i).1 := List.mem_of_getElem? hq
  obtain ⟨m1, m2, ⟨x, y, hx, hy, m3, m4⟩, m5, m6⟩ := ty_mem hW.2.2.1 hi (by omega) hmem
  have hds := ds_all hW.2.2.1 i hi (by omega)
  have hlb : tl (T q.1) := ds_tl hds hl.1 hl.2.1 q hmem
  have hht := ht_le (hW.2.2.1.2.2 i hi (by omega)).1 q hmem
  have hw : t_want (vm m) f (T i).1 k = if v_o (vm m) q.1 = 3 then (v_a (vm m) q.1).toNatClampNeg else (v_b (vm m) q.1).toNatClampNeg := by
    unfold t_want; rw [hq]
  by_cases h3 : v_o (vm m) q.1 = 3
  · have hx3 := hW.2.2.1.2.1 q.1 m1 (by omega)
    have hb : t_begin (vm m) q.1 (T q.1) 0 = some (T (q.1 + 1)) := by
      rcases nx_cases hx3 with ⟨o, -, -⟩ | ⟨-, hc⟩
      · rw [h3] at o; exact absurd o (by decide)
      rcases hc with ⟨o, -⟩ | ⟨o, hb⟩ | ⟨o, -⟩ | ⟨o, -⟩ | ⟨o, -⟩ | ⟨o, -⟩ | ⟨o, -⟩ | ⟨o, -⟩ | ⟨o, -⟩ | ⟨o, -⟩ | ⟨o, -⟩ | ⟨o, -⟩
      · rw [h3] at o; exact absurd o (by decide)
      · exact hb
      · rw [h3] at o; exact absurd o (by decide)
      · rw [h3] at o; exact absurd o (by decide)
      · rw [h3] at o; exact absurd o (by decide)
      · rw [h3] at o; exact absurd o (by decide)
      · rw [h3] at o; exact absurd o (by decide)
      · rw [h3] at o; exact absurd o (by decide)
      · rw [h3] at o; exact absurd o (by decide)
      · rw [h3] at o; exact absurd o (by decide)
      · rw [h3] at o; exact absurd o (by decide)
      · rw [h3] at o; exact absurd o (by decide)
    obtain ⟨x', y', hx', -, ea, -, -, hv, hT⟩ := begin_some hb
    rw [m3] at ea
    have hxx : x' = x := ((nI_eq (by omega) (by omega)).mp ea).symm
    subst hxx
    have hl1 : tl (T (q.1 + 1)) := by
      rw [hT]
      refine ⟨fun r hr => ?_, hlb.2.1, rfl⟩
      rcases List.mem_cons.mp hr with z | z
      · rw [z]
      · exact hlb.1 r z
    have hwx : t_want (vm m) f (T i).1 k = x' := by rw [hw, if_pos h3, m3, nI_clamp (by omega)]
    refine ⟨q.1 + 1, q.1, by omega, by omega, hl1, ?_, hht, by omega, rfl, Or.inl ⟨h3, hlb⟩, m1, by omega, m1, m2, Or.inl ⟨h3, rfl, by rw [hwx]; exact m3⟩⟩
    rw [hT, hwx, hv]
  · obtain ⟨e, e1, e2, e3, e4, e5, -⟩ := cl_end (N := 600) hW hE (by omega) m1 (by omega) m5
    obtain ⟨r, L, hL, hr, -⟩ := bg_cons e4
    have hlt : e + 1 < E := by
      by_cases z : e = E - 1
      · have hfin := hW.2.2.2.1
        rw [← z] at hfin
        have := hfin.2.2.1
        rw [hL] at this
        cases this
      · omega
    obtain ⟨t1, t2⟩ := tl_end (hW.2.2.1.2.1 e (by omega) (by omega)) (ds_all hW.2.2.1 e (by omega) (by omega)) e3 hL hr
    have hl1 := t2.mpr hlb
    have hwx : t_want (vm m) f (T i).1 k = y := by rw [hw, if_neg h3, m4, nI_clamp (by omega)]
    refine ⟨e + 1, e, by omega, hlt, hl1, ?_, hht, by omega, rfl, Or.inr ⟨Or.inr e3, hl1⟩, by omega, by omega, m1, m2, Or.inr ⟨h3, e5, by rw [hwx]; exact m4, fun N hN => ?_⟩⟩
    · rw [t1, hwx, m4, nI_clamp (by omega)]
    · obtain ⟨e', -, -, -, -, e5', e6'⟩ := cl_end (N := N) hW hE hN m1 (by omega) m5
      rw [e5] at e5'
      rw [e6', ← e5']
-- the reference branches to a label
theorem m_br {N : Nat} {c m : rs_T} {T : Nat → ts_T} {f s E ms i k j fs n h0 : Nat} {q : lb_T} (hW : pb_W c m T f s E ms) (hA : pb_A c m) (hE : E ≤ 512) (hN : 1000 ≤ N) (h9 : ∀ x, 0 ≤ (rA m 9 x).toInt) (hi : s ≤ i) (hi2 : i < E) (hl : tl (T i)) (hq : (T i).1[k]? = some q) (hk : k ≤ 1000) (h12 : rI m 12 = nI (j + 1)) (hj : j < 30) (h18 : rA m 18 j = nI f) (hf : f < 40) (h0s : rA m 0 f = nI s) (h19 : rA m 19 j = nI fs) (h2 : rA m 2 f = nI (v_p (vm m) f)) (h4 : rA m 4 f = nI (v_c (vm m) f)) (hn : n = nm (vm m) f) (h13 : rI m 13 = nI (fs + n + h0)) (h15 : rI m 15 = nI i) (hw : v_w (vm m) q.1 + t_want (vm m) f (T i).1 k ≤ h0) (hV : fs + n + h0 ≤ 690) : ∃ m2 at1, fx_Md_branch N (nI k) m = some m2 ∧ rI m2 13 = nI (fs + n + (v_w (vm m) q.1 + t_want (vm m) f (T i).1 k)) ∧ rI m2 15 = nI at1 ∧ (∀ j, ¬ j = 13 → ¬ j = 15 → rI m2 j = rI m j) ∧ (∀ j x, rA m2 j x = rA m j x) ∧ (∀ j x, ¬ j = 2 → rL m2 j x = rL m j x) ∧ (∀ y, rL m2 2 y = cpy (rL m 2) (fs + n + (h0 - t_want (vm m) f (T i).1 k)) (fs + n + v_w (vm m) q.1) (t_want (vm m) f (T i).1 k) y) ∧ ∃ e, at1 = e + 1 ∧ s ≤ at1 ∧ at1 < E ∧ tl (T at1) ∧ (T at1).2.2.1 = v_w (vm m) q.1 + t_want (vm m) f (T i).1 k ∧ e < 512 ∧ lnp (vm m) T e ∧ s ≤ e ∧ q.1 < 512 ∧ ((v_o (vm m) q.1 = 3 ∧ e = q.1 ∧ v_a (vm m) q.1 = nI (t_want (vm m) f (T i).1 k)) ∨ (¬ v_o (vm m) q.1 = 3 ∧ rA c 10 q.1 = nI e ∧ v_b (vm m) q.1 = nI (t_want (vm m) f (T i).1 k))) := by
  obtain ⟨at1, e, t1, t2, t3, t4, t5, t6, t7, t8, t9, t10, t11, t12, t13⟩ := br_tgt hW hA hE hi hi2 hl hq
  have hbg := cl_beg (N := N) hW ⟨j, hj, h12, h18, hf, h0s⟩ hE (by omega) hi hi2 (show k ≤ 2000 by omega)
  have hbq : (bg_L (T i))[k]? = some q.1 := by unfold bg_L; rw [List.getElem?_map, hq]; rfl
  rw [hbq] at hbg
  have hbg : fx_Md_beginOf N (nI i) (nI k) m = some (nI q.1, m) := hbg
  have h9q := b9_w h9 q.1
  have hbase : fx_Md_base m = some (nI (fs + n), m) := by
    unfold fx_Md_base fx_Md_namesOf
    rw [h12, nI_pred, gd_k (by first | omega | (simp only [rN_wI, rN_wA, rN_wL]; omega)) (by first | omega | (simp only [rN_wI, rN_wA, rN_wL]; omega)), gd_k (by first | omega | (simp only [rN_wI, rN_wA, rN_wL]; omega)) (by first | omega | (simp only [rN_wI, rN_wA, rN_wL]; omega)), nI_clamp (by omega), h18, gd_k (by first | omega | (simp only [rN_wI, rN_wA, rN_wL]; omega)) (by first | omega | (simp only [rN_wI, rN_wA, rN_wL]; omega)), gd_k (by first | omega | (simp only [rN_wI, rN_wA, rN_wL]; omega)) (by first | omega | (simp only [rN_wI, rN_wA, rN_wL]; omega)), nI_clamp (by omega), h2, h4, nI_add, bn_s, h19, nI_add, hn]
    rfl
  obtain ⟨m2, k1, k2, k3, k4, k5, k6⟩ := m_keep (N := N) (k := t_want (vm m) f (T i).1 k) (to := fs + n + v_w (vm m) q.1) (V := fs + n + h0) (by omega) hV hN h13
  have k6' : ∀ y, rL m2 2 y = cpy (rL m 2) (fs + n + (h0 - t_want (vm m) f (T i).1 k)) (fs + n + v_w (vm m) q.1) (t_want (vm m) f (T i).1 k) y := fun y => by
    rw [k6 y, show fs + n + h0 - t_want (vm m) f (T i).1 k = fs + n + (h0 - t_want (vm m) f (T i).1 k) by omega]
  have h6q : rA m 6 q.1 = v_o (vm m) q.1 := rfl
  have h7q : rA m 7 q.1 = v_a (vm m) q.1 := rfl
  have h8q : rA m 8 q.1 = v_b (vm m) q.1 := rfl
  have hb45 : fx_Md_branch_b45 N (nI q.1) (nI (t_want (vm m) f (T i).1 k)) m = some (wI m2 15 (nI at1)) := by
    unfold fx_Md_branch_b45 fx_Md_branch_b86
    rw [hbase, bn_s, gd_k (by first | omega | (simp only [rN_wI, rN_wA, rN_wL]; omega)) (by first | omega | (simp only [rN_wI, rN_wA, rN_wL]; omega)), nI_clamp (by omega), h9q, nI_add, k1, bv_s, gd_k (by first | omega | (simp only [rN_wI, rN_wA, rN_wL]; omega)) (by first | omega | (simp only [rN_wI, rN_wA, rN_wL]; omega)), k4 6 q.1, h6q]
    rcases t13 with ⟨u1, u2, u3⟩ | ⟨u1, u2, u3, u4⟩
    · rw [if_pos u1, nI_1, t7, u2]
    · have hend : fx_Md_endOf N (nI (q.1 + 1)) 0 m2 = some (nI e, m2) := by
        obtain ⟨w1, w2, ⟨x, y, -, -, -, -⟩, w3, -⟩ := ty_mem hW.2.2.1 hi (by omega) (List.mem_of_getElem? hq)
        have hv2 : vm m2 = vm m := vm_congr (fun j x _ => k4 j x)
        have hW2 : pb_W c m2 T f s E ms := pb_W_keep hW (by rw [hv2]; exact ⟨fun _ _ => ⟨rfl, rfl, rfl, rfl⟩, rfl, rfl, rfl⟩) (fun _ _ => rfl) rfl (fun _ _ => ⟨rfl, rfl, rfl⟩) hE
        obtain ⟨e', -, -, -, -, e5', e6'⟩ := cl_end (N := N) hW2 hE (by omega) w1 (by omega) (by rw [hv2]; exact w3)
        rw [u2] at e5'
        rw [e6', ← e5']
      rw [if_neg u1, nI_1, hend, bn_s, nI_1, t7]
  refine ⟨wI m2 15 (nI at1), at1, ?_, by rw [rI_wn (by decide), k2, Nat.add_assoc], by rw [rI_ws], fun j a1 a2 => by rw [rI_wn a2]; exact k3 j a1, k4, k5, k6', e, t7, t1, t2, t3, t4, t6, t8, t9, t10, ?_⟩
  · unfold fx_Md_branch
    rw [h15, hbg, bn_s, if_pos (z_le (by omega)), gd_k (by first | omega | (simp only [rN_wI, rN_wA, rN_wL]; omega)) (by first | omega | (simp only [rN_wI, rN_wA, rN_wL]; omega)), gd_k (by first | omega | (simp only [rN_wI, rN_wA, rN_wL]; omega)) (by first | omega | (simp only [rN_wI, rN_wA, rN_wL]; omega)), gd_k (by first | omega | (simp only [rN_wI, rN_wA, rN_wL]; omega)) (by first | omega | (simp only [rN_wI, rN_wA, rN_wL]; omega)), nI_clamp (by omega), h6q, h7q, h8q]
    rcases t13 with ⟨u1, u2, u3⟩ | ⟨u1, u2, u3, u4⟩
    · rw [if_pos u1, u3]; exact hb45
    · rw [if_neg u1, u3]; exact hb45
  · rcases t13 with ⟨u1, u2, u3⟩ | ⟨u1, u2, u3, u4⟩
    · exact Or.inl ⟨u1, u2, u3⟩
    · exact Or.inr ⟨u1, u2, u3⟩
