-- ===== the compiler at one place: plain instructions =====
theorem bv_id (x : Option rs_T) : bv x (fun s => some s) = x := by cases x <;> rfl
def kf (c c1 : rs_T) (q i : Nat) : Prop := (∀ k, (k < 19 ∨ k = 20 ∨ k = 21 ∨ k = 22) → rI c1 k = rI c k) ∧ (∀ j x, j < 23 → rA c1 j x = rA c j x) ∧ (∀ j x, 23 ≤ j → j ≤ 28 → x < q → rA c1 j x = rA c j x) ∧ (∀ x, ¬ x = i → rA c1 30 x = rA c 30 x) ∧ (∀ j x, rL c1 j x = rL c j x) ∧ c1.2.2.2 = c.2.2.2
theorem ke_kf {c c1 : rs_T} {q : Nat} (i : Nat) (h : ke c c1 q) : kf c c1 q i := ⟨fun k hk => h.1 k (by omega), h.2.1, h.2.2.1, fun x _ => h.2.2.2.1 x, h.2.2.2.2⟩
theorem kf_tr {c c1 c2 : rs_T} {q q1 i : Nat} (h1 : kf c c1 q i) (h2 : kf c1 c2 q1 i) (h : q ≤ q1) : kf c c2 q i := by
  obtain ⟨a1, a2, a3, a4, a5, a6⟩ := h1
  obtain ⟨b1, b2, b3, b4, b5, b6⟩ := h2
  exact ⟨fun k hk => (b1 k hk).trans (a1 k hk), fun j x hj => (b2 j x hj).trans (a2 j x hj), fun j x h1 h2 hx => (b3 j x h1 h2 (by omega)).trans (a3 j x h1 h2 hx), fun x hx => (b4 x hx).trans (a4 x hx), fun j x => (b5 j x).trans (a5 j x), b6.trans a6⟩
theorem kf_n3 {c c1 : rs_T} {q i : Nat} (h : kf c c1 q i) : rN c1 0 = rN c 0 ∧ rN c1 2 = rN c 2 ∧ rN c1 3 = rN c 3 := ⟨congrFun h.2.2.2.2.2 0, congrFun h.2.2.2.2.2 2, congrFun h.2.2.2.2.2 3⟩
def kin (c : rs_T) (N n f s q p h : Nat) (W : Nat → Int32) (i : Nat) (o : Int32) : Prop := kst c n f q p h W ∧ zk c s q ∧ rI c 25 = 1 ∧ rA c 7 i = o ∧ i < 512 ∧ h ≤ 220 ∧ n ≤ 16 ∧ (q + pt n W h + 2 ≤ rN c 2 ∧ rN c 2 ≤ 3000 ∧ i < rN c 0 ∧ rN c 0 ≤ 1500 ∧ rN c 0 ≤ rN c 3 ∧ rN c 3 ≤ 1500) ∧ 1000 ≤ N
def kout (c c1 : rs_T) (n f s q i h1 : Nat) (K1 : kT) (B : Nat) (lv : Int32) : Prop := kst c1 n f K1.1 K1.2.1 h1 K1.2.2 ∧ zk c1 s K1.1 ∧ kf c c1 q i ∧ q ≤ K1.1 ∧ K1.1 + pt n K1.2.2 h1 ≤ B ∧ rI c1 25 = lv ∧ rI c1 26 = rI c 26
theorem pt_put (n : Nat) (W : Nat → Int32) (a k : Nat) : pt n (kw n W a) (a + k) = pt n W a := by
  unfold pt
  rw [cn_add, Nat.zero_add]
  have e2 : cn (ns n (kw n W a)) a 0 = cn (ns n W) a 0 := cn_congr a 0 (fun j _ h2 => by
    unfold ns kw
    rw [if_pos (by omega)])
  have e3 : cn (ns n (kw n W a)) k a = 0 := cn_zero _ _ (fun j h1 _ => by
    unfold ns kw
    rw [if_neg (by omega)]
    simp)
  rw [e2, e3, Nat.add_zero]
theorem tr_p {c : rs_T} {N i : Nat} {o : Int32} (hi : i < rN c 0 ∧ rN c 0 ≤ 1500) (h7 : rA c 7 i = o) (h25 : rI c 25 = 1) (ho : o < 2 ∨ 11 < o) (h : ¬ (o < 2 ∧ 11 < o)) : fx_Co_translate N (nI i) c = (if o < (69 : Int32) then (if o < (65 : Int32) then (if o < (40 : Int32) then (if o < (26 : Int32) then fx_Co_control N o (nI i) (wI c 24 ((rI c 24) + 1)) else fx_Co_useVariable N o (rA c 8 i) (wI c 24 ((rI c 24) + 1))) else fx_Co_useMemory N o (rA c 8 i) (wI c 24 ((rI c 24) + 1))) else fx_Co_push (nI i ^^^ (-1)) (wI c 24 ((rI c 24) + 1))) else fx_Co_operate N o (wI c 24 ((rI c 24) + 1))) := by
  have e : fx_Co_translate_b28 N (nI i) o c = (if o < (69 : Int32) then (if o < (65 : Int32) then (if o < (40 : Int32) then (if o < (26 : Int32) then fx_Co_control N o (nI i) (wI c 24 ((rI c 24) + 1)) else fx_Co_useVariable N o (rA c 8 i) (wI c 24 ((rI c 24) + 1))) else fx_Co_useMemory N o (rA c 8 i) (wI c 24 ((rI c 24) + 1))) else fx_Co_push (nI i ^^^ (-1)) (wI c 24 ((rI c 24) + 1))) else fx_Co_operate N o (wI c 24 ((rI c 24) + 1))) := by
    unfold fx_Co_translate_b28
    rw [h25, if_neg (by decide), gd_k (by omega) (by omega), gd_k (by omega) (by omega), nI_clamp (by omega), bv_id, bv_id, bv_id, bv_id, bv_id]
  rw [← e]
  unfold fx_Co_translate
  rw [gd_k (by omega) (by omega), bd_s, nI_clamp (by omega), h7]
  rcases ho with ho | ho
  · rw [if_pos ho]
  · rw [if_neg (fun z => h ⟨z, ho⟩), if_pos ho]
theorem k_put1 {c : rs_T} {n f q p h s N : Nat} {W : Nat → Int32} (hk : kst c n f q p h W) (hh : h < 220) (hn : n ≤ 16) (hN : 1000 ≤ N) (hz : zk c s q) : ∃ c1, fx_Co_putSlots N 1 c = some c1 ∧ kst c1 n f q p (h + 1) (kw n W h) ∧ ke c c1 q ∧ zk c1 s q := by
  have := k_put (n := n) (f := f) (q := q) (p := p) (s := s) (e := 1) N (by omega) 1 N c h W 0 (by omega) (by omega) (by omega) hn hk hz
  exact this
theorem k_putk {c : rs_T} {n f q p h s N k : Nat} {W : Nat → Int32} (hk : kst c n f q p h W) (hh : h + k ≤ 220) (hn : n ≤ 16) (hN : 1000 ≤ N) (hz : zk c s q) : ∃ c1, fx_Co_putSlots N (nI k) c = some c1 ∧ kst c1 n f q p (h + k) (kw n W h) ∧ ke c c1 q ∧ zk c1 s q := by
  have := k_put (n := n) (f := f) (q := q) (p := p) (s := s) (e := k) N (by omega) k N c h W 0 (by omega) (by omega) (by omega) hn hk hz
  exact this
-- an instruction whose result goes to the next slot
theorem k_ep {c : rs_T} {n f q p h s N : Nat} {W : Nat → Int32} (hk : kst c n f q p h W) (hh : h < 220) (hn : n ≤ 16) (hN : 1000 ≤ N) (hq : q < rN c 2 ∧ rN c 2 ≤ 3000) (hz : zk c s q) (o x y z : Int32) (ho : ¬ (o = 12 ∨ o = 4)) : ∃ c1, bv (fx_Co_emit o ((rI c 22) + (rI c 23)) x y z c) (fun st => bv (fx_Co_putSlots N 1 st) (fun st2 => some st2)) = some c1 ∧ kst c1 n f (q + 1) 0 (h + 1) (kw n W h) ∧ ke c c1 q ∧ zk c1 s (q + 1) ∧ ci c1 q o (nI p) (nI (n + h)) x y z := by
  rw [hk.2.2.1, hk.2.2.2.1, nI_add]
  obtain ⟨c1, e1, e2, e3, e4, e5⟩ := k_emit hk hq hz o (nI (n + h)) x y z (fun z => absurd z ho)
  have n_e3 := ke_n3 e3
  obtain ⟨c2, f1, f2, f3, f4⟩ := k_put1 e2 hh hn hN e4
  have n_f3 := ke_n3 f3
  refine ⟨c2, ?_, f2, ke_tr e3 f3 (by omega), f4, ci_ke e5 f3 (by omega)⟩
  rw [e1, bv_s, f1, bv_s]
theorem kt_1 {c : rs_T} {N n f s q p h i : Nat} {W : Nat → Int32} (hi : kin c N n f s q p h W i 1) : ∃ c1, fx_Co_translate N (nI i) c = some c1 ∧ kout c c1 n f s q i h (q, p + 1, W) (q + pt n W h + 2) 1 := by
  obtain ⟨hk, hz, h25, h7, hi, hh, hn, hq, hN⟩ := hi
  obtain ⟨k1, k2, k3⟩ := k_pend hk hz
  have n_k2 := ke_n3 k2
  rw [tr_p ⟨hq.2.2.1, hq.2.2.2.1⟩ h7 h25 (by decide) (by decide), if_pos (by decide), if_pos (by decide), if_pos (by decide), if_pos (by decide)]
  refine ⟨_, rfl, k1, k3, ke_kf i k2, Nat.le_refl _, ?_, ?_, ?_⟩
  · show q + pt n W h ≤ _
    omega
  · rw [k2.1 25 (by omega)]; exact h25
  · exact k2.1 26 (by omega)
theorem kt_65 {c : rs_T} {N n f s q p h i : Nat} {W : Nat → Int32} {o : Int32} (hi : kin c N n f s q p h W i o) (ho : o = 65 ∨ o = 66) (hh1 : h + 1 ≤ 220) : ∃ c1, fx_Co_translate N (nI i) c = some c1 ∧ kout c c1 n f s q i (h + 1) (q, p + 1, upd W h (nI i ^^^ (-1))) (q + pt n W h + 2) 1 := by
  obtain ⟨hk, hz, h25, h7, hi, hh, hn, hq, hN⟩ := hi
  obtain ⟨k1, k2, k3⟩ := k_pend hk hz
  have n_k2 := ke_n3 k2
  have hb : o < 69 ∧ ¬ o < 65 ∧ 11 < o ∧ ¬ o < 2 := by rcases ho with rfl | rfl <;> decide
  rw [tr_p ⟨hq.2.2.1, hq.2.2.2.1⟩ h7 h25 (Or.inr hb.2.2.1) (fun z => hb.2.2.2 z.1), if_pos hb.1, if_neg hb.2.1]
  obtain ⟨c1, e1, e2, e3, e4⟩ := k_push k1 (by omega) k3 (nI i ^^^ (-1))
  have n_e3 := ke_n3 e3
  have hk2 := ke_tr k2 e3 (Nat.le_refl _)
  refine ⟨c1, e1, e2, e4, ke_kf i hk2, Nat.le_refl _, ?_, ?_, ?_⟩
  · show q + pt n (upd W h (nI i ^^^ (-1))) (h + 1) ≤ _
    have h1 := (pt_s1 n (upd W h (nI i ^^^ (-1))) h).2
    rw [pt_up] at h1
    omega
  · rw [hk2.1 25 (by omega)]; exact h25
  · exact hk2.1 26 (by omega)
theorem kt_32 {c : rs_T} {N n f s q p h i : Nat} {W : Nat → Int32} (hi : kin c N n f s q p h W i 32) (hh1 : h + 1 ≤ 220) : ∃ c1, fx_Co_translate N (nI i) c = some c1 ∧ kout c c1 n f s q i (h + 1) (q, p + 1, upd W h (rA c 8 i)) (q + pt n W h + 2) 1 := by
  obtain ⟨hk, hz, h25, h7, hi, hh, hn, hq, hN⟩ := hi
  obtain ⟨k1, k2, k3⟩ := k_pend hk hz
  have n_k2 := ke_n3 k2
  rw [tr_p ⟨hq.2.2.1, hq.2.2.2.1⟩ h7 h25 (by decide) (by decide), if_pos (by decide), if_pos (by decide), if_pos (by decide), if_neg (by decide)]
  obtain ⟨c1, e1, e2, e3, e4⟩ := k_push k1 (by omega) k3 (rA c 8 i)
  have n_e3 := ke_n3 e3
  have hk2 := ke_tr k2 e3 (Nat.le_refl _)
  refine ⟨c1, ?_, e2, e4, ke_kf i hk2, Nat.le_refl _, ?_, ?_, ?_⟩
  · unfold fx_Co_useVariable
    rw [if_neg (by decide), if_neg (by decide), if_pos (by decide), e1, bv_s]
  · show q + pt n (upd W h (rA c 8 i)) (h + 1) ≤ _
    have h1 := (pt_s1 n (upd W h (rA c 8 i)) h).2
    rw [pt_up] at h1
    omega
  · rw [hk2.1 25 (by omega)]; exact h25
  · exact hk2.1 26 (by omega)
theorem kt_26 {c : rs_T} {N n f s q p h i : Nat} {W : Nat → Int32} (hi : kin c N n f s q p (h + 1) W i 26) : ∃ c1, fx_Co_translate N (nI i) c = some c1 ∧ kout c c1 n f s q i h (q, p + 1, W) (q + pt n W (h + 1) + 2) 1 := by
  obtain ⟨hk, hz, h25, h7, hi, hh, hn, hq, hN⟩ := hi
  obtain ⟨k1, k2, k3⟩ := k_pend hk hz
  have n_k2 := ke_n3 k2
  rw [tr_p ⟨hq.2.2.1, hq.2.2.2.1⟩ h7 h25 (by decide) (by decide), if_pos (by decide), if_pos (by decide), if_pos (by decide), if_neg (by decide)]
  obtain ⟨c1, e1, e2, e3, e4⟩ := k_pop k1 (by omega) k3
  have n_e3 := ke_n3 e3
  have hk2 := ke_tr k2 e3 (Nat.le_refl _)
  refine ⟨c1, ?_, e2, e4, ke_kf i hk2, Nat.le_refl _, ?_, ?_, ?_⟩
  · unfold fx_Co_useVariable
    rw [if_pos (by decide), e1, bn_s]
  · show q + pt n W h ≤ _
    have h1 := (pt_s1 n W h).1
    omega
  · rw [hk2.1 25 (by omega)]; exact h25
  · exact hk2.1 26 (by omega)
theorem kt_27 {c : rs_T} {N n f s q p h i : Nat} {W : Nat → Int32} (hi : kin c N n f s q p (h + 3) W i 27) : ∃ c1, fx_Co_translate N (nI i) c = some c1 ∧ kout c c1 n f s q i (h + 1) (q + 1, 0, kw n W h) (q + pt n W (h + 3) + 2) 1 ∧ ci c1 q 27 (nI (p + 1)) (nI (n + h)) (W h) (W (h + 1)) (W (h + 2)) := by
  obtain ⟨hk, hz, h25, h7, hi, hh, hn, hq, hN⟩ := hi
  obtain ⟨k1, k2, k3⟩ := k_pend hk hz
  have n_k2 := ke_n3 k2
  rw [tr_p ⟨hq.2.2.1, hq.2.2.2.1⟩ h7 h25 (by decide) (by decide), if_pos (by decide), if_pos (by decide), if_pos (by decide), if_neg (by decide)]
  obtain ⟨c1, e1, e2, e3, e4⟩ := k_pop k1 (by omega) k3
  have n_e3 := ke_n3 e3
  obtain ⟨c2, f1, f2, f3, f4⟩ := k_pop e2 (by omega) e4
  have n_f3 := ke_n3 f3
  obtain ⟨c3, g1, g2, g3, g4⟩ := k_pop f2 (by omega) f4
  have n_g3 := ke_n3 g3
  obtain ⟨c4, j1, j2, j3, j4, j5⟩ := k_ep (N := N) g2 (by omega) hn hN (by omega) g4 27 (W h) (W (h + 1)) (W (h + 2)) (by decide)
  have n_j3 := ke_n3 j3
  have hk2 := ke_tr (ke_tr (ke_tr (ke_tr k2 e3 (Nat.le_refl _)) f3 (Nat.le_refl _)) g3 (Nat.le_refl _)) j3 (Nat.le_refl _)
  refine ⟨c4, ?_, ⟨j2, j4, ke_kf i hk2, Nat.le_succ _, ?_, ?_, ?_⟩, j5⟩
  · unfold fx_Co_useVariable fx_Co_select
    rw [if_neg (by decide), if_pos (by decide), e1, bn_s, f1, bn_s, g1, bn_s, bv_id]
    exact j1
  · show q + 1 + pt n (kw n W h) (h + 1) ≤ _
    rw [pt_put]
    have h1 := (pt_s1 n W h).1
    have h2 : pt n W (h + 1) ≤ pt n W (h + 2) := (pt_s1 n W (h + 1)).1
    have h3 : pt n W (h + 2) ≤ pt n W (h + 3) := (pt_s1 n W (h + 2)).1
    omega
  · rw [hk2.1 25 (by omega)]; exact h25
  · exact hk2.1 26 (by omega)
theorem kt_35 {c : rs_T} {N n f s q p h i : Nat} {W : Nat → Int32} (hi : kin c N n f s q p h W i 35) (hh1 : h + 1 ≤ 220) : ∃ c1, fx_Co_translate N (nI i) c = some c1 ∧ kout c c1 n f s q i (h + 1) (q + 1, 0, kw n W h) (q + pt n W h + 2) 1 ∧ ci c1 q 35 (nI (p + 1)) (nI (n + h)) 0 0 (rA c 8 i) := by
  obtain ⟨hk, hz, h25, h7, hi, hh, hn, hq, hN⟩ := hi
  obtain ⟨k1, k2, k3⟩ := k_pend hk hz
  have n_k2 := ke_n3 k2
  rw [tr_p ⟨hq.2.2.1, hq.2.2.2.1⟩ h7 h25 (by decide) (by decide), if_pos (by decide), if_pos (by decide), if_pos (by decide), if_neg (by decide)]
  obtain ⟨c4, j1, j2, j3, j4, j5⟩ := k_ep (N := N) k1 (by omega) hn hN (by omega) k3 35 0 0 (rA c 8 i) (by decide)
  have n_j3 := ke_n3 j3
  have hk2 := ke_tr k2 j3 (Nat.le_refl _)
  refine ⟨c4, ?_, ⟨j2, j4, ke_kf i hk2, Nat.le_succ _, ?_, ?_, ?_⟩, j5⟩
  · unfold fx_Co_useVariable
    rw [if_neg (by decide), if_neg (by decide), if_neg (by decide), if_neg (by decide), if_neg (by decide), if_pos (by decide)]
    exact j1
  · show q + 1 + pt n (kw n W h) (h + 1) ≤ _
    rw [pt_put]
    omega
  · rw [hk2.1 25 (by omega)]; exact h25
  · exact hk2.1 26 (by omega)
theorem kt_36 {c : rs_T} {N n f s q p h i : Nat} {W : Nat → Int32} (hi : kin c N n f s q p (h + 1) W i 36) : ∃ c1, fx_Co_translate N (nI i) c = some c1 ∧ kout c c1 n f s q i h (q + 1, 0, W) (q + pt n W (h + 1) + 2) 1 ∧ ci c1 q 36 (nI (p + 1)) 0 (W h) 0 (rA c 8 i) := by
  obtain ⟨hk, hz, h25, h7, hi, hh, hn, hq, hN⟩ := hi
  obtain ⟨k1, k2, k3⟩ := k_pend hk hz
  have n_k2 := ke_n3 k2
  rw [tr_p ⟨hq.2.2.1, hq.2.2.2.1⟩ h7 h25 (by decide) (by decide), if_pos (by decide), if_pos (by decide), if_pos (by decide), if_neg (by decide)]
  obtain ⟨c1, e1, e2, e3, e4⟩ := k_pop k1 (by omega) k3
  have n_e3 := ke_n3 e3
  obtain ⟨c4, j1, j2, j3, j4, j5⟩ := k_emit e2 (by omega) e4 36 0 (W h) 0 (rA c 8 i) (fun z => absurd z (by decide))
  have n_j3 := ke_n3 j3
  have hk2 := ke_tr (ke_tr k2 e3 (Nat.le_refl _)) j3 (Nat.le_refl _)
  refine ⟨c4, ?_, ⟨j2, j4, ke_kf i hk2, Nat.le_succ _, ?_, ?_, ?_⟩, j5⟩
  · unfold fx_Co_useVariable
    rw [if_neg (by decide), if_neg (by decide), if_neg (by decide), if_neg (by decide), if_neg (by decide), if_neg (by decide), if_pos (by decide), e1, bn_s, j1, bv_s]
  · show q + 1 + pt n W h ≤ _
    have h1 := (pt_s1 n W h).1
    omega
  · rw [hk2.1 25 (by omega)]; exact h25
  · exact hk2.1 26 (by omega)
theorem kt_63 {c : rs_T} {N n f s q p h i : Nat} {W : Nat → Int32} (hi : kin c N n f s q p h W i 63) (hh1 : h + 1 ≤ 220) : ∃ c1, fx_Co_translate N (nI i) c = some c1 ∧ kout c c1 n f s q i (h + 1) (q + 1, 0, kw n W h) (q + pt n W h + 2) 1 ∧ ci c1 q 63 (nI (p + 1)) (nI (n + h)) 0 0 (rA c 8 i) := by
  obtain ⟨hk, hz, h25, h7, hi, hh, hn, hq, hN⟩ := hi
  obtain ⟨k1, k2, k3⟩ := k_pend hk hz
  have n_k2 := ke_n3 k2
  rw [tr_p ⟨hq.2.2.1, hq.2.2.2.1⟩ h7 h25 (by decide) (by decide), if_pos (by decide), if_pos (by decide), if_neg (by decide)]
  obtain ⟨c4, j1, j2, j3, j4, j5⟩ := k_ep (N := N) k1 (by omega) hn hN (by omega) k3 63 0 0 (rA c 8 i) (by decide)
  have n_j3 := ke_n3 j3
  have hk2 := ke_tr k2 j3 (Nat.le_refl _)
  refine ⟨c4, ?_, ⟨j2, j4, ke_kf i hk2, Nat.le_succ _, ?_, ?_, ?_⟩, j5⟩
  · unfold fx_Co_useMemory fx_Co_useMemory_b34 fx_Co_useMemory_b48
    rw [if_neg (by decide), if_pos (by decide), if_pos (by decide)]
    exact j1
  · show q + 1 + pt n (kw n W h) (h + 1) ≤ _
    rw [pt_put]
    omega
  · rw [hk2.1 25 (by omega)]; exact h25
  · exact hk2.1 26 (by omega)
theorem kt_40 {c : rs_T} {N n f s q p h i : Nat} {W : Nat → Int32} {o : Int32} (hi : kin c N n f s q p (h + 1) W i o) (ho : o ∈ ([40, 41, 42, 43, 44, 45, 46, 47, 48, 49, 50, 51, 52, 53, 64] : List Int32)) : ∃ c1, fx_Co_translate N (nI i) c = some c1 ∧ kout c c1 n f s q i (h + 1) (q + 1, 0, kw n W h) (q + pt n W (h + 1) + 2) 1 ∧ ci c1 q o (nI (p + 1)) (nI (n + h)) (W h) 0 (rA c 8 i) := by
  obtain ⟨hk, hz, h25, h7, hi, hh, hn, hq, hN⟩ := hi
  obtain ⟨k1, k2, k3⟩ := k_pend hk hz
  have n_k2 := ke_n3 k2
  have hb : o < 69 ∧ o < 65 ∧ ¬ o < 40 ∧ 11 < o ∧ ¬ o < 2 ∧ (o < 54 ∨ 62 < o) ∧ ¬ (o < 54 ∧ 62 < o) ∧ ¬ o = 63 ∧ ¬ (o = 12 ∨ o = 4) := by
    simp only [List.mem_cons, List.not_mem_nil, or_false] at ho
    rcases ho with rfl | rfl | rfl | rfl | rfl | rfl | rfl | rfl | rfl | rfl | rfl | rfl | rfl | rfl | rfl <;> decide
  obtain ⟨b1, b2, b3, b4, b5, b6, b7, b8, b9⟩ := hb
  rw [tr_p ⟨hq.2.2.1, hq.2.2.2.1⟩ h7 h25 (Or.inr b4) (fun z => b5 z.1), if_pos b1, if_pos b2, if_neg b3]
  obtain ⟨c1, e1, e2, e3, e4⟩ := k_pop k1 (by omega) k3
  have n_e3 := ke_n3 e3
  obtain ⟨c4, j1, j2, j3, j4, j5⟩ := k_ep (N := N) e2 (by omega) hn hN (by omega) e4 o (W h) 0 (rA c 8 i) b9
  have n_j3 := ke_n3 j3
  have hk2 := ke_tr (ke_tr k2 e3 (Nat.le_refl _)) j3 (Nat.le_refl _)
  refine ⟨c4, ?_, ⟨j2, j4, ke_kf i hk2, Nat.le_succ _, ?_, ?_, ?_⟩, j5⟩
  · have e : fx_Co_useMemory N o (rA c 8 i) (wI c 24 (rI c 24 + 1)) = fx_Co_useMemory_b34 N o (rA c 8 i) (wI c 24 (rI c 24 + 1)) := by
      unfold fx_Co_useMemory
      rcases b6 with b6 | b6
      · rw [if_pos b6]
      · rw [if_neg (fun z => b7 ⟨z, b6⟩), if_pos b6]
    rw [e]
    unfold fx_Co_useMemory_b34 fx_Co_useMemory_b48
    rw [if_neg b8, e1, bn_s]
    exact j1
  · show q + 1 + pt n (kw n W h) (h + 1) ≤ _
    rw [pt_put]
    have h1 := (pt_s1 n W h).1
    omega
  · rw [hk2.1 25 (by omega)]; exact h25
  · exact hk2.1 26 (by omega)
theorem kt_54 {c : rs_T} {N n f s q p h i : Nat} {W : Nat → Int32} {o : Int32} (hi : kin c N n f s q p (h + 2) W i o) (ho : o ∈ ([54, 55, 56, 57, 58, 59, 60, 61, 62] : List Int32)) : ∃ c1, fx_Co_translate N (nI i) c = some c1 ∧ kout c c1 n f s q i h (q + 1, 0, W) (q + pt n W (h + 2) + 2) 1 ∧ ci c1 q o (nI (p + 1)) 0 (W h) (W (h + 1)) (rA c 8 i) := by
  obtain ⟨hk, hz, h25, h7, hi, hh, hn, hq, hN⟩ := hi
  obtain ⟨k1, k2, k3⟩ := k_pend hk hz
  have n_k2 := ke_n3 k2
  have hb : o < 69 ∧ o < 65 ∧ ¬ o < 40 ∧ 11 < o ∧ ¬ o < 2 ∧ ¬ o < 54 ∧ ¬ 62 < o ∧ ¬ (o = 12 ∨ o = 4) := by
    simp only [List.mem_cons, List.not_mem_nil, or_false] at ho
    rcases ho with rfl | rfl | rfl | rfl | rfl | rfl | rfl | rfl | rfl <;> decide
  obtain ⟨b1, b2, b3, b4, b5, b6, b7, b9⟩ := hb
  rw [tr_p ⟨hq.2.2.1, hq.2.2.2.1⟩ h7 h25 (Or.inr b4) (fun z => b5 z.1), if_pos b1, if_pos b2, if_neg b3]
  obtain ⟨c1, e1, e2, e3, e4⟩ := k_pop k1 (by omega) k3
  have n_e3 := ke_n3 e3
  obtain ⟨c2, f1, f2, f3, f4⟩ := k_pop e2 (by omega) e4
  have n_f3 := ke_n3 f3
  obtain ⟨c4, j1, j2, j3, j4, j5⟩ := k_emit f2 (by omega) f4 o 0 (W h) (W (h + 1)) (rA c 8 i) (fun z => absurd z b9)
  have n_j3 := ke_n3 j3
  have hk2 := ke_tr (ke_tr (ke_tr k2 e3 (Nat.le_refl _)) f3 (Nat.le_refl _)) j3 (Nat.le_refl _)
  refine ⟨c4, ?_, ⟨j2, j4, ke_kf i hk2, Nat.le_succ _, ?_, ?_, ?_⟩, j5⟩
  · unfold fx_Co_useMemory
    rw [if_neg b6, if_neg b7, e1, bn_s, f1, bn_s, j1, bv_s]
  · show q + 1 + pt n W h ≤ _
    have h1 := (pt_s1 n W h).1
    have h2 : pt n W (h + 1) ≤ pt n W (h + 2) := (pt_s1 n W (h + 1)).1
    omega
  · rw [hk2.1 25 (by omega)]; exact h25
  · exact hk2.1 26 (by omega)
theorem kt_69 {c : rs_T} {N n f s q p h i : Nat} {W : Nat → Int32} {o : Int32} (hi : kin c N n f s q p (h + 1) W i o) (ho : o ∈ ([69, 80, 167, 173] : List Int32)) : ∃ c1, fx_Co_translate N (nI i) c = some c1 ∧ kout c c1 n f s q i (h + 1) (q + 1, 0, kw n W h) (q + pt n W (h + 1) + 2) 1 ∧ ci c1 q o (nI (p + 1)) (nI (n + h)) (W h) 0 0 := by
  obtain ⟨hk, hz, h25, h7, hi, hh, hn, hq, hN⟩ := hi
  obtain ⟨k1, k2, k3⟩ := k_pend hk hz
  have n_k2 := ke_n3 k2
  have hb : ¬ o < 69 ∧ 11 < o ∧ ¬ o < 2 ∧ ¬ (o = 12 ∨ o = 4) := by
    simp only [List.mem_cons, List.not_mem_nil, or_false] at ho
    rcases ho with rfl | rfl | rfl | rfl <;> decide
  obtain ⟨b1, b4, b5, b9⟩ := hb
  rw [tr_p ⟨hq.2.2.1, hq.2.2.2.1⟩ h7 h25 (Or.inr b4) (fun z => b5 z.1), if_neg b1]
  obtain ⟨c1, e1, e2, e3, e4⟩ := k_pop k1 (by omega) k3
  have n_e3 := ke_n3 e3
  obtain ⟨c4, j1, j2, j3, j4, j5⟩ := k_ep (N := N) e2 (by omega) hn hN (by omega) e4 o (W h) 0 0 b9
  have n_j3 := ke_n3 j3
  have hk2 := ke_tr (ke_tr k2 e3 (Nat.le_refl _)) j3 (Nat.le_refl _)
  refine ⟨c4, ?_, ⟨j2, j4, ke_kf i hk2, Nat.le_succ _, ?_, ?_, ?_⟩, j5⟩
  · unfold fx_Co_operate fx_Op_operatorTakes fx_Co_operate_b16
    rw [if_pos ho, bn_s, if_neg (by decide), e1, bn_s]
    exact j1
  · show q + 1 + pt n (kw n W h) (h + 1) ≤ _
    rw [pt_put]
    have h1 := (pt_s1 n W h).1
    omega
  · rw [hk2.1 25 (by omega)]; exact h25
  · exact hk2.1 26 (by omega)
theorem kt_70 {c : rs_T} {N n f s q p h i : Nat} {W : Nat → Int32} {o : Int32} (hi : kin c N n f s q p (h + 2) W i o) (ho : o ∈ ([70, 71, 72, 73, 81, 83, 106, 107, 108, 110, 113, 116, 124, 125, 126] : List Int32)) : ∃ c1, fx_Co_translate N (nI i) c = some c1 ∧ kout c c1 n f s q i (h + 1) (q + 1, 0, kw n W h) (q + pt n W (h + 2) + 2) 1 ∧ ci c1 q o (nI (p + 1)) (nI (n + h)) (W h) (W (h + 1)) 0 := by
  obtain ⟨hk, hz, h25, h7, hi, hh, hn, hq, hN⟩ := hi
  obtain ⟨k1, k2, k3⟩ := k_pend hk hz
  have n_k2 := ke_n3 k2
  have hb : ¬ o < 69 ∧ 11 < o ∧ ¬ o < 2 ∧ ¬ (o = 12 ∨ o = 4) ∧ ¬ o ∈ ([69, 80, 167, 173] : List Int32) := by
    simp only [List.mem_cons, List.not_mem_nil, or_false] at ho
    rcases ho with rfl | rfl | rfl | rfl | rfl | rfl | rfl | rfl | rfl | rfl | rfl | rfl | rfl | rfl | rfl <;> decide
  obtain ⟨b1, b4, b5, b9, b10⟩ := hb
  rw [tr_p ⟨hq.2.2.1, hq.2.2.2.1⟩ h7 h25 (Or.inr b4) (fun z => b5 z.1), if_neg b1]
  obtain ⟨c1, e1, e2, e3, e4⟩ := k_pop k1 (by omega) k3
  have n_e3 := ke_n3 e3
  obtain ⟨c2, f1, f2, f3, f4⟩ := k_pop e2 (by omega) e4
  have n_f3 := ke_n3 f3
  obtain ⟨c4, j1, j2, j3, j4, j5⟩ := k_ep (N := N) f2 (by omega) hn hN (by omega) f4 o (W h) (W (h + 1)) 0 b9
  have n_j3 := ke_n3 j3
  have hk2 := ke_tr (ke_tr (ke_tr k2 e3 (Nat.le_refl _)) f3 (Nat.le_refl _)) j3 (Nat.le_refl _)
  refine ⟨c4, ?_, ⟨j2, j4, ke_kf i hk2, Nat.le_succ _, ?_, ?_, ?_⟩, j5⟩
  · unfold fx_Co_operate fx_Op_operatorTakes fx_Co_operate_b16
    rw [if_neg b10, if_pos ho, bn_s, if_pos rfl, e1, bn_s, f1, bn_s]
    exact j1
  · show q + 1 + pt n (kw n W h) (h + 1) ≤ _
    rw [pt_put]
    have h1 := (pt_s1 n W h).1
    have h2 : pt n W (h + 1) ≤ pt n W (h + 2) := (pt_s1 n W (h + 1)).1
    omega
  · rw [hk2.1 25 (by omega)]; exact h25
  · exact hk2.1 26 (by omega)
