-- ===== between two steps: both machines pass BLOCK, LOOP, ELSE, END =====
def muL (M : Nat → Nat) : List fr_T → Nat
  | [] => 0
  | g :: G => (M g.1 + 2) * (600 - g.2.1) + muL M G
theorem muL_le {c m : rs_T} {V : vw_T} {T : Nat → ts_T} {S E M : Nat → Nat} {F : Nat} {w : Bool} {KK : Nat → Nat → kT} : ∀ {G : List fr_T} {f' b' s' : Nat}, rW c m V T S E M F w KK G f' b' s' → muL M G ≤ 600 * (b' + 2 * G.length) := by
  intro G
  induction G with
  | nil => intro f' b' s' _; exact Nat.zero_le _
  | cons g G ih =>
    intro f' b' s' h
    obtain ⟨-, hb, -, -, hr⟩ := h
    have := ih hr
    unfold muL
    rw [List.length_cons]
    have h1 : (M g.1 + 2) * (600 - g.2.1) ≤ (M g.1 + 2) * 600 := Nat.mul_le_mul_left _ (by omega)
    omega
def muT (M : Nat → Nat) (G : List fr_T) (f at_ : Nat) : Nat := (M f + 2) * (600 - at_) + muL M G
def PC (N : Nat) (c m : rs_T) (T : Nat → ts_T) (S E M : Nat → Nat) (F t : Nat) (w : Bool) (KK : Nat → Nat → kT) (ZZ : Nat → Nat → Int32) (QS QE : Nat → Nat) (mu : Nat) : Prop := ∃ c1 m1 k kp, vl N k c c1 ∧ kp ≤ 2 ∧ mp N kp m m1 ∧ IB c1 m1 T S E M F t w KK ZZ QS QE ∧ k + 1 ≤ mu ∧ (¬ rI m1 9 = 1 ∨ ∃ G f at_ r b s, R0 c1 m1 (vm m1) T S E M F w KK G f at_ r b s ∧ k + 1 + muT M G f at_ ≤ mu)
theorem mu_up {M : Nat → Nat} {G : List fr_T} {f at_ at1 k : Nat} (h : at_ < at1) (h1 : at1 < 600) (hk : k + 1 ≤ M f + 2) : k + 1 + muT M G f at1 ≤ muT M G f at_ ∧ k + 1 ≤ muT M G f at_ := by
  unfold muT
  have e : 600 - at_ = (600 - at1) + (at1 - at_) := by omega
  rw [e, Nat.mul_add]
  have h2 : (M f + 2) * 1 ≤ (M f + 2) * (at1 - at_) := Nat.mul_le_mul_left _ (by omega)
  omega
-- the running frame goes on at another place, nothing else changes
theorem PC_of {N kp : Nat} {c m : rs_T} {T : Nat → ts_T} {S E M : Nat → Nat} {F t : Nat} {w : Bool} {KK : Nat → Nat → kT} {ZZ : Nat → Nat → Int32} {QS QE : Nat → Nat} {G : List fr_T} {f at_ b s at1 : Nat} {r : Bool} (h : IB c m T S E M F t w KK ZZ QS QE) (hR : R0 c m (vm m) T S E M F w KK G f at_ r b s) (hs1 : rI m 9 = 1) (hkp : kp ≤ 2) (hmp : mp N kp m (wI m 15 (nI at1))) (hlt : at_ < at1) (ha2 : at1 < E f) (hl : tl (T at1)) (hT : (T at1).2.2.1 = (T at_).2.2.1)
    (hS : r = false → fx_Sr_performFree N c = some (1, wA c 18 G.length (nI at1)))
    (hG : r = true → ∃ c1 k, k ≤ (T at_).2.2.1 + 1 ∧ vl N k c c1 ∧ cY c c1 G.length b ∧ rA c1 18 G.length = nI (KK f at1).1 ∧ rI c1 17 = nI (KK f at1).2.1 ∧ fV c1 m (vm m) (nm (vm m) f) (KK f at1).2.2 b s (T at_).2.2.1) : PC N c m T S E M F t w KK ZZ QS QE (muT M G f at_) := by
  obtain ⟨x1, x2, x3, x4, x5, x6, x7, x8, x9, x10, x11, x12, x13, x14, x15, x16, x17, -⟩ := cx h hR
  have hSf := Sf_1 hR
  have hg := h.2.2.2
  have hst : rI c 11 = 1 := by rw [hg.1]; exact hs1
  have e9 : ∀ k, ¬ k = 15 → rI (wI m 15 (nI at1)) k = rI m k := fun k hk => rI_wn hk
  have hmX : mX m (wI m 15 (nI at1)) s := ⟨fun k _ _ _ _ a => e9 k a, fun _ _ _ => rfl, fun _ => ⟨rfl, rfl⟩, fun _ _ => rfl⟩
  obtain ⟨hE, -⟩ : E f ≤ 512 ∧ True := ⟨(pb_Wf h.1 (show wh_F F w f from hR.2.1.1.2.2.1)).2.2.1, trivial⟩
  cases r with
  | false =>
    obtain ⟨-, ⟨⟨-, -, -, -, -, a6, -⟩, -, -, -, -, -, b7, -, b9, -⟩, -⟩ := id hR
    obtain ⟨c18', c20, c17⟩ := b9 rfl
    have hcX : cX c (wA c 18 G.length (nI at1)) G.length b := ⟨fun _ _ _ _ _ => rfl, fun i x _ a1 _ => by rw [rA_wA, if_neg a1], fun _ => ⟨rfl, rfl⟩, fun _ _ => rfl⟩
    have hw := wb_X (s := s) h.2.1 hcX hmX rfl (fun x => by rw [rA_wn (by decide)]) (fun _ => rfl) (e9 7 (by decide)) (fun _ => rfl) (fun _ => rfl)
    obtain ⟨k1, k2⟩ := R_top (at1 := at1) h hR hcX hmX hw hs1 hst (by rw [e9 9 (by decide)]; exact hs1) (by rw [e9 10 (by decide)]; exact hg.2.1) (by omega) ha2 hl (by rw [hT]; exact x15) (by rw [hT, e9 13 (by decide)]; exact x13) (by rw [rI_ws]) (fun _ => ⟨by rw [rA_wss], by rw [hT, rA_wn (by decide)]; exact c20, c17⟩) (fun z => (by cases z)) rfl
    obtain ⟨u1, u2⟩ := mu_up (M := M) (G := G) (f := f) (k := 1) hlt (show at1 < 600 by omega) (by omega)
    exact ⟨_, _, 1, kp, vl_1 ⟨hst, Or.inl ⟨b7, c17, sp_reg x6 x5 a6, hS rfl, c17⟩⟩, hkp, hmp, k1, u2, Or.inr ⟨G, f, at1, false, b, s, k2, u1⟩⟩
  | true =>
    obtain ⟨c1, k, q0, q1, q2, q3, q4, q5⟩ := hG rfl
    have hcX := cY_X q2
    have hw := cY_wb (s := s) h.2.1 q2 hmX (e9 7 (by decide)) (fun _ => rfl) (fun _ => rfl)
    obtain ⟨k1, k2⟩ := R_top (at1 := at1) h hR hcX hmX hw hs1 (by rw [q2.1 11 (by decide)]; exact hst) (by rw [e9 9 (by decide)]; exact hs1) (by rw [q2.1 12 (by decide), e9 10 (by decide)]; exact hg.2.1) (by omega) ha2 hl (by rw [hT]; exact q5) (by rw [hT, e9 13 (by decide)]; exact x13) (by rw [rI_ws]) (fun z => (by cases z)) (fun _ => ⟨q3, q4⟩) q2.2.2.2
    obtain ⟨u1, u2⟩ := mu_up (M := M) (G := G) (f := f) (k := k) hlt (show at1 < 600 by omega) (by omega)
    exact ⟨_, _, k, kp, q1, hkp, hmp, k1, u2, Or.inr ⟨G, f, at1, true, b, s, k2, u1⟩⟩
-- moves and, if steps are pending, NOTHING
theorem fill_pe {V : vw_T} {m c : rs_T} {N j b s n h sz q p q1 p1 : Nat} {W : Nat → Int32} {K1 : kT} (hb : b + n + h ≤ 220) (hp : pv c V) (ht : tR c j b sz q p) (hsz : K1.1 ≤ sz) (hm : mvf c n W 0 h q p q1 p1) (hK : (p1 = 0 ∧ K1 = (q1, 0, sl n)) ∨ (0 < p1 ∧ ci c q1 1 (nI p1) 0 0 0 0 ∧ K1 = (q1 + 1, 0, sl n))) (hf : fV c m V n W b s h) : ∃ c1 k, k ≤ h + 1 ∧ vl N k c c1 ∧ cY c c1 j b ∧ rA c1 18 j = nI K1.1 ∧ rI c1 17 = nI K1.2.1 ∧ fV c1 m V n K1.2.2 b s h := by
  have hq1 : q1 ≤ sz := by
    rcases hK with ⟨-, e⟩ | ⟨-, -, e⟩
    · rw [e] at hsz; exact hsz
    · rw [e] at hsz
      have : q1 + 1 ≤ sz := hsz
      omega
  have hle : q1 - q ≤ h := by
    have h1 := (mv_q hm).1
    have h2 := cn_le (ns n W) (h - 0) 0
    omega
  obtain ⟨c2, W2, e1, e2, e3, e4, e5, e6, e7⟩ := fill_run (N := N) (V := V) (m := m) (s := s) (h := h) hb hp ht (Nat.le_refl _) hq1 hm hf
  have e5' : fV c2 m V n (sl n) b s h := fV_congr e5 (fun x hx => (e6 x (Nat.zero_le _) hx).symm)
  obtain ⟨t1, t2, t3, t4, t5, t6, t7, t8, t9, t10⟩ := id e3
  rcases hK with ⟨z, e⟩ | ⟨z, hc, e⟩
  · refine ⟨c2, q1 - q, by omega, e1, e4, by rw [e]; exact t6, by rw [e, t10, z], by rw [e]; exact e5'⟩
  · obtain ⟨i1, i2, i3, i4, i5, i6⟩ := cY_ci e4 hc
    have hlt : q1 < sz := by
      rw [e] at hsz
      have : q1 + 1 ≤ sz := hsz
      omega
    refine ⟨wA (wI c2 17 0) 18 j (nI (q1 + 1)), q1 - q + 1, by omega, vl_tr e1 (vl_1 (tR_vq e3 hlt i2 ?_ ?_)), cY_tr e4 ⟨fun k hk => by rw [rI_wA, rI_wn hk], fun i x hx => by rw [rA_wA, if_neg hx, rA_wI], fun _ _ _ => rfl, rfl⟩, by rw [e, rA_wss], by rw [e, rI_wA, rI_ws]; rfl, by rw [e]; exact fV_keep e5' (by omega) (fun _ _ _ => rfl) (fun _ _ _ => rfl)⟩
    · rw [rp_eq (j := j) (by rw [rI_wn (by decide)]; exact t3) t4 (by first | omega | (simp only [rN_wI, rN_wA, rN_wL]; omega))]
      rw [rA_wI, rA_wI, rA_wI, i1, if_neg (by decide), if_pos (by decide), if_pos (by decide), if_pos (by decide)]
      unfold fx_Rr_control
      rw [if_neg (by decide), if_neg (by decide), if_neg (by decide), if_neg (by decide), if_neg (by decide), if_neg (by decide), if_neg (by decide), if_neg (by decide)]
    · rw [rI_wA, rI_ws]
theorem live_done {V : vw_T} {T : Nat → ts_T} {f i t : Nat} (hl : tl (T i)) (hlw : lw_L V t (T i).1 (T i).2.2.1) (hd : t_done V f (T i) = true) : (T i).2.2.1 = t_ht V (T i).1 + t_gives V f (T i).1 := by
  unfold t_done at hd
  rw [tl_dd hl] at hd
  have hd : decide ((T i).2.2.1 - t_ht V (T i).1 = t_gives V f (T i).1) = true := hd
  have h1 := of_decide_eq_true hd
  have := lw_ht hlw
  omega
