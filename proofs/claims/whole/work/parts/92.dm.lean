-- the same code, other functions' numbers from f on
def v_par (V V2 : vw_T) (F : Nat) : Prop := v_o V2 = v_o V ∧ v_a V2 = v_a V ∧ v_b V2 = v_b V ∧ v_w V2 = v_w V ∧ ∀ g, g < F → v_p V2 g = v_p V g ∧ v_r V2 g = v_r V g ∧ v_c V2 g = v_c V g
theorem ht_par {V V2 : vw_T} {F : Nat} (h : v_par V V2 F) (L : List lb_T) : t_ht V2 L = t_ht V L := by
  unfold t_ht
  rw [h.2.2.2.1]
theorem lw_par {V V2 : vw_T} {F t : Nat} (h : v_par V V2 F) : ∀ {L : List lb_T} {k : Nat}, lw_L V t L k → lw_L V2 t L k := by
  intro L
  induction L with
  | nil => intro k _; trivial
  | cons q L ih =>
    intro k hl
    obtain ⟨e1, e2, e3, e4, -⟩ := h
    refine ⟨hl.1, by rw [e2, e3]; exact hl.2.1, by rw [e1]; exact hl.2.2.1, by rw [e4]; exact hl.2.2.2.1, by rw [e1]; exact hl.2.2.2.2.1, by rw [e4]; exact ih hl.2.2.2.2.2⟩
theorem has_par {V V2 : vw_T} {F n : Nat} (h : v_par V V2 F) (T : ts_T) : t_has V2 T n = t_has V T n := by
  unfold t_has
  rw [ht_par h]
theorem tk_par {V V2 : vw_T} {F n : Nat} (h : v_par V V2 F) (T : ts_T) : t_tk V2 T n = t_tk V T n := by
  unfold t_tk
  rw [ht_par h]
theorem tu_par {V V2 : vw_T} {F n k : Nat} (h : v_par V V2 F) (T : ts_T) : t_tu V2 T n k = t_tu V T n k := by
  unfold t_tu
  rw [has_par h, tk_par h]
theorem die_par {V V2 : vw_T} {F : Nat} (h : v_par V V2 F) (T : ts_T) : t_die V2 T = t_die V T := by
  unfold t_die
  rw [ht_par h]
theorem want_par {V V2 : vw_T} {F f k : Nat} (h : v_par V V2 F) (hf : f < F) (L : List lb_T) : t_want V2 f L k = t_want V f L k := by
  unfold t_want
  rw [h.1, h.2.1, h.2.2.1, (h.2.2.2.2 f hf).2.1]
theorem done_par {V V2 : vw_T} {F f : Nat} (h : v_par V V2 F) (hf : f < F) (T : ts_T) : t_done V2 f T = t_done V f T := by
  have hg : t_gives V2 f T.1 = t_gives V f T.1 := by
    unfold t_gives
    rw [h.2.2.1, (h.2.2.2.2 f hf).2.1]
  unfold t_done
  rw [ht_par h, hg]
theorem nx_par {V V2 : vw_T} {F f i : Nat} (h : v_par V V2 F) (hf : f < F) (hF : F ≤ 40) (T : ts_T) : t_nx V2 f i T = t_nx V f i T := by
  obtain ⟨e1, e2, e3, e4, e5⟩ := id h
  obtain ⟨p1, p2, p3⟩ := e5 f hf
  have hb : ∀ more, t_begin V2 i T more = t_begin V i T more := fun more => by
    unfold t_begin
    simp only [e2, e3, e4, has_par h, tk_par h]
  have hel : t_else V2 f T = t_else V f T := by
    unfold t_else
    simp only [e1, e2, e4, done_par h hf]
  have hen : t_end V2 f T = t_end V f T := by
    unfold t_end
    simp only [e1, e2, e3, e4, done_par h hf]
  have hent : t_entry V2 f i T = t_entry V f i T := by
    unfold t_entry
    simp only [e2, want_par h hf, has_par h, die_par h]
  have hpl : t_plain V2 f i T = t_plain V f i T := by
    have hlim : t_lim V2 f (v_o V i) (v_a V i) = t_lim V f (v_o V i) (v_a V i) := by
      unfold t_lim
      rw [p1, p3]
    unfold t_plain
    rw [e1, e2, hlim]
    simp only [tu_par h]
  unfold t_nx
  simp only [e1, e2, e3, hb, hel, hen, hent, hpl, die_par h, want_par h hf, has_par h, tk_par h, tu_par h, p2]
  cases hg : t_n (v_a V i) f with
  | none => rfl
  | some g =>
    have hgf := (t_n_some (by omega) hg).1
    simp only [(e5 g (by omega)).1, (e5 g (by omega)).2.1]
theorem ty_par {V V2 : vw_T} {T : Nat → ts_T} {F f s e ms : Nat} (h : v_par V V2 F) (hf : f < F) (hF : F ≤ 40) (hty : ty_F V T f s e ms) : ty_F V2 T f s e ms := by
  obtain ⟨h1, h2, h3⟩ := hty
  refine ⟨h1, fun i a1 a2 => by rw [nx_par h hf hF]; exact h2 i a1 a2, fun i a1 a2 => ?_⟩
  obtain ⟨g1, g2, g3, g4, g5, g6⟩ := h3 i a1 a2
  refine ⟨lw_par h g1, g2, ?_, g4, g5, fun x hx => by rw [has_par h]; exact g6 x hx⟩
  intro q hq
  obtain ⟨b1, b2, b3⟩ := g3 q hq
  exact ⟨b1, fun j c1 c2 o => b2 j c1 c2 (by rw [← h.1]; exact o), fun j c1 c2 o => b3 j c1 c2 (by rw [← h.1]; exact o)⟩
theorem pb_W_par {c m c2 m2 : rs_T} {T T2 : Nat → ts_T} {F f s e ms : Nat} (h : pb_W c m T f s e ms) (hv : v_par (vm m) (vm m2) F) (hf : f < F) (hF : F ≤ 40) (hT : ∀ i, i < e → T2 i = T i) (h5 : rA c2 5 f = rA c 5 f) (h10 : ∀ x, rA c2 10 x = rA c 10 x ∧ rA c2 11 x = rA c 11 x ∧ rA c2 12 x = rA c 12 x) (he : e ≤ 512) : pb_W c2 m2 T2 f s e ms := by
  -- first the view, then the ghosts
  have hA : pb_W c m2 T f s e ms := by
    obtain ⟨h0, h1, h2, h3, h4, h6⟩ := h
    refine ⟨h0, h1, ty_par hv hf hF h2, ?_, fun i a1 a2 => ?_, fun i a1 a2 o => ?_⟩
    · obtain ⟨z1, z2, z3, z4⟩ := h3
      exact ⟨by rw [hv.1]; exact z1, z2, z3, by rw [done_par hv hf]; exact z4⟩
    · obtain ⟨k1, k2, k3⟩ := h4 i a1 a2
      refine ⟨fun o k hk => k1 (by rw [← hv.1]; exact o) k (by rw [← hv.2.1]; exact hk), fun o => ?_, fun o => k3 (by rw [← hv.1]; exact o)⟩
      have := k2 (by rw [← hv.1]; exact o)
      unfold lk_e2 at this ⊢
      rw [hv.1]
      exact this
    · rw [hv.2.2.2.1]
      exact h6 i a1 a2 (by rw [← hv.1]; exact o)
  exact pb_W_keep hA ⟨fun i _ => ⟨rfl, rfl, rfl, rfl⟩, rfl, rfl, rfl⟩ hT h5 (fun x _ => h10 x) he
