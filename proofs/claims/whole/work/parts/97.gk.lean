theorem kcx_to {c : rs_T} {n i : Nat} {fe : Bool} {o a b : Int32} {h r pa ra pa2 ra2 : Nat} {lb lb2 : Option kl_T} {tb tb2 : Nat → Option kl_T} {Z : Nat → Int32} {q p : Nat} {W : Nat → Int32} {K1 : kT} (hk : kcx c n i fe o a b h r pa ra lb tb Z q p W K1) (h16 : o = 16 → pa2 = pa) (h12 : o = 12 ∨ o = 13 → lb2 = lb) (h14 : o = 14 → ∀ j, j ≤ a.toNatClampNeg → tb2 j = tb j) : kcx c n i fe o a b h r pa2 ra2 lb2 tb2 Z q p W K1 := by
  obtain ⟨f1, f65, f26, f32, f33, f34, f27, f35, f36, f40, f63, f54, f69, f70, f0, f12, f13, f14, f15, f16, f17, f2, f3, f4, f5, f11, ff⟩ := hk
  refine ⟨f1, f65, f26, f32, f33, f34, f27, f35, f36, f40, f63, f54, f69, f70, f0, fun z => ?_, fun z => ?_, fun z => ?_, f15, fun z => ?_, f17, f2, f3, f4, f5, f11, ff⟩
  · rw [h12 (Or.inl z)]; exact f12 z
  · rw [h12 (Or.inr z)]; exact f13 z
  · rw [h14 z 0 (Nat.zero_le _)]
    obtain ⟨q1, p1, m1, m2, m3, m4⟩ := f14 z
    exact ⟨q1, p1, m1, m2, fun j hj => by rw [h14 z j hj]; exact m3 j hj, m4⟩
  · rw [h16 z]; exact f16 z
def vK (V V2 : vw_T) (T T2 : Nat → ts_T) (F E : Nat) : Prop := (∀ g, g ≤ F → v_p V2 g = v_p V g ∧ v_r V2 g = v_r V g ∧ v_c V2 g = v_c V g) ∧ ∀ i, i < E → T2 i = T i ∧ v_o V2 i = v_o V i ∧ v_a V2 i = v_a V i ∧ v_b V2 i = v_b V i ∧ v_w V2 i = v_w V i
theorem lr_vK {V V2 : vw_T} {T T2 : Nat → ts_T} {F E f k : Nat} {L : List lb_T} (h : vK V V2 T T2 F E) (hf : f ≤ F) (hL : ∀ q ∈ L, q.1 < E) : lr V2 f L k = lr V f L k := by
  unfold lr t_want
  cases hq : L[k]? with
  | none => rfl
  | some q =>
    obtain ⟨-, e1, e2, e3, e4⟩ := h.2 q.1 (hL q (List.mem_of_getElem? hq))
    simp only [e1, e2, e3, e4]
theorem kcV_vK {c : rs_T} {V V2 : vw_T} {T T2 : Nat → ts_T} {f n s E ms i : Nat} {Z : Nat → Int32} {K0 K1 : kT} (h : vK V V2 T T2 f E) (hty : ty_F V T f s (E - 1) ms) (hfin : t_fin V f (E - 1) (T (E - 1))) (hi : s ≤ i) (hi2 : i < E) (hl : tl (T i)) (hf : f < 40) (hk : kcV c V T f n (E - 1) Z i K0 K1) : kcV c V2 T2 f n (E - 1) Z i K0 K1 := by
  obtain ⟨e1, e2, e3, e4, e5⟩ := h.2 i hi2
  have hL : ∀ q ∈ (T i).1, q.1 < E := fun q hq => by
    have := (ty_mem hty hi (by omega) hq).2.1
    omega
  unfold kcV at hk ⊢
  rw [e1, e2, e3, e4, (h.1 f (Nat.le_refl _)).2.1]
  have hlt : ∀ o : Int32, ¬ o = 11 → v_o V i = o → i < E - 1 := fun o ho z => by
    by_cases y : i = E - 1
    · have := hfin.1
      rw [← y, z] at this
      exact absurd this ho
    · omega
  refine kcx_to hk (fun z => ?_) (fun z => lr_vK h (Nat.le_refl _) hL) (fun z j hj => ?_)
  · have hx := hty.2.1 i hi (hlt 16 (by decide) z)
    rcases nx_cases hx with ⟨o, -, -⟩ | ⟨-, hc⟩
    · rw [z] at o; exact absurd o (by decide)
    rcases hc with ⟨o, -⟩ | ⟨o, -⟩ | ⟨o, -⟩ | ⟨o, -⟩ | ⟨o, -⟩ | ⟨o, -⟩ | ⟨o, -⟩ | ⟨o, -⟩ | ⟨o, -⟩ | ⟨o, g, hg, -⟩ | ⟨o, -⟩ | ⟨o, -⟩
    · rw [z] at o; exact absurd o (by decide)
    · rw [z] at o; exact absurd o (by decide)
    · rw [z] at o; exact absurd o (by decide)
    · rw [z] at o; exact absurd o (by decide)
    · rw [z] at o; exact absurd o (by decide)
    · rw [z] at o; exact absurd o (by decide)
    · rw [z] at o; exact absurd o (by decide)
    · rw [z] at o; exact absurd o (by decide)
    · rw [z] at o; exact absurd o (by decide)
    · obtain ⟨g1, g2⟩ := t_n_some (by omega) hg
      rw [g2, nI_clamp (by omega)]
      exact (h.1 g (by omega)).1
    · rw [z] at o; exact absurd o (by decide)
    · rw [z] at o; exact absurd (show (16 : Int32) ∈ ([0, 2, 3, 4, 5, 6, 11, 12, 13, 14, 15, 16, 17] : List Int32) by decide) o
  · have hie := hlt 14 (by decide) z
    have hx := hty.2.1 i hi hie
    obtain ⟨a, ha⟩ := nx_14 hx z
    obtain ⟨a1, a2⟩ := t_n_some (by omega) ha
    rw [a2, nI_clamp (by omega)] at hj
    obtain ⟨-, g2⟩ := tab_ty hty hi ha z hl hie hfin.2.1
    have hj2 := (g2 j hj).1
    obtain ⟨-, -, y3, -, -⟩ := h.2 (i + 1 + j) (by omega)
    show lr V2 f (T i).1 (v_a V2 (i + 1 + j)).toNatClampNeg = lr V f (T i).1 (v_a V (i + 1 + j)).toNatClampNeg
    rw [y3]
    exact lr_vK h (Nat.le_refl _) hL
theorem kok_vK {c : rs_T} {V V2 : vw_T} {T T2 : Nat → ts_T} {f n s E qs Q ms : Nat} {K : Nat → kT} {Z : Nat → Int32} (h : vK V V2 T T2 f E) (hty : ty_F V T f s (E - 1) ms) (hfin : t_fin V f (E - 1) (T (E - 1))) (hf : f < 40) (hk : kok c V T f n s E qs Q K Z) : kok c V2 T2 f n s E qs Q K Z := by
  obtain ⟨a1, a2, a3, a4⟩ := hk
  refine ⟨a1, a2, fun j b1 b2 b3 => ?_, fun j b1 b2 b3 => a4 j b1 b2 ?_⟩
  · rw [(h.2 j b2).1] at b3
    obtain ⟨g1, g2, g3, g4⟩ := a3 j b1 b2 b3
    exact ⟨kcV_vK h hty hfin b1 b2 b3 hf g1, g2, g3, g4⟩
  · obtain ⟨e1, e2, -⟩ := h.2 j (by omega)
    obtain ⟨e3, -⟩ := h.2 (j + 1) (by omega)
    unfold lnp at b3 ⊢
    rw [e1, e2, e3] at b3
    exact b3
theorem cst_vK {V V2 : vw_T} {T T2 : Nat → ts_T} {F E k : Nat} (h : vK V V2 T T2 F E) (hk : k < E) : cst V2 k = cst V k := by
  obtain ⟨-, e1, e2, e3, -⟩ := h.2 k hk
  unfold cst
  rw [e1, e2, e3]
theorem fV_vK {c m : rs_T} {V V2 : vw_T} {T T2 : Nat → ts_T} {F E n b s h : Nat} {W : Nat → Int32} (hv : vK V V2 T T2 F E) (hg : gw E W h) (hb : b + n + h ≤ 1000) (hf : fV c m V n W b s h) : fV c m V2 n W b s h := by
  refine ⟨hf.1, fun x hx => ?_, fun x hx => ?_⟩
  · rw [← hf.2.1 x hx]
    rcases hf.2.2 x hx with ⟨a, ha, e⟩ | e | ⟨k, hk, e⟩
    · rw [e, ev_n (by omega), ev_n (by omega)]
    · rw [e, ev_n (by omega), ev_n (by omega)]
    · have := hg x hx k hk.1 e
      rw [e, ev_k hk.1, ev_k hk.1, cst_vK hv this]
  · rcases hf.2.2 x hx with y | y | ⟨k, hk, e⟩
    · exact Or.inl y
    · exact Or.inr (Or.inl y)
    · have := hg x hx k hk.1 e
      exact Or.inr (Or.inr ⟨k, ⟨hk.1, by rw [(hv.2 k this).2.1]; exact hk.2⟩, e⟩)
theorem pK_vK {c m c2 m2 : rs_T} {T T2 : Nat → ts_T} {S S2 E E2 M M2 : Nat → Nat} {F F2 : Nat} {w w2 : Bool} (h : pK c m c2 m2 T T2 S S2 E E2 M M2 F F2 w w2) {f : Nat} (hf : wh_F F w f) : vK (vm m) (vm m2) T T2 f (E f) ∧ wh_F F2 w2 f ∧ S2 f = S f ∧ E2 f = E f ∧ M2 f = M f ∧ nm (vm m2) f = nm (vm m) f ∧ v_r (vm m2) f = v_r (vm m) f := by
  obtain ⟨h1, h2, h3⟩ := h
  obtain ⟨k1, k2, k3, k4, k5, k6⟩ := h3 f hf.1 hf.2
  obtain ⟨p1, p2, p3⟩ := h2 f hf.1 hf.2
  refine ⟨⟨fun g hg => h2 g (by have := hf.1; omega) (fun z => by have := hf.2 z; omega), fun i hi => ?_⟩, ⟨k1, k2⟩, k3, k4, k5, ?_, p2⟩
  · obtain ⟨x1, x2, x3, x4, x5, -⟩ := k6 i hi
    exact ⟨x1, x2, x3, x4, x5⟩
  · unfold nm
    rw [p1, p3]
theorem fC_pK {c m c2 m2 : rs_T} {T T2 : Nat → ts_T} {S S2 E E2 M M2 : Nat → Nat} {F F2 : Nat} {w w2 : Bool} {j f at_ b s : Nat} {r : Bool} (h : pK c m c2 m2 T T2 S S2 E E2 M M2 F F2 w w2) (hcA : ∀ j x, 14 < j → rA c2 j x = rA c j x) (hmA : ∀ j x, 18 ≤ j → j ≤ 20 → rA m2 j x = rA m j x) (hf : fC c m (vm m) T S E M F w j f at_ r b s) : fC c2 m2 (vm m2) T2 S2 E2 M2 F2 w2 j f at_ r b s := by
  obtain ⟨a1, a2, a3, a4, a5, a6, a7, a8, a9, a10, a11, a12⟩ := hf
  obtain ⟨k1, k2, k3, k4, k5, k6, k7⟩ := pK_vK h a3
  refine ⟨?_, ?_, k2, ?_, ?_, ?_, a7, ?_, ?_, ?_, ?_, fun z => ?_⟩
  · rw [hcA 17 _ (by decide)]; exact a1
  · rw [hmA 18 _ (by decide) (by decide)]; exact a2
  · rw [hcA 19 _ (by decide)]; exact a4
  · rw [hmA 19 _ (by decide) (by decide)]; exact a5
  · rw [hcA 21 _ (by decide)]; exact a6
  · rw [k6, k5]; exact a8
  · rw [k3]; exact a9
  · rw [k4]; exact a10
  · rw [(k1.2 at_ a10).1]; exact a11
  · rw [hcA 22 _ (by decide)]; exact a12 z
theorem wf_gw {KK : Nat → Nat → kT} {E n f at_ h : Nat} {r : Bool} (hb : n + h < 2 ^ 31) (hk : r = true → gw E (KK f at_).2.2 h) : gw E (wf KK n f at_ r) h := by
  cases r with
  | false => exact gw_sl hb
  | true => exact hk rfl
theorem rW_pK {c m c2 m2 : rs_T} {T T2 : Nat → ts_T} {S S2 E E2 M M2 : Nat → Nat} {F F2 : Nat} {w w2 : Bool} {KK : Nat → Nat → kT} (h : pK c m c2 m2 T T2 S S2 E E2 M M2 F F2 w w2) (hcA : ∀ j x, 14 < j → rA c2 j x = rA c j x) (hcL : ∀ j x, rL c2 j x = rL c j x) (hmA : ∀ j x, 18 ≤ j → j ≤ 20 → rA m2 j x = rA m j x) (hmL : ∀ j x, rL m2 j x = rL m j x) (hk : ∀ f at_, wh_F F w f → ¬ rA c 22 f = -1 → S f ≤ at_ → at_ < E f → tl (T at_) → gw (E f) (KK f at_).2.2 (T at_).2.2.1) : ∀ {G : List fr_T} {f' b' s' : Nat}, wh_F F w f' → rW c m (vm m) T S E M F w KK G f' b' s' → rW c2 m2 (vm m2) T2 S2 E2 M2 F2 w2 KK G f' b' s' := by
  intro G
  induction G with
  | nil => intro f' b' s' _ hr; exact hr
  | cons g G ih =>
    intro f' b' s' hf' hr
    obtain ⟨hfC, hb', ⟨o, o1, o2, o3, o4, o5, o6, o7⟩, hM, hr⟩ := hr
    obtain ⟨a1, a2, a3, a4, a5, a6, a7, a8, a9, a10, a11, a12⟩ := id hfC
    obtain ⟨k1, k2, k3, k4, k5, k6, k7⟩ := pK_vK h a3
    obtain ⟨-, -, -, -, -, -, l7⟩ := pK_vK h hf'
    have eT := (k1.2 _ a10).1
    refine ⟨fC_pK h hcA hmA hfC, by rw [k6, k5]; exact hb', ⟨o, by rw [k6]; exact o1, by rw [eT, l7]; exact o2, ?_, ?_, ?_, fun z => ?_, fun z => ?_⟩, by rw [eT, k5]; exact hM, ih a3 hr⟩
    · rw [k6]
      exact fV_keep (fV_vK k1 (wf_gw (by omega) (fun z => gw_le (hk g.1 g.2.1 a3 (a12 z) a9 a10 a11) (by omega))) (by omega) o3) (by omega) (fun y _ _ => hcL 2 y) (fun y _ _ => hmL 2 y)
    · rw [hcA 20 _ (by decide), k6]; exact o4
    · rw [hmA 20 _ (by decide) (by decide)]; exact o5
    · rw [hcA 18 _ (by decide)]; exact o6 z
    · rw [hcA 18 _ (by decide), k6, l7]; exact o7 z
