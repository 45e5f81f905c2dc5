-- ===== running frames: the relation =====
def nm (V : vw_T) (f : Nat) : Nat := v_p V f + v_c V f
def cst (V : vw_T) (k : Nat) : Int64 := if v_o V k = 66 then ((v_b V k).toInt64 <<< ((32 : Int32).toInt64 &&& 63)) ||| ((v_a V k).toInt64 &&& 4294967295) else (v_a V k).toInt64 &&& 4294967295
def ev (c : rs_T) (V : vw_T) (b : Nat) (w : Int32) : Int64 := if 0 ≤ w then rL c 2 (b + w.toNatClampNeg) else cst V (w ^^^ (-1)).toNatClampNeg
def wok (V : vw_T) (n x : Nat) (w : Int32) : Prop := (∃ a : Nat, a < n ∧ w = nI a) ∨ w = nI (n + x) ∨ ∃ k : Nat, (k < 512 ∧ (v_o V k = 65 ∨ v_o V k = 66)) ∧ w = nI k ^^^ (-1)
theorem not_nI {k : Nat} (hk : k < 2 ^ 31) : (nI k ^^^ (-1)) ^^^ (-1) = nI k ∧ ¬ (0 : Int32) ≤ nI k ^^^ (-1) := by
  have e : (nI k ^^^ (-1)).toInt = - (k : Int) - 1 := by
    have h1 : (nI k ^^^ (-1 : Int32)).toBitVec = ~~~ (nI k).toBitVec := by
      rw [Int32.toBitVec_xor]
      have : (-1 : Int32).toBitVec = BitVec.allOnes 32 := by decide
      rw [this, BitVec.xor_allOnes]
    have h2 : (nI k ^^^ (-1 : Int32)).toInt = (~~~ (nI k).toBitVec).toInt := by rw [← h1]; rfl
    rw [h2, BitVec.toInt_not]
    have h3 : (nI k).toBitVec.toNat = k := by
      rw [nI_bv, BitVec.toNat_ofNat]; omega
    rw [h3, Int.bmod_def]
    omega
  refine ⟨?_, fun z => ?_⟩
  · rw [Int32.xor_assoc]
    have : (-1 : Int32) ^^^ (-1) = 0 := by decide
    rw [this, Int32.xor_zero]
  · have := Int32.le_iff_toInt_le.mp z
    have z0 : (0 : Int32).toInt = 0 := by decide
    omega
theorem z_le {a : Nat} (ha : a < 2 ^ 31) : (0 : Int32) ≤ nI a := (lit_le (k := 0) ha (by omega)).mpr (Nat.zero_le _)
theorem ev_n {c : rs_T} {V : vw_T} {b a : Nat} (ha : a < 2 ^ 31) : ev c V b (nI a) = rL c 2 (b + a) := by
  unfold ev
  rw [if_pos (z_le ha), nI_clamp ha]
theorem ev_k {c : rs_T} {V : vw_T} {b k : Nat} (hk : k < 512) : ev c V b (nI k ^^^ (-1)) = cst V k := by
  unfold ev
  obtain ⟨h1, h2⟩ := not_nI (k := k) (by omega)
  rw [if_neg h2, h1, nI_clamp (by omega)]
-- the code is the view's
def pv (c : rs_T) (V : vw_T) : Prop := (∀ i, rA c 7 i = v_o V i ∧ rA c 8 i = v_a V i ∧ rA c 9 i = v_b V i) ∧ (∀ i, rN c 0 ≤ i → rA c 7 i = 0) ∧ rN c 0 ≤ 1500
theorem rd_ev {c : rs_T} {V : vw_T} {b j n x : Nat} {w : Int32} (hp : pv c V) (hj : j < 30) (hb : rA c 19 j = nI b) (hw : wok V n x w) (hx : b + n + x < 220) : fx_Rr_read (nI j) w c = some (ev c V b w, c) := by
  unfold fx_Rr_read
  have loc : ∀ a : Nat, a ≤ n + x → w = nI a → (if (0 : Int32) ≤ w then (gd (nI j) 30 (bn (fx_Ac_value ((rA c 19 (nI j).toNatClampNeg) + w) c) (fun r4 st3 => some (r4, st3)))) else (bn (fx_Pr_constant (w ^^^ (-1)) c) (fun r6 st5 => some (r6, st5)))) = some (ev c V b w, c) := by
    intro a ha e
    subst e
    have hlt : ¬ (220 : Int32) ≤ nI (b + a) := fun z => by
      have : 220 ≤ b + a := (lit_le (k := 220) (show b + a < 2 ^ 31 by omega) (by omega)).mp z
      omega
    rw [if_pos (z_le (a := a) (by omega)), gd_k (by omega) (by omega), nI_clamp (by omega), hb, nI_add]
    unfold fx_Ac_value
    rw [if_neg (nI_pos (by omega)), if_neg hlt, gd_k (by omega) (by omega), nI_clamp (by omega), bn_s, ev_n (by omega)]
  rcases hw with ⟨a, ha, e⟩ | e | ⟨k, hk, e⟩
  · exact loc a (by omega) e
  · exact loc (n + x) (by omega) e
  · subst e
    obtain ⟨h1, h2⟩ := not_nI (k := k) (by omega)
    rw [if_neg h2, h1, ev_k hk.1]
    unfold fx_Pr_constant cst
    obtain ⟨p1, p2, p3⟩ := hp.1 k
    have hkl : k < rN c 0 := by
      rcases Nat.lt_or_ge k (rN c 0) with z | z
      · exact z
      · have z7 := hp.2.1 k z
        rw [p1] at z7
        rcases hk.2 with y | y <;> (rw [y] at z7; exact absurd z7 (by decide))
    have hk15 := hp.2.2
    rw [gd_k (by omega) (by omega), bd_s, gd_k (by omega) (by omega), nI_clamp (by omega), p1, p2, p3]
    by_cases e : v_o V k = 66
    · rw [if_pos e, if_pos e, gd_k (by omega) (by omega), bn_s]
    · rw [if_neg e, if_neg e, bn_s]
def fV (c m : rs_T) (V : vw_T) (n : Nat) (W : Nat → Int32) (b s h : Nat) : Prop := (∀ x, x < n → rL c 2 (b + x) = rL m 2 (s + x)) ∧ (∀ x, x < h → ev c V b (W x) = rL m 2 (s + n + x)) ∧ ∀ x, x < h → wok V n x (W x)
theorem fV_le {c m : rs_T} {V : vw_T} {n b s h h1 : Nat} {W : Nat → Int32} (hf : fV c m V n W b s h) (hh : h1 ≤ h) : fV c m V n W b s h1 := ⟨hf.1, fun x hx => hf.2.1 x (by omega), fun x hx => hf.2.2 x (by omega)⟩
theorem ev_eq {c c1 : rs_T} {V : vw_T} {n b x : Nat} {w : Int32} (hw : wok V n x w) (hb : b + n + x < 1000) (h : ∀ y, y < n ∨ y = n + x → rL c1 2 (b + y) = rL c 2 (b + y)) : ev c1 V b w = ev c V b w := by
  rcases hw with ⟨a, ha, e⟩ | e | ⟨k, hk, e⟩
  · subst e; rw [ev_n (by omega), ev_n (by omega)]; exact h a (Or.inl ha)
  · subst e; rw [ev_n (by omega), ev_n (by omega)]; exact h (n + x) (Or.inr rfl)
  · subst e; rw [ev_k hk.1, ev_k hk.1]
theorem fV_keep {c m c1 m1 : rs_T} {V : vw_T} {n b s h : Nat} {W : Nat → Int32} (hf : fV c m V n W b s h) (hb : b + n + h ≤ 1000) (hc : ∀ y, b ≤ y → y < b + n + h → rL c1 2 y = rL c 2 y) (hm : ∀ y, s ≤ y → y < s + n + h → rL m1 2 y = rL m 2 y) : fV c1 m1 V n W b s h := by
  refine ⟨fun x hx => ?_, fun x hx => ?_, hf.2.2⟩
  · rw [hc _ (by omega) (by omega), hm _ (by omega) (by omega)]; exact hf.1 x hx
  · rw [ev_eq (hf.2.2 x hx) (by omega) (fun y hy => hc _ (by omega) (by omega)), hm _ (by omega) (by omega)]; exact hf.2.1 x hx
theorem wok_sl (V : vw_T) (n x : Nat) : wok V n x (sl n x) := Or.inr (Or.inl rfl)
-- h1 operands stay, one is put into the next slot
theorem fV_push {c m c1 m1 : rs_T} {V : vw_T} {n b s h h1 : Nat} {W : Nat → Int32} {v : Int64} (hf : fV c m V n W b s h) (hh : h1 ≤ h) (hb : b + n + h ≤ 900) (hc : ∀ y, b ≤ y → y < b + n + h1 → rL c1 2 y = rL c 2 y) (hm : ∀ y, s ≤ y → y < s + n + h1 → rL m1 2 y = rL m 2 y) (hc1 : rL c1 2 (b + n + h1) = v) (hm1 : rL m1 2 (s + n + h1) = v) : fV c1 m1 V n (kw n W h1) b s (h1 + 1) := by
  have hk := fV_keep (fV_le hf hh) (by omega) hc hm
  refine ⟨hk.1, fun x hx => ?_, fun x hx => ?_⟩
  · by_cases e : x < h1
    · unfold kw; rw [if_pos e]; exact hk.2.1 x e
    · have : x = h1 := by omega
      subst this
      unfold kw
      rw [if_neg e, ev_n (by omega), hm1, ← hc1, Nat.add_assoc]
  · unfold kw
    by_cases e : x < h1
    · rw [if_pos e]; exact hk.2.2 x e
    · rw [if_neg e]; exact Or.inr (Or.inl rfl)
theorem kw_sl (n h : Nat) : kw n (sl n) h = sl n := by
  funext j
  unfold kw sl
  by_cases e : j < h
  · rw [if_pos e]
  · rw [if_neg e]
-- an operand that stays where it is
theorem fV_up {c m m1 : rs_T} {V : vw_T} {n b s h : Nat} {W : Nat → Int32} {u : Int32} (hf : fV c m V n W b s h) (hw : wok V n h u) (hm : ∀ y, s ≤ y → y < s + n + h → rL m1 2 y = rL m 2 y) (hm1 : rL m1 2 (s + n + h) = ev c V b u) : fV c m1 V n (upd W h u) b s (h + 1) := by
  refine ⟨fun x hx => ?_, fun x hx => ?_, fun x hx => ?_⟩
  · rw [hm _ (by omega) (by omega)]; exact hf.1 x hx
  · by_cases e : x = h
    · subst e; rw [pk_us]; exact hm1.symm
    · rw [pk_un e, hm _ (by omega) (by omega)]; exact hf.2.1 x (by omega)
  · by_cases e : x = h
    · subst e; rw [pk_us]; exact hw
    · rw [pk_un e]; exact hf.2.2 x (by omega)
-- a waiting or running frame: function, place, in registers?, base of the class, first of the reference
abbrev fr_T : Type := Nat × Nat × Bool × Nat × Nat
def fC (c m : rs_T) (V : vw_T) (T : Nat → ts_T) (S E M : Nat → Nat) (F : Nat) (w : Bool) (j f at_ : Nat) (r : Bool) (b s : Nat) : Prop := rA c 17 j = nI f ∧ rA m 18 j = nI f ∧ wh_F F w f ∧ rA c 19 j = nI b ∧ rA m 19 j = nI s ∧ rA c 21 j = b2 r ∧ s ≤ b ∧ b + nm V f + M f ≤ 220 ∧ S f ≤ at_ ∧ at_ < E f ∧ tl (T at_) ∧ (r = true → ¬ rA c 22 f = -1)
def wf (KK : Nat → Nat → kT) (n f at_ : Nat) (r : Bool) : Nat → Int32 := bif r then (KK f at_).2.2 else sl n
def rW (c m : rs_T) (V : vw_T) (T : Nat → ts_T) (S E M : Nat → Nat) (F : Nat) (w : Bool) (KK : Nat → Nat → kT) : List fr_T → Nat → Nat → Nat → Prop
  | [], _, b', s' => b' = 0 ∧ s' = 0
  | g :: G, f', b', s' => fC c m V T S E M F w G.length g.1 g.2.1 g.2.2.1 g.2.2.2.1 g.2.2.2.2 ∧ b' = g.2.2.2.1 + nm V g.1 + M g.1 ∧ (∃ o, s' = g.2.2.2.2 + nm V g.1 + o ∧ (T g.2.1).2.2.1 = o + v_r V f' ∧ fV c m V (nm V g.1) (wf KK (nm V g.1) g.1 g.2.1 g.2.2.1) g.2.2.2.1 g.2.2.2.2 o ∧ rA c 20 G.length = nI (g.2.2.2.1 + nm V g.1 + o) ∧ rA m 20 (G.length + 1) = nI g.2.1 ∧ (g.2.2.1 = false → rA c 18 G.length = nI g.2.1) ∧ (g.2.2.1 = true → rA c 18 G.length = nI (KK g.1 g.2.1).1 ∧ (KK g.1 g.2.1).2.1 = 0 ∧ ∀ x, o ≤ x → x < o + v_r V f' → (KK g.1 g.2.1).2.2 x = nI (nm V g.1 + x))) ∧ (T g.2.1).2.2.1 ≤ M g.1 ∧ rW c m V T S E M F w KK G g.1 g.2.2.2.1 g.2.2.2.2
def rT (c m : rs_T) (V : vw_T) (T : Nat → ts_T) (S E M : Nat → Nat) (F : Nat) (w : Bool) (KK : Nat → Nat → kT) (j f at_ : Nat) (r : Bool) (b s : Nat) : Prop := fC c m V T S E M F w j f at_ r b s ∧ fV c m V (nm V f) (wf KK (nm V f) f at_ r) b s (T at_).2.2.1 ∧ rI m 13 = nI (s + nm V f + (T at_).2.2.1) ∧ rI m 14 = nI (b + nm V f + M f) ∧ rI c 18 = nI (b + nm V f + M f) ∧ rI m 15 = nI at_ ∧ rI c 16 = 0 ∧ (T at_).2.2.1 ≤ M f ∧ (r = false → rA c 18 j = nI at_ ∧ rA c 20 j = nI (b + nm V f + (T at_).2.2.1) ∧ rI c 17 = 0) ∧ (r = true → rA c 18 j = nI (KK f at_).1 ∧ rI c 17 = nI (KK f at_).2.1)
-- waiting frames rest on what lies below
theorem rW_keep {c m c1 m1 : rs_T} {V : vw_T} {T : Nat → ts_T} {S E M : Nat → Nat} {F : Nat} {w : Bool} {KK KK1 : Nat → Nat → kT} (hk : ∀ f, ¬ rA c 22 f = -1 → KK1 f = KK f ∧ ¬ rA c1 22 f = -1) : ∀ {G : List fr_T} {f' b' s' : Nat}, (∀ j x, 17 ≤ j → j ≤ 21 → x < G.length → rA c1 j x = rA c j x) → (∀ j x, 18 ≤ j → j ≤ 19 → x < G.length → rA m1 j x = rA m j x) → (∀ x, x ≤ G.length → rA m1 20 x = rA m 20 x) → (∀ y, y < b' → rL c1 2 y = rL c 2 y) → (∀ y, y < s' → rL m1 2 y = rL m 2 y) → b' ≤ 220 → rW c m V T S E M F w KK G f' b' s' → rW c1 m1 V T S E M F w KK1 G f' b' s' := by
  intro G
  induction G with
  | nil => intro f' b' s' _ _ _ _ _ _ h; exact h
  | cons g G ih =>
    intro f' b' s' h1 h2 h3 h4 h5 hb h
    obtain ⟨⟨a1, a2, a3, a4, a5, a6, a7, a8, a9, a10, a11, a12⟩, hb', ⟨o, o1, o2, o3, o4, o5, o6, o7⟩, hM, hr⟩ := h
    have hl : G.length < (g :: G).length := by rw [List.length_cons]; omega
    refine ⟨⟨?_, ?_, a3, ?_, ?_, ?_, a7, a8, a9, a10, a11, fun z => (hk _ (a12 z)).2⟩, hb', ⟨o, o1, o2, ?_, ?_, ?_, fun z => ?_, fun z => ?_⟩, hM, ?_⟩
    · rw [h1 17 _ (by decide) (by decide) hl]; exact a1
    · rw [h2 18 _ (by decide) (by decide) hl]; exact a2
    · rw [h1 19 _ (by decide) (by decide) hl]; exact a4
    · rw [h2 19 _ (by decide) (by decide) hl]; exact a5
    · rw [h1 21 _ (by decide) (by decide) hl]; exact a6
    · have ew : wf KK1 (nm V g.1) g.1 g.2.1 g.2.2.1 = wf KK (nm V g.1) g.1 g.2.1 g.2.2.1 := by
        unfold wf
        cases hr2 : g.2.2.1 with
        | false => rfl
        | true => rw [(hk _ (a12 hr2)).1]
      rw [ew]
      exact fV_keep o3 (by omega) (fun y _ hy => h4 y (by omega)) (fun y _ hy => h5 y (by omega))
    · rw [h1 20 _ (by decide) (by decide) hl]; exact o4
    · rw [h3 _ (by rw [List.length_cons]; omega)]; exact o5
    · rw [h1 18 _ (by decide) (by decide) hl]; exact o6 z
    · rw [h1 18 _ (by decide) (by decide) hl, (hk _ (a12 z)).1]; exact o7 z
    · exact ih (fun j x b1 b2 b3 => h1 j x b1 b2 (by omega)) (fun j x b1 b2 b3 => h2 j x b1 b2 (by omega)) (fun x b1 => h3 x (by omega)) (fun y hy => h4 y (by omega)) (fun y hy => h5 y (by omega)) (by omega) hr
