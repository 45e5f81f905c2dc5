-- ===== the reference looks for a label's beginning =====
def bg_L (T : ts_T) : List Nat := T.1.map (·.1)
theorem bg_in (L : List lb_T) (d : Bool) : (l_in L d).map (·.1) = L.map (·.1) := by cases L <;> rfl
theorem nx_beg {V : vw_T} {f t : Nat} {T T2 : ts_T} (h : t_nx V f t T = some T2) :
    (v_o V t ∈ ([2, 3, 4] : List Int32) ∧ bg_L T2 = t :: bg_L T) ∨ (v_o V t = 11 ∧ ∃ b, bg_L T = b :: bg_L T2) ∨ (¬ v_o V t ∈ ([2, 3, 4, 11] : List Int32) ∧ bg_L T2 = bg_L T) := by
  unfold bg_L
  rcases nx_lab h with ⟨o, e⟩ | ⟨o, q, L, e1, -, -, e⟩ | ⟨o, q, L, e1, e⟩ | ⟨o, e⟩
  · exact Or.inl ⟨o, by rw [e]; rfl⟩
  · exact Or.inr (Or.inr ⟨by rw [o]; decide, by rw [e, e1]; rfl⟩)
  · exact Or.inr (Or.inl ⟨o, q.1, by rw [e, e1]; rfl⟩)
  · refine Or.inr (Or.inr ⟨fun z => o ?_, ?_⟩)
    · simp only [List.mem_cons, List.not_mem_nil, or_false] at z ⊢
      rcases z with z | z | z | z <;> simp [z]
    · rcases e with e | e
      · rw [e]
      · rw [e, bg_in]
theorem mb_yes {m : rs_T} {o : Int32} (h : o ∈ ([2, 3, 4] : List Int32)) : fx_Md_begins o m = some (1, m) := by
  simp only [List.mem_cons, List.not_mem_nil, or_false] at h
  rcases h with rfl | rfl | rfl <;> rfl
theorem mb_no {m : rs_T} {o : Int32} (h : ¬ o ∈ ([2, 3, 4] : List Int32)) : fx_Md_begins o m = some (0, m) := by
  unfold fx_Md_begins
  by_cases e1 : o ≤ 1
  · rw [if_pos e1]
  · rw [if_neg e1]
    by_cases e2 : (5 : Int32) ≤ o
    · rw [if_pos e2]
    · refine absurd ?_ h
      have a1 : ¬ o.toInt ≤ (1 : Int32).toInt := fun z => e1 (Int32.le_iff_toInt_le.mpr z)
      have a2 : ¬ (5 : Int32).toInt ≤ o.toInt := fun z => e2 (Int32.le_iff_toInt_le.mpr z)
      have b1 : (1 : Int32).toInt = 1 := by decide
      have b2 : (5 : Int32).toInt = 5 := by decide
      have : o.toInt = 2 ∨ o.toInt = 3 ∨ o.toInt = 4 := by omega
      rcases this with e | e | e
      · have : o = 2 := Int32.toInt_inj.mp (by rw [e]; decide)
        rw [this]; decide
      · have : o = 3 := Int32.toInt_inj.mp (by rw [e]; decide)
        rw [this]; decide
      · have : o = 4 := Int32.toInt_inj.mp (by rw [e]; decide)
        rw [this]; decide
-- the reference stands in a frame of function f
def in_F (m : rs_T) (f s : Nat) : Prop := ∃ k : Nat, k < 30 ∧ rI m 12 = nI (k + 1) ∧ rA m 18 k = nI f ∧ f < 40 ∧ rA m 0 f = nI s
theorem bo_scan {m : rs_T} {T : Nat → ts_T} {f s e : Nat} (N : Nat) (hm : in_F m f s) (hx : ∀ i, s ≤ i → i < e → t_nx (vm m) f i (T i) = some (T (i + 1))) (h0 : T s = t_0) (he : e ≤ 512) : ∀ (n i ins left : Nat), i - s < n → s ≤ i → i ≤ e → ins + (i - s) ≤ 2000 → left ≤ 2000 → fx_Md_beginOf_b10 N n (nI ins) (nI left) (nI i - 1) m = some ((match ((bg_L (T i)).drop ins)[left]? with | none => -1 | some b => nI b), m) := by
  obtain ⟨k, hk, h12, h18, hf, hs⟩ := hm
  intro n
  induction n with
  | zero => intro i ins left h; omega
  | succ n ih =>
    intro i ins left hn hsi hie hins hleft
    rw [fx_Md_beginOf_b10, h12, nI_pred, gd_k (by omega) (by omega), nI_clamp (by omega), h18, gd_k (by omega) (by omega), nI_clamp (by omega), hs]
    by_cases e0 : i = s
    · subst e0
      have hlt : nI i - 1 < nI i := by
        rw [Int32.lt_iff_toInt_lt]
        have := pk_sub_toInt (a := i) (b := 1) (by omega) (by omega)
        have h2 : (nI i - 1).toInt = (i : Int) - 1 := this
        rw [h2, nI_toInt (by omega)]
        omega
      rw [if_pos hlt, h0]
      have : ((bg_L t_0).drop ins)[left]? = none := by simp [bg_L, t_0]
      rw [this]
    · obtain ⟨p, rfl⟩ : ∃ p, i = p + 1 := ⟨i - 1, by omega⟩
      have e1 : nI (p + 1) - 1 = nI p := nI_pred p
      have hng : ¬ nI p < nI s := nI_nlt (by omega) (by omega)
      rw [e1, if_neg hng, gd_k (by omega) (by omega), nI_clamp (by omega)]
      have hp := hx p (by omega) (by omega)
      have ho : rA m 6 p = v_o (vm m) p := rfl
      rw [ho]
      have ep : nI p + (-1) = nI p - 1 := by rw [Int32.sub_eq_add_neg]
      -- go on below
      have hrec : ∀ ins' left', ins' + (p - s) ≤ 2000 → left' ≤ 2000 → fx_Md_beginOf_b97 N (fx_Md_beginOf_b10 N n) (nI ins') (nI left') (nI p) m = some ((match ((bg_L (T p)).drop ins')[left']? with | none => -1 | some b => nI b), m) := fun ins' left' q1 q2 => by
        unfold fx_Md_beginOf_b97
        rw [bd_s, ep]
        exact ih p ins' left' (by omega) (by omega) (by omega) q1 q2
      rcases nx_beg hp with ⟨o, e⟩ | ⟨o, b, e⟩ | ⟨o, e⟩
      · have n11 : ¬ v_o (vm m) p = 11 := fun z => by rw [z] at o; exact absurd o (by decide)
        rw [if_neg n11]
        unfold fx_Md_beginOf_b46
        rw [gd_k (by omega) (by omega), nI_clamp (by omega), ho, mb_yes o, bn_s, if_neg i10, e]
        unfold fx_Md_beginOf_b71 fx_Md_beginOf_b82 fx_Md_beginOf_b95
        cases ins with
        | zero =>
          rw [nI_0, if_pos rfl]
          cases left with
          | zero => rw [nI_0, if_pos rfl]; rfl
          | succ l =>
            have nl : ¬ nI (l + 1) = 0 := nI_ne0 (by omega) (by omega)
            rw [if_neg nl, if_pos rfl, bd_s, if_pos (Int32.le_refl _), bd_s, nI_pred, Int32.sub_zero]
            have := hrec 0 l (by omega) (by omega)
            rw [nI_0] at this
            rw [this]; rfl
        | succ q =>
          have nq : ¬ nI (q + 1) = 0 := nI_ne0 (by omega) (by omega)
          have nq2 : ¬ nI (q + 1) ≤ 0 := nI_nle (by omega) (by omega)
          rw [if_neg nq, if_neg nq, bd_s, if_neg nq2, bd_s, nI_pred, Int32.sub_zero]
          rw [hrec q left (by omega) (by omega)]; rfl
      · rw [if_pos o, bd_s, nI_1]
        unfold fx_Md_beginOf_b46
        have nb : ¬ v_o (vm m) p ∈ ([2, 3, 4] : List Int32) := by rw [o]; decide
        rw [gd_k (by omega) (by omega), nI_clamp (by omega), ho, mb_no nb, bn_s, if_pos rfl, hrec (ins + 1) left (by omega) hleft, e]
        rfl
      · have n11 : ¬ v_o (vm m) p = 11 := fun z => o (by rw [z]; decide)
        have nb : ¬ v_o (vm m) p ∈ ([2, 3, 4] : List Int32) := fun z => o (by
          simp only [List.mem_cons, List.not_mem_nil, or_false] at z ⊢
          rcases z with z | z | z <;> simp [z])
        rw [if_neg n11]
        unfold fx_Md_beginOf_b46
        rw [gd_k (by omega) (by omega), nI_clamp (by omega), ho, mb_no nb, bn_s, if_pos rfl, hrec ins left (by omega) hleft, e]
