-- ===== memory: loads =====
theorem pl_lN (x : Int64) (off : Int32) : (x &&& 4294967295) + (off.toInt64 &&& 4294967295) = lN (x.toBitVec.toNat % 4294967296 + off.toBitVec.toNat) := by
  rw [low_lN, i64_low, lN_add]
theorem hl_C {c : rs_T} {a n p : Nat} (h9 : rI c 9 = nI p) (hp : p ≤ 6) (ha : a < 10000000000) (hn : n ≤ 8) : fx_Wo_holds (lN a) (nI n) c = some (if a + n ≤ 64 * p then 1 else 0, c) := by
  unfold fx_Wo_holds
  have e : (nI p).toInt64 * 64 = lN (p * 64) := by
    rw [nI_l (by omega)]; exact lN_mul p 64
  rw [h9, e, nI_l (by omega), lN_add]
  by_cases z : a + n ≤ 64 * p
  · rw [if_pos z, if_neg (fun y => by have := (pk_lLT (by omega) (by omega)).mp ((lc_gt _ _).mp y); omega)]
  · rw [if_neg z, if_pos ((lc_gt _ _).mpr ((pk_lLT (by omega) (by omega)).mpr (by omega)))]
theorem hl_M {a n p : Nat} (hp : p ≤ 6) (ha : a < 10000000000) (hn : n ≤ 8) : (lg_cmp (lN a + (nI n).toInt64) ((64 : Int64) * (nI p).toInt64) ≤ (0 : Int32)) ↔ a + n ≤ 64 * p := by
  have e : (64 : Int64) * (nI p).toInt64 = lN (64 * p) := by
    rw [nI_l (by omega)]; exact lN_mul 64 p
  rw [e, nI_l (by omega), lN_add, ← Int32.not_lt, lc_gt, pk_lLT (by omega) (by omega)]
  omega
def br_ok (c m : rs_T) : Prop := ∀ i, i < 384 → ∃ b : Nat, b < 256 ∧ rA m 17 i = nI b ∧ rA c 16 i &&& 255 = nI b
theorem nI_p1 (k : Nat) : nI k + (-1) = nI k - 1 := by rw [Int32.sub_eq_add_neg]
theorem ld_loop {c m : rs_T} {N a n : Nat} {o : Int32} (hb : br_ok c m) : ∀ (k fu : Nat) (v : Int64), a + k ≤ 384 → k < fu → ∃ v', fx_Md_move_b128 N fu o (nI n) v (nI a) (nI k - 1) m = fx_Md_move_b128 N (fu - k) o (nI n) v' (nI a) (-1) m ∧ fx_Wo_load_b10 N fu o (nI a) v (nI k - 1) c = fx_Wo_load_b10 N (fu - k) o (nI a) v' (-1) c := by
  intro k
  induction k with
  | zero =>
    intro fu v _ _
    have e : nI 0 - 1 = -1 := by decide
    rw [e]
    exact ⟨v, rfl, rfl⟩
  | succ k ih =>
    intro fu v ha hfu
    obtain ⟨fu, rfl⟩ : ∃ g, fu = g + 1 := ⟨fu - 1, by omega⟩
    obtain ⟨b, -, b1, b2⟩ := hb (a + k) (by omega)
    obtain ⟨v', e1, e2⟩ := ih fu ((v <<< ((8 : Int32).toInt64 &&& 63)) ||| ((nI b).toInt64)) (by omega) (by omega)
    refine ⟨v', ?_, ?_⟩
    · rw [show fu + 1 - (k + 1) = fu - k by omega, nI_pred]
      revert e1
      generalize fx_Md_move_b128 N (fu - k) o (nI n) v' (nI a) (-1) m = R
      intro e1
      unfold fx_Md_move_b128
      rw [if_neg (nI_pos (by omega)), nI_add, gd_k (by omega) (by omega), nI_clamp (by omega), b1, bd_s, bd_s, nI_p1]
      exact e1
    · rw [show fu + 1 - (k + 1) = fu - k by omega, nI_pred]
      revert e2
      generalize fx_Wo_load_b10 N (fu - k) o (nI a) v' (-1) c = R
      intro e2
      unfold fx_Wo_load_b10
      rw [if_neg (nI_pos (by omega)), nI_add, gd_k (by omega) (by omega), nI_clamp (by omega), b2, bd_s, bd_s, nI_p1]
      exact e2
def ld_e (o : Int32) (n : Nat) : Prop := (∀ c, fx_Wo_width o c = some (nI n, c)) ∧ (∀ m, fx_Md_size o m = some (nI n, m)) ∧ ∀ (N g : Nat) (v : Int64) (x : Int32) (c m : rs_T), ∃ R, fx_Wo_load_b10 N (g + 1) o x v (-1) c = some (R, c) ∧ fx_Md_move_b128 N (g + 1) o (nI n) v x (-1) m = fx_Md_push R m
theorem ld_40 : ld_e 40 4 := by
  refine ⟨fun c => ?_, fun m => ?_, fun N g v x c m => ?_⟩
  · unfold fx_Wo_width
    rw [if_neg (by decide), if_neg (by decide), if_neg (by decide)]
    exact (Eq.trans rfl rfl)
  · unfold fx_Md_size
    rw [if_neg (by decide), if_neg (by decide), if_neg (by decide), if_neg (by decide), if_pos rfl]
    exact (Eq.trans rfl rfl)
  · refine ⟨v, ?_, ?_⟩
    · unfold fx_Wo_load_b10
      rw [if_pos (by decide), if_neg (by decide), if_neg (by decide), if_neg (by decide), if_neg (by decide), if_neg (by decide)]
    · unfold fx_Md_move_b128 fx_Md_move_b183 fx_Md_move_b184 fx_Md_move_b204 fx_Md_move_b230
      rw [if_pos (by decide), bd_s, if_pos (by decide), if_pos rfl, if_neg (by decide), if_neg (by decide), bv_id]
theorem ld_41 : ld_e 41 8 := by
  refine ⟨fun c => ?_, fun m => ?_, fun N g v x c m => ?_⟩
  · unfold fx_Wo_width
    rw [if_pos (by decide)]
    exact (Eq.trans rfl rfl)
  · unfold fx_Md_size
    rw [if_pos rfl]
    exact (Eq.trans rfl rfl)
  · refine ⟨v, ?_, ?_⟩
    · unfold fx_Wo_load_b10
      rw [if_pos (by decide), if_neg (by decide), if_neg (by decide), if_neg (by decide), if_neg (by decide), if_neg (by decide)]
    · unfold fx_Md_move_b128 fx_Md_move_b183 fx_Md_move_b184 fx_Md_move_b204 fx_Md_move_b230
      rw [if_pos (by decide), bd_s, if_pos (by decide), if_pos rfl, if_neg (by decide), if_neg (by decide), bv_id]
theorem ld_42 : ld_e 42 4 := by
  refine ⟨fun c => ?_, fun m => ?_, fun N g v x c m => ?_⟩
  · unfold fx_Wo_width
    rw [if_neg (by decide), if_neg (by decide), if_neg (by decide)]
    exact (Eq.trans rfl rfl)
  · unfold fx_Md_size
    rw [if_neg (by decide), if_neg (by decide), if_neg (by decide), if_neg (by decide), if_neg (by decide), if_pos rfl]
    exact (Eq.trans rfl rfl)
  · refine ⟨v, ?_, ?_⟩
    · unfold fx_Wo_load_b10
      rw [if_pos (by decide), if_neg (by decide), if_neg (by decide), if_neg (by decide), if_neg (by decide), if_neg (by decide)]
    · unfold fx_Md_move_b128 fx_Md_move_b183 fx_Md_move_b184 fx_Md_move_b204 fx_Md_move_b230
      rw [if_pos (by decide), bd_s, if_pos (by decide), if_pos rfl, if_neg (by decide), if_neg (by decide), bv_id]
theorem ld_43 : ld_e 43 8 := by
  refine ⟨fun c => ?_, fun m => ?_, fun N g v x c m => ?_⟩
  · unfold fx_Wo_width
    rw [if_pos (by decide)]
    exact (Eq.trans rfl rfl)
  · unfold fx_Md_size
    rw [if_neg (by decide), if_pos rfl]
    exact (Eq.trans rfl rfl)
  · refine ⟨v, ?_, ?_⟩
    · unfold fx_Wo_load_b10
      rw [if_pos (by decide), if_neg (by decide), if_neg (by decide), if_neg (by decide), if_neg (by decide), if_neg (by decide)]
    · unfold fx_Md_move_b128 fx_Md_move_b183 fx_Md_move_b184 fx_Md_move_b204 fx_Md_move_b230
      rw [if_pos (by decide), bd_s, if_pos (by decide), if_pos rfl, if_neg (by decide), if_neg (by decide), bv_id]
theorem ld_44 : ld_e 44 1 := by
  refine ⟨fun c => ?_, fun m => ?_, fun N g v x c m => ?_⟩
  · unfold fx_Wo_width
    rw [if_neg (by decide), if_pos (by decide)]
    exact (Eq.trans rfl rfl)
  · unfold fx_Md_size
    rw [if_neg (by decide), if_neg (by decide), if_neg (by decide), if_neg (by decide), if_neg (by decide), if_neg (by decide), if_neg (by decide), if_neg (by decide), if_neg (by decide), if_neg (by decide), if_neg (by decide), if_neg (by decide), if_neg (by decide), if_neg (by decide), if_neg (by decide), if_neg (by decide), if_neg (by decide)]
    exact (Eq.trans rfl rfl)
  · refine ⟨(v.toInt32.toInt8.toInt32.toInt64 &&& 4294967295), ?_, ?_⟩
    · unfold fx_Wo_load_b10
      rw [if_pos (by decide), if_pos (by decide)]
    · have e1 : (64 : Int32) - (8 : Int32) * nI 1 = nI 56 := by decide
      have e2 : (nI 56).toInt64 &&& 63 = lN 56 := by decide
      have e3 : (44 : Int32) - 44 / 2 * 2 = 0 := by decide
      unfold fx_Md_move_b128 fx_Md_move_b184 fx_Md_move_b204 fx_Md_move_b219 fx_Md_move_b230
      rw [if_pos (by decide), bd_s, e1, e2, if_neg (by decide)]
      unfold gzi
      rw [if_neg (by decide), if_pos e3, if_neg (by decide), if_pos rfl, sx_8, bv_id]
theorem ld_45 : ld_e 45 1 := by
  refine ⟨fun c => ?_, fun m => ?_, fun N g v x c m => ?_⟩
  · unfold fx_Wo_width
    rw [if_neg (by decide), if_pos (by decide)]
    exact (Eq.trans rfl rfl)
  · unfold fx_Md_size
    rw [if_neg (by decide), if_neg (by decide), if_neg (by decide), if_neg (by decide), if_neg (by decide), if_neg (by decide), if_neg (by decide), if_neg (by decide), if_neg (by decide), if_neg (by decide), if_neg (by decide), if_neg (by decide), if_neg (by decide), if_neg (by decide), if_neg (by decide), if_neg (by decide), if_neg (by decide)]
    exact (Eq.trans rfl rfl)
  · refine ⟨v, ?_, ?_⟩
    · unfold fx_Wo_load_b10
      rw [if_pos (by decide), if_neg (by decide), if_neg (by decide), if_neg (by decide), if_neg (by decide), if_neg (by decide)]
    · have e3 : ¬ (45 : Int32) - 45 / 2 * 2 = 0 := by decide
      unfold fx_Md_move_b128 fx_Md_move_b183 fx_Md_move_b184 fx_Md_move_b204 fx_Md_move_b230
      rw [if_pos (by decide), bd_s, if_neg (by decide)]
      unfold gzi
      rw [if_neg (by decide), if_neg e3, if_pos rfl, if_neg (by decide), if_neg (by decide), bv_id]
theorem ld_46 : ld_e 46 2 := by
  refine ⟨fun c => ?_, fun m => ?_, fun N g v x c m => ?_⟩
  · unfold fx_Wo_width
    rw [if_neg (by decide), if_neg (by decide), if_pos (by decide)]
    exact (Eq.trans rfl rfl)
  · unfold fx_Md_size fx_Md_size_b107
    rw [if_neg (by decide), if_neg (by decide), if_neg (by decide), if_neg (by decide), if_neg (by decide), if_neg (by decide), if_neg (by decide), if_neg (by decide), if_neg (by decide), if_neg (by decide), if_neg (by decide), if_pos rfl]
    exact (Eq.trans rfl rfl)
  · refine ⟨(v.toInt32.toInt16.toInt32.toInt64 &&& 4294967295), ?_, ?_⟩
    · unfold fx_Wo_load_b10
      rw [if_pos (by decide), if_neg (by decide), if_pos (by decide)]
    · have e1 : (64 : Int32) - (8 : Int32) * nI 2 = nI 48 := by decide
      have e2 : (nI 48).toInt64 &&& 63 = lN 48 := by decide
      have e3 : (46 : Int32) - 46 / 2 * 2 = 0 := by decide
      unfold fx_Md_move_b128 fx_Md_move_b184 fx_Md_move_b204 fx_Md_move_b219 fx_Md_move_b230
      rw [if_pos (by decide), bd_s, e1, e2, if_neg (by decide)]
      unfold gzi
      rw [if_neg (by decide), if_pos e3, if_neg (by decide), if_neg (by decide), if_pos rfl, sx_16, bv_id]
theorem ld_47 : ld_e 47 2 := by
  refine ⟨fun c => ?_, fun m => ?_, fun N g v x c m => ?_⟩
  · unfold fx_Wo_width
    rw [if_neg (by decide), if_neg (by decide), if_pos (by decide)]
    exact (Eq.trans rfl rfl)
  · unfold fx_Md_size fx_Md_size_b107
    rw [if_neg (by decide), if_neg (by decide), if_neg (by decide), if_neg (by decide), if_neg (by decide), if_neg (by decide), if_neg (by decide), if_neg (by decide), if_neg (by decide), if_neg (by decide), if_neg (by decide), if_neg (by decide), if_pos rfl]
    exact (Eq.trans rfl rfl)
  · refine ⟨v, ?_, ?_⟩
    · unfold fx_Wo_load_b10
      rw [if_pos (by decide), if_neg (by decide), if_neg (by decide), if_neg (by decide), if_neg (by decide), if_neg (by decide)]
    · have e3 : ¬ (47 : Int32) - 47 / 2 * 2 = 0 := by decide
      unfold fx_Md_move_b128 fx_Md_move_b183 fx_Md_move_b184 fx_Md_move_b204 fx_Md_move_b230
      rw [if_pos (by decide), bd_s, if_neg (by decide)]
      unfold gzi
      rw [if_neg (by decide), if_neg e3, if_pos rfl, if_neg (by decide), if_neg (by decide), bv_id]
theorem ld_48 : ld_e 48 1 := by
  refine ⟨fun c => ?_, fun m => ?_, fun N g v x c m => ?_⟩
  · unfold fx_Wo_width
    rw [if_neg (by decide), if_pos (by decide)]
    exact (Eq.trans rfl rfl)
  · unfold fx_Md_size
    rw [if_neg (by decide), if_neg (by decide), if_neg (by decide), if_neg (by decide), if_neg (by decide), if_neg (by decide), if_neg (by decide), if_neg (by decide), if_neg (by decide), if_neg (by decide), if_neg (by decide), if_neg (by decide), if_neg (by decide), if_neg (by decide), if_neg (by decide), if_neg (by decide), if_neg (by decide)]
    exact (Eq.trans rfl rfl)
  · refine ⟨(v.toInt32.toInt8.toInt32.toInt64), ?_, ?_⟩
    · unfold fx_Wo_load_b10
      rw [if_pos (by decide), if_neg (by decide), if_neg (by decide), if_pos (by decide)]
    · have e1 : (64 : Int32) - (8 : Int32) * nI 1 = nI 56 := by decide
      have e2 : (nI 56).toInt64 &&& 63 = lN 56 := by decide
      have e3 : (48 : Int32) - 48 / 2 * 2 = 0 := by decide
      unfold fx_Md_move_b128 fx_Md_move_b184 fx_Md_move_b204 fx_Md_move_b219 fx_Md_move_b230
      rw [if_pos (by decide), bd_s, e1, e2, if_neg (by decide)]
      unfold gzi
      rw [if_neg (by decide), if_pos e3, if_neg (by decide), if_neg (by decide), if_neg (by decide), sx_8, bv_id]
theorem ld_49 : ld_e 49 1 := by
  refine ⟨fun c => ?_, fun m => ?_, fun N g v x c m => ?_⟩
  · unfold fx_Wo_width
    rw [if_neg (by decide), if_pos (by decide)]
    exact (Eq.trans rfl rfl)
  · unfold fx_Md_size
    rw [if_neg (by decide), if_neg (by decide), if_neg (by decide), if_neg (by decide), if_neg (by decide), if_neg (by decide), if_neg (by decide), if_neg (by decide), if_neg (by decide), if_neg (by decide), if_neg (by decide), if_neg (by decide), if_neg (by decide), if_neg (by decide), if_neg (by decide), if_neg (by decide), if_neg (by decide)]
    exact (Eq.trans rfl rfl)
  · refine ⟨v, ?_, ?_⟩
    · unfold fx_Wo_load_b10
      rw [if_pos (by decide), if_neg (by decide), if_neg (by decide), if_neg (by decide), if_neg (by decide), if_neg (by decide)]
    · have e3 : ¬ (49 : Int32) - 49 / 2 * 2 = 0 := by decide
      unfold fx_Md_move_b128 fx_Md_move_b183 fx_Md_move_b184 fx_Md_move_b204 fx_Md_move_b230
      rw [if_pos (by decide), bd_s, if_neg (by decide)]
      unfold gzi
      rw [if_neg (by decide), if_neg e3, if_pos rfl, if_neg (by decide), if_neg (by decide), bv_id]
theorem ld_50 : ld_e 50 2 := by
  refine ⟨fun c => ?_, fun m => ?_, fun N g v x c m => ?_⟩
  · unfold fx_Wo_width
    rw [if_neg (by decide), if_neg (by decide), if_pos (by decide)]
    exact (Eq.trans rfl rfl)
  · unfold fx_Md_size fx_Md_size_b107
    rw [if_neg (by decide), if_neg (by decide), if_neg (by decide), if_neg (by decide), if_neg (by decide), if_neg (by decide), if_neg (by decide), if_neg (by decide), if_neg (by decide), if_neg (by decide), if_neg (by decide), if_neg (by decide), if_neg (by decide), if_pos rfl]
    exact (Eq.trans rfl rfl)
  · refine ⟨(v.toInt32.toInt16.toInt32.toInt64), ?_, ?_⟩
    · unfold fx_Wo_load_b10
      rw [if_pos (by decide), if_neg (by decide), if_neg (by decide), if_neg (by decide), if_pos (by decide)]
    · have e1 : (64 : Int32) - (8 : Int32) * nI 2 = nI 48 := by decide
      have e2 : (nI 48).toInt64 &&& 63 = lN 48 := by decide
      have e3 : (50 : Int32) - 50 / 2 * 2 = 0 := by decide
      unfold fx_Md_move_b128 fx_Md_move_b184 fx_Md_move_b204 fx_Md_move_b219 fx_Md_move_b230
      rw [if_pos (by decide), bd_s, e1, e2, if_neg (by decide)]
      unfold gzi
      rw [if_neg (by decide), if_pos e3, if_neg (by decide), if_neg (by decide), if_neg (by decide), sx_16, bv_id]
theorem ld_51 : ld_e 51 2 := by
  refine ⟨fun c => ?_, fun m => ?_, fun N g v x c m => ?_⟩
  · unfold fx_Wo_width
    rw [if_neg (by decide), if_neg (by decide), if_pos (by decide)]
    exact (Eq.trans rfl rfl)
  · unfold fx_Md_size fx_Md_size_b107
    rw [if_neg (by decide), if_neg (by decide), if_neg (by decide), if_neg (by decide), if_neg (by decide), if_neg (by decide), if_neg (by decide), if_neg (by decide), if_neg (by decide), if_neg (by decide), if_neg (by decide), if_neg (by decide), if_neg (by decide), if_neg (by decide), if_pos rfl]
    exact (Eq.trans rfl rfl)
  · refine ⟨v, ?_, ?_⟩
    · unfold fx_Wo_load_b10
      rw [if_pos (by decide), if_neg (by decide), if_neg (by decide), if_neg (by decide), if_neg (by decide), if_neg (by decide)]
    · have e3 : ¬ (51 : Int32) - 51 / 2 * 2 = 0 := by decide
      unfold fx_Md_move_b128 fx_Md_move_b183 fx_Md_move_b184 fx_Md_move_b204 fx_Md_move_b230
      rw [if_pos (by decide), bd_s, if_neg (by decide)]
      unfold gzi
      rw [if_neg (by decide), if_neg e3, if_pos rfl, if_neg (by decide), if_neg (by decide), bv_id]
theorem ld_52 : ld_e 52 4 := by
  refine ⟨fun c => ?_, fun m => ?_, fun N g v x c m => ?_⟩
  · unfold fx_Wo_width
    rw [if_neg (by decide), if_neg (by decide), if_neg (by decide)]
    exact (Eq.trans rfl rfl)
  · unfold fx_Md_size
    rw [if_neg (by decide), if_neg (by decide), if_neg (by decide), if_neg (by decide), if_neg (by decide), if_neg (by decide), if_pos rfl]
    exact (Eq.trans rfl rfl)
  · refine ⟨(v.toInt32.toInt64), ?_, ?_⟩
    · unfold fx_Wo_load_b10
      rw [if_pos (by decide), if_neg (by decide), if_neg (by decide), if_neg (by decide), if_neg (by decide), if_pos (by decide)]
    · have e1 : (64 : Int32) - (8 : Int32) * nI 4 = nI 32 := by decide
      have e2 : (nI 32).toInt64 &&& 63 = lN 32 := by decide
      have e3 : (52 : Int32) - 52 / 2 * 2 = 0 := by decide
      unfold fx_Md_move_b128 fx_Md_move_b184 fx_Md_move_b204 fx_Md_move_b219 fx_Md_move_b230
      rw [if_pos (by decide), bd_s, e1, e2, if_neg (by decide)]
      unfold gzi
      rw [if_neg (by decide), if_pos e3, if_neg (by decide), if_neg (by decide), if_neg (by decide), sx_32, bv_id]
theorem ld_53 : ld_e 53 4 := by
  refine ⟨fun c => ?_, fun m => ?_, fun N g v x c m => ?_⟩
  · unfold fx_Wo_width
    rw [if_neg (by decide), if_neg (by decide), if_neg (by decide)]
    exact (Eq.trans rfl rfl)
  · unfold fx_Md_size
    rw [if_neg (by decide), if_neg (by decide), if_neg (by decide), if_neg (by decide), if_neg (by decide), if_neg (by decide), if_neg (by decide), if_pos rfl]
    exact (Eq.trans rfl rfl)
  · refine ⟨v, ?_, ?_⟩
    · unfold fx_Wo_load_b10
      rw [if_pos (by decide), if_neg (by decide), if_neg (by decide), if_neg (by decide), if_neg (by decide), if_neg (by decide)]
    · have e3 : ¬ (53 : Int32) - 53 / 2 * 2 = 0 := by decide
      unfold fx_Md_move_b128 fx_Md_move_b183 fx_Md_move_b184 fx_Md_move_b204 fx_Md_move_b230
      rw [if_pos (by decide), bd_s, if_neg (by decide)]
      unfold gzi
      rw [if_neg (by decide), if_neg e3, if_pos rfl, if_neg (by decide), if_neg (by decide), bv_id]
theorem ld_all {o : Int32} (ho : o ∈ ([40, 41, 42, 43, 44, 45, 46, 47, 48, 49, 50, 51, 52, 53] : List Int32)) : ∃ n, 1 ≤ n ∧ n ≤ 8 ∧ ld_e o n := by
  simp only [List.mem_cons, List.not_mem_nil, or_false] at ho
  rcases ho with rfl | rfl | rfl | rfl | rfl | rfl | rfl | rfl | rfl | rfl | rfl | rfl | rfl | rfl
  · exact ⟨4, by decide, by decide, ld_40⟩
  · exact ⟨8, by decide, by decide, ld_41⟩
  · exact ⟨4, by decide, by decide, ld_42⟩
  · exact ⟨8, by decide, by decide, ld_43⟩
  · exact ⟨1, by decide, by decide, ld_44⟩
  · exact ⟨1, by decide, by decide, ld_45⟩
  · exact ⟨2, by decide, by decide, ld_46⟩
  · exact ⟨2, by decide, by decide, ld_47⟩
  · exact ⟨1, by decide, by decide, ld_48⟩
  · exact ⟨1, by decide, by decide, ld_49⟩
  · exact ⟨2, by decide, by decide, ld_50⟩
  · exact ⟨2, by decide, by decide, ld_51⟩
  · exact ⟨4, by decide, by decide, ld_52⟩
  · exact ⟨4, by decide, by decide, ld_53⟩
theorem ld_both {c m : rs_T} {F N P : Nat} {w : Bool} {o : Int32} (off : Int32) (ho : o ∈ ([40, 41, 42, 43, 44, 45, 46, 47, 48, 49, 50, 51, 52, 53] : List Int32)) (hw : wb c m F w) (h13 : rI m 13 = nI (P + 1)) (hP : P < 700) (hN : 1000 ≤ N) : ∃ n a : Nat, fx_Wo_width o c = some (nI n, c) ∧ fx_Wo_place (rL m 2 P) off c = some (lN a, c) ∧ ((fx_Wo_holds (lN a) (nI n) c = some (0, c) ∧ fx_Md_move N o off m = some (wI (wI (wI m 13 (nI P)) 9 3) 10 4)) ∨ (∃ v, fx_Wo_holds (lN a) (nI n) c = some (1, c) ∧ fx_Wo_load N o (lN a).toInt32 c = some (v, c) ∧ fx_Md_move N o off m = some (wI (wL (wI m 13 (nI P)) 2 P v) 13 (nI (P + 1))))) := by
  obtain ⟨n, n1, n8, l1, l2, l3⟩ := ld_all ho
  obtain ⟨-, -, b3, ⟨p, p1, p6, c9, m7⟩, -, -, -⟩ := hw
  have h54 : ¬ (54 : Int32) ≤ o := by
    simp only [List.mem_cons, List.not_mem_nil, or_false] at ho
    rcases ho with rfl | rfl | rfl | rfl | rfl | rfl | rfl | rfl | rfl | rfl | rfl | rfl | rfl | rfl <;> decide
  have ha : (rL m 2 P).toBitVec.toNat % 4294967296 + off.toBitVec.toNat < 10000000000 := by
    have := off.toBitVec.isLt
    omega
  obtain ⟨a, ea⟩ : ∃ a, a = (rL m 2 P).toBitVec.toNat % 4294967296 + off.toBitVec.toNat := ⟨_, rfl⟩
  have hpl := pl_lN (rL m 2 P) off
  rw [← ea] at ha hpl
  have hM : fx_Md_move N o off m = (if a + n ≤ 64 * p then fx_Md_move_b128 N N o (nI n) 0 (nI a) (nI n - 1) (wI m 13 (nI P)) else some (wI (wI (wI m 13 (nI P)) 9 3) 10 4)) := by
    unfold fx_Md_move
    rw [l2, bn_s, if_neg h54]
    unfold fx_Md_move_b16
    rw [if_neg (by decide)]
    unfold fx_Md_move_b31
    rw [m_pop h13 hP, bn_s, hpl, bd_s, rI_wn (by decide), m7]
    by_cases z : a + n ≤ 64 * p
    · rw [if_pos z, if_pos ((hl_M p6 ha n8).mpr z), bd_s, if_neg (by decide), bd_s, lN_i]
    · rw [if_neg z, if_neg (fun y => z ((hl_M p6 ha n8).mp y))]
      unfold fx_Md_traps
      rw [bv_s]
  refine ⟨n, a, l1 c, ?_, ?_⟩
  · unfold fx_Wo_place
    rw [hpl]
  · rw [hl_C c9 p6 ha n8, hM]
    by_cases z : a + n ≤ 64 * p
    · rw [if_pos z, if_pos z]
      refine Or.inr ?_
      obtain ⟨v', e1, e2⟩ := ld_loop (c := c) (m := wI m 13 (nI P)) (N := N) (a := a) (n := n) (o := o) b3 n N 0 (by omega) (by omega)
      obtain ⟨g, hg⟩ : ∃ g, N - n = g + 1 := ⟨N - n - 1, by omega⟩
      rw [hg] at e1 e2
      obtain ⟨R, r1, r2⟩ := l3 N g v' (nI a) c (wI m 13 (nI P))
      refine ⟨R, rfl, ?_, ?_⟩
      · unfold fx_Wo_load
        rw [l1, bn_s, bd_s, lN_i, e2, r1]
      · rw [e1, r2, m_push (by rw [rI_ws]) hP]
    · rw [if_neg z, if_neg z]
      exact Or.inl ⟨rfl, rfl⟩
