-- ===== numbers: what both machines compute =====
theorem lN_tn (x : Int64) : lN x.toBitVec.toNat = x := by
  apply Int64.toBitVec_inj.mp
  show BitVec.ofNat 64 x.toBitVec.toNat = x.toBitVec
  apply BitVec.eq_of_toNat_eq
  rw [BitVec.toNat_ofNat]
  exact Nat.mod_eq_of_lt x.toBitVec.isLt
theorem lN_bv (n : Nat) : (lN n).toBitVec.toNat = n % 18446744073709551616 := by
  show (BitVec.ofNat 64 n).toNat = _
  rw [BitVec.toNat_ofNat]
theorem low_lN (x : Int64) : x &&& 4294967295 = lN (x.toBitVec.toNat % 4294967296) := by
  apply Int64.toBitVec_inj.mp
  apply BitVec.eq_of_toNat_eq
  have hm : (4294967295 : Int64).toBitVec.toNat = 2 ^ 32 - 1 := by decide
  rw [Int64.toBitVec_and, BitVec.toNat_and, hm, Nat.and_two_pow_sub_one_eq_mod, lN_bv]
  have := x.toBitVec.isLt
  omega
theorem nI_bn (n : Nat) : (nI n).toBitVec.toNat = n % 4294967296 := by
  rw [nI_bv, BitVec.toNat_ofNat]
theorem nI_cong {a b : Nat} : nI a = nI b ↔ a % 4294967296 = b % 4294967296 := by
  constructor
  · intro h
    have := congrArg (fun z : Int32 => z.toBitVec.toNat) h
    simp only [nI_bn] at this
    exact this
  · intro h
    apply Int32.toBitVec_inj.mp
    apply BitVec.eq_of_toNat_eq
    rw [nI_bn, nI_bn]; exact h
theorem t32 (x : Int64) : x.toInt32 = nI (x.toBitVec.toNat % 4294967296) := by
  have : x.toInt32 = nI x.toBitVec.toNat := by
    rw [← lN_i, lN_tn]
  rw [this, nI_cong]
  omega
theorem low_eq {x y : Int64} : x &&& 4294967295 = y &&& 4294967295 ↔ x.toInt32 = y.toInt32 := by
  rw [low_lN, low_lN, t32, t32, nI_cong, pk_lEQ (by omega) (by omega)]
  omega
theorem low_0 {x : Int64} : x &&& 4294967295 = 0 ↔ x.toInt32 = 0 := by
  have := low_eq (x := x) (y := 0)
  have h0 : (0 : Int64) &&& 4294967295 = 0 := by decide
  have h1 : (0 : Int64).toInt32 = 0 := by decide
  rw [h0, h1] at this
  exact this
theorem lc_0 (x y : Int64) : lg_cmp x y = 0 ↔ x = y := by
  unfold lg_cmp
  by_cases h1 : y < x
  · rw [if_pos h1]
    exact ⟨fun z => absurd z (by decide), fun z => by subst z; exact absurd h1 (Int64.lt_irrefl)⟩
  · rw [if_neg h1]
    by_cases h2 : x = y
    · rw [if_pos h2]
      exact ⟨fun _ => h2, fun _ => rfl⟩
    · rw [if_neg h2]
      exact ⟨fun z => absurd z (by decide), fun z => absurd z h2⟩
theorem low_add (x y : Int64) : ((x &&& 4294967295) + (y &&& 4294967295)) &&& 4294967295 = (x + y) &&& 4294967295 := by
  rw [low_lN x, low_lN y, lN_add, low_lN, low_lN (x + y), lN_bv, Int64.toBitVec_add, BitVec.toNat_add]
  congr 1
  omega
theorem low_sub (x y : Int64) : ((x &&& 4294967295) - (y &&& 4294967295)) &&& 4294967295 = (x - y) &&& 4294967295 := by
  rw [low_lN x, low_lN y, low_lN, low_lN (x - y), Int64.toBitVec_sub, Int64.toBitVec_sub, BitVec.toNat_sub, BitVec.toNat_sub, lN_bv, lN_bv]
  congr 1
  have := x.toBitVec.isLt
  have := y.toBitVec.isLt
  omega
theorem low_mul (x y : Int64) : ((x &&& 4294967295) * (y &&& 4294967295)) &&& 4294967295 = (x * y) &&& 4294967295 := by
  rw [low_lN x, low_lN y, lN_mul, low_lN, low_lN (x * y), lN_bv, Int64.toBitVec_mul, BitVec.toNat_mul]
  congr 1
  rw [Nat.mod_mod_of_dvd _ (by decide), Nat.mod_mod_of_dvd _ (by decide), ← Nat.mul_mod]
theorem low_and (x y : Int64) : (x &&& 4294967295) &&& (y &&& 4294967295) = (x &&& y) &&& 4294967295 := by
  rw [Int64.and_assoc, ← Int64.and_assoc 4294967295 y, Int64.and_comm 4294967295 y, Int64.and_assoc y, Int64.and_self, ← Int64.and_assoc]
theorem i64_low (z : Int32) : z.toInt64 &&& 4294967295 = lN z.toBitVec.toNat := by
  rw [low_lN]
  congr 1
  have h : z = nI z.toBitVec.toNat := by
    apply Int32.toBitVec_inj.mp
    apply BitVec.eq_of_toNat_eq
    rw [nI_bn]
    have := z.toBitVec.isLt
    omega
  have h2 : z.toInt64.toInt32 = z := Int32.toInt32_toInt64 z
  have h3 := t32 z.toInt64
  rw [h2] at h3
  have h4 : nI z.toBitVec.toNat = nI (z.toInt64.toBitVec.toNat % 4294967296) := by rw [← h]; exact h3
  rw [nI_cong] at h4
  have := z.toBitVec.isLt
  omega
theorem lshl (a s : Int64) (k : Nat) (hs : (s.toBitVec.smod 64).toNat = k) : (a <<< s).toBitVec.toNat = a.toBitVec.toNat * 2 ^ k % 18446744073709551616 := by
  show (a.toBitVec <<< (s.toBitVec.smod 64).toNat).toNat = _
  rw [hs, BitVec.toNat_shiftLeft, Nat.shiftLeft_eq]
theorem sm64 {k : Nat} (hk : k < 64) : ((lN k).toBitVec.smod 64).toNat = k := by
  have : ∀ k : Fin 64, ((lN k.1).toBitVec.smod 64).toNat = k.1 := by decide
  exact this ⟨k, hk⟩
theorem sm32 {k : Nat} (hk : k < 32) : ((nI k).toBitVec.smod 32).toNat = k := by
  have : ∀ k : Fin 32, ((nI k.1).toBitVec.smod 32).toNat = k.1 := by decide
  exact this ⟨k, hk⟩
theorem l_and (x : Int64) {m : Int64} (k : Nat) (hm : m.toBitVec.toNat = 2 ^ k - 1) : x &&& m = lN (x.toBitVec.toNat % 2 ^ k) := by
  apply Int64.toBitVec_inj.mp
  apply BitVec.eq_of_toNat_eq
  rw [Int64.toBitVec_and, BitVec.toNat_and, hm, Nat.and_two_pow_sub_one_eq_mod, lN_bv]
  have h1 := x.toBitVec.isLt
  have h2 := Nat.mod_le x.toBitVec.toNat (2 ^ k)
  omega
theorem low_shl (x y : Int64) : ((x &&& 4294967295) <<< ((((y &&& 4294967295) &&& 31).toInt32).toInt64 &&& 63)) &&& 4294967295 = ((x.toInt32 <<< ((y.toInt32 &&& 31) &&& 31)).toInt64) &&& 4294967295 := by
  have hy := y.toBitVec.isLt
  obtain ⟨k, hk⟩ : ∃ k, k = y.toBitVec.toNat % 32 := ⟨_, rfl⟩
  have hk32 : k < 32 := by omega
  have e1 : (((y &&& 4294967295) &&& 31).toInt32).toInt64 &&& 63 = lN k := by
    rw [l_and (y &&& 4294967295) (m := 31) 5 (by decide), low_lN, lN_bv, lN_i, nI_l (by omega), l_and _ (m := 63) 6 (by decide), lN_bv, hk]
    congr 1
    omega
  have e2 : (y.toInt32 &&& 31) &&& 31 = nI k := by
    rw [t32, pk_and _ (m := 31) 5 (by decide), pk_and _ (m := 31) 5 (by decide), nI_bn, nI_bn, hk]
    congr 1
    omega
  rw [e1, e2, i64_low, low_lN, lshl _ _ k (sm64 (by omega)), pk_shl _ _ k (sm32 hk32), low_lN, lN_bv, t32, nI_bn]
  congr 1
  have h1 : x.toBitVec.toNat % 4294967296 % 18446744073709551616 = x.toBitVec.toNat % 4294967296 := by omega
  have h2 : x.toBitVec.toNat % 4294967296 % 4294967296 = x.toBitVec.toNat % 4294967296 := by omega
  rw [h1, h2, Nat.mod_mod_of_dvd _ (by decide)]
-- sign-extension of the lowest bytes
theorem lsar (a s : Int64) (k : Nat) (hs : (s.toBitVec.smod 64).toNat = k) : (a >>> s).toInt = a.toInt >>> k := by
  show (a.toBitVec.sshiftRight (s.toBitVec.smod 64).toNat).toInt = _
  rw [hs, BitVec.toInt_sshiftRight]
  rfl
theorem i64_bm (x : Int64) : x.toInt = Int.bmod x.toBitVec.toNat 18446744073709551616 := by
  show x.toBitVec.toInt = _
  rw [BitVec.toInt_eq_toNat_bmod]
theorem sx_8 (v : Int64) : (v <<< (lN 56)) >>> (lN 56) = v.toInt32.toInt8.toInt32.toInt64 := by
  apply Int64.toInt_inj.mp
  rw [lsar _ _ 56 (sm64 (by decide)), i64_bm (v <<< lN 56), lshl _ _ 56 (sm64 (by decide)), Int.shiftRight_eq_div_pow, Int32.toInt_toInt64, Int8.toInt_toInt32, Int32.toInt_toInt8, t32]
  have h1 : (nI (v.toBitVec.toNat % 4294967296)).toInt = Int.bmod (v.toBitVec.toNat % 4294967296 : Nat) 4294967296 := by
    show (nI (v.toBitVec.toNat % 4294967296)).toBitVec.toInt = _
    rw [BitVec.toInt_eq_toNat_bmod, nI_bn]
    congr 1
    omega
  rw [h1]
  have := v.toBitVec.isLt
  simp only [Int.bmod_def]
  omega
theorem sx_16 (v : Int64) : (v <<< (lN 48)) >>> (lN 48) = v.toInt32.toInt16.toInt32.toInt64 := by
  apply Int64.toInt_inj.mp
  rw [lsar _ _ 48 (sm64 (by decide)), i64_bm (v <<< lN 48), lshl _ _ 48 (sm64 (by decide)), Int.shiftRight_eq_div_pow, Int32.toInt_toInt64, Int16.toInt_toInt32, Int32.toInt_toInt16, t32]
  have h1 : (nI (v.toBitVec.toNat % 4294967296)).toInt = Int.bmod (v.toBitVec.toNat % 4294967296 : Nat) 4294967296 := by
    show (nI (v.toBitVec.toNat % 4294967296)).toBitVec.toInt = _
    rw [BitVec.toInt_eq_toNat_bmod, nI_bn]
    congr 1
    omega
  rw [h1]
  have := v.toBitVec.isLt
  simp only [Int.bmod_def]
  omega
theorem sx_32 (v : Int64) : (v <<< (lN 32)) >>> (lN 32) = v.toInt32.toInt64 := by
  apply Int64.toInt_inj.mp
  rw [lsar _ _ 32 (sm64 (by decide)), i64_bm (v <<< lN 32), lshl _ _ 32 (sm64 (by decide)), Int.shiftRight_eq_div_pow, Int32.toInt_toInt64, t32]
  have h1 : (nI (v.toBitVec.toNat % 4294967296)).toInt = Int.bmod (v.toBitVec.toNat % 4294967296 : Nat) 4294967296 := by
    show (nI (v.toBitVec.toNat % 4294967296)).toBitVec.toInt = _
    rw [BitVec.toInt_eq_toNat_bmod, nI_bn]
    congr 1
    omega
  rw [h1]
  have := v.toBitVec.isLt
  simp only [Int.bmod_def]
  omega
