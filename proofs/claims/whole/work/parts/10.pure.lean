
-- ===== the state of a system of single objects: its int fields, its int-like arrays, its long arrays =====
abbrev rs_T : Type := (Nat → Int32) × (Nat → Nat → Int32) × (Nat → Nat → Int64) × (Nat → Nat)
def rI (s : rs_T) (k : Nat) : Int32 := s.1 k
def rA (s : rs_T) (j i : Nat) : Int32 := s.2.1 j i
def rL (s : rs_T) (j i : Nat) : Int64 := s.2.2.1 j i
-- lengths of rows that grow (0 1 2 3), and how much was made: cells (4), slots (5)
def rN (s : rs_T) (k : Nat) : Nat := s.2.2.2 k
def wI (s : rs_T) (k : Nat) (v : Int32) : rs_T := (fun q => bif Nat.beq q k then v else s.1 q, s.2.1, s.2.2)
def wA (s : rs_T) (j i : Nat) (v : Int32) : rs_T := (s.1, fun q => bif Nat.beq q j then upd (s.2.1 j) i v else s.2.1 q, s.2.2)
def wL (s : rs_T) (j i : Nat) (v : Int64) : rs_T := (s.1, s.2.1, fun q => bif Nat.beq q j then vp_updL (s.2.2.1 j) i v else s.2.2.1 q, s.2.2.2)
def wN (s : rs_T) (k v : Nat) : rs_T := (s.1, s.2.1, s.2.2.1, fun q => bif Nat.beq q k then v else s.2.2.2 q)
-- a row is made anew (all 0)
def wZ (s : rs_T) (j : Nat) : rs_T := (s.1, fun q => bif Nat.beq q j then (fun _ => 0) else s.2.1 q, s.2.2)
-- n rows of group g have v elements from now on
def gN (s : rs_T) (g v n : Nat) : rs_T := wN (wN (wN s g v) 4 (rN s 4 + n)) 5 (rN s 5 + n * v)
def gP (s : rs_T) (v : Nat) : rs_T := wZ (gN s 3 v 1) 30
-- guards: none where the machine itself would throw
def gd {α : Type} (i : Int32) (n : Nat) (x : Option α) : Option α := if 0 ≤ i.toInt ∧ i.toInt < (n : Int) then x else none
theorem gd_some {α : Type} {i : Int32} {n : Nat} {x : Option α} {r : α} (h : gd i n x = some r) : vp_in i n ∧ x = some r := by
  unfold gd at h
  split at h
  · next q => exact ⟨vp_in_iff.mpr q, h⟩
  · cases h
def gm {α : Type} (s : rs_T) (g : Nat) (i : Int32) (n : Nat) (x : Option α) : Option α := if rN s g < i.toNatClampNeg ∧ 0 ≤ i.toInt ∧ i.toInt ≤ 4096 ∧ rN s 4 + n ≤ 100000 ∧ rN s 5 + n * i.toNatClampNeg ≤ 1000000 then x else none
theorem gm_some {α : Type} {s : rs_T} {g n : Nat} {i : Int32} {x : Option α} {r : α} (h : gm s g i n x = some r) : (rN s g < i.toNatClampNeg ∧ 0 ≤ i.toInt ∧ i.toInt ≤ 4096 ∧ rN s 4 + n ≤ 100000 ∧ rN s 5 + n * i.toNatClampNeg ≤ 1000000) ∧ x = some r := by
  unfold gm at h
  split at h
  · next q => exact ⟨q, h⟩
  · cases h
def gzi {α : Type} (y : Int32) (x : Option α) : Option α := if y = 0 then none else x
theorem gzi_some {α : Type} {y : Int32} {x : Option α} {r : α} (h : gzi y x = some r) : ¬ y = 0 ∧ x = some r := by
  unfold gzi at h
  split at h
  · cases h
  · next q => exact ⟨q, h⟩
def gzl {α : Type} (y : Int64) (x : Option α) : Option α := if y = 0 then none else x
theorem gzl_some {α : Type} {y : Int64} {x : Option α} {r : α} (h : gzl y x = some r) : ¬ y = 0 ∧ x = some r := by
  unfold gzl at h
  split at h
  · cases h
  · next q => exact ⟨q, h⟩
def gb {α : Type} (y : Int32) (x : Option α) : Option α := if y = 0 ∨ y = 1 then x else none
theorem gb_some {α : Type} {y : Int32} {x : Option α} {r : α} (h : gb y x = some r) : (y = 0 ∨ y = 1) ∧ x = some r := by
  unfold gb at h
  split at h
  · next q => exact ⟨q, h⟩
  · cases h
theorem gb_nar {y : Int32} (h : y = 0 ∨ y = 1) : narrow .boolean (.int y) = .int y := by rcases h with rfl | rfl <;> rfl
theorem gb_nar2 {y : Int32} (h : y = 0 ∨ y = 1) : vp_nar .boolean y = y := by rcases h with rfl | rfl <;> rfl
theorem gb_fit {y : Int32} (h : y = 0 ∨ y = 1) : fits .boolean (.int y) = true := by rcases h with rfl | rfl <;> rfl
def bd {α β : Type} (a : α) (f : α → β) : β := f a
theorem bd_some {α β : Type} {a : α} {f : α → β} {r : β} (h : bd a f = r) (x : α) (e : x = a) : f x = r := by subst e; exact h
def bn {α β : Type} (x : Option (α × rs_T)) (f : α → rs_T → Option β) : Option β := match x with
  | none => none
  | some q => f q.1 q.2
theorem bn_some {α β : Type} {x : Option (α × rs_T)} {f : α → rs_T → Option β} {r : β} (h : bn x f = some r) : ∃ (a : α) (s : rs_T), x = some (a, s) ∧ f a s = some r := by
  cases x with
  | none => cases h
  | some q => exact ⟨q.1, q.2, rfl, h⟩
def bv {β : Type} (x : Option rs_T) (f : rs_T → Option β) : Option β := match x with
  | none => none
  | some q => f q
theorem bv_some {β : Type} {x : Option rs_T} {f : rs_T → Option β} {r : β} (h : bv x f = some r) : ∃ s : rs_T, x = some s ∧ f s = some r := by
  cases x with
  | none => cases h
  | some q => exact ⟨q, rfl, h⟩
-- branches
theorem if_p {α : Type} {q : Prop} {d : Decidable q} {a b r : α} (h : @ite α q d a b = r) (hq : q) : a = r := by rw [if_pos hq] at h; exact h
theorem if_n {α : Type} {q : Prop} {d : Decidable q} {a b r : α} (h : @ite α q d a b = r) (hq : ¬ q) : b = r := by rw [if_neg hq] at h; exact h
-- switches
def tsw (dflt lo hi : Int) (offs : List Int) (z : Int) : Int := if z < lo ∨ hi < z then dflt else (offs[(z - lo).toNat]?).getD dflt
theorem sw_tbt {dflt lo hi : Int} {offs : List Int} {x : Int32} {ks : List Int32} {off : Int} (hx : x ∈ ks) (hd : ks.all (fun k => tsw dflt lo hi offs k.toInt == off) = true) : tsw dflt lo hi offs x.toInt = off := by
  have := List.all_eq_true.mp hd x hx
  simpa using this
theorem sw_nil {x : Int32} : ∀ ks ∈ ([] : List (List Int32)), ¬ x ∈ ks := fun _ h => absurd h List.not_mem_nil
theorem sw_cons {x : Int32} {ks : List Int32} {r : List (List Int32)} (h : ¬ x ∈ ks) (hr : ∀ q ∈ r, ¬ x ∈ q) : ∀ q ∈ ks :: r, ¬ x ∈ q := fun q hq => by
  rcases List.mem_cons.mp hq with e | e
  · rw [e]; exact h
  · exact hr q e
theorem sw_tbd {dflt lo hi : Int} {offs : List Int} {x : Int32} {kss : List (List Int32)} (hx : ∀ q ∈ kss, ¬ x ∈ q) (hd : (List.range offs.length).all (fun i => (offs[i]?).getD dflt == dflt || kss.any (fun ks => ks.any (fun k => k.toInt == lo + (i : Int)))) = true) : tsw dflt lo hi offs x.toInt = dflt := by
  unfold tsw
  split
  · rfl
  · next hz =>
    have hz1 : lo ≤ x.toInt := by omega
    by_cases hl : (x.toInt - lo).toNat < offs.length
    · have h1 := List.all_eq_true.mp hd _ (List.mem_range.mpr hl)
      rcases Bool.or_eq_true_iff.mp h1 with h2 | h2
      · simpa using h2
      · obtain ⟨ks, hks, h3⟩ := List.any_eq_true.mp h2
        obtain ⟨k, hk, h4⟩ := List.any_eq_true.mp h3
        have h5 : k.toInt = lo + ((x.toInt - lo).toNat : Int) := by simpa using h4
        have h6 : k = x := Int32.toInt_inj.mp (by omega)
        exact absurd (h6 ▸ hk) (hx ks hks)
    · rw [List.getElem?_eq_none (by omega)]
      rfl
def lsw (dflt : Int) (ps : List (Int × Int)) (z : Int) : Int := Op.lookupswitch.offset ps dflt z
theorem sw_lut {dflt : Int} {ps : List (Int × Int)} {x : Int32} {ks : List Int32} {off : Int} (hx : x ∈ ks) (hd : ks.all (fun k => lsw dflt ps k.toInt == off) = true) : lsw dflt ps x.toInt = off := by
  have := List.all_eq_true.mp hd x hx
  simpa using this
theorem sw_lud {dflt : Int} {ps : List (Int × Int)} {x : Int32} {kss : List (List Int32)} (hx : ∀ q ∈ kss, ¬ x ∈ q) (hd : ps.all (fun a => a.2 == dflt || kss.any (fun ks => ks.any (fun k => k.toInt == a.1))) = true) : lsw dflt ps x.toInt = dflt := by
  unfold lsw
  induction ps with
  | nil => simp [Op.lookupswitch.offset]
  | cons a r ih =>
    rw [List.all_cons, Bool.and_eq_true] at hd
    obtain ⟨a1, a2⟩ := a
    rw [Op.lookupswitch.offset_cons]
    split
    · next hz =>
      rcases Bool.or_eq_true_iff.mp hd.1 with h2 | h2
      · simpa using h2
      · obtain ⟨ks, hks, h3⟩ := List.any_eq_true.mp h2
        obtain ⟨k, hk, h4⟩ := List.any_eq_true.mp h3
        have h5 : k.toInt = a1 := by simpa using h4
        have h6 : k = x := Int32.toInt_inj.mp (by omega)
        exact absurd (h6 ▸ hk) (hx ks hks)
    · exact ih hd.2
section SW
variable {p : Program} {l : Launch} {e : Env} {R : Room} {s : State} {m : MethodId} {args : Array Value} {below : List Frame} {meth : Method} {c : Code} {H : Heap} {locs : List Loc} {cells slots : Nat} {Q : State → Prop} {cc : ByteArray} {pc : Nat} {ls : Array Slot} {rest : List Value}
theorem sw_tb (hx : p.tables.exec = Jvm.exec) (hb : c.code = cc) {dflt lo hi : Int} {offs : Array Int} {len : Nat} {x : Int32} {off : Int} {tgt : Nat} (hdg : decode cc pc = .ok (.tableswitch dflt lo hi offs, len)) (ho : tsw dflt lo hi offs.toList x.toInt = off) (hn : offs.toList.length = (hi - lo + 1).toNat) (ht : (pc : Int) + off = (tgt : Int))
    (kk : W p l e R s m args below meth c H locs cells slots Q (F0 m tgt ls rest)) : W p l e R s m args below meth c H locs cells slots Q (F0 m pc ls (.int x :: rest)) := by
  unfold tsw at ho
  by_cases h : x.toInt < lo ∨ hi < x.toInt
  · rw [if_pos h] at ho
    subst ho
    exact lv_tableOut hx hb hdg h ht kk
  · rw [if_neg h] at ho
    have hl : (x.toInt - lo).toNat < offs.toList.length := by omega
    have he : offs[(x.toInt - lo).toNat]? = some off := by
      rw [← Array.getElem?_toList, List.getElem?_eq_getElem hl]
      rw [List.getElem?_eq_getElem hl] at ho
      exact congrArg some ho
    exact lv_tableIn hx hb hdg (fun q => h (Or.inl q)) (fun q => h (Or.inr q)) he ht kk
theorem sw_lu (hx : p.tables.exec = Jvm.exec) (hb : c.code = cc) {dflt : Int} {ps : Array (Int × Int)} {len : Nat} {x : Int32} {off : Int} {tgt : Nat} (hdg : decode cc pc = .ok (.lookupswitch dflt ps, len)) (hp : (ps.toList.zip (ps.toList.drop 1)).all (fun (a, next) => a.1 < next.1) = true) (ho : lsw dflt ps.toList x.toInt = off) (ht : (pc : Int) + off = (tgt : Int))
    (kk : W p l e R s m args below meth c H locs cells slots Q (F0 m tgt ls rest)) : W p l e R s m args below meth c H locs cells slots Q (F0 m pc ls (.int x :: rest)) := lv_lookup hx hb hdg hp ho ht kk
end SW
