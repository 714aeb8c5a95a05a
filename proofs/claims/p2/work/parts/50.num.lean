/-! numbers and frames -/
theorem i32_add (a b : Int32) (h1 : -2147483648 ≤ a.toInt + b.toInt) (h2 : a.toInt + b.toInt ≤ 2147483647) : (a + b).toInt = a.toInt + b.toInt := by
  rw [Int32.toInt_add]
  exact Int.bmod_eq_of_le (by omega) (by omega)
theorem i32_sub (a b : Int32) (h1 : -2147483648 ≤ a.toInt - b.toInt) (h2 : a.toInt - b.toInt ≤ 2147483647) : (a - b).toInt = a.toInt - b.toInt := by
  rw [Int32.toInt_sub]
  exact Int.bmod_eq_of_le (by omega) (by omega)
theorem i32_mul (a b : Int32) (h1 : -2147483648 ≤ a.toInt * b.toInt) (h2 : a.toInt * b.toInt ≤ 2147483647) : (a * b).toInt = a.toInt * b.toInt := by
  rw [Int32.toInt_mul]
  exact Int.bmod_eq_of_le (by omega) (by omega)
theorem i32_neg (a : Int32) (h1 : -2147483648 < a.toInt) : (-a).toInt = -a.toInt := by
  rw [Int32.toInt_neg]
  have h2 := a.toInt_le
  have e : Int32.maxValue.toInt = 2147483647 := rfl
  exact Int.bmod_eq_of_le (by omega) (by omega)
theorem i32_lo (a : Int32) : -2147483648 ≤ a.toInt ∧ a.toInt ≤ 2147483647 := by
  have h1 := a.le_toInt
  have h2 := a.toInt_le
  have e1 : Int32.maxValue.toInt = 2147483647 := rfl
  have e2 : Int32.minValue.toInt = -2147483648 := rfl
  omega
theorem tn_eq (a : Int32) : a.toNatClampNeg = a.toInt.toNat := rfl
/-- x & m, m at least 0 -/
theorem i32_and (x m : Int32) (h : 0 ≤ m.toInt) : 0 ≤ (x &&& m).toInt ∧ (x &&& m).toInt ≤ m.toInt := by
  have e : ∀ z : Int32, 0 ≤ z.toInt → z.toInt = (z.toBitVec.toNat : Int) := by
    intro z hz
    have h2 : z.toInt = z.toBitVec.toInt := rfl
    rw [h2] at hz ⊢
    have h3 := BitVec.toInt_eq_toNat_cond z.toBitVec
    rw [h3] at hz ⊢
    split <;> rename_i h4
    · rfl
    · rw [if_neg h4] at hz
      have := z.toBitVec.isLt
      omega
  have hm := e m h
  have hb : (x &&& m).toBitVec.toNat ≤ m.toBitVec.toNat := by
    rw [Int32.toBitVec_and, BitVec.toNat_and]
    exact Nat.and_le_right
  have hlt : m.toBitVec.toNat < 2147483648 := by
    have := (i32_lo m).2
    omega
  have h5 : (x &&& m).toInt = ((x &&& m).toBitVec.toNat : Int) := by
    have h2 : (x &&& m).toInt = (x &&& m).toBitVec.toInt := rfl
    rw [h2, BitVec.toInt_eq_toNat_cond, if_pos (by omega)]
  omega
theorem i32_and' (x m : Int32) (h : 0 ≤ x.toInt) : 0 ≤ (x &&& m).toInt ∧ (x &&& m).toInt ≤ x.toInt := by
  rw [Int32.and_comm]
  exact i32_and m x h
theorem i32_nat (z : Int32) (hz : 0 ≤ z.toInt) : z.toInt = (z.toBitVec.toNat : Int) := by
  have h2 : z.toInt = z.toBitVec.toInt := rfl
  rw [h2] at hz ⊢
  have h3 := BitVec.toInt_eq_toNat_cond z.toBitVec
  rw [h3] at hz ⊢
  split <;> rename_i h4
  · rfl
  · rw [if_neg h4] at hz
    have := z.toBitVec.isLt
    omega
/-- x ^ y of two below 2^k -/
theorem i32_xor (x y : Int32) (k : Nat) (hk : k ≤ 30) (h0 : 0 ≤ x.toInt) (h1 : x.toInt < 2 ^ k) (h2 : 0 ≤ y.toInt) (h3 : y.toInt < 2 ^ k) : 0 ≤ (x ^^^ y).toInt ∧ (x ^^^ y).toInt < 2 ^ k := by
  have hx := i32_nat x h0
  have hy := i32_nat y h2
  have hp : (2 : Int) ^ k = ((2 ^ k : Nat) : Int) := by simp
  have hb : (x ^^^ y).toBitVec.toNat < 2 ^ k := by
    rw [Int32.toBitVec_xor, BitVec.toNat_xor]
    exact Nat.xor_lt_two_pow (by omega) (by omega)
  have hk2 : (2 : Nat) ^ k ≤ 2 ^ 30 := Nat.pow_le_pow_right (by omega) hk
  have h5 : (x ^^^ y).toInt = ((x ^^^ y).toBitVec.toNat : Int) := by
    have h2 : (x ^^^ y).toInt = (x ^^^ y).toBitVec.toInt := rfl
    rw [h2, BitVec.toInt_eq_toNat_cond, if_pos (by omega)]
  omega
def Fr (l r : Nat) (I I' : jdI) : Prop := ∀ a, (a < l ∨ r < a) → I' a = I a
theorem Fr.rf {l r : Nat} {I : jdI} : Fr l r I I := fun _ _ => rfl
theorem Fr.tr {l r l1 r1 l2 r2 : Nat} {I I1 I2 : jdI} (h1 : Fr l1 r1 I I1) (h2 : Fr l2 r2 I1 I2) (e1 : l ≤ l1) (e2 : r1 ≤ r) (e3 : l ≤ l2) (e4 : r2 ≤ r) : Fr l r I I2 := fun a h => by rw [h2 a (by omega), h1 a (by omega)]
theorem Fr_uI {l r id k : Nat} {v : Int32} {I I1 : jdI} (h : Fr l r I I1) (h1 : l ≤ id) (h2 : id ≤ r) : Fr l r I (uI I1 id k v) := fun a ha => by rw [uI_n I1 k v (by omega)]; exact h a ha
theorem Fr_cI {l r id s sp dp k : Nat} {I I1 : jdI} (h : Fr l r I I1) (h1 : l ≤ id) (h2 : id ≤ r) : Fr l r I (cI I1 s id sp dp k) := fun a ha => by
  have e : cI I1 s id sp dp k a = I1 a := if_neg (by omega)
  rw [e]
  exact h a ha
theorem uI_ap (I : jdI) (id k : Nat) (v : Int32) (a b : Nat) : uI I id k v a b = if a = id ∧ b = k then v else I a b := by
  by_cases h : a = id
  · subst h
    rw [uI_s]
    by_cases h2 : b = k
    · subst h2
      simp [upd]
    · simp [upd, h2]
  · rw [uI_n I k v h]
    simp [h]
theorem i32_mulc (a k : Int32) (c : Int) (hk : k.toInt = c) (h1 : -2147483648 ≤ a.toInt * c) (h2 : a.toInt * c ≤ 2147483647) : (a * k).toInt = a.toInt * c := by
  have h := i32_mul a k (by rw [hk]; exact h1) (by rw [hk]; exact h2)
  rw [h, hk]
theorem vp_of {x : Int32} {k : Nat} (h1 : 0 ≤ x.toInt) (h2 : x.toInt < k) : vp_in x k := vp_in_iff.mpr ⟨h1, h2⟩
theorem vp_tn {x : Int32} {k : Nat} (h : vp_in x k) : 0 ≤ x.toInt ∧ x.toInt < k := vp_in_iff.mp h
/-- (1 << p) - 1 -/
theorem ev_eq : ∀ p : Fin 9, ((1 : Int32) <<< (Int32.ofNat p.val &&& 31)).toInt = 2 ^ p.val ∧ (((1 : Int32) <<< (Int32.ofNat p.val &&& 31)) - 1).toInt = 2 ^ p.val - 1 := by decide +kernel
theorem i32_ofNat {x : Int32} (h : 0 ≤ x.toInt) : x = Int32.ofNat x.toInt.toNat := by
  apply Int32.toInt_inj.mp
  have h2 := (i32_lo x).2
  rw [show Int32.ofNat x.toInt.toNat = nI x.toInt.toNat from rfl, nI_toInt (by omega)]
  omega
theorem ev_of {x : Int32} (h0 : 0 ≤ x.toInt) (h8 : x.toInt ≤ 8) : ((1 : Int32) <<< (x &&& 31)).toInt = 2 ^ x.toInt.toNat ∧ (((1 : Int32) <<< (x &&& 31)) - 1).toInt = 2 ^ x.toInt.toNat - 1 := by
  have h := ev_eq ⟨x.toInt.toNat, by omega⟩
  rw [← i32_ofNat h0] at h
  exact h
theorem ev_8 {x : Int32} (h0 : 0 ≤ x.toInt) (h8 : x.toInt ≤ 8) : 1 ≤ ((1 : Int32) <<< (x &&& 31)).toInt ∧ ((1 : Int32) <<< (x &&& 31)).toInt ≤ 256 ∧ 0 ≤ (((1 : Int32) <<< (x &&& 31)) - 1).toInt ∧ (((1 : Int32) <<< (x &&& 31)) - 1).toInt ≤ 255 := by
  obtain ⟨h1, h2⟩ := ev_of h0 h8
  have h3 : x.toInt.toNat ≤ 8 := by omega
  have h4 : (2 : Int) ^ x.toInt.toNat = ((2 ^ x.toInt.toNat : Nat) : Int) := by simp
  have h5 : 2 ^ x.toInt.toNat ≤ 2 ^ 8 := Nat.pow_le_pow_right (by omega) h3
  have h6 : 0 < 2 ^ x.toInt.toNat := Nat.pow_pos (by omega)
  omega
theorem ev_7 {x : Int32} (h0 : 0 ≤ x.toInt) (h8 : x.toInt ≤ 7) : 1 ≤ ((1 : Int32) <<< (x &&& 31)).toInt ∧ ((1 : Int32) <<< (x &&& 31)).toInt ≤ 128 ∧ 0 ≤ (((1 : Int32) <<< (x &&& 31)) - 1).toInt ∧ (((1 : Int32) <<< (x &&& 31)) - 1).toInt ≤ 127 := by
  obtain ⟨h1, h2⟩ := ev_of h0 (by omega)
  have h3 : x.toInt.toNat ≤ 7 := by omega
  have h4 : (2 : Int) ^ x.toInt.toNat = ((2 ^ x.toInt.toNat : Nat) : Int) := by simp
  have h5 : 2 ^ x.toInt.toNat ≤ 2 ^ 7 := Nat.pow_le_pow_right (by omega) h3
  have h6 : 0 < 2 ^ x.toInt.toNat := Nat.pow_pos (by omega)
  omega
/-- what is constrained of the object's own cells -/
def WX (I : jdI) : Prop := (0 ≤ (I 1 3).toInt ∧ (I 1 3).toInt ≤ 7) ∧ (0 ≤ (I 5 3).toInt ∧ (I 5 3).toInt ≤ 7) ∧ (0 ≤ (I 9 3).toInt ∧ (I 9 3).toInt ≤ 7) ∧ (0 ≤ (I 13 6).toInt ∧ (I 13 6).toInt ≤ 8) ∧ (0 ≤ (I 13 8).toInt ∧ (I 13 8).toInt ≤ 70) ∧ (0 ≤ (I 20 4).toInt ∧ (I 20 4).toInt ≤ 7) ∧ (0 ≤ (I 25 1).toInt ∧ (I 25 1).toInt ≤ 250) ∧ (0 ≤ (I 25 3).toInt ∧ (I 25 3).toInt ≤ 250) ∧ (0 ≤ (I 25 4).toInt ∧ (I 25 4).toInt ≤ 250) ∧ ∀ i, i < 8 → 0 ≤ (I (29 + 2 * i) 2).toInt ∧ (I (29 + 2 * i) 2).toInt ≤ 40
def okX (id k : Nat) (v : Int) : Prop := ((id = 1 ∨ id = 5 ∨ id = 9) ∧ k = 3 → 0 ≤ v ∧ v ≤ 7) ∧ (id = 13 ∧ k = 6 → 0 ≤ v ∧ v ≤ 8) ∧ (id = 13 ∧ k = 8 → 0 ≤ v ∧ v ≤ 70) ∧ (id = 20 ∧ k = 4 → 0 ≤ v ∧ v ≤ 7) ∧ (id = 25 ∧ (k = 1 ∨ k = 3 ∨ k = 4) → 0 ≤ v ∧ v ≤ 250) ∧ (29 ≤ id ∧ id ≤ 43 ∧ k = 2 → 0 ≤ v ∧ v ≤ 40)
theorem WX_uI {I : jdI} {id k : Nat} {v : Int32} (h : WX I) (hc : okX id k v.toInt) : WX (uI I id k v) := by
  obtain ⟨h1, h2, h3, h4, h5, h6, h7, h8, h9, hs⟩ := h
  obtain ⟨c1, c2, c3, c4, c5, c6⟩ := hc
  refine ⟨?_, ?_, ?_, ?_, ?_, ?_, ?_, ?_, ?_, fun i hi => ?_⟩
  all_goals rw [uI_ap]
  all_goals split
  all_goals first | assumption | exact hs i hi | omega
theorem WX_fr {I I' : jdI} {l r : Nat} (h : WX I) (hF : Fr l r I I') (hr : r ≤ 0 ∨ 45 ≤ l ∨ (l = 2 ∧ r ≤ 4) ∨ (26 ≤ l ∧ r ≤ 28)) : WX I' := by
  obtain ⟨h1, h2, h3, h4, h5, h6, h7, h8, h9, hs⟩ := h
  refine ⟨?_, ?_, ?_, ?_, ?_, ?_, ?_, ?_, ?_, fun i hi => ?_⟩
  all_goals rw [hF _ (by omega)]
  all_goals first | assumption | exact hs i hi
theorem i32_addI (a b : Int32) : (-2147483648 ≤ a.toInt + b.toInt ∧ a.toInt + b.toInt ≤ 2147483647) → (a + b).toInt = a.toInt + b.toInt := fun h => i32_add a b h.1 h.2
theorem i32_subI (a b : Int32) : (-2147483648 ≤ a.toInt - b.toInt ∧ a.toInt - b.toInt ≤ 2147483647) → (a - b).toInt = a.toInt - b.toInt := fun h => i32_sub a b h.1 h.2
theorem i32_mulcI (a k : Int32) (c : Int) (hk : k.toInt = c) : (-2147483648 ≤ a.toInt * c ∧ a.toInt * c ≤ 2147483647) → (a * k).toInt = a.toInt * c := fun h => i32_mulc a k c hk h.1 h.2
theorem i32_negI (a : Int32) : -2147483648 < a.toInt → (-a).toInt = -a.toInt := i32_neg a
theorem WX_town {I : jdI} {t : Nat} (h : WX I) (ht : t = 1 ∨ t = 5 ∨ t = 9) : 0 ≤ (I t 3).toInt ∧ (I t 3).toInt ≤ 7 := by
  obtain ⟨h1, h2, h3, -⟩ := h
  rcases ht with rfl | rfl | rfl
  · exact h1
  · exact h2
  · exact h3
theorem WX_cI {I : jdI} {s id sp dp k : Nat} (h : WX I) (hc : ¬ (id = 1 ∨ id = 5 ∨ id = 9 ∨ id = 13 ∨ id = 20 ∨ id = 25 ∨ (29 ≤ id ∧ id ≤ 43 ∧ id % 2 = 1))) : WX (cI I s id sp dp k) := by
  obtain ⟨h1, h2, h3, h4, h5, h6, h7, h8, h9, hs⟩ := h
  have e : ∀ a, a ≠ id → cI I s id sp dp k a = I a := fun a ha => if_neg ha
  refine ⟨?_, ?_, ?_, ?_, ?_, ?_, ?_, ?_, ?_, fun i hi => ?_⟩
  all_goals rw [e _ (by omega)]
  all_goals first | assumption | exact hs i hi
