/-! numbers and frames -/
theorem i32_add (a b : Int32) (h1 : -2147483648 ≤ a.toInt + b.toInt) (h2 : a.toInt + b.toInt ≤ 2147483647) : (a + b).toInt = a.toInt + b.toInt := by
  rw [Int32.toInt_add]
  exact Int.bmod_eq_of_le (by omega) (by omega)
theorem i32_sub (a b : Int32) (h1 : -2147483648 ≤ a.toInt - b.toInt) (h2 : a.toInt - b.toInt ≤ 2147483647) : (a - b).toInt = a.toInt - b.toInt := by
  rw [Int32.toInt_sub]
  exact Int.bmod_eq_of_le (by omega) (by omega)
theorem i32_mul (a b : Int32) (h1 : -2147483648 ≤ a.toInt * b.toInt) (h2 : a.toInt * b.toInt ≤ 2147483647) : (a * b).toInt = a.toInt * b.toInt := by
  rw [Int32.toInt_mul]
  exact Int.bmod_eq_of_le (by omega) (by omega)
theorem i32_neg (a : Int32) (h1 : -2147483648 < a.toInt) : (-a).toInt = -a.toInt := by
  rw [Int32.toInt_neg]
  have h2 := a.toInt_le
  have e : Int32.maxValue.toInt = 2147483647 := rfl
  exact Int.bmod_eq_of_le (by omega) (by omega)
theorem i32_lo (a : Int32) : -2147483648 ≤ a.toInt ∧ a.toInt ≤ 2147483647 := by
  have h1 := a.le_toInt
  have h2 := a.toInt_le
  have e1 : Int32.maxValue.toInt = 2147483647 := rfl
  have e2 : Int32.minValue.toInt = -2147483648 := rfl
  omega
theorem i32_sel (x y p q : Int32) : (x.toInt < y.toInt ∧ (if x < y then p else q).toInt = p.toInt) ∨ (¬ x.toInt < y.toInt ∧ (if x < y then p else q).toInt = q.toInt) := by
  split
  · rename_i h
    exact Or.inl ⟨Int32.lt_iff_toInt_lt.mp h, rfl⟩
  · rename_i h
    exact Or.inr ⟨mt Int32.lt_iff_toInt_lt.mpr h, rfl⟩
theorem tn_eq (a : Int32) : a.toNatClampNeg = a.toInt.toNat := rfl
/-- x & m, m at least 0 -/
theorem i32_and (x m : Int32) (h : 0 ≤ m.toInt) : 0 ≤ (x &&& m).toInt ∧ (x &&& m).toInt ≤ m.toInt := by
  have e : ∀ z : Int32, 0 ≤ z.toInt → z.toInt = (z.toBitVec.toNat : Int) := by
    intro z hz
    have h2 : z.toInt = z.toBitVec.toInt := rfl
    rw [h2] at hz ⊢
    have h3 := BitVec.toInt_eq_toNat_cond z.toBitVec
    rw [h3] at hz ⊢
    split <;> rename_i h4
    · rfl
    · rw [if_neg h4] at hz
      have := z.toBitVec.isLt
      omega
  have hm := e m h
  have hb : (x &&& m).toBitVec.toNat ≤ m.toBitVec.toNat := by
    rw [Int32.toBitVec_and, BitVec.toNat_and]
    exact Nat.and_le_right
  have hlt : m.toBitVec.toNat < 2147483648 := by
    have := (i32_lo m).2
    omega
  have h5 : (x &&& m).toInt = ((x &&& m).toBitVec.toNat : Int) := by
    have h2 : (x &&& m).toInt = (x &&& m).toBitVec.toInt := rfl
    rw [h2, BitVec.toInt_eq_toNat_cond, if_pos (by omega)]
  omega
theorem i32_and' (x m : Int32) (h : 0 ≤ x.toInt) : 0 ≤ (x &&& m).toInt ∧ (x &&& m).toInt ≤ x.toInt := by
  rw [Int32.and_comm]
  exact i32_and m x h
theorem i32_nat (z : Int32) (hz : 0 ≤ z.toInt) : z.toInt = (z.toBitVec.toNat : Int) := by
  have h2 : z.toInt = z.toBitVec.toInt := rfl
  rw [h2] at hz ⊢
  have h3 := BitVec.toInt_eq_toNat_cond z.toBitVec
  rw [h3] at hz ⊢
  split <;> rename_i h4
  · rfl
  · rw [if_neg h4] at hz
    have := z.toBitVec.isLt
    omega
/-- x ^ y of two below 2^k -/
theorem i32_xor (x y : Int32) (k : Nat) (hk : k ≤ 30) (h0 : 0 ≤ x.toInt) (h1 : x.toInt < 2 ^ k) (h2 : 0 ≤ y.toInt) (h3 : y.toInt < 2 ^ k) : 0 ≤ (x ^^^ y).toInt ∧ (x ^^^ y).toInt < 2 ^ k := by
  have hx := i32_nat x h0
  have hy := i32_nat y h2
  have hp : (2 : Int) ^ k = ((2 ^ k : Nat) : Int) := by simp
  have hb : (x ^^^ y).toBitVec.toNat < 2 ^ k := by
    rw [Int32.toBitVec_xor, BitVec.toNat_xor]
    exact Nat.xor_lt_two_pow (by omega) (by omega)
  have hk2 : (2 : Nat) ^ k ≤ 2 ^ 30 := Nat.pow_le_pow_right (by omega) hk
  have h5 : (x ^^^ y).toInt = ((x ^^^ y).toBitVec.toNat : Int) := by
    have h2 : (x ^^^ y).toInt = (x ^^^ y).toBitVec.toInt := rfl
    rw [h2, BitVec.toInt_eq_toNat_cond, if_pos (by omega)]
  omega
theorem uI_ap (I : jdI) (id k : Nat) (v : Int32) (a b : Nat) : uI I id k v a b = if a = id ∧ b = k then v else I a b := by
  by_cases h : a = id
  · subst h
    rw [uI_s]
    by_cases h2 : b = k
    · subst h2
      simp [upd]
    · simp [upd, h2]
  · rw [uI_n I k v h]
    simp [h]
def Fr (p : Nat → Nat → Prop) (I I' : jdI) : Prop := ∀ a k, ¬ p a k → I' a k = I a k
theorem Fr.rf {p : Nat → Nat → Prop} {I : jdI} : Fr p I I := fun _ _ _ => rfl
theorem Fr.tr {p p2 : Nat → Nat → Prop} {I I1 I2 : jdI} (h1 : Fr p I I1) (h2 : Fr p2 I1 I2) (e2 : ∀ a k, p2 a k → p a k) : Fr p I I2 := fun a k h => by rw [h2 a k (mt (e2 a k) h), h1 a k h]
theorem Fr_uI {p : Nat → Nat → Prop} {id k : Nat} {v : Int32} {I I1 : jdI} (h : Fr p I I1) (h1 : p id k) : Fr p I (uI I1 id k v) := fun a b ha => by
  rw [uI_ap, if_neg]
  · exact h a b ha
  · intro e
    rw [e.1, e.2] at ha
    exact ha h1
theorem Fr_cI {p : Nat → Nat → Prop} {id s sp dp k : Nat} {I I1 : jdI} (h : Fr p I I1) (h1 : ∀ j, p id j) : Fr p I (cI I1 s id sp dp k) := fun a b ha => by
  have hne : a ≠ id := by
    intro e
    rw [e] at ha
    exact ha (h1 b)
  have e : cI I1 s id sp dp k a = I1 a := if_neg hne
  rw [e]
  exact h a b ha
theorem i32_mulc (a k : Int32) (c : Int) (hk : k.toInt = c) (h1 : -2147483648 ≤ a.toInt * c) (h2 : a.toInt * c ≤ 2147483647) : (a * k).toInt = a.toInt * c := by
  have h := i32_mul a k (by rw [hk]; exact h1) (by rw [hk]; exact h2)
  rw [h, hk]
theorem vp_of {x : Int32} {k : Nat} (h1 : 0 ≤ x.toInt) (h2 : x.toInt < k) : vp_in x k := vp_in_iff.mpr ⟨h1, h2⟩
theorem vp_tn {x : Int32} {k : Nat} (h : vp_in x k) : 0 ≤ x.toInt ∧ x.toInt < k := vp_in_iff.mp h
/-- (1 << p) - 1 -/
theorem ev_eq : ∀ p : Fin 9, ((1 : Int32) <<< (Int32.ofNat p.val &&& 31)).toInt = 2 ^ p.val ∧ (((1 : Int32) <<< (Int32.ofNat p.val &&& 31)) - 1).toInt = 2 ^ p.val - 1 := by decide +kernel
theorem i32_ofNat {x : Int32} (h : 0 ≤ x.toInt) : x = Int32.ofNat x.toInt.toNat := by
  apply Int32.toInt_inj.mp
  have h2 := (i32_lo x).2
  rw [show Int32.ofNat x.toInt.toNat = nI x.toInt.toNat from rfl, nI_toInt (by omega)]
  omega
theorem ev_of {x : Int32} (h0 : 0 ≤ x.toInt) (h8 : x.toInt ≤ 8) : ((1 : Int32) <<< (x &&& 31)).toInt = 2 ^ x.toInt.toNat ∧ (((1 : Int32) <<< (x &&& 31)) - 1).toInt = 2 ^ x.toInt.toNat - 1 := by
  have h := ev_eq ⟨x.toInt.toNat, by omega⟩
  rw [← i32_ofNat h0] at h
  exact h
theorem ev_8 {x : Int32} (h0 : 0 ≤ x.toInt) (h8 : x.toInt ≤ 8) : 1 ≤ ((1 : Int32) <<< (x &&& 31)).toInt ∧ ((1 : Int32) <<< (x &&& 31)).toInt ≤ 256 ∧ 0 ≤ (((1 : Int32) <<< (x &&& 31)) - 1).toInt ∧ (((1 : Int32) <<< (x &&& 31)) - 1).toInt ≤ 255 := by
  obtain ⟨h1, h2⟩ := ev_of h0 h8
  have h3 : x.toInt.toNat ≤ 8 := by omega
  have h4 : (2 : Int) ^ x.toInt.toNat = ((2 ^ x.toInt.toNat : Nat) : Int) := by simp
  have h5 : 2 ^ x.toInt.toNat ≤ 2 ^ 8 := Nat.pow_le_pow_right (by omega) h3
  have h6 : 0 < 2 ^ x.toInt.toNat := Nat.pow_pos (by omega)
  omega
theorem ev_7 {x : Int32} (h0 : 0 ≤ x.toInt) (h8 : x.toInt ≤ 7) : 1 ≤ ((1 : Int32) <<< (x &&& 31)).toInt ∧ ((1 : Int32) <<< (x &&& 31)).toInt ≤ 128 ∧ 0 ≤ (((1 : Int32) <<< (x &&& 31)) - 1).toInt ∧ (((1 : Int32) <<< (x &&& 31)) - 1).toInt ≤ 127 := by
  obtain ⟨h1, h2⟩ := ev_of h0 (by omega)
  have h3 : x.toInt.toNat ≤ 7 := by omega
  have h4 : (2 : Int) ^ x.toInt.toNat = ((2 ^ x.toInt.toNat : Nat) : Int) := by simp
  have h5 : 2 ^ x.toInt.toNat ≤ 2 ^ 7 := Nat.pow_le_pow_right (by omega) h3
  have h6 : 0 < 2 ^ x.toInt.toNat := Nat.pow_pos (by omega)
  omega
theorem i32_addI (a b : Int32) : (-2147483648 ≤ a.toInt + b.toInt ∧ a.toInt + b.toInt ≤ 2147483647) → (a + b).toInt = a.toInt + b.toInt := fun h => i32_add a b h.1 h.2
theorem i32_subI (a b : Int32) : (-2147483648 ≤ a.toInt - b.toInt ∧ a.toInt - b.toInt ≤ 2147483647) → (a - b).toInt = a.toInt - b.toInt := fun h => i32_sub a b h.1 h.2
theorem i32_mulcI (a k : Int32) (c : Int) (hk : k.toInt = c) : (-2147483648 ≤ a.toInt * c ∧ a.toInt * c ≤ 2147483647) → (a * k).toInt = a.toInt * c := fun h => i32_mulc a k c hk h.1 h.2
theorem i32_negI (a : Int32) : -2147483648 < a.toInt → (-a).toInt = -a.toInt := i32_neg a
/-- what is constrained of the object's own cells -/
def WX (I : jdI) : Prop := ((0 ≤ (I 1 3).toInt ∧ (I 1 3).toInt ≤ 7) ∧ (0 ≤ (I 5 3).toInt ∧ (I 5 3).toInt ≤ 7) ∧ (0 ≤ (I 9 3).toInt ∧ (I 9 3).toInt ≤ 7) ∧ (2 ≤ (I 1 4).toInt ∧ (I 1 4).toInt ≤ 4) ∧ (2 ≤ (I 5 4).toInt ∧ (I 5 4).toInt ≤ 4) ∧ (2 ≤ (I 9 4).toInt ∧ (I 9 4).toInt ≤ 4) ∧ (0 ≤ (I 13 6).toInt ∧ (I 13 6).toInt ≤ 8) ∧ (0 ≤ (I 13 7).toInt ∧ (I 13 7).toInt ≤ 4) ∧ (0 ≤ (I 13 8).toInt ∧ (I 13 8).toInt ≤ 70) ∧ (0 ≤ (I 20 4).toInt ∧ (I 20 4).toInt ≤ 7) ∧ (0 ≤ (I 25 1).toInt ∧ (I 25 1).toInt ≤ 250) ∧ (0 ≤ (I 25 3).toInt ∧ (I 25 3).toInt ≤ 250) ∧ (0 ≤ (I 25 4).toInt ∧ (I 25 4).toInt ≤ 250)) ∧ ∀ i, i < 8 → 0 ≤ (I (29 + 2 * i) 2).toInt ∧ (I (29 + 2 * i) 2).toInt ≤ 40
theorem WX_f {I : jdI} (h : WX I) : (0 ≤ (I 1 3).toInt ∧ (I 1 3).toInt ≤ 7) ∧ (0 ≤ (I 5 3).toInt ∧ (I 5 3).toInt ≤ 7) ∧ (0 ≤ (I 9 3).toInt ∧ (I 9 3).toInt ≤ 7) ∧ (2 ≤ (I 1 4).toInt ∧ (I 1 4).toInt ≤ 4) ∧ (2 ≤ (I 5 4).toInt ∧ (I 5 4).toInt ≤ 4) ∧ (2 ≤ (I 9 4).toInt ∧ (I 9 4).toInt ≤ 4) ∧ (0 ≤ (I 13 6).toInt ∧ (I 13 6).toInt ≤ 8) ∧ (0 ≤ (I 13 7).toInt ∧ (I 13 7).toInt ≤ 4) ∧ (0 ≤ (I 13 8).toInt ∧ (I 13 8).toInt ≤ 70) ∧ (0 ≤ (I 20 4).toInt ∧ (I 20 4).toInt ≤ 7) ∧ (0 ≤ (I 25 1).toInt ∧ (I 25 1).toInt ≤ 250) ∧ (0 ≤ (I 25 3).toInt ∧ (I 25 3).toInt ≤ 250) ∧ (0 ≤ (I 25 4).toInt ∧ (I 25 4).toInt ≤ 250) := h.1
def okX (id k : Nat) (v : Int) : Prop := ((id = 1 ∨ id = 5 ∨ id = 9) ∧ k = 3 → 0 ≤ v ∧ v ≤ 7) ∧ ((id = 1 ∨ id = 5 ∨ id = 9) ∧ k = 4 → 2 ≤ v ∧ v ≤ 4) ∧ (id = 13 ∧ k = 6 → 0 ≤ v ∧ v ≤ 8) ∧ (id = 13 ∧ k = 7 → 0 ≤ v ∧ v ≤ 4) ∧ (id = 13 ∧ k = 8 → 0 ≤ v ∧ v ≤ 70) ∧ (id = 20 ∧ k = 4 → 0 ≤ v ∧ v ≤ 7) ∧ (id = 25 ∧ k = 1 → 0 ≤ v ∧ v ≤ 250) ∧ (id = 25 ∧ k = 3 → 0 ≤ v ∧ v ≤ 250) ∧ (id = 25 ∧ k = 4 → 0 ≤ v ∧ v ≤ 250) ∧ (29 ≤ id ∧ id ≤ 43 ∧ k = 2 → 0 ≤ v ∧ v ≤ 40)
theorem rg_uI {I : jdI} {id k i j : Nat} {v : Int32} {lo hi : Int} (h : lo ≤ (I i j).toInt ∧ (I i j).toInt ≤ hi) (hc : id = i ∧ k = j → lo ≤ v.toInt ∧ v.toInt ≤ hi) : lo ≤ ((uI I id k v) i j).toInt ∧ ((uI I id k v) i j).toInt ≤ hi := by
  rw [uI_ap]
  split
  · rename_i e
    exact hc ⟨e.1.symm, e.2.symm⟩
  · exact h
theorem WX_uI {I : jdI} {id k : Nat} {v : Int32} (h : WX I) (hc : okX id k v.toInt) : WX (uI I id k v) := by
  obtain ⟨⟨h0, h1, h2, h3, h4, h5, h6, h7, h8, h9, h10, h11, h12⟩, hs⟩ := h
  obtain ⟨c0, c1, c2, c3, c4, c5, c6, c7, c8, c9⟩ := hc
  exact ⟨⟨rg_uI h0 (fun e => c0 ⟨Or.inl e.1, e.2⟩), rg_uI h1 (fun e => c0 ⟨Or.inr (Or.inl e.1), e.2⟩), rg_uI h2 (fun e => c0 ⟨Or.inr (Or.inr e.1), e.2⟩), rg_uI h3 (fun e => c1 ⟨Or.inl e.1, e.2⟩), rg_uI h4 (fun e => c1 ⟨Or.inr (Or.inl e.1), e.2⟩), rg_uI h5 (fun e => c1 ⟨Or.inr (Or.inr e.1), e.2⟩), rg_uI h6 c2, rg_uI h7 c3, rg_uI h8 c4, rg_uI h9 c5, rg_uI h10 c6, rg_uI h11 c7, rg_uI h12 c8⟩, fun i hi => rg_uI (hs i hi) (fun e => c9 ⟨by omega, by omega, e.2⟩)⟩
theorem rg_eq {I I' : jdI} {i j : Nat} {lo hi : Int} (h : lo ≤ (I i j).toInt ∧ (I i j).toInt ≤ hi) (e : I' i j = I i j) : lo ≤ (I' i j).toInt ∧ (I' i j).toInt ≤ hi := by
  rw [e]
  exact h
theorem WX_fr {I I' : jdI} {p : Nat → Nat → Prop} (h : WX I) (hF : Fr p I I') (hr : ∀ a k, a = 1 ∨ a = 5 ∨ a = 9 ∨ a = 13 ∨ a = 20 ∨ a = 25 ∨ (29 ≤ a ∧ a ≤ 43) → ¬ p a k) : WX I' := by
  obtain ⟨⟨h0, h1, h2, h3, h4, h5, h6, h7, h8, h9, h10, h11, h12⟩, hs⟩ := h
  exact ⟨⟨rg_eq h0 (hF _ _ (hr _ _ (by decide))), rg_eq h1 (hF _ _ (hr _ _ (by decide))), rg_eq h2 (hF _ _ (hr _ _ (by decide))), rg_eq h3 (hF _ _ (hr _ _ (by decide))), rg_eq h4 (hF _ _ (hr _ _ (by decide))), rg_eq h5 (hF _ _ (hr _ _ (by decide))), rg_eq h6 (hF _ _ (hr _ _ (by decide))), rg_eq h7 (hF _ _ (hr _ _ (by decide))), rg_eq h8 (hF _ _ (hr _ _ (by decide))), rg_eq h9 (hF _ _ (hr _ _ (by decide))), rg_eq h10 (hF _ _ (hr _ _ (by decide))), rg_eq h11 (hF _ _ (hr _ _ (by decide))), rg_eq h12 (hF _ _ (hr _ _ (by decide)))⟩, fun i hi => rg_eq (hs i hi) (hF _ _ (hr _ _ (by omega)))⟩
theorem WX_town {I : jdI} {t : Nat} (h : WX I) (ht : t = 1 ∨ t = 5 ∨ t = 9) : (0 ≤ (I t 3).toInt ∧ (I t 3).toInt ≤ 7) ∧ (2 ≤ (I t 4).toInt ∧ (I t 4).toInt ≤ 4) := by
  have h := WX_f h
  rcases ht with rfl | rfl | rfl
  · exact ⟨by omega, by omega⟩
  · exact ⟨by omega, by omega⟩
  · exact ⟨by omega, by omega⟩
theorem WX_shelf {I : jdI} {t : Nat} (h : WX I) (ht : 29 ≤ t ∧ t ≤ 43 ∧ t % 2 = 1) : 0 ≤ (I t 2).toInt ∧ (I t 2).toInt ≤ 40 := by
  have h1 := h.2 ((t - 29) / 2) (by omega)
  rw [show 29 + 2 * ((t - 29) / 2) = t by omega] at h1
  exact h1
theorem WX_cI {I : jdI} {s id sp dp k : Nat} (h : WX I) (hc : ¬ (id = 1 ∨ id = 5 ∨ id = 9 ∨ id = 13 ∨ id = 20 ∨ id = 25 ∨ (29 ≤ id ∧ id ≤ 43))) : WX (cI I s id sp dp k) :=
  WX_fr (p := fun a _ => a = id) h (Fr_cI Fr.rf (fun _ => rfl)) (fun a _ h e => hc (e ▸ h))
/-- what is constrained of a model's cells -/
def WM (c : Int) (b : Nat) (I : jdI) : Prop := ((0 ≤ (I b 10).toInt ∧ (I b 10).toInt ≤ c) ∧ (2 ≤ (I b 14).toInt ∧ (I b 14).toInt ≤ 4) ∧ (0 ≤ (I b 8).toInt ∧ (I b 8).toInt ≤ 250) ∧ (0 ≤ (I b 22).toInt ∧ (I b 22).toInt ≤ 250) ∧ (0 ≤ (I b 24).toInt ∧ (I b 24).toInt ≤ 250) ∧ (0 ≤ (I b 30).toInt ∧ (I b 30).toInt ≤ 70) ∧ (0 ≤ (I b 33).toInt ∧ (I b 33).toInt ≤ 7) ∧ (0 ≤ (I b 42).toInt ∧ (I b 42).toInt ≤ 10)) ∧ (∀ k, k < 8 → 0 ≤ (I (b + 3) k).toInt ∧ (I (b + 3) k).toInt ≤ 40) ∧ (∀ k, k < 7 → 0 ≤ (I (b + 31) k).toInt ∧ (I (b + 31) k).toInt ≤ 6) ∧ (∀ k, k < 10 → 0 ≤ (I (b + 35) k).toInt ∧ (I (b + 35) k).toInt ≤ 6) ∧ (∀ k, k < 10 → 0 ≤ (I (b + 36) k).toInt ∧ (I (b + 36) k).toInt ≤ 6)
theorem WM_f {c : Int} {b : Nat} {I : jdI} (h : WM c b I) : (0 ≤ (I b 10).toInt ∧ (I b 10).toInt ≤ c) ∧ (2 ≤ (I b 14).toInt ∧ (I b 14).toInt ≤ 4) ∧ (0 ≤ (I b 8).toInt ∧ (I b 8).toInt ≤ 250) ∧ (0 ≤ (I b 22).toInt ∧ (I b 22).toInt ≤ 250) ∧ (0 ≤ (I b 24).toInt ∧ (I b 24).toInt ≤ 250) ∧ (0 ≤ (I b 30).toInt ∧ (I b 30).toInt ≤ 70) ∧ (0 ≤ (I b 33).toInt ∧ (I b 33).toInt ≤ 7) ∧ (0 ≤ (I b 42).toInt ∧ (I b 42).toInt ≤ 10) := h.1
def okM (c : Int) (b : Nat) (id k : Nat) (v : Int) : Prop := (id = b ∧ k = 10 → 0 ≤ v ∧ v ≤ c) ∧ (id = b ∧ k = 14 → 2 ≤ v ∧ v ≤ 4) ∧ (id = b ∧ k = 8 → 0 ≤ v ∧ v ≤ 250) ∧ (id = b ∧ k = 22 → 0 ≤ v ∧ v ≤ 250) ∧ (id = b ∧ k = 24 → 0 ≤ v ∧ v ≤ 250) ∧ (id = b ∧ k = 30 → 0 ≤ v ∧ v ≤ 70) ∧ (id = b ∧ k = 33 → 0 ≤ v ∧ v ≤ 7) ∧ (id = b ∧ k = 42 → 0 ≤ v ∧ v ≤ 10) ∧ (id = b + 3 ∧ k < 8 → 0 ≤ v ∧ v ≤ 40) ∧ (id = b + 31 ∧ k < 7 → 0 ≤ v ∧ v ≤ 6) ∧ (id = b + 35 ∧ k < 10 → 0 ≤ v ∧ v ≤ 6) ∧ (id = b + 36 ∧ k < 10 → 0 ≤ v ∧ v ≤ 6)
theorem WM_uI {c : Int} {b : Nat} {I : jdI} {id k : Nat} {v : Int32} (h : WM c b I) (hc : okM c b id k v.toInt) : WM c b (uI I id k v) := by
  obtain ⟨⟨h0, h1, h2, h3, h4, h5, h6, h7⟩, a0, a1, a2, a3⟩ := h
  obtain ⟨c0, c1, c2, c3, c4, c5, c6, c7, c8, c9, c10, c11⟩ := hc
  exact ⟨⟨rg_uI h0 c0, rg_uI h1 c1, rg_uI h2 c2, rg_uI h3 c3, rg_uI h4 c4, rg_uI h5 c5, rg_uI h6 c6, rg_uI h7 c7⟩, fun i hi => rg_uI (a0 i hi) (fun e => c8 ⟨e.1, by omega⟩), fun i hi => rg_uI (a1 i hi) (fun e => c9 ⟨e.1, by omega⟩), fun i hi => rg_uI (a2 i hi) (fun e => c10 ⟨e.1, by omega⟩), fun i hi => rg_uI (a3 i hi) (fun e => c11 ⟨e.1, by omega⟩)⟩
theorem WM_fr {c : Int} {b : Nat} {I I' : jdI} {p : Nat → Nat → Prop} (h : WM c b I) (hF : Fr p I I') (hr : ∀ a k, b ≤ a → a ≤ b + 37 → ¬ p a k) : WM c b I' := by
  obtain ⟨⟨h0, h1, h2, h3, h4, h5, h6, h7⟩, a0, a1, a2, a3⟩ := h
  have e0 := fun k => hF b k (hr b k (by omega) (by omega))
  have e1 := fun k => hF (b + 3) k (hr _ k (by omega) (by omega))
  have e2 := fun k => hF (b + 31) k (hr _ k (by omega) (by omega))
  have e3 := fun k => hF (b + 35) k (hr _ k (by omega) (by omega))
  have e4 := fun k => hF (b + 36) k (hr _ k (by omega) (by omega))
  exact ⟨⟨rg_eq h0 (e0 _), rg_eq h1 (e0 _), rg_eq h2 (e0 _), rg_eq h3 (e0 _), rg_eq h4 (e0 _), rg_eq h5 (e0 _), rg_eq h6 (e0 _), rg_eq h7 (e0 _)⟩, fun i hi => rg_eq (a0 i hi) (e1 i), fun i hi => rg_eq (a1 i hi) (e2 i), fun i hi => rg_eq (a2 i hi) (e3 i), fun i hi => rg_eq (a3 i hi) (e4 i)⟩
theorem WM_mono {c c2 : Int} {b : Nat} {I : jdI} (h : WM c b I) (hc : c ≤ c2) : WM c2 b I := by
  obtain ⟨⟨h0, h1, h2, h3, h4, h5, h6, h7⟩, a0, a1, a2, a3⟩ := h
  exact ⟨⟨by omega, h1, h2, h3, h4, h5, h6, h7⟩, a0, a1, a2, a3⟩
theorem WM_rowSize {c : Int} {b : Nat} {I : jdI} (h : WM c b I) {k : Nat} (hk : k < 8) : 0 ≤ (I (b + 3) k).toInt ∧ (I (b + 3) k).toInt ≤ 40 := h.2.1 k hk
theorem WM_coming {c : Int} {b : Nat} {I : jdI} (h : WM c b I) {k : Nat} (hk : k < 7) : 0 ≤ (I (b + 31) k).toInt ∧ (I (b + 31) k).toInt ≤ 6 := h.2.2.1 k hk
theorem WM_pairP {c : Int} {b : Nat} {I : jdI} (h : WM c b I) {k : Nat} (hk : k < 10) : 0 ≤ (I (b + 35) k).toInt ∧ (I (b + 35) k).toInt ≤ 6 := h.2.2.2.1 k hk
theorem WM_pairQ {c : Int} {b : Nat} {I : jdI} (h : WM c b I) {k : Nat} (hk : k < 10) : 0 ≤ (I (b + 36) k).toInt ∧ (I (b + 36) k).toInt ≤ 6 := h.2.2.2.2 k hk
theorem lg_f (a b : Int64) : ((lg_cmp a b).toInt = -1 ∧ a.toInt < b.toInt) ∨ ((lg_cmp a b).toInt = 0 ∧ a.toInt = b.toInt) ∨ ((lg_cmp a b).toInt = 1 ∧ b.toInt < a.toInt) := by
  unfold lg_cmp
  by_cases h : a > b
  · rw [if_pos h]
    exact Or.inr (Or.inr ⟨rfl, Int64.lt_iff_toInt_lt.mp h⟩)
  · rw [if_neg h]
    have h1 : ¬ b.toInt < a.toInt := mt Int64.lt_iff_toInt_lt.mpr h
    by_cases h2 : a = b
    · rw [if_pos h2]
      exact Or.inr (Or.inl ⟨rfl, by rw [h2]⟩)
    · rw [if_neg h2]
      have h3 : ¬ a.toInt = b.toInt := fun z => h2 (Int64.toInt_inj.mp z)
      exact Or.inl ⟨rfl, by omega⟩
theorem uJ_ap (J : jdJ) (id k : Nat) (v : Int64) (a b : Nat) : uJ J id k v a b = if a = id ∧ b = k then v else J a b := by
  by_cases h : a = id
  · subst h
    rw [uJ_s]
    by_cases h2 : b = k
    · subst h2
      simp [vp_updL]
    · simp [vp_updL, h2]
  · rw [uJ_n J k v h]
    simp [h]
/-- a long cut to a row's kind -/
def cutf (k : Int) (y : Int64) : Int64 := if k = 0 then (Int32.toInt64 (Int8.toInt32 (Int32.toInt8 (Int64.toInt32 y)))) else if k = 1 then (Int32.toInt64 (Int16.toInt32 (Int32.toInt16 (Int64.toInt32 y)))) else if k = 2 then (Int32.toInt64 (Int64.toInt32 y)) else if k = 3 then y else if y.toInt = 0 then 0 else 1
theorem i32_cmul (k a : Int32) (c : Int) (hk : k.toInt = c) (h1 : -2147483648 ≤ a.toInt * c) (h2 : a.toInt * c ≤ 2147483647) : (k * a).toInt = a.toInt * c := by
  rw [Int32.mul_comm]
  exact i32_mulc a k c hk h1 h2
theorem i32_cmulI (k a : Int32) (c : Int) (hk : k.toInt = c) : (-2147483648 ≤ a.toInt * c ∧ a.toInt * c ≤ 2147483647) → (k * a).toInt = a.toInt * c := fun h => i32_cmul k a c hk h.1 h.2
/-! most cells are not constrained: in few steps -/
theorem okMo {c : Int} {b j k : Nat} {v : Int} (h0 : j ≠ 0) (h3 : j ≠ 3) (h31 : j ≠ 31) (h35 : j ≠ 35) (h36 : j ≠ 36) : okM c b (b + j) k v := by
  unfold okM
  refine ⟨?_, ?_, ?_, ?_, ?_, ?_, ?_, ?_, ?_, ?_, ?_, ?_⟩ <;> intro h <;> omega
theorem okMr {c : Int} {b q k : Nat} {v : Int} (hq : q < 8) : okM c b (b + 21 + q) k v := by
  unfold okM
  refine ⟨?_, ?_, ?_, ?_, ?_, ?_, ?_, ?_, ?_, ?_, ?_, ?_⟩ <;> intro h <;> omega
theorem okMf {c : Int} {b k : Nat} {v : Int} (h0 : k ≠ 10) (h1 : k ≠ 14) (h2 : k ≠ 8) (h3 : k ≠ 22) (h4 : k ≠ 24) (h5 : k ≠ 30) (h6 : k ≠ 33) (h7 : k ≠ 42) : okM c b b k v := by
  unfold okM
  refine ⟨?_, ?_, ?_, ?_, ?_, ?_, ?_, ?_, ?_, ?_, ?_, ?_⟩ <;> intro h <;> omega
theorem okM10 {c : Int} {b : Nat} {v : Int} (hv : 0 ≤ v ∧ v ≤ c) : okM c b b 10 v := by
  unfold okM
  refine ⟨?_, ?_, ?_, ?_, ?_, ?_, ?_, ?_, ?_, ?_, ?_, ?_⟩ <;> intro h <;> omega
theorem okM14 {c : Int} {b : Nat} {v : Int} (hv : 2 ≤ v ∧ v ≤ 4) : okM c b b 14 v := by
  unfold okM
  refine ⟨?_, ?_, ?_, ?_, ?_, ?_, ?_, ?_, ?_, ?_, ?_, ?_⟩ <;> intro h <;> omega
theorem okM8 {c : Int} {b : Nat} {v : Int} (hv : 0 ≤ v ∧ v ≤ 250) : okM c b b 8 v := by
  unfold okM
  refine ⟨?_, ?_, ?_, ?_, ?_, ?_, ?_, ?_, ?_, ?_, ?_, ?_⟩ <;> intro h <;> omega
theorem okM22 {c : Int} {b : Nat} {v : Int} (hv : 0 ≤ v ∧ v ≤ 250) : okM c b b 22 v := by
  unfold okM
  refine ⟨?_, ?_, ?_, ?_, ?_, ?_, ?_, ?_, ?_, ?_, ?_, ?_⟩ <;> intro h <;> omega
theorem okM24 {c : Int} {b : Nat} {v : Int} (hv : 0 ≤ v ∧ v ≤ 250) : okM c b b 24 v := by
  unfold okM
  refine ⟨?_, ?_, ?_, ?_, ?_, ?_, ?_, ?_, ?_, ?_, ?_, ?_⟩ <;> intro h <;> omega
theorem okM30 {c : Int} {b : Nat} {v : Int} (hv : 0 ≤ v ∧ v ≤ 70) : okM c b b 30 v := by
  unfold okM
  refine ⟨?_, ?_, ?_, ?_, ?_, ?_, ?_, ?_, ?_, ?_, ?_, ?_⟩ <;> intro h <;> omega
theorem okM33 {c : Int} {b : Nat} {v : Int} (hv : 0 ≤ v ∧ v ≤ 7) : okM c b b 33 v := by
  unfold okM
  refine ⟨?_, ?_, ?_, ?_, ?_, ?_, ?_, ?_, ?_, ?_, ?_, ?_⟩ <;> intro h <;> omega
theorem okM42 {c : Int} {b : Nat} {v : Int} (hv : 0 ≤ v ∧ v ≤ 10) : okM c b b 42 v := by
  unfold okM
  refine ⟨?_, ?_, ?_, ?_, ?_, ?_, ?_, ?_, ?_, ?_, ?_, ?_⟩ <;> intro h <;> omega
theorem okMa3 {c : Int} {b k : Nat} {v : Int} (hv : 0 ≤ v ∧ v ≤ 40) : okM c b (b + 3) k v := by
  unfold okM
  refine ⟨?_, ?_, ?_, ?_, ?_, ?_, ?_, ?_, ?_, ?_, ?_, ?_⟩ <;> intro h <;> omega
theorem okMa31 {c : Int} {b k : Nat} {v : Int} (hv : 0 ≤ v ∧ v ≤ 6) : okM c b (b + 31) k v := by
  unfold okM
  refine ⟨?_, ?_, ?_, ?_, ?_, ?_, ?_, ?_, ?_, ?_, ?_, ?_⟩ <;> intro h <;> omega
theorem okMa35 {c : Int} {b k : Nat} {v : Int} (hv : 0 ≤ v ∧ v ≤ 6) : okM c b (b + 35) k v := by
  unfold okM
  refine ⟨?_, ?_, ?_, ?_, ?_, ?_, ?_, ?_, ?_, ?_, ?_, ?_⟩ <;> intro h <;> omega
theorem okMa36 {c : Int} {b k : Nat} {v : Int} (hv : 0 ≤ v ∧ v ≤ 6) : okM c b (b + 36) k v := by
  unfold okM
  refine ⟨?_, ?_, ?_, ?_, ?_, ?_, ?_, ?_, ?_, ?_, ?_, ?_⟩ <;> intro h <;> omega
theorem okXo {id k : Nat} {v : Int} (h : ¬ (id = 1 ∨ id = 5 ∨ id = 9 ∨ id = 13 ∨ id = 20 ∨ id = 25 ∨ (29 ≤ id ∧ id ≤ 43))) : okX id k v := by
  unfold okX
  refine ⟨?_, ?_, ?_, ?_, ?_, ?_, ?_, ?_, ?_, ?_⟩ <;> intro h <;> omega
