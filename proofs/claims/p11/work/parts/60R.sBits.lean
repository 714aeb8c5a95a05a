/-! how many bits a mask has -/
def N32 (z : Int32) : Nat := z.toBitVec.toNat
def shr (k x : Int32) : Int32 := (Int32.toUInt32 x >>> (Int32.toUInt32 k &&& Int32.toUInt32 31)).toInt32
def b1 (x : Int32) : Int32 := x - (shr 1 x &&& 1431655765)
def b2 (y : Int32) : Int32 := (y &&& 858993459) + (shr 2 y &&& 858993459)
def b3 (z : Int32) : Int32 := (z + shr 4 z) &&& 252645135
def b4 (a : Int32) : Int32 := a + shr 8 a
def b5 (b : Int32) : Int32 := (b + shr 16 b) &&& 63
theorem bcE_b (x : Int32) : bcE x = b5 (b4 (b3 (b2 (b1 x)))) := rfl
theorem N_and (a b : Int32) : N32 (a &&& b) = N32 a &&& N32 b := rfl
theorem N_add {a b : Int32} (h : N32 a + N32 b < 4294967296) : N32 (a + b) = N32 a + N32 b := Nat.mod_eq_of_lt h
theorem N_sub {a b : Int32} (h : N32 b ≤ N32 a) : N32 (a - b) = N32 a - N32 b := BitVec.toNat_sub_of_le (BitVec.le_def.mpr h)
theorem N_shr (k x : Int32) : N32 (shr k x) = N32 x >>> ((Int32.toUInt32 k &&& Int32.toUInt32 31).toNat % 32) := UInt32.toNat_shiftRight _ _
theorem N_int {z : Int32} (h : N32 z < 2147483648) : z.toInt = (N32 z : Int) := by
  show z.toBitVec.toInt = (z.toBitVec.toNat : Int)
  have h : z.toBitVec.toNat < 2147483648 := h
  rw [BitVec.toInt_eq_toNat_cond, if_pos (by omega)]
theorem sp8 {k M a b : Nat} (hM1 : ∀ j, j < 8 → 8 ≤ k + j → M.testBit j = false) (hM2 : ∀ j, 8 ≤ j → j < 32 → M.testBit j = M.testBit (j - 8)) (ha : a < 2 ^ 8) (hb : b < 2 ^ 16) : ((2 ^ 8 * b + a) >>> k) &&& M = 2 ^ 8 * ((b >>> k) &&& M) + ((a >>> k) &&& M) := by
  have hc : ((a >>> k) &&& M) < 2 ^ 8 := Nat.lt_of_le_of_lt Nat.and_le_left (Nat.lt_of_le_of_lt (Nat.shiftRight_le a k) ha)
  apply Nat.eq_of_testBit_eq
  intro j
  rw [Nat.testBit_and, Nat.testBit_shiftRight, Nat.testBit_two_pow_mul_add b ha, Nat.testBit_two_pow_mul_add _ hc]
  by_cases h : j < 8
  · rw [if_pos h, Nat.testBit_and, Nat.testBit_shiftRight]
    by_cases h2 : k + j < 8
    · rw [if_pos h2]
    · rw [hM1 j h (by omega), Bool.and_false, Bool.and_false]
  · rw [if_neg h, if_neg (by omega), Nat.testBit_and, Nat.testBit_shiftRight, show k + j - 8 = k + (j - 8) by omega]
    by_cases h3 : j < 32
    · rw [hM2 j (by omega) h3]
    · have e : b.testBit (k + (j - 8)) = false := Nat.testBit_lt_two_pow (Nat.lt_of_lt_of_le hb (Nat.pow_le_pow_right (by decide) (by omega)))
      rw [e, Bool.false_and, Bool.false_and]
theorem sp24 {k M a b c : Nat} (hM1 : ∀ j, j < 8 → 8 ≤ k + j → M.testBit j = false) (hM2 : ∀ j, 8 ≤ j → j < 32 → M.testBit j = M.testBit (j - 8)) (ha : a < 2 ^ 8) (hb : b < 2 ^ 8) (hc : c < 2 ^ 8) : ((2 ^ 8 * (2 ^ 8 * c + b) + a) >>> k) &&& M = 2 ^ 8 * (2 ^ 8 * ((c >>> k) &&& M) + ((b >>> k) &&& M)) + ((a >>> k) &&& M) := by
  rw [sp8 hM1 hM2 ha (by omega), sp8 hM1 hM2 hb (by omega)]
def popN (a : Nat) : Nat → Nat
  | 0 => 0
  | k + 1 => popN a k + (if a.testBit k = true then 1 else 0)
def uB (a : Nat) : Nat := a - ((a >>> 1) &&& 1431655765)
def vB (a : Nat) : Nat := ((uB a >>> 0) &&& 858993459) + ((uB a >>> 2) &&& 858993459)
theorem byte_ok : ∀ a : Fin 256, ((a.val >>> 1) &&& 1431655765) ≤ a.val ∧ vB a.val % 16 ≤ 4 ∧ vB a.val / 16 ≤ 4 ∧ vB a.val % 16 + vB a.val / 16 = popN a.val 8 := by decide +kernel
theorem nib_ok : ∀ n : Fin 256, (n.val >>> 0) &&& 252645135 = n.val % 16 := by decide +kernel
theorem m1_a : ∀ j : Fin 8, 8 ≤ 1 + j.val → Nat.testBit 1431655765 j.val = false := by decide +kernel
theorem m1_b : ∀ j : Fin 32, 8 ≤ j.val → Nat.testBit 1431655765 j.val = Nat.testBit 1431655765 (j.val - 8) := by decide +kernel
theorem m2_a : ∀ j : Fin 8, 8 ≤ 2 + j.val → Nat.testBit 858993459 j.val = false := by decide +kernel
theorem m2_b : ∀ j : Fin 32, 8 ≤ j.val → Nat.testBit 858993459 j.val = Nat.testBit 858993459 (j.val - 8) := by decide +kernel
theorem m3_b : ∀ j : Fin 32, 8 ≤ j.val → Nat.testBit 252645135 j.val = Nat.testBit 252645135 (j.val - 8) := by decide +kernel
theorem cdN_t {x : Int32} {a p : Nat} (h : ∀ k, k < 8 → bt x (p + k) = a.testBit k) : ∀ k, k ≤ 8 → cdN x (p + k) = cdN x p + popN a k
  | 0, _ => rfl
  | k + 1, hk => by
    have ih := cdN_t h k (by omega)
    show cdN x (p + k) + (if bt x (p + k) = true then 1 else 0) = cdN x p + (popN a k + (if a.testBit k = true then 1 else 0))
    rw [ih, h k (by omega)]
    omega
theorem sum64 {A B C : Nat} (ha : A ≤ 8) (hb : B ≤ 8) (hc : C ≤ 8) : (2 ^ 8 * (2 ^ 8 * C + B) + A + (2 ^ 8 * C + B) + (2 ^ 8 * (2 ^ 8 * C + B) + A + (2 ^ 8 * C + B)) / 65536) % 2 ^ 6 = A + B + C := by
  have hd : (2 ^ 8 * (2 ^ 8 * C + B) + A + (2 ^ 8 * C + B)) / 65536 = C := by omega
  rw [hd]
  have e : 2 ^ 8 * (2 ^ 8 * C + B) + A + (2 ^ 8 * C + B) + C = 2 ^ 6 * (1024 * C + 4 * B + 4 * C) + (A + B + C) := by omega
  rw [e, Nat.mul_add_mod]
  exact Nat.mod_eq_of_lt (by omega)
theorem bc24 {x : Int32} (h0 : 0 ≤ x.toInt) (h1 : x.toInt < 16777216) : (bcE x).toInt = (cdN x 24 : Int) := by
  have eX : x.toInt = (N32 x : Int) := i32_nat x h0
  have eb : ∀ i, i < 32 → bt x i = (N32 x).testBit i := fun i hi => bt_lsb x i hi
  obtain ⟨a, ea⟩ : ∃ a, a = N32 x % 256 := ⟨_, rfl⟩
  obtain ⟨b, eB⟩ : ∃ b, b = N32 x / 256 % 256 := ⟨_, rfl⟩
  obtain ⟨c, ec⟩ : ∃ c, c = N32 x / 65536 := ⟨_, rfl⟩
  have ha : a < 2 ^ 8 := by omega
  have hb : b < 2 ^ 8 := by omega
  have hc : c < 2 ^ 8 := by omega
  have hX : N32 x = 2 ^ 8 * (2 ^ 8 * c + b) + a := by omega
  obtain ⟨oa1, oa2, oa3, oa4⟩ := byte_ok ⟨a, ha⟩
  obtain ⟨ob1, ob2, ob3, ob4⟩ := byte_ok ⟨b, hb⟩
  obtain ⟨oc1, oc2, oc3, oc4⟩ := byte_ok ⟨c, hc⟩
  have oa1 : (a >>> 1) &&& 1431655765 ≤ a := oa1
  have ob1 : (b >>> 1) &&& 1431655765 ≤ b := ob1
  have oc1 : (c >>> 1) &&& 1431655765 ≤ c := oc1
  have oa2 : vB a % 16 ≤ 4 := oa2
  have ob2 : vB b % 16 ≤ 4 := ob2
  have oc2 : vB c % 16 ≤ 4 := oc2
  have oa3 : vB a / 16 ≤ 4 := oa3
  have ob3 : vB b / 16 ≤ 4 := ob3
  have oc3 : vB c / 16 ≤ 4 := oc3
  have oa4 : vB a % 16 + vB a / 16 = popN a 8 := oa4
  have ob4 : vB b % 16 + vB b / 16 = popN b 8 := ob4
  have oc4 : vB c % 16 + vB c / 16 = popN c 8 := oc4
  -- first step
  have s1 : N32 (shr 1 x &&& 1431655765) = 2 ^ 8 * (2 ^ 8 * ((c >>> 1) &&& 1431655765) + ((b >>> 1) &&& 1431655765)) + ((a >>> 1) &&& 1431655765) := by
    rw [N_and, N_shr, hX]
    exact sp24 (k := 1) (M := 1431655765) (fun j h1 h2 => m1_a ⟨j, h1⟩ h2) (fun j h1 h2 => m1_b ⟨j, h2⟩ h1) ha hb hc
  have t1 : N32 (b1 x) = 2 ^ 8 * (2 ^ 8 * uB c + uB b) + uB a := by
    unfold b1 uB
    rw [N_sub (by omega), s1, hX]
    omega
  have ua : uB a < 2 ^ 8 := by unfold uB; omega
  have ub : uB b < 2 ^ 8 := by unfold uB; omega
  have uc : uB c < 2 ^ 8 := by unfold uB; omega
  -- second step
  have s2 : N32 (b1 x &&& 858993459) = 2 ^ 8 * (2 ^ 8 * ((uB c >>> 0) &&& 858993459) + ((uB b >>> 0) &&& 858993459)) + ((uB a >>> 0) &&& 858993459) := by
    rw [N_and, t1]
    exact sp24 (k := 0) (M := 858993459) (fun j h1 h2 => absurd h2 (by omega)) (fun j h1 h2 => m2_b ⟨j, h2⟩ h1) ua ub uc
  have s3 : N32 (shr 2 (b1 x) &&& 858993459) = 2 ^ 8 * (2 ^ 8 * ((uB c >>> 2) &&& 858993459) + ((uB b >>> 2) &&& 858993459)) + ((uB a >>> 2) &&& 858993459) := by
    rw [N_and, N_shr, t1]
    exact sp24 (k := 2) (M := 858993459) (fun j h1 h2 => m2_a ⟨j, h1⟩ h2) (fun j h1 h2 => m2_b ⟨j, h2⟩ h1) ua ub uc
  have va : ((uB a >>> 0) &&& 858993459) + ((uB a >>> 2) &&& 858993459) = vB a := rfl
  have vb : ((uB b >>> 0) &&& 858993459) + ((uB b >>> 2) &&& 858993459) = vB b := rfl
  have vc : ((uB c >>> 0) &&& 858993459) + ((uB c >>> 2) &&& 858993459) = vB c := rfl
  have t2 : N32 (b2 (b1 x)) = 2 ^ 8 * (2 ^ 8 * vB c + vB b) + vB a := by
    unfold b2
    rw [N_add (by omega), s2, s3]
    omega
  -- third step
  have r4 : N32 (shr 4 (b2 (b1 x))) = N32 (b2 (b1 x)) / 16 := by
    rw [N_shr]
    exact Nat.shiftRight_eq_div_pow _ 4
  have t3a : N32 (b2 (b1 x) + shr 4 (b2 (b1 x))) = 2 ^ 8 * (2 ^ 8 * (vB c + vB c / 16) + (vB b + vB b / 16 + 16 * (vB c % 16))) + (vB a + vB a / 16 + 16 * (vB b % 16)) := by
    rw [N_add (by omega), r4, t2]
    omega
  have na : (((vB a + vB a / 16 + 16 * (vB b % 16)) >>> 0) &&& 252645135) = (vB a + vB a / 16 + 16 * (vB b % 16)) % 16 := nib_ok ⟨vB a + vB a / 16 + 16 * (vB b % 16), by omega⟩
  have nb : (((vB b + vB b / 16 + 16 * (vB c % 16)) >>> 0) &&& 252645135) = (vB b + vB b / 16 + 16 * (vB c % 16)) % 16 := nib_ok ⟨vB b + vB b / 16 + 16 * (vB c % 16), by omega⟩
  have nc : (((vB c + vB c / 16) >>> 0) &&& 252645135) = (vB c + vB c / 16) % 16 := nib_ok ⟨vB c + vB c / 16, by omega⟩
  have t3 : N32 (b3 (b2 (b1 x))) = 2 ^ 8 * (2 ^ 8 * popN c 8 + popN b 8) + popN a 8 := by
    unfold b3
    rw [N_and, t3a]
    have e := sp24 (k := 0) (M := 252645135) (a := vB a + vB a / 16 + 16 * (vB b % 16)) (b := vB b + vB b / 16 + 16 * (vB c % 16)) (c := vB c + vB c / 16) (fun j h1 h2 => absurd h2 (by omega)) (fun j h1 h2 => m3_b ⟨j, h2⟩ h1) (by omega) (by omega) (by omega)
    rw [na, nb, nc] at e
    refine Eq.trans e ?_
    omega
  -- the sums
  have r8 : N32 (shr 8 (b3 (b2 (b1 x)))) = N32 (b3 (b2 (b1 x))) / 256 := by
    rw [N_shr]
    exact Nat.shiftRight_eq_div_pow _ 8
  have t4 : N32 (b4 (b3 (b2 (b1 x)))) = 2 ^ 8 * (2 ^ 8 * popN c 8 + popN b 8) + popN a 8 + (2 ^ 8 * popN c 8 + popN b 8) := by
    unfold b4
    rw [N_add (by omega), r8, t3]
    omega
  have r16 : N32 (shr 16 (b4 (b3 (b2 (b1 x))))) = N32 (b4 (b3 (b2 (b1 x)))) / 65536 := by
    rw [N_shr]
    exact Nat.shiftRight_eq_div_pow _ 16
  have t5 : N32 (b5 (b4 (b3 (b2 (b1 x))))) = popN a 8 + popN b 8 + popN c 8 := by
    unfold b5
    rw [N_and, N_add (by omega), r16, t4]
    have e := Nat.and_two_pow_sub_one_eq_mod (2 ^ 8 * (2 ^ 8 * popN c 8 + popN b 8) + popN a 8 + (2 ^ 8 * popN c 8 + popN b 8) + (2 ^ 8 * (2 ^ 8 * popN c 8 + popN b 8) + popN a 8 + (2 ^ 8 * popN c 8 + popN b 8)) / 65536) 6
    exact Eq.trans e (sum64 (by omega) (by omega) (by omega))
  rw [bcE_b, N_int (by omega), t5]
  have g0 : ∀ k, k < 8 → bt x (0 + k) = a.testBit k := fun k hk => by
    rw [eb _ (by omega), hX, Nat.testBit_two_pow_mul_add _ ha, if_pos (by omega), Nat.zero_add]
  have g1 : ∀ k, k < 8 → bt x (8 + k) = b.testBit k := fun k hk => by
    rw [eb _ (by omega), hX, Nat.testBit_two_pow_mul_add _ ha, if_neg (by omega), Nat.testBit_two_pow_mul_add _ hb, if_pos (by omega), show 8 + k - 8 = k by omega]
  have g2 : ∀ k, k < 8 → bt x (16 + k) = c.testBit k := fun k hk => by
    rw [eb _ (by omega), hX, Nat.testBit_two_pow_mul_add _ ha, if_neg (by omega), Nat.testBit_two_pow_mul_add _ hb, if_neg (by omega), show 16 + k - 8 - 8 = k by omega]
  have f0 := cdN_t g0 8 (Nat.le_refl _)
  have f1 := cdN_t g1 8 (Nat.le_refl _)
  have f2 := cdN_t g2 8 (Nat.le_refl _)
  have f0 : cdN x 8 = 0 + popN a 8 := f0
  have f1 : cdN x 16 = cdN x 8 + popN b 8 := f1
  have f2 : cdN x 24 = cdN x 16 + popN c 8 := f2
  omega
theorem pJ6_bitCount24 {G : jdG} {n : Nat} {Z : jdL} {J : jdJ} {K : Int32 → jdI → jdJ → Prop} {I : jdI} {x0 : Int32} (h0 : 0 ≤ x0.toInt) (h1 : x0.toInt < 16777216) (hK : ∀ v : Int32, v.toInt = (cdN x0 24 : Int) → K v I J) : Cl G mJ6_bitCount_0f7a4 n 0 0 [.int x0] Z I J (qi Z K) :=
  eJ6_bitCount_0f7a4 (hK (bcE x0) (bc24 h0 h1))
