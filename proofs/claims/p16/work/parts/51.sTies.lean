theorem i32_xl (x y : Int32) (h0 : 0 ≤ x.toInt) (h1 : x.toInt ≤ 255) (h2 : 0 ≤ y.toInt) (h3 : y.toInt ≤ 255) : 0 ≤ (x ^^^ y).toInt ∧ (x ^^^ y).toInt < 256 :=
  i32_xor x y 8 (by decide) h0 (by omega) h2 (by omega)
theorem vp_xl {x : Int32} (h0 : 0 ≤ x.toInt) (h1 : x.toInt ≤ 255) : vp_in (x ^^^ (x &&& (-x))) 256 := by
  have h := i32_and' x (-x) h0
  have h2 := i32_xl x (x &&& (-x)) h0 h1 h.1 (by omega)
  exact vp_of h2.1 h2.2
theorem vp_xg {x g : Int32} (h0 : 0 ≤ x.toInt) (h1 : x.toInt ≤ 255) (hg : (g &&& x).toInt = g.toInt) : vp_in (x ^^^ g) 256 := by
  have h := i32_and g x h0
  have h2 := i32_xl x g h0 h1 (by omega) (by omega)
  exact vp_of h2.1 h2.2
theorem vp_an {x m : Int32} (h0 : 0 ≤ m.toInt) (h1 : m.toInt ≤ 255) : vp_in (x &&& m) 256 := by
  have h := i32_and x m h0
  exact vp_of h.1 (by omega)
theorem pb_all : ∀ p q : Fin 8, p.val < q.val → ((((Int32.ofNat q.val) * (Int32.ofNat q.val - 1)) / 2) + Int32.ofNat p.val).toInt < 28 ∧ 0 ≤ ((((Int32.ofNat q.val) * (Int32.ofNat q.val - 1)) / 2) + Int32.ofNat p.val).toInt := by decide +kernel
theorem pb_28 {p q : Int32} (h0 : 0 ≤ p.toInt) (h1 : p.toInt < q.toInt) (h2 : q.toInt ≤ 7) : 0 ≤ (((q * (q - 1)) / 2) + p).toInt ∧ (((q * (q - 1)) / 2) + p).toInt < 28 := by
  have h := pb_all ⟨p.toInt.toNat, by omega⟩ ⟨q.toInt.toNat, by omega⟩ (by show p.toInt.toNat < q.toInt.toNat; omega)
  rw [← i32_ofNat h0, ← i32_ofNat (by omega)] at h
  exact ⟨h.2, h.1⟩
theorem sfJ6_bitCount_0f7a4 {G : jdG} {n : Nat} {Z : jdL} {J : jdJ} {K : Int32 → jdI → jdJ → Prop}  {I : jdI} {x0 : Int32}   (hW : WX I)  (hK : ∀ (v : Int32), (0 ≤ v.toInt ∧ v.toInt ≤ 63) → K v I J) : Cl G mJ6_bitCount_0f7a4 n 0 0 [.int x0] Z I J (qi Z K) := by
  refine eJ6_bitCount_0f7a4  ?_
  have hwI := WX_f hW
  exact hK _  (i32_and _ 63 (by decide))
theorem sfX8_everybody {G : jdG} {n : Nat} {Z : jdL} {J : jdJ} {K : Int32 → jdI → jdJ → Prop}  {I : jdI}  (ht : zTies Z 13)  (hW : WX I)  (hK : ∀ (v : Int32), (v = ((1 : Int32) <<< ((I 13 6) &&& 31)) - 1 ∧ 0 ≤ v.toInt ∧ v.toInt ≤ 255) → K v I J) : Cl G mX8_everybody n 0 0 [.ref (gb G + 13)] Z I J (qi Z K) := by
  refine eX8_everybody ht ?_
  have hwI := WX_f hW
  exact hK _  ⟨rfl, (ev_8 (by omega) (by omega)).2.2⟩
theorem sfX8_pairBit {G : jdG} {n : Nat} {Z : jdL} {J : jdJ} {K : Int32 → jdI → jdJ → Prop}  {I : jdI} {x0 : Int32} {x1 : Int32}   (hW : WX I)  (hK : ∀ (v : Int32), (v = ((x1 * (x1 - 1)) / 2) + x0 ∧ (0 ≤ x0.toInt ∧ x0.toInt < x1.toInt ∧ x1.toInt ≤ 7 → 0 ≤ v.toInt ∧ v.toInt < 28)) → K v I J) : Cl G mX8_pairBit n 0 0 [.int x0, .int x1] Z I J (qi Z K) := by
  refine eX8_pairBit  ?_
  have hwI := WX_f hW
  exact hK _  ⟨rfl, fun h => pb_28 h.1 h.2.1 h.2.2⟩
theorem lX8_isOne_2 {G : jdG} {n : Nat} {Z : jdL} {J : jdJ} {rc rs : Nat} {K : Int32 → jdI → jdJ → Prop}  {I : jdI} {x1 : Int32} (ht : zTies Z 13)  (hW : WX I)  (hK : ∀ (v : Int32), (v = 0 ∨ v = 1) → K v I J) : ∀ m : Nat, ∀ (x2 : Int32), (0 ≤ x2.toInt ∧ x2.toInt ≤ (I 13 8).toInt) → ((I 13 8).toInt) - x2.toInt < (m : Int) → Jd G mX8_isOne (jdFm G (qi Z K)) n rc rs 2 [(0, .ref (gb G + 13)), (1, .int x1), (2, .int x2)] [] Z I J := by
  intro m
  induction m with
  | zero =>
    intro x2 hx2 hm
    have hwI := WX_f hW
    omega
  | succ m ih =>
    intro x2 hx2 hm
    have hwI := WX_f hW
    refine rX8_isOne_2 ht ?_
    refine ⟨fun hc1 => ?_, fun hc2 => ?_⟩
    · skip
      have q1 := i32_lo (I 13 8)
      have q2 := i32_lo x2
      have hc1 := Int32.le_iff_toInt_le.mp hc1
      exact hK _  (by first | exact Or.inl rfl | exact Or.inr rfl)
    · skip
      have q1 := i32_lo (I 13 8)
      have q2 := i32_lo x2
      have hc2 := mt Int32.le_iff_toInt_le.mpr hc2
      refine ⟨vp_of (by omega) (by omega), ?_⟩
      refine ⟨fun hc3 => ?_, fun hc4 => ?_⟩
      · skip
        have q3 := i32_lo x1
        have hc3 : ¬ ((I (13 + 3) (Int32.toNatClampNeg x2))).toInt = (x1).toInt := fun z => hc3 (Int32.toInt_inj.mp z)
        have q4 : (1 : Int32).toInt = 1 := rfl
        have q5 := i32_add x2 1 (by omega) (by omega)
        exact ih (x2 + 1) (by omega) (by omega)
      · skip
        have q3 := i32_lo x1
        have hc4 := Int32.toInt_inj.mpr hc4
        exact hK _  (by first | exact Or.inl rfl | exact Or.inr rfl)
theorem sfX8_isOne {G : jdG} {n : Nat} {Z : jdL} {J : jdJ} {K : Int32 → jdI → jdJ → Prop}  {I : jdI} {x1 : Int32} (ht : zTies Z 13)  (hW : WX I)  (hK : ∀ (v : Int32), (v = 0 ∨ v = 1) → K v I J) : Cl G mX8_isOne n 0 0 [.ref (gb G + 13), .int x1] Z I J (qi Z K) := by
  refine eX8_isOne ht ?_
  have hwI := WX_f hW
  have q1 : (0 : Int32).toInt = 0 := rfl
  exact lX8_isOne_2 ht  hW  hK  ((((I 13 8).toInt) - (0 : Int32).toInt).toNat + 1) 0 (by omega) (by omega)
theorem lX8_countIn_4 {G : jdG} {n : Nat} {Z : jdL} {J : jdJ} {rc rs : Nat} {K : Int32 → jdI → jdJ → Prop}  {I : jdI} {x1 : Int32} (ht : zTies Z 13)  (hW : WX I)  (hK : ∀ (v : Int32), K v I J) : ∀ m : Nat, ∀ (x2 : Int32) (x3 : Int32), (0 ≤ x3.toInt ∧ x3.toInt ≤ (I 13 8).toInt) → ((I 13 8).toInt) - x3.toInt < (m : Int) → Jd G mX8_countIn (jdFm G (qi Z K)) n rc rs 4 [(0, .ref (gb G + 13)), (1, .int x1), (2, .int x2), (3, .int x3)] [] Z I J := by
  intro m
  induction m with
  | zero =>
    intro x2 x3 hx3 hm
    have hwI := WX_f hW
    omega
  | succ m ih =>
    intro x2 x3 hx3 hm
    have hwI := WX_f hW
    refine rX8_countIn_4 ht ?_
    refine ⟨fun hc1 => ?_, fun hc2 => ?_⟩
    · skip
      have q1 := i32_lo (I 13 8)
      have q2 := i32_lo x3
      have hc1 := Int32.le_iff_toInt_le.mp hc1
      exact hK _ 
    · skip
      have q1 := i32_lo (I 13 8)
      have q2 := i32_lo x3
      have hc2 := mt Int32.le_iff_toInt_le.mpr hc2
      refine ⟨vp_of (by omega) (by omega), ?_⟩
      refine ⟨vp_of (by omega) (by omega), ?_⟩
      refine ⟨fun hc3 => ?_, fun hc4 => ?_⟩
      · skip
        have q3 := i32_lo x1
        have hc3 : ¬ (((I (13 + 3) (Int32.toNatClampNeg x3)) &&& x1)).toInt = ((I (13 + 3) (Int32.toNatClampNeg x3))).toInt := fun z => hc3 (Int32.toInt_inj.mp z)
        have q4 : (1 : Int32).toInt = 1 := rfl
        have q5 := i32_add x3 1 (by omega) (by omega)
        exact ih (x2 + 0) (x3 + 1) (by omega) (by omega)
      · skip
        have q3 := i32_lo x1
        have hc4 := Int32.toInt_inj.mpr hc4
        have q4 : (1 : Int32).toInt = 1 := rfl
        have q5 := i32_add x3 1 (by omega) (by omega)
        exact ih (x2 + 1) (x3 + 1) (by omega) (by omega)
theorem sfX8_countIn {G : jdG} {n : Nat} {Z : jdL} {J : jdJ} {K : Int32 → jdI → jdJ → Prop}  {I : jdI} {x1 : Int32} (ht : zTies Z 13)  (hW : WX I)  (hK : ∀ (v : Int32), K v I J) : Cl G mX8_countIn n 0 0 [.ref (gb G + 13), .int x1] Z I J (qi Z K) := by
  refine eX8_countIn ht ?_
  have hwI := WX_f hW
  have q1 : (0 : Int32).toInt = 0 := rfl
  exact lX8_countIn_4 ht  hW  hK  ((((I 13 8).toInt) - (0 : Int32).toInt).toNat + 1) 0 0 (by omega) (by omega)
theorem lX8_countWith_4 {G : jdG} {n : Nat} {Z : jdL} {J : jdJ} {rc rs : Nat} {K : Int32 → jdI → jdJ → Prop}  {I : jdI} {x1 : Int32} (ht : zTies Z 13)  (hW : WX I)  (hK : ∀ (v : Int32), K v I J) : ∀ m : Nat, ∀ (x2 : Int32) (x3 : Int32), (0 ≤ x3.toInt ∧ x3.toInt ≤ (I 13 8).toInt) → ((I 13 8).toInt) - x3.toInt < (m : Int) → Jd G mX8_countWith (jdFm G (qi Z K)) n rc rs 4 [(0, .ref (gb G + 13)), (1, .int x1), (2, .int x2), (3, .int x3)] [] Z I J := by
  intro m
  induction m with
  | zero =>
    intro x2 x3 hx3 hm
    have hwI := WX_f hW
    omega
  | succ m ih =>
    intro x2 x3 hx3 hm
    have hwI := WX_f hW
    refine rX8_countWith_4 ht ?_
    refine ⟨fun hc1 => ?_, fun hc2 => ?_⟩
    · skip
      have q1 := i32_lo (I 13 8)
      have q2 := i32_lo x3
      have hc1 := Int32.le_iff_toInt_le.mp hc1
      exact hK _ 
    · skip
      have q1 := i32_lo (I 13 8)
      have q2 := i32_lo x3
      have hc2 := mt Int32.le_iff_toInt_le.mpr hc2
      refine ⟨vp_of (by omega) (by omega), ?_⟩
      refine ⟨fun hc3 => ?_, fun hc4 => ?_⟩
      · skip
        have q3 := i32_lo x1
        have hc3 : ¬ (((I (13 + 3) (Int32.toNatClampNeg x3)) &&& x1)).toInt = (x1).toInt := fun z => hc3 (Int32.toInt_inj.mp z)
        have q4 : (1 : Int32).toInt = 1 := rfl
        have q5 := i32_add x3 1 (by omega) (by omega)
        exact ih (x2 + 0) (x3 + 1) (by omega) (by omega)
      · skip
        have q3 := i32_lo x1
        have hc4 := Int32.toInt_inj.mpr hc4
        have q4 : (1 : Int32).toInt = 1 := rfl
        have q5 := i32_add x3 1 (by omega) (by omega)
        exact ih (x2 + 1) (x3 + 1) (by omega) (by omega)
theorem sfX8_countWith {G : jdG} {n : Nat} {Z : jdL} {J : jdJ} {K : Int32 → jdI → jdJ → Prop}  {I : jdI} {x1 : Int32} (ht : zTies Z 13)  (hW : WX I)  (hK : ∀ (v : Int32), K v I J) : Cl G mX8_countWith n 0 0 [.ref (gb G + 13), .int x1] Z I J (qi Z K) := by
  refine eX8_countWith ht ?_
  have hwI := WX_f hW
  have q1 : (0 : Int32).toInt = 0 := rfl
  exact lX8_countWith_4 ht  hW  hK  ((((I 13 8).toInt) - (0 : Int32).toInt).toNat + 1) 0 0 (by omega) (by omega)
theorem lX8_firstIn_2 {G : jdG} {n : Nat} {Z : jdL} {J : jdJ} {rc rs : Nat} {K : Int32 → jdI → jdJ → Prop}  {I : jdI} {x1 : Int32} (ht : zTies Z 13)  (hW : WX I)  (hK : ∀ (v : Int32), K v I J) : ∀ m : Nat, ∀ (x2 : Int32), (0 ≤ x2.toInt ∧ x2.toInt ≤ (I 13 8).toInt) → ((I 13 8).toInt) - x2.toInt < (m : Int) → Jd G mX8_firstIn (jdFm G (qi Z K)) n rc rs 2 [(0, .ref (gb G + 13)), (1, .int x1), (2, .int x2)] [] Z I J := by
  intro m
  induction m with
  | zero =>
    intro x2 hx2 hm
    have hwI := WX_f hW
    omega
  | succ m ih =>
    intro x2 hx2 hm
    have hwI := WX_f hW
    refine rX8_firstIn_2 ht ?_
    refine ⟨fun hc1 => ?_, fun hc2 => ?_⟩
    · skip
      have q1 := i32_lo (I 13 8)
      have q2 := i32_lo x2
      have hc1 := Int32.le_iff_toInt_le.mp hc1
      exact hK _ 
    · skip
      have q1 := i32_lo (I 13 8)
      have q2 := i32_lo x2
      have hc2 := mt Int32.le_iff_toInt_le.mpr hc2
      refine ⟨vp_of (by omega) (by omega), ?_⟩
      refine ⟨vp_of (by omega) (by omega), ?_⟩
      refine ⟨fun hc3 => ?_, fun hc4 => ?_⟩
      · skip
        have q3 := i32_lo x1
        have hc3 : ¬ (((I (13 + 3) (Int32.toNatClampNeg x2)) &&& x1)).toInt = ((I (13 + 3) (Int32.toNatClampNeg x2))).toInt := fun z => hc3 (Int32.toInt_inj.mp z)
        have q4 : (1 : Int32).toInt = 1 := rfl
        have q5 := i32_add x2 1 (by omega) (by omega)
        exact ih (x2 + 1) (by omega) (by omega)
      · skip
        have q3 := i32_lo x1
        have hc4 := Int32.toInt_inj.mpr hc4
        refine ⟨vp_of (by omega) (by omega), ?_⟩
        exact hK _ 
theorem sfX8_firstIn {G : jdG} {n : Nat} {Z : jdL} {J : jdJ} {K : Int32 → jdI → jdJ → Prop}  {I : jdI} {x1 : Int32} (ht : zTies Z 13)  (hW : WX I)  (hK : ∀ (v : Int32), K v I J) : Cl G mX8_firstIn n 0 0 [.ref (gb G + 13), .int x1] Z I J (qi Z K) := by
  refine eX8_firstIn ht ?_
  have hwI := WX_f hW
  have q1 : (0 : Int32).toInt = 0 := rfl
  exact lX8_firstIn_2 ht  hW  hK  ((((I 13 8).toInt) - (0 : Int32).toInt).toNat + 1) 0 (by omega) (by omega)
theorem lX8_firstPossible_2 {G : jdG} {n : Nat} {Z : jdL} {J : jdJ} {rc rs : Nat} {K : Int32 → jdI → jdJ → Prop}  {I : jdI} {x1 : Int32} (ht : zTies Z 13)  (hW : WX I)  (hK : ∀ (v : Int32), (v.toInt = -1 ∨ (0 ≤ v.toInt ∧ v.toInt < (I 13 8).toInt)) → K v I J) : ∀ m : Nat, ∀ (x2 : Int32), (0 ≤ x2.toInt ∧ x2.toInt ≤ (I 13 8).toInt) → ((I 13 8).toInt) - x2.toInt < (m : Int) → Jd G mX8_firstPossible (jdFm G (qi Z K)) n rc rs 2 [(0, .ref (gb G + 13)), (1, .int x1), (2, .int x2)] [] Z I J := by
  intro m
  induction m with
  | zero =>
    intro x2 hx2 hm
    have hwI := WX_f hW
    omega
  | succ m ih =>
    intro x2 hx2 hm
    have hwI := WX_f hW
    refine rX8_firstPossible_2 ht ?_
    refine ⟨fun hc1 => ?_, fun hc2 => ?_⟩
    · skip
      have q1 := i32_lo (I 13 8)
      have q2 := i32_lo x2
      have hc1 := Int32.le_iff_toInt_le.mp hc1
      exact hK _  (by first | exact Or.inl rfl | (right; omega))
    · skip
      have q1 := i32_lo (I 13 8)
      have q2 := i32_lo x2
      have hc2 := mt Int32.le_iff_toInt_le.mpr hc2
      refine ⟨vp_of (by omega) (by omega), ?_⟩
      refine ⟨vp_of (by omega) (by omega), ?_⟩
      refine ⟨fun hc3 => ?_, fun hc4 => ?_⟩
      · skip
        have q3 := i32_lo x1
        have hc3 : ¬ (((I (13 + 4) (Int32.toNatClampNeg x2)) &&& x1)).toInt = ((I (13 + 4) (Int32.toNatClampNeg x2))).toInt := fun z => hc3 (Int32.toInt_inj.mp z)
        have q4 : (1 : Int32).toInt = 1 := rfl
        have q5 := i32_add x2 1 (by omega) (by omega)
        exact ih (x2 + 1) (by omega) (by omega)
      · skip
        have q3 := i32_lo x1
        have hc4 := Int32.toInt_inj.mpr hc4
        exact hK _  (by first | exact Or.inl rfl | (right; omega))
theorem sfX8_firstPossible {G : jdG} {n : Nat} {Z : jdL} {J : jdJ} {K : Int32 → jdI → jdJ → Prop}  {I : jdI} {x1 : Int32} (ht : zTies Z 13)  (hW : WX I)  (hK : ∀ (v : Int32), (v.toInt = -1 ∨ (0 ≤ v.toInt ∧ v.toInt < (I 13 8).toInt)) → K v I J) : Cl G mX8_firstPossible n 0 0 [.ref (gb G + 13), .int x1] Z I J (qi Z K) := by
  refine eX8_firstPossible ht ?_
  have hwI := WX_f hW
  have q1 : (0 : Int32).toInt = 0 := rfl
  exact lX8_firstPossible_2 ht  hW  hK  ((((I 13 8).toInt) - (0 : Int32).toInt).toNat + 1) 0 (by omega) (by omega)
theorem lX8_breaksAll_2 {G : jdG} {n : Nat} {Z : jdL} {J : jdJ} {rc rs : Nat} {K : Int32 → jdI → jdJ → Prop}  {I : jdI} {x1 : Int32} {x2 : Int32} (ht : zTies Z 13)  (hW : WX I) (hx2 : x2.toInt ≤ 70) (hK : ∀ (v : Int32), K v I J) : ∀ m : Nat, ∀ (x3 : Int32), (0 ≤ x3.toInt ∧ x3.toInt ≤ 70) → (x2.toInt ≤ 70) → 70 - x3.toInt < (m : Int) → Jd G mX8_breaksAll (jdFm G (qi Z K)) n rc rs 2 [(0, .ref (gb G + 13)), (1, .int x1), (2, .int x2), (3, .int x3)] [] Z I J := by
  intro m
  induction m with
  | zero =>
    intro x3 hx3 hx2b hm
    have hwI := WX_f hW
    omega
  | succ m ih =>
    intro x3 hx3 hx2b hm
    have hwI := WX_f hW
    refine rX8_breaksAll_2 ht ?_
    refine ⟨fun hc1 => ?_, fun hc2 => ?_⟩
    · skip
      have q1 := i32_lo x2
      have q2 := i32_lo x3
      have hc1 := Int32.le_iff_toInt_le.mp hc1
      exact hK _ 
    · skip
      have q1 := i32_lo x2
      have q2 := i32_lo x3
      have hc2 := mt Int32.le_iff_toInt_le.mpr hc2
      refine ⟨vp_of (by omega) (by omega), ?_⟩
      refine ⟨fun hc3 => ?_, fun hc4 => ?_⟩
      · skip
        have q3 := i32_lo x1
        have q4 : (0 : Int32).toInt = 0 := rfl
        have hc3 : ¬ (((I (13 + 4) (Int32.toNatClampNeg x3)) &&& x1)).toInt = (0 : Int32).toInt := fun z => hc3 (Int32.toInt_inj.mp z)
        have q5 : (1 : Int32).toInt = 1 := rfl
        have q6 := i32_add x3 1 (by omega) (by omega)
        exact ih (x3 + 1) (by omega) (by omega) (by omega)
      · skip
        have q3 := i32_lo x1
        have q4 : (0 : Int32).toInt = 0 := rfl
        have hc4 := Int32.toInt_inj.mpr hc4
        exact hK _ 
theorem sfX8_breaksAll {G : jdG} {n : Nat} {Z : jdL} {J : jdJ} {K : Int32 → jdI → jdJ → Prop}  {I : jdI} {x1 : Int32} {x2 : Int32} (ht : zTies Z 13)  (hW : WX I) (hx2 : x2.toInt ≤ 70) (hK : ∀ (v : Int32), K v I J) : Cl G mX8_breaksAll n 0 0 [.ref (gb G + 13), .int x1, .int x2] Z I J (qi Z K) := by
  refine eX8_breaksAll ht ?_
  have hwI := WX_f hW
  have q1 : (0 : Int32).toInt = 0 := rfl
  exact lX8_breaksAll_2 ht  hW hx2 hK  ((70 - (0 : Int32).toInt).toNat + 1) 0 (by omega) (by omega) (by omega)
theorem lX8_tally_2 {G : jdG} {n : Nat} {Z : jdL} {J : jdJ} {rc rs : Nat} {K : jdI → jdJ → Prop}  {I0 : jdI} {x1 : Int32} (ht : zTies Z 13)   (hK : ∀ (I2 : jdI), WX I2 → Fr (fun a k => 13 ≤ a ∧ a ≤ 19) I0 I2 → K I2 J) : ∀ m : Nat, ∀ (I : jdI) (x2 : Int32), WX I → Fr (fun a k => 13 ≤ a ∧ a ≤ 19) I0 I → (0 ≤ x2.toInt ∧ x2.toInt ≤ 28) → (28) - x2.toInt < (m : Int) → Jd G mX8_tally (jdFm G (qv Z K)) n rc rs 2 [(0, .ref (gb G + 13)), (1, .int x1), (2, .int x2)] [] Z I J := by
  intro m
  induction m with
  | zero =>
    intro I x2 hW hF hx2 hm
    have hwI := WX_f hW
    omega
  | succ m ih =>
    intro I x2 hW hF hx2 hm
    have hwI := WX_f hW
    refine rX8_tally_2 ht ?_
    refine ⟨fun hc1 => ?_, fun hc2 => ?_⟩
    · skip
      have q1 : (28 : Int32).toInt = 28 := rfl
      have q2 := i32_lo x2
      have hc1 := Int32.le_iff_toInt_le.mp hc1
      exact hK _ hW hF
    · skip
      have q1 : (28 : Int32).toInt = 28 := rfl
      have q2 := i32_lo x2
      have hc2 := mt Int32.le_iff_toInt_le.mpr hc2
      refine ⟨vp_of (by omega) (by omega), ?_⟩
      refine ⟨vp_of (by omega) (by omega), ?_⟩
      have q3 : (1 : Int32).toInt = 1 := rfl
      have q4 := i32_add x2 1 (by omega) (by omega)
      exact ih _ (x2 + 1) (WX_uI hW (by first | exact okXo (by decide) | (unfold okX; refine ⟨?_, ?_, ?_, ?_, ?_, ?_, ?_, ?_, ?_, ?_⟩ <;> intro h <;> omega))) (Fr_uI hF (by omega)) (by omega) (by omega)
theorem sfX8_tally {G : jdG} {n : Nat} {Z : jdL} {J : jdJ} {K : jdI → jdJ → Prop}  {I : jdI} {x1 : Int32} (ht : zTies Z 13)  (hW : WX I)  (hK : ∀ (I2 : jdI), WX I2 → Fr (fun a k => 13 ≤ a ∧ a ≤ 19) I I2 → K I2 J) : Cl G mX8_tally n 0 0 [.ref (gb G + 13), .int x1] Z I J (qv Z K) := by
  refine eX8_tally ht ?_
  have hwI := WX_f hW
  have q1 : (0 : Int32).toInt = 0 := rfl
  exact lX8_tally_2 ht   hK  (((28) - (0 : Int32).toInt).toNat + 1) _ 0 hW Fr.rf (by omega) (by omega)
theorem lX8_costTogether_4 {G : jdG} {n : Nat} {Z : jdL} {J : jdJ} {rc rs : Nat} {K : Int32 → jdI → jdJ → Prop}  {I : jdI} {x1 : Int32} (ht : zTies Z 13)  (hW : WX I)  (hK : ∀ (v : Int32), K v I J) : ∀ m : Nat, ∀ (x2 : Int32) (x3 : Int32), (0 ≤ x3.toInt ∧ x3.toInt ≤ (I 13 6).toInt) → ((I 13 6).toInt) - x3.toInt < (m : Int) → Jd G mX8_costTogether (jdFm G (qi Z K)) n rc rs 4 [(0, .ref (gb G + 13)), (1, .int x1), (2, .int x2), (3, .int x3)] [] Z I J := by
  intro m
  induction m with
  | zero =>
    intro x2 x3 hx3 hm
    have hwI := WX_f hW
    omega
  | succ m ih =>
    intro x2 x3 hx3 hm
    have hwI := WX_f hW
    refine rX8_costTogether_4 ht ?_
    refine ⟨fun hc1 => ?_, fun hc2 => ?_⟩
    · skip
      have q1 := i32_lo (I 13 6)
      have q2 := i32_lo x3
      have hc1 := Int32.le_iff_toInt_le.mp hc1
      exact hK _ 
    · skip
      have q1 := i32_lo (I 13 6)
      have q2 := i32_lo x3
      have hc2 := mt Int32.le_iff_toInt_le.mpr hc2
      refine ⟨vp_of (by omega) (by omega), ?_⟩
      have q3 : (1 : Int32).toInt = 1 := rfl
      have q4 := i32_add x3 1 (by omega) (by omega)
      exact ih (x2 + (((x1 >>> (x3 &&& 31)) &&& 1) * (I (13 + 2) (Int32.toNatClampNeg x3)))) (x3 + 1) (by omega) (by omega)
theorem sfX8_costTogether {G : jdG} {n : Nat} {Z : jdL} {J : jdJ} {K : Int32 → jdI → jdJ → Prop}  {I : jdI} {x1 : Int32} (ht : zTies Z 13)  (hW : WX I)  (hK : ∀ (v : Int32), K v I J) : Cl G mX8_costTogether n 0 0 [.ref (gb G + 13), .int x1] Z I J (qi Z K) := by
  refine eX8_costTogether ht ?_
  have hwI := WX_f hW
  have q1 : (0 : Int32).toInt = 0 := rfl
  exact lX8_costTogether_4 ht  hW  hK  ((((I 13 6).toInt) - (0 : Int32).toInt).toNat + 1) 0 0 (by omega) (by omega)
theorem lX8_strangersTogether_4 {G : jdG} {n : Nat} {Z : jdL} {J : jdJ} {rc rs : Nat} {K : Int32 → jdI → jdJ → Prop}  {I : jdI} {x1 : Int32} (ht : zTies Z 13)  (hW : WX I)  (hK : ∀ (v : Int32), K v I J) : ∀ m : Nat, ∀ (x2 : Int32) (x3 : Int32), (0 ≤ x3.toInt ∧ x3.toInt ≤ (I 13 6).toInt) → ((I 13 6).toInt) - x3.toInt < (m : Int) → Jd G mX8_strangersTogether (jdFm G (qi Z K)) (n + 1) rc rs 4 [(0, .ref (gb G + 13)), (1, .int x1), (2, .int x2), (3, .int x3)] [] Z I J := by
  intro m
  induction m with
  | zero =>
    intro x2 x3 hx3 hm
    have hwI := WX_f hW
    omega
  | succ m ih =>
    intro x2 x3 hx3 hm
    have hwI := WX_f hW
    refine rX8_strangersTogether_4 ht ?_
    refine ⟨fun hc1 => ?_, fun hc2 => ?_⟩
    · skip
      have q1 := i32_lo (I 13 6)
      have q2 := i32_lo x3
      have hc1 := Int32.le_iff_toInt_le.mp hc1
      exact hK _ 
    · skip
      have q1 := i32_lo (I 13 6)
      have q2 := i32_lo x3
      have hc2 := mt Int32.le_iff_toInt_le.mpr hc2
      refine ⟨vp_of (by omega) (by omega), ?_⟩
      refine sfJ6_bitCount_0f7a4  hW  (fun v3  hp3 => ?_)
      have q3 : (1 : Int32).toInt = 1 := rfl
      have q4 := i32_add x3 1 (by omega) (by omega)
      exact ih (x2 + (((x1 >>> (x3 &&& 31)) &&& 1) * v3)) (x3 + 1) (by omega) (by omega)
theorem sfX8_strangersTogether {G : jdG} {n : Nat} {Z : jdL} {J : jdJ} {K : Int32 → jdI → jdJ → Prop}  {I : jdI} {x1 : Int32} (ht : zTies Z 13)  (hW : WX I)  (hK : ∀ (v : Int32), K v I J) : Cl G mX8_strangersTogether (n + 1) 0 0 [.ref (gb G + 13), .int x1] Z I J (qi Z K) := by
  refine eX8_strangersTogether ht ?_
  have hwI := WX_f hW
  have q1 : (0 : Int32).toInt = 0 := rfl
  exact lX8_strangersTogether_4 ht  hW  hK  ((((I 13 6).toInt) - (0 : Int32).toInt).toNat + 1) 0 0 (by omega) (by omega)
theorem sfX9_since {G : jdG} {n : Nat} {Z : jdL} {J : jdJ} {K : Int32 → jdI → jdJ → Prop}  {I : jdI} {t : Nat} {x1 : Int32} {x2 : Int32} (ht : zTown Z t) (hts : (t = 1 ∨ t = 5 ∨ t = 9)) (hW : WX I) (hx1 : 0 ≤ x1.toInt ∧ x1.toInt ≤ 6) (hx2 : 0 ≤ x2.toInt ∧ x2.toInt ≤ 6) (hK : ∀ (v : Int32), K v I J) : Cl G mX9_since n 0 0 [.ref (gb G + t), .int x1, .int x2] Z I J (qi Z K) := by
  refine eX9_since ht ?_
  have hwI := WX_f hW
  have hptI := WX_town hW hts
  have q1 := i32_lo x1
  have q2 : (7 : Int32).toInt = 7 := rfl
  have q3 := i32_mulc x1 7 7 rfl (by omega) (by omega)
  have q4 := i32_lo x2
  have q5 := i32_add (x1 * 7) x2 (by omega) (by omega)
  refine ⟨vp_of (by omega) (by omega), ?_⟩
  exact hK _ 
theorem lX9_strangersTo_4 {G : jdG} {n : Nat} {Z : jdL} {J : jdJ} {rc rs : Nat} {K : Int32 → jdI → jdJ → Prop}  {I : jdI} {t : Nat} {x1 : Int32} (ht : zTown Z t) (hts : (t = 1 ∨ t = 5 ∨ t = 9)) (hW : WX I) (hx1 : 0 ≤ x1.toInt ∧ x1.toInt ≤ 6) (hK : ∀ (v : Int32), K v I J) : ∀ m : Nat, ∀ (x2 : Int32) (x3 : Int32), (0 ≤ x3.toInt ∧ x3.toInt ≤ (I t 3).toInt) → (0 ≤ x1.toInt ∧ x1.toInt ≤ 6) → ((I t 3).toInt) - x3.toInt < (m : Int) → Jd G mX9_strangersTo (jdFm G (qi Z K)) (n + 1) rc rs 4 [(0, .ref (gb G + t)), (1, .int x1), (2, .int x2), (3, .int x3)] [] Z I J := by
  intro m
  induction m with
  | zero =>
    intro x2 x3 hx3 hx1b hm
    have hwI := WX_f hW
    have hptI := WX_town hW hts
    omega
  | succ m ih =>
    intro x2 x3 hx3 hx1b hm
    have hwI := WX_f hW
    have hptI := WX_town hW hts
    refine rX9_strangersTo_4 ht ?_
    refine ⟨fun hc1 => ?_, fun hc2 => ?_⟩
    · skip
      have q1 := i32_lo (I t 3)
      have q2 := i32_lo x3
      have hc1 := Int32.le_iff_toInt_le.mp hc1
      exact hK _ 
    · skip
      have q1 := i32_lo (I t 3)
      have q2 := i32_lo x3
      have hc2 := mt Int32.le_iff_toInt_le.mpr hc2
      refine ⟨fun hc3 => ?_, fun hc4 => ?_⟩
      · skip
        have q3 := i32_lo x1
        have hc3 := Int32.toInt_inj.mpr hc3
        have q4 : (1 : Int32).toInt = 1 := rfl
        have q5 := i32_add x3 1 (by omega) (by omega)
        exact ih x2 (x3 + 1) (by omega) (by omega) (by omega)
      · skip
        have q3 := i32_lo x1
        have hc4 : ¬ (x3).toInt = (x1).toInt := fun z => hc4 (Int32.toInt_inj.mp z)
        refine sfX9_since ht hts hW (by omega) (by omega) (fun v2  => ?_)
        refine ⟨fun hc6 => ?_, fun hc7 => ?_⟩
        · skip
          have q4 := i32_lo v2
          have q5 : (-1 : Int32).toInt = -1 := rfl
          have hc6 : ¬ (v2).toInt = ((-1) : Int32).toInt := fun z => hc6 (Int32.toInt_inj.mp z)
          have q6 : (1 : Int32).toInt = 1 := rfl
          have q7 := i32_add x3 1 (by omega) (by omega)
          exact ih x2 (x3 + 1) (by omega) (by omega) (by omega)
        · skip
          have q4 := i32_lo v2
          have q5 : (-1 : Int32).toInt = -1 := rfl
          have hc7 := Int32.toInt_inj.mpr hc7
          have q6 : (1 : Int32).toInt = 1 := rfl
          have q7 := i32_add x3 1 (by omega) (by omega)
          exact ih (x2 ||| (1 <<< (x3 &&& 31))) (x3 + 1) (by omega) (by omega) (by omega)
theorem sfX9_strangersTo {G : jdG} {n : Nat} {Z : jdL} {J : jdJ} {K : Int32 → jdI → jdJ → Prop}  {I : jdI} {t : Nat} {x1 : Int32} (ht : zTown Z t) (hts : (t = 1 ∨ t = 5 ∨ t = 9)) (hW : WX I) (hx1 : 0 ≤ x1.toInt ∧ x1.toInt ≤ 6) (hK : ∀ (v : Int32), K v I J) : Cl G mX9_strangersTo (n + 1) 0 0 [.ref (gb G + t), .int x1] Z I J (qi Z K) := by
  refine eX9_strangersTo ht ?_
  have hwI := WX_f hW
  have hptI := WX_town hW hts
  have q1 : (0 : Int32).toInt = 0 := rfl
  exact lX9_strangersTo_4 ht hts hW hx1 hK  ((((I t 3).toInt) - (0 : Int32).toInt).toNat + 1) 0 0 (by omega) (by omega) (by omega)
theorem lX8_gather_37 {G : jdG} {n : Nat} {Z : jdL} {J : jdJ} {rc rs : Nat} {K : jdI → jdJ → Prop}  {I0 : jdI} {x1 : Int32} {x2 : Int32} {x3 : Int32} (ht : zTies Z 13)   (hK : ∀ (I2 : jdI), WX I2 → Fr (fun a k => 13 ≤ a ∧ a ≤ 19) I0 I2 → K I2 J) {d : Nat} (hR : ∀ (I : jdI) (K : jdI → jdJ → Prop) (x1 : Int32) (x2 : Int32) (x3 : Int32), WX I → 0 ≤ x3.toInt ∧ x3.toInt < (d : Int) → (∀ (I2 : jdI), WX I2 → Fr (fun a k => 13 ≤ a ∧ a ≤ 19) I I2 → K I2 J) → Cl G mX8_gather (n + 0) 0 0 [.ref (gb G + 13), .int x1, .int x2, .int x3] Z I J (qv Z K)) : ∀ m : Nat, ∀ (I : jdI) (x4 : Int32), WX I → Fr (fun a k => 13 ≤ a ∧ a ≤ 19) I0 I → (0 ≤ x4.toInt ∧ x4.toInt ≤ 8) → (0 < x3.toInt ∧ x3.toInt ≤ (d : Int)) → (8) - x4.toInt < (m : Int) → Jd G mX8_gather (jdFm G (qv Z K)) (n + 1) rc rs 37 [(0, .ref (gb G + 13)), (1, .int x1), (2, .int x2), (3, .int x3), (4, .int x4)] [] Z I J := by
  intro m
  induction m with
  | zero =>
    intro I x4 hW hF hx4 hd hm
    have hwI := WX_f hW
    omega
  | succ m ih =>
    intro I x4 hW hF hx4 hd hm
    have hwI := WX_f hW
    refine rX8_gather_37 ht ?_
    refine ⟨fun hc1 => ?_, fun hc2 => ?_⟩
    · skip
      have q1 := i32_lo (I 13 6)
      have q2 := i32_lo x4
      have hc1 := Int32.le_iff_toInt_le.mp hc1
      exact hK _ hW hF
    · skip
      have q1 := i32_lo (I 13 6)
      have q2 := i32_lo x4
      have hc2 := mt Int32.le_iff_toInt_le.mpr hc2
      refine ⟨fun hc3 => ?_, fun hc4 => ?_⟩
      · skip
        have q3 := i32_lo x2
        have q4 : (31 : Int32).toInt = 31 := rfl
        have q5 : (1 : Int32).toInt = 1 := rfl
        have q6 : (0 : Int32).toInt = 0 := rfl
        have hc3 := Int32.toInt_inj.mpr hc3
        have q7 := i32_add x4 1 (by omega) (by omega)
        exact ih _ (x4 + 1) hW hF (by omega) (by omega) (by omega)
      · skip
        have q3 := i32_lo x2
        have q4 : (31 : Int32).toInt = 31 := rfl
        have q5 : (1 : Int32).toInt = 1 := rfl
        have q6 : (0 : Int32).toInt = 0 := rfl
        have hc4 : ¬ (((x2 >>> (x4 &&& 31)) &&& 1)).toInt = (0 : Int32).toInt := fun z => hc4 (Int32.toInt_inj.mp z)
        refine ⟨vp_of (by omega) (by omega), ?_⟩
        have q7 := i32_lo x3
        have q8 := i32_sub x3 1 (by omega) (by omega)
        refine hR _ _ _ _ _ hW  ⟨by omega, by omega⟩ (fun I2 hWI2 hFI2 => ?_)
        have hwI2 := WX_f hWI2
        have q9 := i32_add x4 1 (by omega) (by omega)
        exact ih _ (x4 + 1) hWI2 (Fr.tr hF hFI2 (by intro a k h; omega)) (by omega) (by omega) (by omega)
theorem sbX8_gather {G : jdG} {n : Nat} {Z : jdL} {J : jdJ} {d : Nat}   (ht : zTies Z 13)  (hR : ∀ (I : jdI) (K : jdI → jdJ → Prop) (x1 : Int32) (x2 : Int32) (x3 : Int32), WX I → 0 ≤ x3.toInt ∧ x3.toInt < (d : Int) → (∀ (I2 : jdI), WX I2 → Fr (fun a k => 13 ≤ a ∧ a ≤ 19) I I2 → K I2 J) → Cl G mX8_gather (n + 0) 0 0 [.ref (gb G + 13), .int x1, .int x2, .int x3] Z I J (qv Z K)) (I : jdI) (K : jdI → jdJ → Prop) (x1 : Int32) (x2 : Int32) (x3 : Int32) (hW : WX I)  (hd : 0 ≤ x3.toInt ∧ x3.toInt ≤ (d : Int)) (hK : ∀ (I2 : jdI), WX I2 → Fr (fun a k => 13 ≤ a ∧ a ≤ 19) I I2 → K I2 J) : Cl G mX8_gather (n + 1) 0 0 [.ref (gb G + 13), .int x1, .int x2, .int x3] Z I J (qv Z K) := by
  refine eX8_gather ht ?_
  have hwI := WX_f hW
  refine ⟨fun hc1 => ?_, fun hc2 => ?_⟩
  · skip
    have q1 : (0 : Int32).toInt = 0 := rfl
    have q2 := i32_lo x3
    have hc1 := Int32.lt_iff_toInt_lt.mp hc1
    exact lX8_gather_37 ht   hK hR  (((8) - (0 : Int32).toInt).toNat + 1) _ 0 hW Fr.rf (by omega) (by omega) (by omega)
  · skip
    have q1 : (0 : Int32).toInt = 0 := rfl
    have q2 := i32_lo x3
    have hc2 := mt Int32.lt_iff_toInt_lt.mpr hc2
    refine ⟨fun hc3 => ?_, fun hc4 => ?_⟩
    · skip
      have q3 : (70 : Int32).toInt = 70 := rfl
      have q4 := i32_lo (I 13 8)
      have hc3 := Int32.le_iff_toInt_le.mp hc3
      exact hK _ hW Fr.rf
    · skip
      have q3 : (70 : Int32).toInt = 70 := rfl
      have q4 := i32_lo (I 13 8)
      have hc4 := mt Int32.le_iff_toInt_le.mpr hc4
      refine ⟨vp_of (by omega) (by omega), ?_⟩
      have q5 : (1 : Int32).toInt = 1 := rfl
      have q6 := i32_add (I 13 8) 1 (by omega) (by omega)
      exact hK _ (WX_uI (WX_uI hW (by first | exact okXo (by decide) | (unfold okX; refine ⟨?_, ?_, ?_, ?_, ?_, ?_, ?_, ?_, ?_, ?_⟩ <;> intro h <;> omega))) (by first | exact okXo (by decide) | (unfold okX; refine ⟨?_, ?_, ?_, ?_, ?_, ?_, ?_, ?_, ?_, ?_⟩ <;> intro h <;> omega))) (Fr_uI (Fr_uI Fr.rf (by omega)) (by omega))
theorem srX8_gather {G : jdG} {Z : jdL} {J : jdJ}   (ht : zTies Z 13)  : ∀ d : Nat, ∀ (n : Nat) (I : jdI) (K : jdI → jdJ → Prop) (x1 : Int32) (x2 : Int32) (x3 : Int32), WX I → 0 ≤ x3.toInt ∧ x3.toInt ≤ (d : Int) → (∀ (I2 : jdI), WX I2 → Fr (fun a k => 13 ≤ a ∧ a ≤ 19) I I2 → K I2 J) → Cl G mX8_gather (n + 0 + d + 1) 0 0 [.ref (gb G + 13), .int x1, .int x2, .int x3] Z I J (qv Z K) := by
  intro d
  induction d with
  | zero =>
    intro n
    exact sbX8_gather (n := n) (d := 0) ht (fun _ _ _ _ _ _ h _ => absurd h (by omega))
  | succ d ih =>
    intro n
    exact sbX8_gather (n := n + d + 1) (d := d + 1) ht (fun I K x1 x2 x3 hW  h hK => by
      have e : n + d + 1 + 0 = n + 0 + d + 1 := by omega
      rw [e]
      exact ih n I K x1 x2 x3 hW  ⟨h.1, by omega⟩ hK) |> (fun h => by
      have e : n + 0 + (d + 1) + 1 = n + d + 1 + 1 := by omega
      rw [e]
      exact h)
theorem sfX8_gather {G : jdG} {n : Nat} {Z : jdL} {J : jdJ} {K : jdI → jdJ → Prop}  {I : jdI} {x1 : Int32} {x2 : Int32} {x3 : Int32} (ht : zTies Z 13)  (hW : WX I)  (hd : 0 ≤ x3.toInt ∧ x3.toInt ≤ 4) (hK : ∀ (I2 : jdI), WX I2 → Fr (fun a k => 13 ≤ a ∧ a ≤ 19) I I2 → K I2 J) : Cl G mX8_gather (n + 5) 0 0 [.ref (gb G + 13), .int x1, .int x2, .int x3] Z I J (qv Z K) :=
  srX8_gather ht 4 n I K x1 x2 x3 hW  hd hK
theorem sfX8_list {G : jdG} {n : Nat} {Z : jdL} {J : jdJ} {K : jdI → jdJ → Prop}  {I : jdI}  (ht : zTies Z 13)  (hW : WX I)  (hK : ∀ (I2 : jdI), WX I2 → Fr (fun a k => 13 ≤ a ∧ a ≤ 19) I I2 → K I2 J) : Cl G mX8_list (n + 6) 0 0 [.ref (gb G + 13)] Z I J (qv Z K) := by
  refine eX8_list ht ?_
  have hwI := WX_f hW
  have q1 : (0 : Int32).toInt = 0 := rfl
  refine sfX8_everybody ht (WX_uI (WX_uI hW (by first | exact okXo (by decide) | (unfold okX; refine ⟨?_, ?_, ?_, ?_, ?_, ?_, ?_, ?_, ?_, ?_⟩ <;> intro h <;> omega))) (by first | exact okXo (by decide) | (unfold okX; refine ⟨?_, ?_, ?_, ?_, ?_, ?_, ?_, ?_, ?_, ?_⟩ <;> intro h <;> omega)))  (fun v2  hp1 => ?_)
  have hr2 : (((uI (uI I 13 8 0) 13 10 0)) 13 7).toInt = ((I 13 7)).toInt := congrArg Int32.toInt (uI_sk (by decide) (uI_sk (by decide) rfl))
  refine sfX8_gather ht (WX_uI (WX_uI hW (by first | exact okXo (by decide) | (unfold okX; refine ⟨?_, ?_, ?_, ?_, ?_, ?_, ?_, ?_, ?_, ?_⟩ <;> intro h <;> omega))) (by first | exact okXo (by decide) | (unfold okX; refine ⟨?_, ?_, ?_, ?_, ?_, ?_, ?_, ?_, ?_, ?_⟩ <;> intro h <;> omega)))  ⟨by omega, by omega⟩ (fun I3 hWI3 hFI3 => ?_)
  have hwI3 := WX_f hWI3
  exact hK _ hWI3 (Fr.tr (Fr_uI (Fr_uI Fr.rf (by omega)) (by omega)) hFI3 (by intro a k h; omega))
theorem lX8_load_18 {G : jdG} {n : Nat} {Z : jdL} {J : jdJ} {rc rs : Nat} {K : jdI → jdJ → Prop}  {I0 : jdI} {u1 : Nat} (ht : zTies Z 13) (hu1 : zTown Z u1) (hu1s : (u1 = 1 ∨ u1 = 5 ∨ u1 = 9))  (hK : ∀ (I2 : jdI), WX I2 → Fr (fun a k => 13 ≤ a ∧ a ≤ 19) I0 I2 → K I2 J) : ∀ m : Nat, ∀ (I : jdI) (x2 : Int32), WX I → Fr (fun a k => 13 ≤ a ∧ a ≤ 19) I0 I → (0 ≤ x2.toInt ∧ x2.toInt ≤ (I 13 6).toInt) → ((I 13 6).toInt ≤ 7) → ((I 13 6).toInt) - x2.toInt < (m : Int) → Jd G mX8_load (jdFm G (qv Z K)) (n + 7) rc rs 18 [(0, .ref (gb G + 13)), (1, .ref (gb G + u1)), (2, .int x2)] [] Z I J := by
  intro m
  induction m with
  | zero =>
    intro I x2 hW hF hx2 hpe hm
    have hwI := WX_f hW
    have hpu1I := WX_town hW hu1s
    omega
  | succ m ih =>
    intro I x2 hW hF hx2 hpe hm
    have hwI := WX_f hW
    have hpu1I := WX_town hW hu1s
    refine rX8_load_18 ht hu1 ?_
    refine ⟨fun hc1 => ?_, fun hc2 => ?_⟩
    · skip
      have q1 := i32_lo (I 13 6)
      have q2 := i32_lo x2
      have hc1 := Int32.le_iff_toInt_le.mp hc1
      refine sfX8_list ht hW  (fun I1 hWI1 hFI1 => ?_)
      have hwI1 := WX_f hWI1
      have hpu1I1 := WX_town hWI1 hu1s
      exact hK _ hWI1 (Fr.tr hF hFI1 (by intro a k h; omega))
    · skip
      have q1 := i32_lo (I 13 6)
      have q2 := i32_lo x2
      have hc2 := mt Int32.le_iff_toInt_le.mpr hc2
      refine sfX9_strangersTo hu1 hu1s hW (by omega) (fun v4  => ?_)
      refine ⟨vp_of (by omega) (by omega), ?_⟩
      refine ⟨vp_of (by omega) (by omega), ?_⟩
      refine ⟨vp_of (by omega) (by omega), ?_⟩
      have q3 : (1 : Int32).toInt = 1 := rfl
      have q4 := i32_add x2 1 (by omega) (by omega)
      have hr5 : (((uI (uI I (13 + 1) (Int32.toNatClampNeg x2) v4) (13 + 2) (Int32.toNatClampNeg x2) ((uI I (13 + 1) (Int32.toNatClampNeg x2) v4) (u1 + 2) (Int32.toNatClampNeg x2)))) 13 6).toInt = (((uI I (13 + 1) (Int32.toNatClampNeg x2) v4)) 13 6).toInt := by rw [uI_n _ _ _ (show 13 ≠ (13 + 2) by omega)]
      have hr6 : (((uI I (13 + 1) (Int32.toNatClampNeg x2) v4)) 13 6).toInt = ((I) 13 6).toInt := by rw [uI_n _ _ _ (show 13 ≠ (13 + 1) by omega)]
      exact ih _ (x2 + 1) (WX_uI (WX_uI hW (by first | exact okXo (by decide) | (unfold okX; refine ⟨?_, ?_, ?_, ?_, ?_, ?_, ?_, ?_, ?_, ?_⟩ <;> intro h <;> omega))) (by first | exact okXo (by decide) | (unfold okX; refine ⟨?_, ?_, ?_, ?_, ?_, ?_, ?_, ?_, ?_, ?_⟩ <;> intro h <;> omega))) (Fr_uI (Fr_uI hF (by omega)) (by omega)) (by omega) (by omega) (by omega)
theorem sfX8_load {G : jdG} {n : Nat} {Z : jdL} {J : jdJ} {K : jdI → jdJ → Prop}  {I : jdI} {u1 : Nat} (ht : zTies Z 13) (hu1 : zTown Z u1) (hu1s : (u1 = 1 ∨ u1 = 5 ∨ u1 = 9)) (hW : WX I)  (hK : ∀ (I2 : jdI), WX I2 → Fr (fun a k => 13 ≤ a ∧ a ≤ 19) I I2 → K I2 J) : Cl G mX8_load (n + 7) 0 0 [.ref (gb G + 13), .ref (gb G + u1)] Z I J (qv Z K) := by
  refine eX8_load ht hu1 ?_
  have hwI := WX_f hW
  have hpu1I := WX_town hW hu1s
  have hr1 : (((uI I 13 6 (I u1 3))) u1 4).toInt = ((I) u1 4).toInt := by rw [uI_n _ _ _ (show u1 ≠ 13 by omega)]
  have q1 : (0 : Int32).toInt = 0 := rfl
  have q2 := i32_lo (I u1 3)
  have hr2 : (((uI (uI I 13 6 (I u1 3)) 13 7 ((uI I 13 6 (I u1 3)) u1 4))) 13 6).toInt = ((I u1 3)).toInt := congrArg Int32.toInt (uI_sk (by decide) (uI_ss _ _ _ _))
  exact lX8_load_18 ht hu1 hu1s  hK  (((((uI (uI I 13 6 (I u1 3)) 13 7 ((uI I 13 6 (I u1 3)) u1 4)) 13 6).toInt) - (0 : Int32).toInt).toNat + 1) _ 0 (WX_uI (WX_uI hW (by first | exact okXo (by decide) | (unfold okX; refine ⟨?_, ?_, ?_, ?_, ?_, ?_, ?_, ?_, ?_, ?_⟩ <;> intro h <;> omega))) (by first | exact okXo (by decide) | (unfold okX; refine ⟨?_, ?_, ?_, ?_, ?_, ?_, ?_, ?_, ?_, ?_⟩ <;> intro h <;> omega))) (Fr_uI (Fr_uI Fr.rf (by omega)) (by omega)) (by omega) (by omega) (by omega)
theorem lX8_addStranger_12 {G : jdG} {n : Nat} {Z : jdL} {J : jdJ} {rc rs : Nat} {K : jdI → jdJ → Prop}  {I0 : jdI}  (ht : zTies Z 13)   (hK : ∀ (I2 : jdI), WX I2 → Fr (fun a k => 13 ≤ a ∧ a ≤ 19) I0 I2 → K I2 J) : ∀ m : Nat, ∀ (I : jdI) (x1 : Int32), WX I → Fr (fun a k => 13 ≤ a ∧ a ≤ 19) I0 I → (0 ≤ x1.toInt ∧ x1.toInt ≤ (I 13 6).toInt) → ((I 13 6).toInt ≤ 7) → ((I 13 6).toInt) - x1.toInt < (m : Int) → Jd G mX8_addStranger (jdFm G (qv Z K)) (n + 7) rc rs 12 [(0, .ref (gb G + 13)), (1, .int x1)] [] Z I J := by
  intro m
  induction m with
  | zero =>
    intro I x1 hW hF hx1 hpe hm
    have hwI := WX_f hW
    omega
  | succ m ih =>
    intro I x1 hW hF hx1 hpe hm
    have hwI := WX_f hW
    refine rX8_addStranger_12 ht ?_
    refine ⟨fun hc1 => ?_, fun hc2 => ?_⟩
    · skip
      have q1 := i32_lo (I 13 6)
      have q2 := i32_lo x1
      have hc1 := Int32.le_iff_toInt_le.mp hc1
      refine sfX8_everybody ht hW  (fun v2  hp3 => ?_)
      refine ⟨vp_of (by omega) (by omega), ?_⟩
      refine ⟨vp_of (by omega) (by omega), ?_⟩
      have q3 : (1 : Int32).toInt = 1 := rfl
      have q4 := i32_add (I 13 6) 1 (by omega) (by omega)
      refine sfX8_list ht (WX_uI (WX_uI (WX_uI hW (by first | exact okXo (by decide) | (unfold okX; refine ⟨?_, ?_, ?_, ?_, ?_, ?_, ?_, ?_, ?_, ?_⟩ <;> intro h <;> omega))) (by first | exact okXo (by decide) | (unfold okX; refine ⟨?_, ?_, ?_, ?_, ?_, ?_, ?_, ?_, ?_, ?_⟩ <;> intro h <;> omega))) (by first | exact okXo (by decide) | (unfold okX; refine ⟨?_, ?_, ?_, ?_, ?_, ?_, ?_, ?_, ?_, ?_⟩ <;> intro h <;> omega)))  (fun I5 hWI5 hFI5 => ?_)
      have hwI5 := WX_f hWI5
      exact hK _ hWI5 (Fr.tr (Fr_uI (Fr_uI (Fr_uI hF (by omega)) (by omega)) (by omega)) hFI5 (by intro a k h; omega))
    · skip
      have q1 := i32_lo (I 13 6)
      have q2 := i32_lo x1
      have hc2 := mt Int32.le_iff_toInt_le.mpr hc2
      refine ⟨vp_of (by omega) (by omega), ?_⟩
      refine ⟨vp_of (by omega) (by omega), ?_⟩
      have q3 : (1 : Int32).toInt = 1 := rfl
      have q4 := i32_add x1 1 (by omega) (by omega)
      have hr5 : (((uI I (13 + 1) (Int32.toNatClampNeg x1) ((I (13 + 1) (Int32.toNatClampNeg x1)) ||| (1 <<< ((I 13 6) &&& 31))))) 13 6).toInt = ((I) 13 6).toInt := by rw [uI_n _ _ _ (show 13 ≠ (13 + 1) by omega)]
      exact ih _ (x1 + 1) (WX_uI hW (by first | exact okXo (by decide) | (unfold okX; refine ⟨?_, ?_, ?_, ?_, ?_, ?_, ?_, ?_, ?_, ?_⟩ <;> intro h <;> omega))) (Fr_uI hF (by omega)) (by omega) (by omega) (by omega)
theorem sfX8_addStranger {G : jdG} {n : Nat} {Z : jdL} {J : jdJ} {K : jdI → jdJ → Prop}  {I : jdI}  (ht : zTies Z 13)  (hW : WX I)  (hK : ∀ (I2 : jdI), WX I2 → Fr (fun a k => 13 ≤ a ∧ a ≤ 19) I I2 → K I2 J) : Cl G mX8_addStranger (n + 7) 0 0 [.ref (gb G + 13)] Z I J (qv Z K) := by
  refine eX8_addStranger ht ?_
  have hwI := WX_f hW
  refine ⟨fun hc1 => ?_, fun hc2 => ?_⟩
  · skip
    have q1 := i32_lo (I 13 6)
    have q2 : (8 : Int32).toInt = 8 := rfl
    have hc1 := Int32.lt_iff_toInt_lt.mp hc1
    have q3 : (0 : Int32).toInt = 0 := rfl
    exact lX8_addStranger_12 ht   hK  ((((I 13 6).toInt) - (0 : Int32).toInt).toNat + 1) _ 0 hW Fr.rf (by omega) (by omega) (by omega)
  · skip
    have q1 := i32_lo (I 13 6)
    have q2 : (8 : Int32).toInt = 8 := rfl
    have hc2 := mt Int32.lt_iff_toInt_lt.mpr hc2
    exact hK _ hW Fr.rf
theorem lX8_acquaint_2 {G : jdG} {n : Nat} {Z : jdL} {J : jdJ} {rc rs : Nat} {K : jdI → jdJ → Prop}  {I0 : jdI} {x1 : Int32} (ht : zTies Z 13)   (hK : ∀ (I2 : jdI), WX I2 → Fr (fun a k => 13 ≤ a ∧ a ≤ 19) I0 I2 → K I2 J) : ∀ m : Nat, ∀ (I : jdI) (x2 : Int32), WX I → Fr (fun a k => 13 ≤ a ∧ a ≤ 19) I0 I → (0 ≤ x2.toInt ∧ x2.toInt ≤ (I 13 6).toInt) → ((I 13 6).toInt) - x2.toInt < (m : Int) → Jd G mX8_acquaint (jdFm G (qv Z K)) (n + 7) rc rs 2 [(0, .ref (gb G + 13)), (1, .int x1), (2, .int x2)] [] Z I J := by
  intro m
  induction m with
  | zero =>
    intro I x2 hW hF hx2 hm
    have hwI := WX_f hW
    omega
  | succ m ih =>
    intro I x2 hW hF hx2 hm
    have hwI := WX_f hW
    refine rX8_acquaint_2 ht ?_
    refine ⟨fun hc1 => ?_, fun hc2 => ?_⟩
    · skip
      have q1 := i32_lo (I 13 6)
      have q2 := i32_lo x2
      have hc1 := Int32.le_iff_toInt_le.mp hc1
      refine sfX8_list ht hW  (fun I1 hWI1 hFI1 => ?_)
      have hwI1 := WX_f hWI1
      exact hK _ hWI1 (Fr.tr hF hFI1 (by intro a k h; omega))
    · skip
      have q1 := i32_lo (I 13 6)
      have q2 := i32_lo x2
      have hc2 := mt Int32.le_iff_toInt_le.mpr hc2
      refine ⟨fun hc4 => ?_, fun hc5 => ?_⟩
      · skip
        have q3 := i32_lo x1
        have q4 : (31 : Int32).toInt = 31 := rfl
        have q5 : (1 : Int32).toInt = 1 := rfl
        have q6 : (0 : Int32).toInt = 0 := rfl
        have hc4 := Int32.toInt_inj.mpr hc4
        have q7 := i32_add x2 1 (by omega) (by omega)
        exact ih _ (x2 + 1) hW hF (by omega) (by omega)
      · skip
        have q3 := i32_lo x1
        have q4 : (31 : Int32).toInt = 31 := rfl
        have q5 : (1 : Int32).toInt = 1 := rfl
        have q6 : (0 : Int32).toInt = 0 := rfl
        have hc5 : ¬ (((x1 >>> (x2 &&& 31)) &&& 1)).toInt = (0 : Int32).toInt := fun z => hc5 (Int32.toInt_inj.mp z)
        refine ⟨vp_of (by omega) (by omega), ?_⟩
        refine ⟨vp_of (by omega) (by omega), ?_⟩
        have q7 := i32_add x2 1 (by omega) (by omega)
        have hr6 : (((uI I (13 + 1) (Int32.toNatClampNeg x2) ((I (13 + 1) (Int32.toNatClampNeg x2)) &&& (x1 ^^^ (-1))))) 13 6).toInt = ((I) 13 6).toInt := by rw [uI_n _ _ _ (show 13 ≠ (13 + 1) by omega)]
        exact ih _ (x2 + 1) (WX_uI hW (by first | exact okXo (by decide) | (unfold okX; refine ⟨?_, ?_, ?_, ?_, ?_, ?_, ?_, ?_, ?_, ?_⟩ <;> intro h <;> omega))) (Fr_uI hF (by omega)) (by omega) (by omega)
theorem sfX8_acquaint {G : jdG} {n : Nat} {Z : jdL} {J : jdJ} {K : jdI → jdJ → Prop}  {I : jdI} {x1 : Int32} (ht : zTies Z 13)  (hW : WX I)  (hK : ∀ (I2 : jdI), WX I2 → Fr (fun a k => 13 ≤ a ∧ a ≤ 19) I I2 → K I2 J) : Cl G mX8_acquaint (n + 7) 0 0 [.ref (gb G + 13), .int x1] Z I J (qv Z K) := by
  refine eX8_acquaint ht ?_
  have hwI := WX_f hW
  have q1 : (0 : Int32).toInt = 0 := rfl
  exact lX8_acquaint_2 ht   hK  ((((I 13 6).toInt) - (0 : Int32).toInt).toNat + 1) _ 0 hW Fr.rf (by omega) (by omega)
theorem lX8_countMost_36 {G : jdG} {n : Nat} {Z : jdL} {J : jdJ} {rc rs : Nat} {K : jdI → jdJ → Prop}  {I0 : jdI} {mo9 : Nat}  (ht : zTies Z 13)   (hK : ∀ (I2 : jdI), WX I2 → Fr (fun a k => 13 ≤ a ∧ a ≤ 19) I0 I2 → K I2 J) (hO9 : ∀ (I : jdI) (x1 : Int32), WX I → Fr (fun a k => 13 ≤ a ∧ a ≤ 19) I0 I → (0 ≤ x1.toInt ∧ x1.toInt ≤ 256) → 256 - x1.toInt < (mo9 : Int) → Jd G mX8_countMost (jdFm G (qv Z K)) n rc rs 9 [(0, .ref (gb G + 13)), (1, .int x1)] [] Z I J) : ∀ m : Nat, ∀ (I : jdI) (x1 : Int32) (x2 : Int32) (x3 : Int32) (x4 : Int32), WX I → Fr (fun a k => 13 ≤ a ∧ a ≤ 19) I0 I → (0 ≤ x1.toInt ∧ x1.toInt ≤ 255) → (0 ≤ x4.toInt ∧ x4.toInt ≤ (I 13 8).toInt) → 256 - x1.toInt ≤ (mo9 : Int) → (I 13 8).toInt - x4.toInt < (m : Int) → Jd G mX8_countMost (jdFm G (qv Z K)) n rc rs 36 [(0, .ref (gb G + 13)), (1, .int x1), (2, .int x2), (3, .int x3), (4, .int x4)] [] Z I J := by
  intro m
  induction m with
  | zero =>
    intro I x1 x2 x3 x4 hW hF hx1 hx4 hmo9 hm
    have hwI := WX_f hW
    omega
  | succ m ih =>
    intro I x1 x2 x3 x4 hW hF hx1 hx4 hmo9 hm
    have hwI := WX_f hW
    refine rX8_countMost_36 ht ?_
    refine ⟨fun hc1 => ?_, fun hc2 => ?_⟩
    · skip
      have q1 := i32_lo (I 13 8)
      have q2 := i32_lo x4
      have hc1 := Int32.le_iff_toInt_le.mp hc1
      have hev := ev_8 (x := I 13 6) (by omega) (by omega)
      have q3 := i32_lo x1
      refine ⟨vp_of (by omega) (by omega), ?_⟩
      have q4 : (1 : Int32).toInt = 1 := rfl
      have q5 := i32_add x1 1 (by omega) (by omega)
      exact hO9 _ (x1 + 1) (WX_uI hW (by first | exact okXo (by decide) | (unfold okX; refine ⟨?_, ?_, ?_, ?_, ?_, ?_, ?_, ?_, ?_, ?_⟩ <;> intro h <;> omega))) (Fr_uI hF (by omega)) (by omega) (by omega)
    · skip
      have q1 := i32_lo (I 13 8)
      have q2 := i32_lo x4
      have hc2 := mt Int32.le_iff_toInt_le.mpr hc2
      have hev := ev_8 (x := I 13 6) (by omega) (by omega)
      refine ⟨vp_of (by omega) (by omega), ?_⟩
      refine ⟨fun hc3 => ?_, fun hc4 => ?_⟩
      · skip
        have q3 := i32_lo x2
        have q4 : (0 : Int32).toInt = 0 := rfl
        have hc3 := Int32.toInt_inj.mpr hc3
        have hev := ev_8 (x := I 13 6) (by omega) (by omega)
        have q5 := i32_lo x1
        have q6 : (1 : Int32).toInt = 1 := rfl
        have q7 := i32_add x4 1 (by omega) (by omega)
        exact ih _ x1 x2 x3 (x4 + 1) hW hF (by omega) (by omega) (by omega) (by omega)
      · skip
        have q3 := i32_lo x2
        have q4 : (0 : Int32).toInt = 0 := rfl
        have hc4 : ¬ (((I (13 + 3) (Int32.toNatClampNeg x4)) &&& x2)).toInt = (0 : Int32).toInt := fun z => hc4 (Int32.toInt_inj.mp z)
        have hev := ev_8 (x := I 13 6) (by omega) (by omega)
        refine ⟨fun hc5 => ?_, fun hc6 => ?_⟩
        · skip
          have q5 := i32_lo x1
          have hc5 : ¬ (((I (13 + 3) (Int32.toNatClampNeg x4)) &&& x1)).toInt = ((I (13 + 3) (Int32.toNatClampNeg x4))).toInt := fun z => hc5 (Int32.toInt_inj.mp z)
          have hev := ev_8 (x := I 13 6) (by omega) (by omega)
          have q6 : (1 : Int32).toInt = 1 := rfl
          have q7 := i32_add x4 1 (by omega) (by omega)
          exact ih _ x1 x2 x3 (x4 + 1) hW hF (by omega) (by omega) (by omega) (by omega)
        · skip
          have q5 := i32_lo x1
          have hc6 := Int32.toInt_inj.mpr hc6
          have hev := ev_8 (x := I 13 6) (by omega) (by omega)
          refine ⟨vp_xg (by omega) (by omega) (by assumption), ?_⟩
          refine ⟨fun hc7 => ?_, fun hc8 => ?_⟩
          · skip
            have q6 := i32_lo x3
            have hc7 := Int32.lt_iff_toInt_lt.mp hc7
            have hev := ev_8 (x := I 13 6) (by omega) (by omega)
            have q7 : (1 : Int32).toInt = 1 := rfl
            have q8 := i32_add x4 1 (by omega) (by omega)
            exact ih _ x1 x2 x3 (x4 + 1) hW hF (by omega) (by omega) (by omega) (by omega)
          · skip
            have q6 := i32_lo x3
            have hc8 := mt Int32.lt_iff_toInt_lt.mpr hc8
            have hev := ev_8 (x := I 13 6) (by omega) (by omega)
            refine ⟨vp_xg (by omega) (by omega) (by assumption), ?_⟩
            have q7 : (1 : Int32).toInt = 1 := rfl
            have q8 := i32_add x4 1 (by omega) (by omega)
            exact ih _ x1 x2 (1 + (I (13 + 5) (Int32.toNatClampNeg (x1 ^^^ (I (13 + 3) (Int32.toNatClampNeg x4)))))) (x4 + 1) hW hF (by omega) (by omega) (by omega) (by omega)
theorem lX8_countMost_9 {G : jdG} {n : Nat} {Z : jdL} {J : jdJ} {rc rs : Nat} {K : jdI → jdJ → Prop}  {I0 : jdI}  (ht : zTies Z 13)   (hK : ∀ (I2 : jdI), WX I2 → Fr (fun a k => 13 ≤ a ∧ a ≤ 19) I0 I2 → K I2 J) : ∀ m : Nat, ∀ (I : jdI) (x1 : Int32), WX I → Fr (fun a k => 13 ≤ a ∧ a ≤ 19) I0 I → (0 ≤ x1.toInt ∧ x1.toInt ≤ 256) → 256 - x1.toInt < (m : Int) → Jd G mX8_countMost (jdFm G (qv Z K)) n rc rs 9 [(0, .ref (gb G + 13)), (1, .int x1)] [] Z I J := by
  intro m
  induction m with
  | zero =>
    intro I x1 hW hF hx1 hm
    have hwI := WX_f hW
    omega
  | succ m ih =>
    intro I x1 hW hF hx1 hm
    have hwI := WX_f hW
    refine rX8_countMost_9 ht ?_
    refine ⟨fun hc1 => ?_, fun hc2 => ?_⟩
    · skip
      have q1 : (1 : Int32).toInt = 1 := rfl
      have q2 := i32_lo (I 13 6)
      have q3 : (31 : Int32).toInt = 31 := rfl
      have q4 := i32_lo x1
      have hc1 := Int32.le_iff_toInt_le.mp hc1
      have hev := ev_8 (x := I 13 6) (by omega) (by omega)
      exact hK _ hW hF
    · skip
      have q1 : (1 : Int32).toInt = 1 := rfl
      have q2 := i32_lo (I 13 6)
      have q3 : (31 : Int32).toInt = 31 := rfl
      have q4 := i32_lo x1
      have hc2 := mt Int32.le_iff_toInt_le.mpr hc2
      have hev := ev_8 (x := I 13 6) (by omega) (by omega)
      refine ⟨vp_xl (by omega) (by omega), ?_⟩
      have q5 : (0 : Int32).toInt = 0 := rfl
      exact lX8_countMost_36 ht   hK ih (((I 13 8).toInt - (0 : Int32).toInt).toNat + 1) _ x1 (x1 &&& (-x1)) (I (13 + 5) (Int32.toNatClampNeg (x1 ^^^ (x1 &&& (-x1))))) 0 hW hF (by omega) (by omega) (by omega) (by omega)
theorem sfX8_countMost {G : jdG} {n : Nat} {Z : jdL} {J : jdJ} {K : jdI → jdJ → Prop}  {I : jdI}  (ht : zTies Z 13)  (hW : WX I)  (hK : ∀ (I2 : jdI), WX I2 → Fr (fun a k => 13 ≤ a ∧ a ≤ 19) I I2 → K I2 J) : Cl G mX8_countMost n 0 0 [.ref (gb G + 13)] Z I J (qv Z K) := by
  refine eX8_countMost ht ?_
  have hwI := WX_f hW
  have q1 : (1 : Int32).toInt = 1 := rfl
  exact lX8_countMost_9 ht   hK  ((256 - (1 : Int32).toInt).toNat + 1) _ 1 (WX_uI hW (by first | exact okXo (by decide) | (unfold okX; refine ⟨?_, ?_, ?_, ?_, ?_, ?_, ?_, ?_, ?_, ?_⟩ <;> intro h <;> omega))) (Fr_uI Fr.rf (by omega)) (by omega) (by omega)
theorem sfX8_mostFrom {G : jdG} {n : Nat} {Z : jdL} {J : jdJ} {K : Int32 → jdI → jdJ → Prop}  {I : jdI} {x1 : Int32} (ht : zTies Z 13)  (hW : WX I)  (hK : ∀ (v : Int32) (I2 : jdI), WX I2 → Fr (fun a k => 13 ≤ a ∧ a ≤ 19) I I2 → K v I2 J) : Cl G mX8_mostFrom (n + 1) 0 0 [.ref (gb G + 13), .int x1] Z I J (qi Z K) := by
  refine eX8_mostFrom ht ?_
  have hwI := WX_f hW
  refine ⟨fun hc1 => ?_, fun hc2 => ?_⟩
  · skip
    have q1 := i32_lo (I 13 10)
    have q2 : (0 : Int32).toInt = 0 := rfl
    have hc1 : ¬ ((I 13 10)).toInt = (0 : Int32).toInt := fun z => hc1 (Int32.toInt_inj.mp z)
    refine sfX8_everybody ht hW  (fun v2  hp3 => ?_)
    refine ⟨vp_an (by omega) (by omega), ?_⟩
    exact hK _ _ hW Fr.rf
  · skip
    have q1 := i32_lo (I 13 10)
    have q2 : (0 : Int32).toInt = 0 := rfl
    have hc2 := Int32.toInt_inj.mpr hc2
    refine sfX8_countMost ht hW  (fun I4 hWI4 hFI4 => ?_)
    have hwI4 := WX_f hWI4
    refine sfX8_everybody ht (WX_uI hWI4 (by first | exact okXo (by decide) | (unfold okX; refine ⟨?_, ?_, ?_, ?_, ?_, ?_, ?_, ?_, ?_, ?_⟩ <;> intro h <;> omega)))  (fun v7  hp5 => ?_)
    refine ⟨vp_an (by omega) (by omega), ?_⟩
    exact hK _ _ (WX_uI hWI4 (by first | exact okXo (by decide) | (unfold okX; refine ⟨?_, ?_, ?_, ?_, ?_, ?_, ?_, ?_, ?_, ?_⟩ <;> intro h <;> omega))) (Fr_uI (Fr.tr Fr.rf hFI4 (by intro a k h; omega)) (by omega))
theorem lX8_firstOfMost_10 {G : jdG} {n : Nat} {Z : jdL} {J : jdJ} {rc rs : Nat} {K : Int32 → jdI → jdJ → Prop}  {I0 : jdI} {x1 : Int32} (ht : zTies Z 13)   (hK : ∀ (v : Int32) (I2 : jdI), WX I2 → Fr (fun a k => 13 ≤ a ∧ a ≤ 19) I0 I2 → K v I2 J) : ∀ m : Nat, ∀ (I : jdI) (x2 : Int32) (x3 : Int32), WX I → Fr (fun a k => 13 ≤ a ∧ a ≤ 19) I0 I → (0 ≤ x3.toInt ∧ x3.toInt ≤ 70) → (70) - x3.toInt < (m : Int) → Jd G mX8_firstOfMost (jdFm G (qi Z K)) (n + 2) rc rs 10 [(0, .ref (gb G + 13)), (1, .int x1), (2, .int x2), (3, .int x3)] [] Z I J := by
  intro m
  induction m with
  | zero =>
    intro I x2 x3 hW hF hx3 hm
    have hwI := WX_f hW
    omega
  | succ m ih =>
    intro I x2 x3 hW hF hx3 hm
    have hwI := WX_f hW
    refine rX8_firstOfMost_10 ht ?_
    refine ⟨fun hc1 => ?_, fun hc2 => ?_⟩
    · skip
      have q1 := i32_lo (I 13 8)
      have q2 := i32_lo x3
      have hc1 := Int32.le_iff_toInt_le.mp hc1
      exact hK _ _ hW hF
    · skip
      have q1 := i32_lo (I 13 8)
      have q2 := i32_lo x3
      have hc2 := mt Int32.le_iff_toInt_le.mpr hc2
      refine ⟨vp_of (by omega) (by omega), ?_⟩
      refine ⟨fun hc3 => ?_, fun hc4 => ?_⟩
      · skip
        have q3 := i32_lo x1
        have hc3 : ¬ (((I (13 + 3) (Int32.toNatClampNeg x3)) &&& x1)).toInt = ((I (13 + 3) (Int32.toNatClampNeg x3))).toInt := fun z => hc3 (Int32.toInt_inj.mp z)
        have q4 : (1 : Int32).toInt = 1 := rfl
        have q5 := i32_add x3 1 (by omega) (by omega)
        exact ih _ x2 (x3 + 1) hW hF (by omega) (by omega)
      · skip
        have q3 := i32_lo x1
        have hc4 := Int32.toInt_inj.mpr hc4
        refine sfX8_mostFrom ht hW  (fun v3 I2 hWI2 hFI2 => ?_)
        have hwI2 := WX_f hWI2
        refine ⟨fun hc6 => ?_, fun hc7 => ?_⟩
        · skip
          have q4 := i32_lo v3
          have q5 := i32_lo x2
          have hc6 : ¬ (v3).toInt = (x2).toInt := fun z => hc6 (Int32.toInt_inj.mp z)
          have q6 : (1 : Int32).toInt = 1 := rfl
          have q7 := i32_add x3 1 (by omega) (by omega)
          exact ih _ x2 (x3 + 1) hWI2 (Fr.tr hF hFI2 (by intro a k h; omega)) (by omega) (by omega)
        · skip
          have q4 := i32_lo v3
          have q5 := i32_lo x2
          have hc7 := Int32.toInt_inj.mpr hc7
          exact hK _ _ hWI2 (Fr.tr hF hFI2 (by intro a k h; omega))
theorem sfX8_firstOfMost {G : jdG} {n : Nat} {Z : jdL} {J : jdJ} {K : Int32 → jdI → jdJ → Prop}  {I : jdI} {x1 : Int32} (ht : zTies Z 13)  (hW : WX I)  (hK : ∀ (v : Int32) (I2 : jdI), WX I2 → Fr (fun a k => 13 ≤ a ∧ a ≤ 19) I I2 → K v I2 J) : Cl G mX8_firstOfMost (n + 2) 0 0 [.ref (gb G + 13), .int x1] Z I J (qi Z K) := by
  refine eX8_firstOfMost ht ?_
  have hwI := WX_f hW
  refine sfX8_mostFrom ht hW  (fun v2 I1 hWI1 hFI1 => ?_)
  have hwI1 := WX_f hWI1
  have q1 : (0 : Int32).toInt = 0 := rfl
  exact lX8_firstOfMost_10 ht   hK  (((70) - (0 : Int32).toInt).toNat + 1) _ (v2 - 1) 0 hWI1 (Fr.tr Fr.rf hFI1 (by intro a k h; omega)) (by omega) (by omega)
theorem lX8_mostRow_5 {G : jdG} {n : Nat} {Z : jdL} {J : jdJ} {rc rs : Nat} {K : Int32 → jdI → jdJ → Prop}  {I0 : jdI} {x1 : Int32} {x2 : Int32} (ht : zTies Z 13)   (hK : ∀ (v : Int32) (I2 : jdI), WX I2 → Fr (fun a k => 13 ≤ a ∧ a ≤ 19) I0 I2 → K v I2 J) : ∀ m : Nat, ∀ (I : jdI) (x3 : Int32) (x4 : Int32), WX I → Fr (fun a k => 13 ≤ a ∧ a ≤ 19) I0 I → (0 ≤ x4.toInt ∧ x4.toInt ≤ 8) → (8) - x4.toInt < (m : Int) → Jd G mX8_mostRow (jdFm G (qi Z K)) (n + 3) rc rs 5 [(0, .ref (gb G + 13)), (1, .int x1), (2, .int x2), (3, .int x3), (4, .int x4)] [] Z I J := by
  intro m
  induction m with
  | zero =>
    intro I x3 x4 hW hF hx4 hm
    have hwI := WX_f hW
    omega
  | succ m ih =>
    intro I x3 x4 hW hF hx4 hm
    have hwI := WX_f hW
    refine rX8_mostRow_5 ht ?_
    refine ⟨fun hc1 => ?_, fun hc2 => ?_⟩
    · skip
      have q1 := i32_lo x2
      have q2 := i32_lo x4
      have hc1 := Int32.le_iff_toInt_le.mp hc1
      refine sfX8_firstOfMost ht hW  (fun v2 I1 hWI1 hFI1 => ?_)
      have hwI1 := WX_f hWI1
      exact hK _ _ hWI1 (Fr.tr hF hFI1 (by intro a k h; omega))
    · skip
      have q1 := i32_lo x2
      have q2 := i32_lo x4
      have hc2 := mt Int32.le_iff_toInt_le.mpr hc2
      refine ⟨fun hc4 => ?_, fun hc5 => ?_⟩
      · skip
        have q3 : (8 : Int32).toInt = 8 := rfl
        have hc4 := Int32.le_iff_toInt_le.mp hc4
        refine sfX8_firstOfMost ht hW  (fun v4 I3 hWI3 hFI3 => ?_)
        have hwI3 := WX_f hWI3
        exact hK _ _ hWI3 (Fr.tr hF hFI3 (by intro a k h; omega))
      · skip
        have q3 : (8 : Int32).toInt = 8 := rfl
        have hc5 := mt Int32.le_iff_toInt_le.mpr hc5
        refine sfX8_firstOfMost ht hW  (fun v6 I5 hWI5 hFI5 => ?_)
        have hwI5 := WX_f hWI5
        have q4 : (1 : Int32).toInt = 1 := rfl
        have q5 := i32_add x4 1 (by omega) (by omega)
        exact ih _ (x3 &&& (v6 ^^^ (-1))) (x4 + 1) hWI5 (Fr.tr hF hFI5 (by intro a k h; omega)) (by omega) (by omega)
theorem sfX8_mostRow {G : jdG} {n : Nat} {Z : jdL} {J : jdJ} {K : Int32 → jdI → jdJ → Prop}  {I : jdI} {x1 : Int32} {x2 : Int32} (ht : zTies Z 13)  (hW : WX I)  (hK : ∀ (v : Int32) (I2 : jdI), WX I2 → Fr (fun a k => 13 ≤ a ∧ a ≤ 19) I I2 → K v I2 J) : Cl G mX8_mostRow (n + 3) 0 0 [.ref (gb G + 13), .int x1, .int x2] Z I J (qi Z K) := by
  refine eX8_mostRow ht ?_
  have hwI := WX_f hW
  have q1 : (0 : Int32).toInt = 0 := rfl
  exact lX8_mostRow_5 ht   hK  (((8) - (0 : Int32).toInt).toNat + 1) _ x1 0 hW Fr.rf (by omega) (by omega)
theorem lX8_closest_19 {G : jdG} {n : Nat} {Z : jdL} {J : jdJ} {rc rs : Nat} {K : Int32 → jdI → jdJ → Prop}  {I : jdI} {mo6 : Nat}  (ht : zTies Z 13)  (hW : WX I)  (hK : ∀ (v : Int32), K v I J) (hO6 : ∀ (x1 : Int32) (x2 : Int32) (x3 : Int32), (0 ≤ x3.toInt ∧ x3.toInt ≤ (I 13 6).toInt) → ((I 13 6).toInt) - x3.toInt < (mo6 : Int) → Jd G mX8_closest (jdFm G (qi Z K)) (n + 1) rc rs 6 [(0, .ref (gb G + 13)), (1, .int x1), (2, .int x2), (3, .int x3)] [] Z I J) : ∀ m : Nat, ∀ (x1 : Int32) (x2 : Int32) (x3 : Int32) (x4 : Int32), (0 ≤ x4.toInt ∧ x4.toInt ≤ (I 13 6).toInt) → (0 ≤ x3.toInt ∧ x3.toInt < (I 13 6).toInt) → ((I 13 6).toInt) - x3.toInt ≤ (mo6 : Int) → ((I 13 6).toInt) - x4.toInt < (m : Int) → Jd G mX8_closest (jdFm G (qi Z K)) (n + 1) rc rs 19 [(0, .ref (gb G + 13)), (1, .int x1), (2, .int x2), (3, .int x3), (4, .int x4)] [] Z I J := by
  intro m
  induction m with
  | zero =>
    intro x1 x2 x3 x4 hx4 hx3 hmo6 hm
    have hwI := WX_f hW
    omega
  | succ m ih =>
    intro x1 x2 x3 x4 hx4 hx3 hmo6 hm
    have hwI := WX_f hW
    refine rX8_closest_19 ht ?_
    refine ⟨fun hc1 => ?_, fun hc2 => ?_⟩
    · skip
      have q1 := i32_lo (I 13 6)
      have q2 := i32_lo x4
      have hc1 := Int32.le_iff_toInt_le.mp hc1
      have q3 := i32_lo x3
      have q4 : (1 : Int32).toInt = 1 := rfl
      have q5 := i32_add x3 1 (by omega) (by omega)
      exact hO6 x1 x2 (x3 + 1) (by omega) (by omega)
    · skip
      have q1 := i32_lo (I 13 6)
      have q2 := i32_lo x4
      have hc2 := mt Int32.le_iff_toInt_le.mpr hc2
      have q3 := i32_lo x3
      refine ⟨vp_of (by omega) (by omega), ?_⟩
      refine ⟨fun hc3 => ?_, fun hc4 => ?_⟩
      · skip
        have q4 : (31 : Int32).toInt = 31 := rfl
        have q5 : (1 : Int32).toInt = 1 := rfl
        have q6 : (0 : Int32).toInt = 0 := rfl
        have hc3 := Int32.toInt_inj.mpr hc3
        have q7 := i32_add x4 1 (by omega) (by omega)
        exact ih x1 x2 x3 (x4 + 1) (by omega) (by omega) (by omega) (by omega)
      · skip
        have q4 : (31 : Int32).toInt = 31 := rfl
        have q5 : (1 : Int32).toInt = 1 := rfl
        have q6 : (0 : Int32).toInt = 0 := rfl
        have hc4 : ¬ ((((I (13 + 1) (Int32.toNatClampNeg x3)) >>> (x4 &&& 31)) &&& 1)).toInt = (0 : Int32).toInt := fun z => hc4 (Int32.toInt_inj.mp z)
        refine sfX8_countWith ht hW  (fun v3  => ?_)
        refine ⟨fun hc6 => ?_, fun hc7 => ?_⟩
        · skip
          have q7 := i32_lo v3
          have q8 := i32_lo x2
          have hc6 := Int32.le_iff_toInt_le.mp hc6
          have q9 := i32_add x4 1 (by omega) (by omega)
          exact ih x1 x2 x3 (x4 + 1) (by omega) (by omega) (by omega) (by omega)
        · skip
          have q7 := i32_lo v3
          have q8 := i32_lo x2
          have hc7 := mt Int32.le_iff_toInt_le.mpr hc7
          have q9 := i32_add x4 1 (by omega) (by omega)
          exact ih ((10 * x3) + x4) v3 x3 (x4 + 1) (by omega) (by omega) (by omega) (by omega)
theorem lX8_closest_6 {G : jdG} {n : Nat} {Z : jdL} {J : jdJ} {rc rs : Nat} {K : Int32 → jdI → jdJ → Prop}  {I : jdI}  (ht : zTies Z 13)  (hW : WX I)  (hK : ∀ (v : Int32), K v I J) : ∀ m : Nat, ∀ (x1 : Int32) (x2 : Int32) (x3 : Int32), (0 ≤ x3.toInt ∧ x3.toInt ≤ (I 13 6).toInt) → ((I 13 6).toInt) - x3.toInt < (m : Int) → Jd G mX8_closest (jdFm G (qi Z K)) (n + 1) rc rs 6 [(0, .ref (gb G + 13)), (1, .int x1), (2, .int x2), (3, .int x3)] [] Z I J := by
  intro m
  induction m with
  | zero =>
    intro x1 x2 x3 hx3 hm
    have hwI := WX_f hW
    omega
  | succ m ih =>
    intro x1 x2 x3 hx3 hm
    have hwI := WX_f hW
    refine rX8_closest_6 ht ?_
    refine ⟨fun hc1 => ?_, fun hc2 => ?_⟩
    · skip
      have q1 := i32_lo (I 13 6)
      have q2 := i32_lo x3
      have hc1 := Int32.le_iff_toInt_le.mp hc1
      exact hK _ 
    · skip
      have q1 := i32_lo (I 13 6)
      have q2 := i32_lo x3
      have hc2 := mt Int32.le_iff_toInt_le.mpr hc2
      have q3 : (1 : Int32).toInt = 1 := rfl
      have q4 := i32_add x3 1 (by omega) (by omega)
      exact lX8_closest_19 ht  hW  hK ih ((((I 13 6).toInt) - (x3 + 1).toInt).toNat + 1) x1 x2 x3 (x3 + 1) (by omega) (by omega) (by omega) (by omega)
theorem sfX8_closest {G : jdG} {n : Nat} {Z : jdL} {J : jdJ} {K : Int32 → jdI → jdJ → Prop}  {I : jdI}  (ht : zTies Z 13)  (hW : WX I)  (hK : ∀ (v : Int32), K v I J) : Cl G mX8_closest (n + 1) 0 0 [.ref (gb G + 13)] Z I J (qi Z K) := by
  refine eX8_closest ht ?_
  have hwI := WX_f hW
  have q1 : (0 : Int32).toInt = 0 := rfl
  exact lX8_closest_6 ht  hW  hK  ((((I 13 6).toInt) - (0 : Int32).toInt).toNat + 1) (-1) (-1) 0 (by omega) (by omega)
theorem lX8_pairsIn_15 {G : jdG} {n : Nat} {Z : jdL} {J : jdJ} {rc rs : Nat} {K : Int32 → jdI → jdJ → Prop}  {I : jdI} {mo4 : Nat} {x1 : Int32} (ht : zTies Z 13)  (hW : WX I)  (hK : ∀ (v : Int32), K v I J) (hO4 : ∀ (x2 : Int32) (x3 : Int32), (0 ≤ x3.toInt ∧ x3.toInt ≤ 8) → (8) - x3.toInt < (mo4 : Int) → Jd G mX8_pairsIn (jdFm G (qi Z K)) (n + 1) rc rs 4 [(0, .ref (gb G + 13)), (1, .int x1), (2, .int x2), (3, .int x3)] [] Z I J) : ∀ m : Nat, ∀ (x2 : Int32) (x3 : Int32) (x4 : Int32), (0 ≤ x4.toInt ∧ x4.toInt ≤ x3.toInt) → (0 ≤ x3.toInt ∧ x3.toInt ≤ 7) → (8) - x3.toInt ≤ (mo4 : Int) → (x3.toInt) - x4.toInt < (m : Int) → Jd G mX8_pairsIn (jdFm G (qi Z K)) (n + 1) rc rs 15 [(0, .ref (gb G + 13)), (1, .int x1), (2, .int x2), (3, .int x3), (4, .int x4)] [] Z I J := by
  intro m
  induction m with
  | zero =>
    intro x2 x3 x4 hx4 hx3 hmo4 hm
    have hwI := WX_f hW
    omega
  | succ m ih =>
    intro x2 x3 x4 hx4 hx3 hmo4 hm
    have hwI := WX_f hW
    refine rX8_pairsIn_15 ht ?_
    refine ⟨fun hc1 => ?_, fun hc2 => ?_⟩
    · skip
      have q1 := i32_lo x3
      have q2 := i32_lo x4
      have hc1 := Int32.le_iff_toInt_le.mp hc1
      have q3 : (1 : Int32).toInt = 1 := rfl
      have q4 := i32_add x3 1 (by omega) (by omega)
      exact hO4 x2 (x3 + 1) (by omega) (by omega)
    · skip
      have q1 := i32_lo x3
      have q2 := i32_lo x4
      have hc2 := mt Int32.le_iff_toInt_le.mpr hc2
      refine ⟨vp_of (by omega) (by omega), ?_⟩
      refine ⟨fun hc3 => ?_, fun hc4 => ?_⟩
      · skip
        have q3 := i32_lo x1
        have q4 : (31 : Int32).toInt = 31 := rfl
        have q5 : (1 : Int32).toInt = 1 := rfl
        have q6 : (0 : Int32).toInt = 0 := rfl
        have hc3 := Int32.toInt_inj.mpr hc3
        have q7 := i32_add x4 1 (by omega) (by omega)
        exact ih x2 x3 (x4 + 1) (by omega) (by omega) (by omega) (by omega)
      · skip
        have q3 := i32_lo x1
        have q4 : (31 : Int32).toInt = 31 := rfl
        have q5 : (1 : Int32).toInt = 1 := rfl
        have q6 : (0 : Int32).toInt = 0 := rfl
        have hc4 : ¬ (((((x1 >>> (x4 &&& 31)) &&& (x1 >>> (x3 &&& 31))) &&& ((I (13 + 1) (Int32.toNatClampNeg x4)) >>> (x3 &&& 31))) &&& 1)).toInt = (0 : Int32).toInt := fun z => hc4 (Int32.toInt_inj.mp z)
        refine sfX8_pairBit  hW  (fun v3  hp5 => ?_)
        have q7 := i32_add x4 1 (by omega) (by omega)
        exact ih (x2 ||| (1 <<< (v3 &&& 31))) x3 (x4 + 1) (by omega) (by omega) (by omega) (by omega)
theorem lX8_pairsIn_4 {G : jdG} {n : Nat} {Z : jdL} {J : jdJ} {rc rs : Nat} {K : Int32 → jdI → jdJ → Prop}  {I : jdI} {x1 : Int32} (ht : zTies Z 13)  (hW : WX I)  (hK : ∀ (v : Int32), K v I J) : ∀ m : Nat, ∀ (x2 : Int32) (x3 : Int32), (0 ≤ x3.toInt ∧ x3.toInt ≤ 8) → (8) - x3.toInt < (m : Int) → Jd G mX8_pairsIn (jdFm G (qi Z K)) (n + 1) rc rs 4 [(0, .ref (gb G + 13)), (1, .int x1), (2, .int x2), (3, .int x3)] [] Z I J := by
  intro m
  induction m with
  | zero =>
    intro x2 x3 hx3 hm
    have hwI := WX_f hW
    omega
  | succ m ih =>
    intro x2 x3 hx3 hm
    have hwI := WX_f hW
    refine rX8_pairsIn_4 ht ?_
    refine ⟨fun hc1 => ?_, fun hc2 => ?_⟩
    · skip
      have q1 := i32_lo (I 13 6)
      have q2 := i32_lo x3
      have hc1 := Int32.le_iff_toInt_le.mp hc1
      exact hK _ 
    · skip
      have q1 := i32_lo (I 13 6)
      have q2 := i32_lo x3
      have hc2 := mt Int32.le_iff_toInt_le.mpr hc2
      have q3 : (0 : Int32).toInt = 0 := rfl
      exact lX8_pairsIn_15 ht  hW  hK ih (((x3.toInt) - (0 : Int32).toInt).toNat + 1) x2 x3 0 (by omega) (by omega) (by omega) (by omega)
theorem sfX8_pairsIn {G : jdG} {n : Nat} {Z : jdL} {J : jdJ} {K : Int32 → jdI → jdJ → Prop}  {I : jdI} {x1 : Int32} (ht : zTies Z 13)  (hW : WX I)  (hK : ∀ (v : Int32), K v I J) : Cl G mX8_pairsIn (n + 1) 0 0 [.ref (gb G + 13), .int x1] Z I J (qi Z K) := by
  refine eX8_pairsIn ht ?_
  have hwI := WX_f hW
  have q1 : (1 : Int32).toInt = 1 := rfl
  exact lX8_pairsIn_4 ht  hW  hK  (((8) - (1 : Int32).toInt).toNat + 1) 0 1 (by omega) (by omega)
theorem lX8_listPairs_4 {G : jdG} {n : Nat} {Z : jdL} {J : jdJ} {rc rs : Nat} {K : Int32 → jdI → jdJ → Prop}  {I0 : jdI} {x1 : Int32} (ht : zTies Z 13)   (hK : ∀ (v : Int32) (I2 : jdI), WX I2 → Fr (fun a k => 13 ≤ a ∧ a ≤ 19) I0 I2 → (0 ≤ v.toInt ∧ v.toInt ≤ 70) → K v I2 J) : ∀ m : Nat, ∀ (I : jdI) (x2 : Int32) (x3 : Int32), WX I → Fr (fun a k => 13 ≤ a ∧ a ≤ 19) I0 I → (0 ≤ x3.toInt ∧ x3.toInt ≤ (I 13 8).toInt) → (0 ≤ x2.toInt ∧ x2.toInt ≤ x3.toInt) → ((I 13 8).toInt) - x3.toInt < (m : Int) → Jd G mX8_listPairs (jdFm G (qi Z K)) (n + 2) rc rs 4 [(0, .ref (gb G + 13)), (1, .int x1), (2, .int x2), (3, .int x3)] [] Z I J := by
  intro m
  induction m with
  | zero =>
    intro I x2 x3 hW hF hx3 hx2 hm
    have hwI := WX_f hW
    omega
  | succ m ih =>
    intro I x2 x3 hW hF hx3 hx2 hm
    have hwI := WX_f hW
    refine rX8_listPairs_4 ht ?_
    refine ⟨fun hc1 => ?_, fun hc2 => ?_⟩
    · skip
      have q1 := i32_lo (I 13 8)
      have q2 := i32_lo x3
      have hc1 := Int32.le_iff_toInt_le.mp hc1
      have q3 := i32_lo x2
      exact hK _ _ hW hF (by omega)
    · skip
      have q1 := i32_lo (I 13 8)
      have q2 := i32_lo x3
      have hc2 := mt Int32.le_iff_toInt_le.mpr hc2
      refine ⟨vp_of (by omega) (by omega), ?_⟩
      refine ⟨vp_of (by omega) (by omega), ?_⟩
      refine ⟨fun hc3 => ?_, fun hc4 => ?_⟩
      · skip
        have q3 := i32_lo x1
        have hc3 : ¬ (((I (13 + 3) (Int32.toNatClampNeg x3)) &&& x1)).toInt = ((I (13 + 3) (Int32.toNatClampNeg x3))).toInt := fun z => hc3 (Int32.toInt_inj.mp z)
        have q4 := i32_lo x2
        have q5 : (1 : Int32).toInt = 1 := rfl
        have q6 := i32_add x3 1 (by omega) (by omega)
        exact ih _ x2 (x3 + 1) hW hF (by omega) (by omega) (by omega)
      · skip
        have q3 := i32_lo x1
        have hc4 := Int32.toInt_inj.mpr hc4
        refine ⟨vp_of (by omega) (by omega), ?_⟩
        refine sfX8_pairsIn ht hW  (fun v5  => ?_)
        have q4 := i32_lo x2
        refine ⟨vp_of (by omega) (by omega), ?_⟩
        have q5 : (1 : Int32).toInt = 1 := rfl
        have q6 := i32_add x2 1 (by omega) (by omega)
        have q7 := i32_add x3 1 (by omega) (by omega)
        have hr6 : (((uI I (13 + 4) (Int32.toNatClampNeg x2) v5)) 13 8).toInt = ((I) 13 8).toInt := by rw [uI_n _ _ _ (show 13 ≠ (13 + 4) by omega)]
        exact ih _ (x2 + 1) (x3 + 1) (WX_uI hW (by first | exact okXo (by decide) | (unfold okX; refine ⟨?_, ?_, ?_, ?_, ?_, ?_, ?_, ?_, ?_, ?_⟩ <;> intro h <;> omega))) (Fr_uI hF (by omega)) (by omega) (by omega) (by omega)
theorem sfX8_listPairs {G : jdG} {n : Nat} {Z : jdL} {J : jdJ} {K : Int32 → jdI → jdJ → Prop}  {I : jdI} {x1 : Int32} (ht : zTies Z 13)  (hW : WX I)  (hK : ∀ (v : Int32) (I2 : jdI), WX I2 → Fr (fun a k => 13 ≤ a ∧ a ≤ 19) I I2 → (0 ≤ v.toInt ∧ v.toInt ≤ 70) → K v I2 J) : Cl G mX8_listPairs (n + 2) 0 0 [.ref (gb G + 13), .int x1] Z I J (qi Z K) := by
  refine eX8_listPairs ht ?_
  have hwI := WX_f hW
  have q1 : (0 : Int32).toInt = 0 := rfl
  exact lX8_listPairs_4 ht   hK  ((((I 13 8).toInt) - (0 : Int32).toInt).toNat + 1) _ 0 0 hW Fr.rf (by omega) (by omega) (by omega)
theorem lX8_lengthen_37 {G : jdG} {n : Nat} {Z : jdL} {J : jdJ} {rc rs : Nat} {K : jdI → jdJ → Prop}  {I0 : jdI} {x1 : Int32} {x2 : Int32} {x3 : Int32} (ht : zTies Z 13)  (hx2 : 0 ≤ x2.toInt ∧ x2.toInt ≤ 70) (hK : ∀ (I2 : jdI), WX I2 → Fr (fun a k => 13 ≤ a ∧ a ≤ 19) I0 I2 → K I2 J) {d : Nat} (hR : ∀ (I : jdI) (K : jdI → jdJ → Prop) (x1 : Int32) (x2 : Int32) (x3 : Int32), WX I → (0 ≤ x2.toInt ∧ x2.toInt ≤ 70) → 0 ≤ 28 - x3.toInt ∧ 28 - x3.toInt < (d : Int) → (∀ (I2 : jdI), WX I2 → Fr (fun a k => 13 ≤ a ∧ a ≤ 19) I I2 → K I2 J) → Cl G mX8_lengthen (n + 0) 0 0 [.ref (gb G + 13), .int x1, .int x2, .int x3] Z I J (qv Z K)) : ∀ m : Nat, ∀ (I : jdI) (x4 : Int32) (x5 : Int32), WX I → Fr (fun a k => 13 ≤ a ∧ a ≤ 19) I0 I → (0 ≤ x5.toInt ∧ x5.toInt ≤ 70) → (0 ≤ 28 - x3.toInt ∧ 28 - x3.toInt ≤ (d : Int)) → (x3.toInt < 28) → (0 ≤ x2.toInt) → (70) - x5.toInt < (m : Int) → Jd G mX8_lengthen (jdFm G (qv Z K)) (n + 1) rc rs 37 [(0, .ref (gb G + 13)), (1, .int x1), (2, .int x2), (3, .int x3), (4, .int x4), (5, .int x5)] [] Z I J := by
  intro m
  induction m with
  | zero =>
    intro I x4 x5 hW hF hx5 hd hx3 hx2 hm
    have hwI := WX_f hW
    omega
  | succ m ih =>
    intro I x4 x5 hW hF hx5 hd hx3 hx2 hm
    have hwI := WX_f hW
    refine rX8_lengthen_37 ht ?_
    refine ⟨fun hc1 => ?_, fun hc2 => ?_⟩
    · skip
      have q1 := i32_lo (I 13 8)
      have q2 := i32_lo x5
      have hc1 := Int32.le_iff_toInt_le.mp hc1
      exact hK _ hW hF
    · skip
      have q1 := i32_lo (I 13 8)
      have q2 := i32_lo x5
      have hc2 := mt Int32.le_iff_toInt_le.mpr hc2
      refine sfJ6_bitCount_0f7a4  hW  (fun v2  hp3 => ?_)
      refine ⟨fun hc4 => ?_, fun hc5 => ?_⟩
      · skip
        have q3 := i32_lo (I 13 9)
        have q4 : (1 : Int32).toInt = 1 := rfl
        have q5 := i32_addI (I 13 9) 1
        have q6 := i32_lo x3
        have q7 := i32_subI ((I 13 9) + 1) x3
        have q8 := i32_lo x4
        have q9 := i32_lo v2
        have hc4 := Int32.le_iff_toInt_le.mp hc4
        refine ⟨vp_of (by omega) (by omega), ?_⟩
        refine ⟨vp_of (by omega) (by omega), ?_⟩
        refine ⟨fun hc6 => ?_, fun hc7 => ?_⟩
        · skip
          have q10 := i32_lo x1
          have hc6 : ¬ (((I (13 + 4) (Int32.toNatClampNeg x5)) &&& x1)).toInt = ((I (13 + 4) (Int32.toNatClampNeg x5))).toInt := fun z => hc6 (Int32.toInt_inj.mp z)
          have q11 := i32_add x5 1 (by omega) (by omega)
          exact ih _ x4 (x5 + 1) hW hF (by omega) (by omega) (by omega) (by omega) (by omega)
        · skip
          have q10 := i32_lo x1
          have hc7 := Int32.toInt_inj.mpr hc7
          refine ⟨vp_of (by omega) (by omega), ?_⟩
          have q11 := i32_add x5 1 (by omega) (by omega)
          have q12 := i32_add x3 1 (by omega) (by omega)
          refine hR _ _ _ _ _ hW (by omega) ⟨by omega, by omega⟩ (fun I6 hWI6 hFI6 => ?_)
          have hwI6 := WX_f hWI6
          exact ih _ x4 (x5 + 1) hWI6 (Fr.tr hF hFI6 (by intro a k h; omega)) (by omega) (by omega) (by omega) (by omega) (by omega)
      · skip
        have q3 := i32_lo (I 13 9)
        have q4 : (1 : Int32).toInt = 1 := rfl
        have q5 := i32_addI (I 13 9) 1
        have q6 := i32_lo x3
        have q7 := i32_subI ((I 13 9) + 1) x3
        have q8 := i32_lo x4
        have q9 := i32_lo v2
        have hc5 := mt Int32.le_iff_toInt_le.mpr hc5
        exact hK _ hW hF
theorem sbX8_lengthen {G : jdG} {n : Nat} {Z : jdL} {J : jdJ} {d : Nat}   (ht : zTies Z 13)  (hR : ∀ (I : jdI) (K : jdI → jdJ → Prop) (x1 : Int32) (x2 : Int32) (x3 : Int32), WX I → (0 ≤ x2.toInt ∧ x2.toInt ≤ 70) → 0 ≤ 28 - x3.toInt ∧ 28 - x3.toInt < (d : Int) → (∀ (I2 : jdI), WX I2 → Fr (fun a k => 13 ≤ a ∧ a ≤ 19) I I2 → K I2 J) → Cl G mX8_lengthen (n + 0) 0 0 [.ref (gb G + 13), .int x1, .int x2, .int x3] Z I J (qv Z K)) (I : jdI) (K : jdI → jdJ → Prop) (x1 : Int32) (x2 : Int32) (x3 : Int32) (hW : WX I) (hx2 : 0 ≤ x2.toInt ∧ x2.toInt ≤ 70) (hd : 0 ≤ 28 - x3.toInt ∧ 28 - x3.toInt ≤ (d : Int)) (hK : ∀ (I2 : jdI), WX I2 → Fr (fun a k => 13 ≤ a ∧ a ≤ 19) I I2 → K I2 J) : Cl G mX8_lengthen (n + 1) 0 0 [.ref (gb G + 13), .int x1, .int x2, .int x3] Z I J (qv Z K) := by
  refine eX8_lengthen ht ?_
  have hwI := WX_f hW
  refine ⟨fun hc1 => ?_, fun hc2 => ?_⟩
  · skip
    have q1 := i32_lo x3
    have q2 : (28 : Int32).toInt = 28 := rfl
    have hc1 := Int32.lt_iff_toInt_lt.mp hc1
    have q3 := i32_lo x2
    exact lX8_lengthen_37 ht  hx2 hK hR  (((70) - x2.toInt).toNat + 1) _ (((I 13 7) * ((I 13 7) - 1)) / 2) x2 (WX_uI hW (by first | exact okXo (by decide) | (unfold okX; refine ⟨?_, ?_, ?_, ?_, ?_, ?_, ?_, ?_, ?_, ?_⟩ <;> intro h <;> omega))) (Fr_uI Fr.rf (by omega)) (by omega) (by omega) (by omega) (by omega) (by omega)
  · skip
    have q1 := i32_lo x3
    have q2 : (28 : Int32).toInt = 28 := rfl
    have hc2 := mt Int32.lt_iff_toInt_lt.mpr hc2
    exact hK _ (WX_uI hW (by first | exact okXo (by decide) | (unfold okX; refine ⟨?_, ?_, ?_, ?_, ?_, ?_, ?_, ?_, ?_, ?_⟩ <;> intro h <;> omega))) (Fr_uI Fr.rf (by omega))
theorem srX8_lengthen {G : jdG} {Z : jdL} {J : jdJ}   (ht : zTies Z 13)  : ∀ d : Nat, ∀ (n : Nat) (I : jdI) (K : jdI → jdJ → Prop) (x1 : Int32) (x2 : Int32) (x3 : Int32), WX I → (0 ≤ x2.toInt ∧ x2.toInt ≤ 70) → 0 ≤ 28 - x3.toInt ∧ 28 - x3.toInt ≤ (d : Int) → (∀ (I2 : jdI), WX I2 → Fr (fun a k => 13 ≤ a ∧ a ≤ 19) I I2 → K I2 J) → Cl G mX8_lengthen (n + 0 + d + 1) 0 0 [.ref (gb G + 13), .int x1, .int x2, .int x3] Z I J (qv Z K) := by
  intro d
  induction d with
  | zero =>
    intro n
    exact sbX8_lengthen (n := n) (d := 0) ht (fun _ _ _ _ _ _ _ h _ => absurd h (by omega))
  | succ d ih =>
    intro n
    exact sbX8_lengthen (n := n + d + 1) (d := d + 1) ht (fun I K x1 x2 x3 hW hx2 h hK => by
      have e : n + d + 1 + 0 = n + 0 + d + 1 := by omega
      rw [e]
      exact ih n I K x1 x2 x3 hW hx2 ⟨h.1, by omega⟩ hK) |> (fun h => by
      have e : n + 0 + (d + 1) + 1 = n + d + 1 + 1 := by omega
      rw [e]
      exact h)
theorem sfX8_lengthen {G : jdG} {n : Nat} {Z : jdL} {J : jdJ} {K : jdI → jdJ → Prop}  {I : jdI} {x1 : Int32} {x2 : Int32} {x3 : Int32} (ht : zTies Z 13)  (hW : WX I) (hx2 : 0 ≤ x2.toInt ∧ x2.toInt ≤ 70) (hd : 0 ≤ 28 - x3.toInt ∧ 28 - x3.toInt ≤ 28) (hK : ∀ (I2 : jdI), WX I2 → Fr (fun a k => 13 ≤ a ∧ a ≤ 19) I I2 → K I2 J) : Cl G mX8_lengthen (n + 29) 0 0 [.ref (gb G + 13), .int x1, .int x2, .int x3] Z I J (qv Z K) :=
  srX8_lengthen ht 28 n I K x1 x2 x3 hW hx2 hd hK
theorem sfX8_longest {G : jdG} {n : Nat} {Z : jdL} {J : jdJ} {K : Int32 → jdI → jdJ → Prop}  {I : jdI}  (ht : zTies Z 13)  (hW : WX I)  (hK : ∀ (v : Int32) (I2 : jdI), WX I2 → Fr (fun a k => 13 ≤ a ∧ a ≤ 19) I I2 → K v I2 J) : Cl G mX8_longest (n + 30) 0 0 [.ref (gb G + 13)] Z I J (qi Z K) := by
  refine eX8_longest ht ?_
  have hwI := WX_f hW
  refine ⟨fun hc1 => ?_, fun hc2 => ?_⟩
  · skip
    have q1 := i32_lo (I 13 7)
    have q2 : (2 : Int32).toInt = 2 := rfl
    have hc1 : ¬ ((I 13 7)).toInt = (2 : Int32).toInt := fun z => hc1 (Int32.toInt_inj.mp z)
    refine sfX8_everybody ht hW  (fun v2  hp3 => ?_)
    refine sfX8_listPairs ht hW  (fun v4 I3 hWI3 hFI3 hp4 => ?_)
    have hwI3 := WX_f hWI3
    refine sfX8_everybody ht (WX_uI hWI3 (by first | exact okXo (by decide) | (unfold okX; refine ⟨?_, ?_, ?_, ?_, ?_, ?_, ?_, ?_, ?_, ?_⟩ <;> intro h <;> omega)))  (fun v6  hp5 => ?_)
    refine sfX8_pairsIn ht (WX_uI hWI3 (by first | exact okXo (by decide) | (unfold okX; refine ⟨?_, ?_, ?_, ?_, ?_, ?_, ?_, ?_, ?_, ?_⟩ <;> intro h <;> omega)))  (fun v8  => ?_)
    have q3 : (0 : Int32).toInt = 0 := rfl
    refine sfX8_lengthen ht (WX_uI hWI3 (by first | exact okXo (by decide) | (unfold okX; refine ⟨?_, ?_, ?_, ?_, ?_, ?_, ?_, ?_, ?_, ?_⟩ <;> intro h <;> omega))) (by omega) ⟨by omega, by omega⟩ (fun I9 hWI9 hFI9 => ?_)
    have hwI9 := WX_f hWI9
    exact hK _ _ hWI9 (Fr.tr (Fr_uI (Fr.tr Fr.rf hFI3 (by intro a k h; omega)) (by omega)) hFI9 (by intro a k h; omega))
  · skip
    have q1 := i32_lo (I 13 7)
    have q2 : (2 : Int32).toInt = 2 := rfl
    have hc2 := Int32.toInt_inj.mpr hc2
    exact hK _ _ hW Fr.rf
theorem lX8_finish_34 {G : jdG} {n : Nat} {Z : jdL} {J : jdJ} {rc rs : Nat} {K : jdI → jdJ → Prop}  {I0 : jdI} {x1 : Int32} {y2 : Int64} {x4 : Int32} (ht : zTies Z 13)   (hK : ∀ (I2 : jdI), WX I2 → Fr (fun a k => 13 ≤ a ∧ a ≤ 19) I0 I2 → ((I2 13 9).toInt ≤ 28) → K I2 J) {d : Nat} (hR : ∀ (I : jdI) (K : jdI → jdJ → Prop) (x1 : Int32) (y2 : Int64) (x4 : Int32), WX I → ((I 13 9).toInt ≤ 28) → 0 ≤ 28 - x4.toInt ∧ 28 - x4.toInt < (d : Int) → (∀ (I2 : jdI), WX I2 → Fr (fun a k => 13 ≤ a ∧ a ≤ 19) I I2 → ((I2 13 9).toInt ≤ 28) → K I2 J) → Cl G mX8_finish (n + 0) 0 0 [.ref (gb G + 13), .int x1, .long y2, .int x4] Z I J (qv Z K)) : ∀ m : Nat, ∀ (I : jdI) (x5 : Int32) (y6 : Int64) (x8 : Int32), WX I → Fr (fun a k => 13 ≤ a ∧ a ≤ 19) I0 I → (0 ≤ x8.toInt ∧ x8.toInt ≤ 70) → (0 ≤ x5.toInt ∧ x5.toInt < 70) → (0 ≤ 28 - x4.toInt ∧ 28 - x4.toInt ≤ (d : Int)) → ((I 13 9).toInt ≤ 28) → 70 - x8.toInt < (m : Int) → Jd G mX8_finish (jdFm G (qv Z K)) (n + 1) rc rs 34 [(0, .ref (gb G + 13)), (1, .int x1), (2, .long y2), (4, .int x4), (5, .int x5), (6, .long y6), (8, .int x8)] [] Z I J := by
  intro m
  induction m with
  | zero =>
    intro I x5 y6 x8 hW hF hx8 hx5 hd hb hm
    have hwI := WX_f hW
    omega
  | succ m ih =>
    intro I x5 y6 x8 hW hF hx8 hx5 hd hb hm
    have hwI := WX_f hW
    refine rX8_finish_34 ht ?_
    refine ⟨fun hc1 => ?_, fun hc2 => ?_⟩
    · skip
      have q1 := i32_lo (I 13 8)
      have q2 := i32_lo x8
      have hc1 := Int32.le_iff_toInt_le.mp hc1
      exact hK _ hW hF (by omega)
    · skip
      have q1 := i32_lo (I 13 8)
      have q2 := i32_lo x8
      have hc2 := mt Int32.le_iff_toInt_le.mpr hc2
      refine ⟨fun hc3 => ?_, fun hc4 => ?_⟩
      · skip
        have q3 := i32_lo (I 13 9)
        have q4 := i32_lo x4
        have q5 : (1 : Int32).toInt = 1 := rfl
        have q6 := i32_addI x4 1
        have hc3 := Int32.le_iff_toInt_le.mp hc3
        exact hK _ hW hF (by omega)
      · skip
        have q3 := i32_lo (I 13 9)
        have q4 := i32_lo x4
        have q5 : (1 : Int32).toInt = 1 := rfl
        have q6 := i32_addI x4 1
        have hc4 := mt Int32.le_iff_toInt_le.mpr hc4
        refine ⟨vp_of (by omega) (by omega), ?_⟩
        have q7 := i32_lo x5
        refine ⟨vp_of (by omega) (by omega), ?_⟩
        refine ⟨fun hc5 => ?_, fun hc6 => ?_⟩
        · skip
          have q8 : (0 : Int32).toInt = 0 := rfl
          have hc5 := Int32.toInt_inj.mpr hc5
          have q9 := i32_add x8 1 (by omega) (by omega)
          exact ih _ x5 y6 (x8 + 1) hW hF (by omega) (by omega) (by omega) (by omega) (by omega)
        · skip
          have q8 : (0 : Int32).toInt = 0 := rfl
          have hc6 : ¬ (((I (13 + 4) (Int32.toNatClampNeg x8)) &&& (I (13 + 4) (Int32.toNatClampNeg x5)))).toInt = (0 : Int32).toInt := fun z => hc6 (Int32.toInt_inj.mp z)
          refine ⟨vp_of (by omega) (by omega), ?_⟩
          refine ⟨vp_of (by omega) (by omega), ?_⟩
          refine ⟨fun hc7 => ?_, fun hc8 => ?_⟩
          · skip
            have q9 := i32_lo x1
            have hc7 : ¬ (((I (13 + 4) (Int32.toNatClampNeg x8)) &&& x1)).toInt = ((I (13 + 4) (Int32.toNatClampNeg x8))).toInt := fun z => hc7 (Int32.toInt_inj.mp z)
            have q10 := i32_add x8 1 (by omega) (by omega)
            exact ih _ x5 y6 (x8 + 1) hW hF (by omega) (by omega) (by omega) (by omega) (by omega)
          · skip
            have q9 := i32_lo x1
            have hc8 := Int32.toInt_inj.mpr hc8
            refine ⟨fun hc9 => ?_, fun hc10 => ?_⟩
            · skip
              have q10 := i32_add x8 1 (by omega) (by omega)
              exact ih _ x5 y6 (x8 + 1) hW hF (by omega) (by omega) (by omega) (by omega) (by omega)
            · skip
              refine ⟨vp_of (by omega) (by omega), ?_⟩
              refine hR _ _ _ _ _ hW (by omega) ⟨by omega, by omega⟩ (fun I6 hWI6 hFI6 hp11 => ?_)
              have hwI6 := WX_f hWI6
              have q10 := i32_add x8 1 (by omega) (by omega)
              exact ih _ x5 (y6 ||| (1 <<< (Int32.toInt64 x8 &&& 63))) (x8 + 1) hWI6 (Fr.tr hF hFI6 (by intro a k h; omega)) (by omega) (by omega) (by omega) (by omega) (by omega)
theorem sbX8_finish {G : jdG} {n : Nat} {Z : jdL} {J : jdJ} {d : Nat}   (ht : zTies Z 13)  (hR : ∀ (I : jdI) (K : jdI → jdJ → Prop) (x1 : Int32) (y2 : Int64) (x4 : Int32), WX I → ((I 13 9).toInt ≤ 28) → 0 ≤ 28 - x4.toInt ∧ 28 - x4.toInt < (d : Int) → (∀ (I2 : jdI), WX I2 → Fr (fun a k => 13 ≤ a ∧ a ≤ 19) I I2 → ((I2 13 9).toInt ≤ 28) → K I2 J) → Cl G mX8_finish (n + 0) 0 0 [.ref (gb G + 13), .int x1, .long y2, .int x4] Z I J (qv Z K)) (I : jdI) (K : jdI → jdJ → Prop) (x1 : Int32) (y2 : Int64) (x4 : Int32) (hW : WX I) (hb : (I 13 9).toInt ≤ 28) (hd : 0 ≤ 28 - x4.toInt ∧ 28 - x4.toInt ≤ (d : Int)) (hK : ∀ (I2 : jdI), WX I2 → Fr (fun a k => 13 ≤ a ∧ a ≤ 19) I I2 → ((I2 13 9).toInt ≤ 28) → K I2 J) : Cl G mX8_finish (n + 1) 0 0 [.ref (gb G + 13), .int x1, .long y2, .int x4] Z I J (qv Z K) := by
  refine eX8_finish ht ?_
  have hwI := WX_f hW
  refine sfX8_firstPossible ht hW  (fun v2  hp1 => ?_)
  refine ⟨fun hc2 => ?_, fun hc3 => ?_⟩
  · skip
    have q1 := i32_lo v2
    have q2 : (-1 : Int32).toInt = -1 := rfl
    have hc2 : ¬ (v2).toInt = ((-1) : Int32).toInt := fun z => hc2 (Int32.toInt_inj.mp z)
    exact lX8_finish_34 ht   hK hR  ((70 - v2.toInt).toNat + 1) _ v2 y2 v2 hW Fr.rf (by omega) (by omega) (by omega) (by omega) (by omega)
  · skip
    have q1 := i32_lo v2
    have q2 : (-1 : Int32).toInt = -1 := rfl
    have hc3 := Int32.toInt_inj.mpr hc3
    have hr4 : (((uI I 13 9 (if x4 < (I 13 9) then x4 else (I 13 9)))) 13 9).toInt = ((if x4 < (I 13 9) then x4 else (I 13 9))).toInt := congrArg Int32.toInt (uI_ss _ _ _ _)
    have q3 := i32_lo x4
    have q4 := i32_lo (I 13 9)
    have q5 := i32_sel x4 (I 13 9) x4 (I 13 9)
    exact hK _ (WX_uI hW (by first | exact okXo (by decide) | (unfold okX; refine ⟨?_, ?_, ?_, ?_, ?_, ?_, ?_, ?_, ?_, ?_⟩ <;> intro h <;> omega))) (Fr_uI Fr.rf (by omega)) (by omega)
theorem srX8_finish {G : jdG} {Z : jdL} {J : jdJ}   (ht : zTies Z 13)  : ∀ d : Nat, ∀ (n : Nat) (I : jdI) (K : jdI → jdJ → Prop) (x1 : Int32) (y2 : Int64) (x4 : Int32), WX I → ((I 13 9).toInt ≤ 28) → 0 ≤ 28 - x4.toInt ∧ 28 - x4.toInt ≤ (d : Int) → (∀ (I2 : jdI), WX I2 → Fr (fun a k => 13 ≤ a ∧ a ≤ 19) I I2 → ((I2 13 9).toInt ≤ 28) → K I2 J) → Cl G mX8_finish (n + 0 + d + 1) 0 0 [.ref (gb G + 13), .int x1, .long y2, .int x4] Z I J (qv Z K) := by
  intro d
  induction d with
  | zero =>
    intro n
    exact sbX8_finish (n := n) (d := 0) ht (fun _ _ _ _ _ _ _ h _ => absurd h (by omega))
  | succ d ih =>
    intro n
    exact sbX8_finish (n := n + d + 1) (d := d + 1) ht (fun I K x1 y2 x4 hW hb h hK => by
      have e : n + d + 1 + 0 = n + 0 + d + 1 := by omega
      rw [e]
      exact ih n I K x1 y2 x4 hW hb ⟨h.1, by omega⟩ hK) |> (fun h => by
      have e : n + 0 + (d + 1) + 1 = n + d + 1 + 1 := by omega
      rw [e]
      exact h)
theorem sfX8_finish {G : jdG} {n : Nat} {Z : jdL} {J : jdJ} {K : jdI → jdJ → Prop}  {I : jdI} {x1 : Int32} {y2 : Int64} {x4 : Int32} (ht : zTies Z 13)  (hW : WX I) (hb : (I 13 9).toInt ≤ 28) (hd : 0 ≤ 28 - x4.toInt ∧ 28 - x4.toInt ≤ 28) (hK : ∀ (I2 : jdI), WX I2 → Fr (fun a k => 13 ≤ a ∧ a ≤ 19) I I2 → ((I2 13 9).toInt ≤ 28) → K I2 J) : Cl G mX8_finish (n + 29) 0 0 [.ref (gb G + 13), .int x1, .long y2, .int x4] Z I J (qv Z K) :=
  srX8_finish ht 28 n I K x1 y2 x4 hW hb hd hK
theorem sfX8_soonest {G : jdG} {n : Nat} {Z : jdL} {J : jdJ} {K : Int32 → jdI → jdJ → Prop}  {I : jdI}  (ht : zTies Z 13)  (hW : WX I)  (hK : ∀ (v : Int32) (I2 : jdI), WX I2 → Fr (fun a k => 13 ≤ a ∧ a ≤ 19) I I2 → K v I2 J) : Cl G mX8_soonest (n + 30) 0 0 [.ref (gb G + 13)] Z I J (qi Z K) := by
  refine eX8_soonest ht ?_
  have hwI := WX_f hW
  refine ⟨fun hc1 => ?_, fun hc2 => ?_⟩
  · skip
    have q1 := i32_lo (I 13 7)
    have q2 : (2 : Int32).toInt = 2 := rfl
    have hc1 : ¬ ((I 13 7)).toInt = (2 : Int32).toInt := fun z => hc1 (Int32.toInt_inj.mp z)
    refine sfX8_everybody ht hW  (fun v2  hp3 => ?_)
    refine sfX8_listPairs ht hW  (fun v4 I3 hWI3 hFI3 hp4 => ?_)
    have hwI3 := WX_f hWI3
    refine sfX8_everybody ht (WX_uI hWI3 (by first | exact okXo (by decide) | (unfold okX; refine ⟨?_, ?_, ?_, ?_, ?_, ?_, ?_, ?_, ?_, ?_⟩ <;> intro h <;> omega)))  (fun v6  hp5 => ?_)
    refine sfX8_pairsIn ht (WX_uI hWI3 (by first | exact okXo (by decide) | (unfold okX; refine ⟨?_, ?_, ?_, ?_, ?_, ?_, ?_, ?_, ?_, ?_⟩ <;> intro h <;> omega)))  (fun v8  => ?_)
    have q3 : (0 : Int32).toInt = 0 := rfl
    have hr8 : (((uI I3 13 9 28)) 13 9).toInt = ((28 : Int32)).toInt := congrArg Int32.toInt (uI_ss _ _ _ _)
    have q4 : (28 : Int32).toInt = 28 := rfl
    refine sfX8_finish ht (WX_uI hWI3 (by first | exact okXo (by decide) | (unfold okX; refine ⟨?_, ?_, ?_, ?_, ?_, ?_, ?_, ?_, ?_, ?_⟩ <;> intro h <;> omega))) (by omega) ⟨by omega, by omega⟩ (fun I9 hWI9 hFI9 hp7 => ?_)
    have hwI9 := WX_f hWI9
    exact hK _ _ hWI9 (Fr.tr (Fr_uI (Fr.tr Fr.rf hFI3 (by intro a k h; omega)) (by omega)) hFI9 (by intro a k h; omega))
  · skip
    have q1 := i32_lo (I 13 7)
    have q2 : (2 : Int32).toInt = 2 := rfl
    have hc2 := Int32.toInt_inj.mpr hc2
    exact hK _ _ hW Fr.rf
theorem lX8_countWays_50 {G : jdG} {n : Nat} {Z : jdL} {J : jdJ} {rc rs : Nat} {K : Int32 → jdI → jdJ → Prop}  {I0 : jdI} {x1 : Int32} (ht : zTies Z 13)   (hK : ∀ (v : Int32) (I2 : jdI), WX I2 → Fr (fun a k => 13 ≤ a ∧ a ≤ 19) I0 I2 → K v I2 J) : ∀ m : Nat, ∀ (I : jdI) (x2 : Int32) (x3 : Int32) (x4 : Int32) (x5 : Int32) (x6 : Int32) (x7 : Int32), WX I → Fr (fun a k => 13 ≤ a ∧ a ≤ 19) I0 I → (0 ≤ x7.toInt ∧ x7.toInt ≤ 2147483647) → (0 ≤ x2.toInt ∧ x2.toInt ≤ 70) → 2147483647 - x7.toInt < (m : Int) → Jd G mX8_countWays (jdFm G (qi Z K)) (n + 3) rc rs 50 [(0, .ref (gb G + 13)), (1, .int x1), (2, .int x2), (3, .int x3), (4, .int x4), (5, .int x5), (6, .int x6), (7, .int x7)] [] Z I J := by
  intro m
  induction m with
  | zero =>
    intro I x2 x3 x4 x5 x6 x7 hW hF hx7 hx2 hm
    have hwI := WX_f hW
    omega
  | succ m ih =>
    intro I x2 x3 x4 x5 x6 x7 hW hF hx7 hx2 hm
    have hwI := WX_f hW
    refine rX8_countWays_50 ht ?_
    refine ⟨fun hc1 => ?_, fun hc2 => ?_⟩
    · skip
      have q1 := i32_lo x4
      have q2 := i32_lo x7
      have hc1 := Int32.le_iff_toInt_le.mp hc1
      exact hK _ _ hW hF
    · skip
      have q1 := i32_lo x4
      have q2 := i32_lo x7
      have hc2 := mt Int32.le_iff_toInt_le.mpr hc2
      have q3 := i32_lo x2
      refine sfX8_breaksAll ht hW (by omega) (fun v2  => ?_)
      refine ⟨fun hc4 => ?_, fun hc5 => ?_⟩
      · skip
        have q4 := i32_lo v2
        have q5 : (0 : Int32).toInt = 0 := rfl
        have hc4 := Int32.toInt_inj.mpr hc4
        have q6 : (1 : Int32).toInt = 1 := rfl
        have q7 := i32_add x7 1 (by omega) (by omega)
        exact ih _ x2 x3 x4 x5 ((x6 - x3) &&& x3) (x7 + 1) hW hF (by omega) (by omega) (by omega)
      · skip
        have q4 := i32_lo v2
        have q5 : (0 : Int32).toInt = 0 := rfl
        have hc5 : ¬ (v2).toInt = (0 : Int32).toInt := fun z => hc5 (Int32.toInt_inj.mp z)
        refine sfX8_tally ht hW  (fun I3 hWI3 hFI3 => ?_)
        have hwI3 := WX_f hWI3
        have q6 : (1 : Int32).toInt = 1 := rfl
        have q7 := i32_add x7 1 (by omega) (by omega)
        exact ih _ x2 x3 x4 (x5 + 1) ((x6 - x3) &&& x3) (x7 + 1) hWI3 (Fr.tr hF hFI3 (by intro a k h; omega)) (by omega) (by omega) (by omega)
theorem lX8_countWays_2 {G : jdG} {n : Nat} {Z : jdL} {J : jdJ} {rc rs : Nat} {K : Int32 → jdI → jdJ → Prop}  {I0 : jdI} {x1 : Int32} (ht : zTies Z 13)   (hK : ∀ (v : Int32) (I2 : jdI), WX I2 → Fr (fun a k => 13 ≤ a ∧ a ≤ 19) I0 I2 → K v I2 J) : ∀ m : Nat, ∀ (I : jdI) (x2 : Int32), WX I → Fr (fun a k => 13 ≤ a ∧ a ≤ 19) I0 I → (0 ≤ x2.toInt ∧ x2.toInt ≤ 28) → (28) - x2.toInt < (m : Int) → Jd G mX8_countWays (jdFm G (qi Z K)) (n + 3) rc rs 2 [(0, .ref (gb G + 13)), (1, .int x1), (2, .int x2)] [] Z I J := by
  intro m
  induction m with
  | zero =>
    intro I x2 hW hF hx2 hm
    have hwI := WX_f hW
    omega
  | succ m ih =>
    intro I x2 hW hF hx2 hm
    have hwI := WX_f hW
    refine rX8_countWays_2 ht ?_
    refine ⟨fun hc1 => ?_, fun hc2 => ?_⟩
    · skip
      have q1 : (28 : Int32).toInt = 28 := rfl
      have q2 := i32_lo x2
      have hc1 := Int32.le_iff_toInt_le.mp hc1
      refine sfX8_listPairs ht hW  (fun v2 I1 hWI1 hFI1 hp3 => ?_)
      have hwI1 := WX_f hWI1
      refine sfX8_pairsIn ht hWI1  (fun v4  => ?_)
      refine sfJ6_bitCount_0f7a4  hWI1  (fun v6  hp5 => ?_)
      have q3 := i32_lo v2
      have q4 : (0 : Int32).toInt = 0 := rfl
      exact lX8_countWays_50 ht   hK  ((2147483647 - (0 : Int32).toInt).toNat + 1) _ v2 v4 (1 <<< (v6 &&& 31)) 0 0 0 hWI1 (Fr.tr hF hFI1 (by intro a k h; omega)) (by omega) (by omega) (by omega)
    · skip
      have q1 : (28 : Int32).toInt = 28 := rfl
      have q2 := i32_lo x2
      have hc2 := mt Int32.le_iff_toInt_le.mpr hc2
      refine ⟨vp_of (by omega) (by omega), ?_⟩
      have q3 : (1 : Int32).toInt = 1 := rfl
      have q4 := i32_add x2 1 (by omega) (by omega)
      exact ih _ (x2 + 1) (WX_uI hW (by first | exact okXo (by decide) | (unfold okX; refine ⟨?_, ?_, ?_, ?_, ?_, ?_, ?_, ?_, ?_, ?_⟩ <;> intro h <;> omega))) (Fr_uI hF (by omega)) (by omega) (by omega)
theorem sfX8_countWays {G : jdG} {n : Nat} {Z : jdL} {J : jdJ} {K : Int32 → jdI → jdJ → Prop}  {I : jdI} {x1 : Int32} (ht : zTies Z 13)  (hW : WX I)  (hK : ∀ (v : Int32) (I2 : jdI), WX I2 → Fr (fun a k => 13 ≤ a ∧ a ≤ 19) I I2 → K v I2 J) : Cl G mX8_countWays (n + 3) 0 0 [.ref (gb G + 13), .int x1] Z I J (qi Z K) := by
  refine eX8_countWays ht ?_
  have hwI := WX_f hW
  have q1 : (0 : Int32).toInt = 0 := rfl
  exact lX8_countWays_2 ht   hK  (((28) - (0 : Int32).toInt).toNat + 1) _ 0 hW Fr.rf (by omega) (by omega)
theorem lX8_surest_35 {G : jdG} {n : Nat} {Z : jdL} {J : jdJ} {rc rs : Nat} {K : Int32 → jdI → jdJ → Prop}  {I0 : jdI} {mo20 : Nat} {x1 : Int32} (ht : zTies Z 13)   (hK : ∀ (v : Int32) (I2 : jdI), WX I2 → Fr (fun a k => 13 ≤ a ∧ a ≤ 19) I0 I2 → K v I2 J) (hO20 : ∀ (I : jdI) (x2 : Int32) (x3 : Int32) (x4 : Int32) (x5 : Int32), WX I → Fr (fun a k => 13 ≤ a ∧ a ≤ 19) I0 I → (0 ≤ x5.toInt ∧ x5.toInt ≤ 8) → (8) - x5.toInt < (mo20 : Int) → Jd G mX8_surest (jdFm G (qi Z K)) (n + 4) rc rs 20 [(0, .ref (gb G + 13)), (1, .int x1), (2, .int x2), (3, .int x3), (4, .int x4), (5, .int x5)] [] Z I J) : ∀ m : Nat, ∀ (I : jdI) (x2 : Int32) (x3 : Int32) (x4 : Int32) (x5 : Int32) (x6 : Int32), WX I → Fr (fun a k => 13 ≤ a ∧ a ≤ 19) I0 I → (0 ≤ x6.toInt ∧ x6.toInt ≤ 8) → (0 ≤ x5.toInt ∧ x5.toInt < x6.toInt) → (8) - x5.toInt ≤ (mo20 : Int) → (8) - x6.toInt < (m : Int) → Jd G mX8_surest (jdFm G (qi Z K)) (n + 4) rc rs 35 [(0, .ref (gb G + 13)), (1, .int x1), (2, .int x2), (3, .int x3), (4, .int x4), (5, .int x5), (6, .int x6)] [] Z I J := by
  intro m
  induction m with
  | zero =>
    intro I x2 x3 x4 x5 x6 hW hF hx6 hx5 hmo20 hm
    have hwI := WX_f hW
    omega
  | succ m ih =>
    intro I x2 x3 x4 x5 x6 hW hF hx6 hx5 hmo20 hm
    have hwI := WX_f hW
    refine rX8_surest_35 ht ?_
    refine ⟨fun hc1 => ?_, fun hc2 => ?_⟩
    · skip
      have q1 := i32_lo (I 13 6)
      have q2 := i32_lo x6
      have hc1 := Int32.le_iff_toInt_le.mp hc1
      have q3 := i32_lo x5
      have q4 : (1 : Int32).toInt = 1 := rfl
      have q5 := i32_add x5 1 (by omega) (by omega)
      exact hO20 _ x2 x3 x4 (x5 + 1) hW hF (by omega) (by omega)
    · skip
      have q1 := i32_lo (I 13 6)
      have q2 := i32_lo x6
      have hc2 := mt Int32.le_iff_toInt_le.mpr hc2
      have q3 := i32_lo x5
      refine sfX8_pairBit  hW  (fun v2  hp3 => ?_)
      refine ⟨fun hc4 => ?_, fun hc5 => ?_⟩
      · skip
        have q4 := i32_lo x2
        have q5 := i32_lo v2
        have q6 : (31 : Int32).toInt = 31 := rfl
        have q7 : (1 : Int32).toInt = 1 := rfl
        have q8 : (0 : Int32).toInt = 0 := rfl
        have hc4 := Int32.toInt_inj.mpr hc4
        have q9 := i32_add x6 1 (by omega) (by omega)
        exact ih _ x2 x3 x4 x5 (x6 + 1) hW hF (by omega) (by omega) (by omega) (by omega)
      · skip
        have q4 := i32_lo x2
        have q5 := i32_lo v2
        have q6 : (31 : Int32).toInt = 31 := rfl
        have q7 : (1 : Int32).toInt = 1 := rfl
        have q8 : (0 : Int32).toInt = 0 := rfl
        have hc5 : ¬ (((x2 >>> (v2 &&& 31)) &&& 1)).toInt = (0 : Int32).toInt := fun z => hc5 (Int32.toInt_inj.mp z)
        refine ⟨vp_of (by omega) (by omega), ?_⟩
        refine ⟨fun hc6 => ?_, fun hc7 => ?_⟩
        · skip
          have q9 := i32_lo x4
          have hc6 := Int32.le_iff_toInt_le.mp hc6
          have q10 := i32_add x6 1 (by omega) (by omega)
          exact ih _ x2 x3 x4 x5 (x6 + 1) hW hF (by omega) (by omega) (by omega) (by omega)
        · skip
          have q9 := i32_lo x4
          have hc7 := mt Int32.le_iff_toInt_le.mpr hc7
          refine ⟨vp_of (by omega) (by omega), ?_⟩
          have q10 := i32_add x6 1 (by omega) (by omega)
          exact ih _ x2 ((10 * x5) + x6) (I (13 + 6) (Int32.toNatClampNeg v2)) x5 (x6 + 1) hW hF (by omega) (by omega) (by omega) (by omega)
theorem lX8_surest_20 {G : jdG} {n : Nat} {Z : jdL} {J : jdJ} {rc rs : Nat} {K : Int32 → jdI → jdJ → Prop}  {I0 : jdI} {x1 : Int32} (ht : zTies Z 13)   (hK : ∀ (v : Int32) (I2 : jdI), WX I2 → Fr (fun a k => 13 ≤ a ∧ a ≤ 19) I0 I2 → K v I2 J) : ∀ m : Nat, ∀ (I : jdI) (x2 : Int32) (x3 : Int32) (x4 : Int32) (x5 : Int32), WX I → Fr (fun a k => 13 ≤ a ∧ a ≤ 19) I0 I → (0 ≤ x5.toInt ∧ x5.toInt ≤ 8) → (8) - x5.toInt < (m : Int) → Jd G mX8_surest (jdFm G (qi Z K)) (n + 4) rc rs 20 [(0, .ref (gb G + 13)), (1, .int x1), (2, .int x2), (3, .int x3), (4, .int x4), (5, .int x5)] [] Z I J := by
  intro m
  induction m with
  | zero =>
    intro I x2 x3 x4 x5 hW hF hx5 hm
    have hwI := WX_f hW
    omega
  | succ m ih =>
    intro I x2 x3 x4 x5 hW hF hx5 hm
    have hwI := WX_f hW
    refine rX8_surest_20 ht ?_
    refine ⟨fun hc1 => ?_, fun hc2 => ?_⟩
    · skip
      have q1 := i32_lo (I 13 6)
      have q2 := i32_lo x5
      have hc1 := Int32.le_iff_toInt_le.mp hc1
      exact hK _ _ hW hF
    · skip
      have q1 := i32_lo (I 13 6)
      have q2 := i32_lo x5
      have hc2 := mt Int32.le_iff_toInt_le.mpr hc2
      have q3 : (1 : Int32).toInt = 1 := rfl
      have q4 := i32_add x5 1 (by omega) (by omega)
      exact lX8_surest_35 ht   hK ih (((8) - (x5 + 1).toInt).toNat + 1) _ x2 x3 x4 x5 (x5 + 1) hW hF (by omega) (by omega) (by omega) (by omega)
theorem sfX8_surest {G : jdG} {n : Nat} {Z : jdL} {J : jdJ} {K : Int32 → jdI → jdJ → Prop}  {I : jdI} {x1 : Int32} (ht : zTies Z 13)  (hW : WX I)  (hK : ∀ (v : Int32) (I2 : jdI), WX I2 → Fr (fun a k => 13 ≤ a ∧ a ≤ 19) I I2 → K v I2 J) : Cl G mX8_surest (n + 4) 0 0 [.ref (gb G + 13), .int x1] Z I J (qi Z K) := by
  refine eX8_surest ht ?_
  have hwI := WX_f hW
  refine sfX8_countWays ht hW  (fun v2 I1 hWI1 hFI1 => ?_)
  have hwI1 := WX_f hWI1
  refine sfX8_pairsIn ht hWI1  (fun v4  => ?_)
  have q1 : (0 : Int32).toInt = 0 := rfl
  exact lX8_surest_20 ht   hK  (((8) - (0 : Int32).toInt).toNat + 1) _ v4 (-1) (-1) 0 hWI1 (Fr.tr Fr.rf hFI1 (by intro a k h; omega)) (by omega) (by omega)
