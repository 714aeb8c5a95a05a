theorem sfJ6_bitCount_0f7a4 {G : jdG} {n : Nat} {Z : jdL} {J : jdJ} {K : Int32 → jdI → jdJ → Prop} {I : jdI} {x0 : Int32}   (hW : WX I)  (hK : ∀ v : Int32, 0 ≤ v.toInt ∧ v.toInt ≤ 63 → K v I J) : Cl G mJ6_bitCount_0f7a4 n 0 0 [.int x0] Z I J (qi Z K) := by
  refine eJ6_bitCount_0f7a4  ?_
  have hwI := hW
  unfold WX at hwI
  exact hK _ (i32_and _ 63 (by decide))
theorem sfX8_everybody {G : jdG} {n : Nat} {Z : jdL} {J : jdJ} {K : Int32 → jdI → jdJ → Prop} {I : jdI}  (ht : zTies Z 13)  (hW : WX I)  (hK : ∀ v : Int32, v = ((1 : Int32) <<< ((I 13 6) &&& 31)) - 1 ∧ 0 ≤ v.toInt ∧ v.toInt ≤ 255 → K v I J) : Cl G mX8_everybody n 0 0 [.ref (gb G + 13)] Z I J (qi Z K) := by
  refine eX8_everybody ht ?_
  have hwI := hW
  unfold WX at hwI
  exact hK _ ⟨rfl, (ev_8 (by omega) (by omega)).2.2⟩
theorem sfX8_pairBit {G : jdG} {n : Nat} {Z : jdL} {J : jdJ} {K : Int32 → jdI → jdJ → Prop} {I : jdI} {x0 : Int32} {x1 : Int32}   (hW : WX I)  (hK : ∀ v : Int32, v = ((x1 * (x1 - 1)) / 2) + x0 → K v I J) : Cl G mX8_pairBit n 0 0 [.int x0, .int x1] Z I J (qi Z K) := by
  refine eX8_pairBit  ?_
  have hwI := hW
  unfold WX at hwI
  exact hK _ rfl
theorem lX8_isOne_2 {G : jdG} {n rc rs : Nat} {Z : jdL} {J : jdJ} {K : Int32 → jdI → jdJ → Prop} {I : jdI}  (ht : zTies Z 13)  (hW : WX I)  (hK : ∀ v : Int32, v = 0 ∨ v = 1 → K v I J) : ∀ m : Nat, ∀ (x1 : Int32) (x2 : Int32), 0 ≤ x2.toInt ∧ x2.toInt ≤ (I 13 8).toInt → ((I 13 8).toInt) - x2.toInt < (m : Int) → Jd G mX8_isOne (jdFm G (qi Z K)) n rc rs 2 [(0, .ref (gb G + 13)), (1, .int x1), (2, .int x2)] [] Z I J := by
  intro m
  induction m with
  | zero =>
    intro x1 x2 hx2 hm
    have hw := hW
    unfold WX at hw
    omega
  | succ m ih =>
    intro x1 x2 hx2 hm
    have hwI := hW
    unfold WX at hwI
    refine rX8_isOne_2 ht ?_
    refine ⟨fun hc1 => ?_, fun hc2 => ?_⟩
    · skip
      have hc1 := Int32.le_iff_toInt_le.mp hc1
      exact hK _ (by first | exact Or.inl rfl | exact Or.inr rfl)
    · skip
      have hc2 := mt Int32.le_iff_toInt_le.mpr hc2
      refine ⟨vp_of (by omega) (by omega), ?_⟩
      refine ⟨fun hc3 => ?_, fun hc4 => ?_⟩
      · skip
        have hc3 := fun z => hc3 (Int32.toInt_inj.mp z)
        have q1 : (1 : Int32).toInt = 1 := rfl
        have q2 := i32_add x2 1 (by omega) (by omega)
        exact ih x1 (x2 + 1) (by omega) (by omega)
      · skip
        have hc4 := Int32.toInt_inj.mpr hc4
        exact hK _ (by first | exact Or.inl rfl | exact Or.inr rfl)
theorem sfX8_isOne {G : jdG} {n : Nat} {Z : jdL} {J : jdJ} {K : Int32 → jdI → jdJ → Prop} {I : jdI} {x1 : Int32} (ht : zTies Z 13)  (hW : WX I)  (hK : ∀ v : Int32, v = 0 ∨ v = 1 → K v I J) : Cl G mX8_isOne n 0 0 [.ref (gb G + 13), .int x1] Z I J (qi Z K) := by
  refine eX8_isOne ht ?_
  have hwI := hW
  unfold WX at hwI
  have q1 : (0 : Int32).toInt = 0 := rfl
  exact lX8_isOne_2 ht  hW  hK  ((((I 13 8).toInt) - (0 : Int32).toInt).toNat + 1) x1 0 (by omega) (by omega)
theorem lX8_countIn_4 {G : jdG} {n rc rs : Nat} {Z : jdL} {J : jdJ} {K : Int32 → jdI → jdJ → Prop} {I : jdI}  (ht : zTies Z 13)  (hW : WX I)  (hK : ∀ v : Int32, K v I J) : ∀ m : Nat, ∀ (x1 : Int32) (x2 : Int32) (x3 : Int32), 0 ≤ x3.toInt ∧ x3.toInt ≤ (I 13 8).toInt → ((I 13 8).toInt) - x3.toInt < (m : Int) → Jd G mX8_countIn (jdFm G (qi Z K)) n rc rs 4 [(0, .ref (gb G + 13)), (1, .int x1), (2, .int x2), (3, .int x3)] [] Z I J := by
  intro m
  induction m with
  | zero =>
    intro x1 x2 x3 hx3 hm
    have hw := hW
    unfold WX at hw
    omega
  | succ m ih =>
    intro x1 x2 x3 hx3 hm
    have hwI := hW
    unfold WX at hwI
    refine rX8_countIn_4 ht ?_
    refine ⟨fun hc1 => ?_, fun hc2 => ?_⟩
    · skip
      have hc1 := Int32.le_iff_toInt_le.mp hc1
      exact hK _
    · skip
      have hc2 := mt Int32.le_iff_toInt_le.mpr hc2
      refine ⟨vp_of (by omega) (by omega), ?_⟩
      refine ⟨vp_of (by omega) (by omega), ?_⟩
      refine ⟨fun hc3 => ?_, fun hc4 => ?_⟩
      · skip
        have hc3 := fun z => hc3 (Int32.toInt_inj.mp z)
        have q1 : (1 : Int32).toInt = 1 := rfl
        have q2 := i32_add x3 1 (by omega) (by omega)
        exact ih x1 (x2 + 0) (x3 + 1) (by omega) (by omega)
      · skip
        have hc4 := Int32.toInt_inj.mpr hc4
        have q1 : (1 : Int32).toInt = 1 := rfl
        have q2 := i32_add x3 1 (by omega) (by omega)
        exact ih x1 (x2 + 1) (x3 + 1) (by omega) (by omega)
theorem sfX8_countIn {G : jdG} {n : Nat} {Z : jdL} {J : jdJ} {K : Int32 → jdI → jdJ → Prop} {I : jdI} {x1 : Int32} (ht : zTies Z 13)  (hW : WX I)  (hK : ∀ v : Int32, K v I J) : Cl G mX8_countIn n 0 0 [.ref (gb G + 13), .int x1] Z I J (qi Z K) := by
  refine eX8_countIn ht ?_
  have hwI := hW
  unfold WX at hwI
  have q1 : (0 : Int32).toInt = 0 := rfl
  exact lX8_countIn_4 ht  hW  hK  ((((I 13 8).toInt) - (0 : Int32).toInt).toNat + 1) x1 0 0 (by omega) (by omega)
theorem lX8_countWith_4 {G : jdG} {n rc rs : Nat} {Z : jdL} {J : jdJ} {K : Int32 → jdI → jdJ → Prop} {I : jdI}  (ht : zTies Z 13)  (hW : WX I)  (hK : ∀ v : Int32, K v I J) : ∀ m : Nat, ∀ (x1 : Int32) (x2 : Int32) (x3 : Int32), 0 ≤ x3.toInt ∧ x3.toInt ≤ (I 13 8).toInt → ((I 13 8).toInt) - x3.toInt < (m : Int) → Jd G mX8_countWith (jdFm G (qi Z K)) n rc rs 4 [(0, .ref (gb G + 13)), (1, .int x1), (2, .int x2), (3, .int x3)] [] Z I J := by
  intro m
  induction m with
  | zero =>
    intro x1 x2 x3 hx3 hm
    have hw := hW
    unfold WX at hw
    omega
  | succ m ih =>
    intro x1 x2 x3 hx3 hm
    have hwI := hW
    unfold WX at hwI
    refine rX8_countWith_4 ht ?_
    refine ⟨fun hc1 => ?_, fun hc2 => ?_⟩
    · skip
      have hc1 := Int32.le_iff_toInt_le.mp hc1
      exact hK _
    · skip
      have hc2 := mt Int32.le_iff_toInt_le.mpr hc2
      refine ⟨vp_of (by omega) (by omega), ?_⟩
      refine ⟨fun hc3 => ?_, fun hc4 => ?_⟩
      · skip
        have hc3 := fun z => hc3 (Int32.toInt_inj.mp z)
        have q1 : (1 : Int32).toInt = 1 := rfl
        have q2 := i32_add x3 1 (by omega) (by omega)
        exact ih x1 (x2 + 0) (x3 + 1) (by omega) (by omega)
      · skip
        have hc4 := Int32.toInt_inj.mpr hc4
        have q1 : (1 : Int32).toInt = 1 := rfl
        have q2 := i32_add x3 1 (by omega) (by omega)
        exact ih x1 (x2 + 1) (x3 + 1) (by omega) (by omega)
theorem sfX8_countWith {G : jdG} {n : Nat} {Z : jdL} {J : jdJ} {K : Int32 → jdI → jdJ → Prop} {I : jdI} {x1 : Int32} (ht : zTies Z 13)  (hW : WX I)  (hK : ∀ v : Int32, K v I J) : Cl G mX8_countWith n 0 0 [.ref (gb G + 13), .int x1] Z I J (qi Z K) := by
  refine eX8_countWith ht ?_
  have hwI := hW
  unfold WX at hwI
  have q1 : (0 : Int32).toInt = 0 := rfl
  exact lX8_countWith_4 ht  hW  hK  ((((I 13 8).toInt) - (0 : Int32).toInt).toNat + 1) x1 0 0 (by omega) (by omega)
theorem lX8_firstIn_2 {G : jdG} {n rc rs : Nat} {Z : jdL} {J : jdJ} {K : Int32 → jdI → jdJ → Prop} {I : jdI}  (ht : zTies Z 13)  (hW : WX I)  (hK : ∀ v : Int32, K v I J) : ∀ m : Nat, ∀ (x1 : Int32) (x2 : Int32), 0 ≤ x2.toInt ∧ x2.toInt ≤ (I 13 8).toInt → ((I 13 8).toInt) - x2.toInt < (m : Int) → Jd G mX8_firstIn (jdFm G (qi Z K)) n rc rs 2 [(0, .ref (gb G + 13)), (1, .int x1), (2, .int x2)] [] Z I J := by
  intro m
  induction m with
  | zero =>
    intro x1 x2 hx2 hm
    have hw := hW
    unfold WX at hw
    omega
  | succ m ih =>
    intro x1 x2 hx2 hm
    have hwI := hW
    unfold WX at hwI
    refine rX8_firstIn_2 ht ?_
    refine ⟨fun hc1 => ?_, fun hc2 => ?_⟩
    · skip
      have hc1 := Int32.le_iff_toInt_le.mp hc1
      exact hK _
    · skip
      have hc2 := mt Int32.le_iff_toInt_le.mpr hc2
      refine ⟨vp_of (by omega) (by omega), ?_⟩
      refine ⟨vp_of (by omega) (by omega), ?_⟩
      refine ⟨fun hc3 => ?_, fun hc4 => ?_⟩
      · skip
        have hc3 := fun z => hc3 (Int32.toInt_inj.mp z)
        have q1 : (1 : Int32).toInt = 1 := rfl
        have q2 := i32_add x2 1 (by omega) (by omega)
        exact ih x1 (x2 + 1) (by omega) (by omega)
      · skip
        have hc4 := Int32.toInt_inj.mpr hc4
        refine ⟨vp_of (by omega) (by omega), ?_⟩
        exact hK _
theorem sfX8_firstIn {G : jdG} {n : Nat} {Z : jdL} {J : jdJ} {K : Int32 → jdI → jdJ → Prop} {I : jdI} {x1 : Int32} (ht : zTies Z 13)  (hW : WX I)  (hK : ∀ v : Int32, K v I J) : Cl G mX8_firstIn n 0 0 [.ref (gb G + 13), .int x1] Z I J (qi Z K) := by
  refine eX8_firstIn ht ?_
  have hwI := hW
  unfold WX at hwI
  have q1 : (0 : Int32).toInt = 0 := rfl
  exact lX8_firstIn_2 ht  hW  hK  ((((I 13 8).toInt) - (0 : Int32).toInt).toNat + 1) x1 0 (by omega) (by omega)
theorem lX8_firstPossible_2 {G : jdG} {n rc rs : Nat} {Z : jdL} {J : jdJ} {K : Int32 → jdI → jdJ → Prop} {I : jdI}  (ht : zTies Z 13)  (hW : WX I)  (hK : ∀ v : Int32, v = -1 ∨ (0 ≤ v.toInt ∧ v.toInt < (I 13 8).toInt) → K v I J) : ∀ m : Nat, ∀ (x1 : Int32) (x2 : Int32), 0 ≤ x2.toInt ∧ x2.toInt ≤ (I 13 8).toInt → ((I 13 8).toInt) - x2.toInt < (m : Int) → Jd G mX8_firstPossible (jdFm G (qi Z K)) n rc rs 2 [(0, .ref (gb G + 13)), (1, .int x1), (2, .int x2)] [] Z I J := by
  intro m
  induction m with
  | zero =>
    intro x1 x2 hx2 hm
    have hw := hW
    unfold WX at hw
    omega
  | succ m ih =>
    intro x1 x2 hx2 hm
    have hwI := hW
    unfold WX at hwI
    refine rX8_firstPossible_2 ht ?_
    refine ⟨fun hc1 => ?_, fun hc2 => ?_⟩
    · skip
      have hc1 := Int32.le_iff_toInt_le.mp hc1
      exact hK _ (by first | exact Or.inl rfl | (right; omega))
    · skip
      have hc2 := mt Int32.le_iff_toInt_le.mpr hc2
      refine ⟨vp_of (by omega) (by omega), ?_⟩
      refine ⟨vp_of (by omega) (by omega), ?_⟩
      refine ⟨fun hc3 => ?_, fun hc4 => ?_⟩
      · skip
        have hc3 := fun z => hc3 (Int32.toInt_inj.mp z)
        have q1 : (1 : Int32).toInt = 1 := rfl
        have q2 := i32_add x2 1 (by omega) (by omega)
        exact ih x1 (x2 + 1) (by omega) (by omega)
      · skip
        have hc4 := Int32.toInt_inj.mpr hc4
        exact hK _ (by first | exact Or.inl rfl | (right; omega))
theorem sfX8_firstPossible {G : jdG} {n : Nat} {Z : jdL} {J : jdJ} {K : Int32 → jdI → jdJ → Prop} {I : jdI} {x1 : Int32} (ht : zTies Z 13)  (hW : WX I)  (hK : ∀ v : Int32, v = -1 ∨ (0 ≤ v.toInt ∧ v.toInt < (I 13 8).toInt) → K v I J) : Cl G mX8_firstPossible n 0 0 [.ref (gb G + 13), .int x1] Z I J (qi Z K) := by
  refine eX8_firstPossible ht ?_
  have hwI := hW
  unfold WX at hwI
  have q1 : (0 : Int32).toInt = 0 := rfl
  exact lX8_firstPossible_2 ht  hW  hK  ((((I 13 8).toInt) - (0 : Int32).toInt).toNat + 1) x1 0 (by omega) (by omega)
theorem lX8_breaksAll_2 {G : jdG} {n rc rs : Nat} {Z : jdL} {J : jdJ} {K : Int32 → jdI → jdJ → Prop} {I : jdI}  (ht : zTies Z 13)  (hW : WX I)  (hK : ∀ v : Int32, K v I J) : ∀ m : Nat, ∀ (x1 : Int32) (x2 : Int32) (x3 : Int32), 0 ≤ x3.toInt ∧ x3.toInt ≤ 70 → x2.toInt ≤ 70 → 70 - x3.toInt < (m : Int) → Jd G mX8_breaksAll (jdFm G (qi Z K)) n rc rs 2 [(0, .ref (gb G + 13)), (1, .int x1), (2, .int x2), (3, .int x3)] [] Z I J := by
  intro m
  induction m with
  | zero =>
    intro x1 x2 x3 hx3 hx2b hm
    have hw := hW
    unfold WX at hw
    omega
  | succ m ih =>
    intro x1 x2 x3 hx3 hx2b hm
    have hwI := hW
    unfold WX at hwI
    refine rX8_breaksAll_2 ht ?_
    refine ⟨fun hc1 => ?_, fun hc2 => ?_⟩
    · skip
      have hc1 := Int32.le_iff_toInt_le.mp hc1
      exact hK _
    · skip
      have hc2 := mt Int32.le_iff_toInt_le.mpr hc2
      refine ⟨vp_of (by omega) (by omega), ?_⟩
      refine ⟨fun hc3 => ?_, fun hc4 => ?_⟩
      · skip
        have q1 : (0 : Int32).toInt = 0 := rfl
        have hc3 := fun z => hc3 (Int32.toInt_inj.mp z)
        have q2 : (1 : Int32).toInt = 1 := rfl
        have q3 := i32_add x3 1 (by omega) (by omega)
        exact ih x1 x2 (x3 + 1) (by omega) (by omega) (by omega)
      · skip
        have q1 : (0 : Int32).toInt = 0 := rfl
        have hc4 := Int32.toInt_inj.mpr hc4
        exact hK _
theorem sfX8_breaksAll {G : jdG} {n : Nat} {Z : jdL} {J : jdJ} {K : Int32 → jdI → jdJ → Prop} {I : jdI} {x1 : Int32} {x2 : Int32} (ht : zTies Z 13)  (hW : WX I) (hx2 : x2.toInt ≤ 70) (hK : ∀ v : Int32, K v I J) : Cl G mX8_breaksAll n 0 0 [.ref (gb G + 13), .int x1, .int x2] Z I J (qi Z K) := by
  refine eX8_breaksAll ht ?_
  have hwI := hW
  unfold WX at hwI
  have q1 : (0 : Int32).toInt = 0 := rfl
  exact lX8_breaksAll_2 ht  hW  hK  ((70 - (0 : Int32).toInt).toNat + 1) x1 x2 0 (by omega) (by omega) (by omega)
theorem lX8_tally_2 {G : jdG} {n rc rs : Nat} {Z : jdL} {J : jdJ} {K : jdI → jdJ → Prop} {I0 : jdI}  (ht : zTies Z 13)   (hK : ∀ I2 : jdI, WX I2 → Fr 13 19 I0 I2 → K I2 J) : ∀ m : Nat, ∀ (I : jdI) (x1 : Int32) (x2 : Int32), WX I → Fr 13 19 I0 I → 0 ≤ x2.toInt ∧ x2.toInt ≤ 28 → (28) - x2.toInt < (m : Int) → Jd G mX8_tally (jdFm G (qv Z K)) n rc rs 2 [(0, .ref (gb G + 13)), (1, .int x1), (2, .int x2)] [] Z I J := by
  intro m
  induction m with
  | zero =>
    intro I x1 x2 hW hF hx2 hm
    have hw := hW
    unfold WX at hw
    omega
  | succ m ih =>
    intro I x1 x2 hW hF hx2 hm
    have hwI := hW
    unfold WX at hwI
    refine rX8_tally_2 ht ?_
    refine ⟨fun hc1 => ?_, fun hc2 => ?_⟩
    · skip
      have q1 : (28 : Int32).toInt = 28 := rfl
      have hc1 := Int32.le_iff_toInt_le.mp hc1
      exact hK _ hW hF
    · skip
      have q1 : (28 : Int32).toInt = 28 := rfl
      have hc2 := mt Int32.le_iff_toInt_le.mpr hc2
      refine ⟨vp_of (by omega) (by omega), ?_⟩
      refine ⟨vp_of (by omega) (by omega), ?_⟩
      have q2 : (1 : Int32).toInt = 1 := rfl
      have q3 := i32_add x2 1 (by omega) (by omega)
      exact ih _ x1 (x2 + 1) (WX_uI hW (by simp only [okX, tn_eq]; omega)) (Fr_uI hF (by omega) (by omega)) (by omega) (by omega)
theorem sfX8_tally {G : jdG} {n : Nat} {Z : jdL} {J : jdJ} {K : jdI → jdJ → Prop} {I : jdI} {x1 : Int32} (ht : zTies Z 13)  (hW : WX I)  (hK : ∀ I2 : jdI, WX I2 → Fr 13 19 I I2 → K I2 J) : Cl G mX8_tally n 0 0 [.ref (gb G + 13), .int x1] Z I J (qv Z K) := by
  refine eX8_tally ht ?_
  have hwI := hW
  unfold WX at hwI
  have q1 : (0 : Int32).toInt = 0 := rfl
  exact lX8_tally_2 ht   hK  (((28) - (0 : Int32).toInt).toNat + 1) _ x1 0 hW Fr.rf (by omega) (by omega)
theorem lX8_costTogether_4 {G : jdG} {n rc rs : Nat} {Z : jdL} {J : jdJ} {K : Int32 → jdI → jdJ → Prop} {I : jdI}  (ht : zTies Z 13)  (hW : WX I)  (hK : ∀ v : Int32, K v I J) : ∀ m : Nat, ∀ (x1 : Int32) (x2 : Int32) (x3 : Int32), 0 ≤ x3.toInt ∧ x3.toInt ≤ (I 13 6).toInt → ((I 13 6).toInt) - x3.toInt < (m : Int) → Jd G mX8_costTogether (jdFm G (qi Z K)) n rc rs 4 [(0, .ref (gb G + 13)), (1, .int x1), (2, .int x2), (3, .int x3)] [] Z I J := by
  intro m
  induction m with
  | zero =>
    intro x1 x2 x3 hx3 hm
    have hw := hW
    unfold WX at hw
    omega
  | succ m ih =>
    intro x1 x2 x3 hx3 hm
    have hwI := hW
    unfold WX at hwI
    refine rX8_costTogether_4 ht ?_
    refine ⟨fun hc1 => ?_, fun hc2 => ?_⟩
    · skip
      have hc1 := Int32.le_iff_toInt_le.mp hc1
      exact hK _
    · skip
      have hc2 := mt Int32.le_iff_toInt_le.mpr hc2
      refine ⟨vp_of (by omega) (by omega), ?_⟩
      have q1 : (1 : Int32).toInt = 1 := rfl
      have q2 := i32_add x3 1 (by omega) (by omega)
      exact ih x1 (x2 + (((x1 >>> (x3 &&& 31)) &&& 1) * (I (13 + 2) (Int32.toNatClampNeg x3)))) (x3 + 1) (by omega) (by omega)
theorem sfX8_costTogether {G : jdG} {n : Nat} {Z : jdL} {J : jdJ} {K : Int32 → jdI → jdJ → Prop} {I : jdI} {x1 : Int32} (ht : zTies Z 13)  (hW : WX I)  (hK : ∀ v : Int32, K v I J) : Cl G mX8_costTogether n 0 0 [.ref (gb G + 13), .int x1] Z I J (qi Z K) := by
  refine eX8_costTogether ht ?_
  have hwI := hW
  unfold WX at hwI
  have q1 : (0 : Int32).toInt = 0 := rfl
  exact lX8_costTogether_4 ht  hW  hK  ((((I 13 6).toInt) - (0 : Int32).toInt).toNat + 1) x1 0 0 (by omega) (by omega)
theorem lX8_strangersTogether_4 {G : jdG} {n rc rs : Nat} {Z : jdL} {J : jdJ} {K : Int32 → jdI → jdJ → Prop} {I : jdI}  (ht : zTies Z 13)  (hW : WX I)  (hK : ∀ v : Int32, K v I J) : ∀ m : Nat, ∀ (x1 : Int32) (x2 : Int32) (x3 : Int32), 0 ≤ x3.toInt ∧ x3.toInt ≤ (I 13 6).toInt → ((I 13 6).toInt) - x3.toInt < (m : Int) → Jd G mX8_strangersTogether (jdFm G (qi Z K)) (n + 1) rc rs 4 [(0, .ref (gb G + 13)), (1, .int x1), (2, .int x2), (3, .int x3)] [] Z I J := by
  intro m
  induction m with
  | zero =>
    intro x1 x2 x3 hx3 hm
    have hw := hW
    unfold WX at hw
    omega
  | succ m ih =>
    intro x1 x2 x3 hx3 hm
    have hwI := hW
    unfold WX at hwI
    refine rX8_strangersTogether_4 ht ?_
    refine ⟨fun hc1 => ?_, fun hc2 => ?_⟩
    · skip
      have hc1 := Int32.le_iff_toInt_le.mp hc1
      exact hK _
    · skip
      have hc2 := mt Int32.le_iff_toInt_le.mpr hc2
      refine ⟨vp_of (by omega) (by omega), ?_⟩
      refine sfJ6_bitCount_0f7a4  hW  (fun v3 hp3 => ?_)
      have q1 : (1 : Int32).toInt = 1 := rfl
      have q2 := i32_add x3 1 (by omega) (by omega)
      exact ih x1 (x2 + (((x1 >>> (x3 &&& 31)) &&& 1) * v3)) (x3 + 1) (by omega) (by omega)
theorem sfX8_strangersTogether {G : jdG} {n : Nat} {Z : jdL} {J : jdJ} {K : Int32 → jdI → jdJ → Prop} {I : jdI} {x1 : Int32} (ht : zTies Z 13)  (hW : WX I)  (hK : ∀ v : Int32, K v I J) : Cl G mX8_strangersTogether (n + 1) 0 0 [.ref (gb G + 13), .int x1] Z I J (qi Z K) := by
  refine eX8_strangersTogether ht ?_
  have hwI := hW
  unfold WX at hwI
  have q1 : (0 : Int32).toInt = 0 := rfl
  exact lX8_strangersTogether_4 ht  hW  hK  ((((I 13 6).toInt) - (0 : Int32).toInt).toNat + 1) x1 0 0 (by omega) (by omega)
