theorem sfX12_element {G : jdG} {n : Nat} {Z : jdL} {J : jdJ} {K : Int64 → jdI → jdJ → Prop}  {I : jdI} {t : Nat} {x1 : Int32} {x2 : Int32} (ht : zModel Z t)  (hW : WM 7 t I)  (hK : ∀ (v : Int64), ((((0 ≤ x1.toInt ∧ x1.toInt ≤ 7) ∧ (I (t + 1) (Int32.toNatClampNeg x1)).toInt = 1 ∧ 0 ≤ x2.toInt ∧ x2.toInt < (I (t + 3) (Int32.toNatClampNeg x1)).toInt) ∧ v = J (t + 5 + (Int32.toNatClampNeg x1)) (Int32.toNatClampNeg x2)) ∨ (¬ ((0 ≤ x1.toInt ∧ x1.toInt ≤ 7) ∧ (I (t + 1) (Int32.toNatClampNeg x1)).toInt = 1 ∧ 0 ≤ x2.toInt ∧ x2.toInt < (I (t + 3) (Int32.toNatClampNeg x1)).toInt) ∧ v = 0)) → K v I J) : Cl G mX12_element (n + 1) 0 0 [.ref (gb G + t), .int x1, .int x2] Z I J (ql Z K) := by
  refine eX12_element ht ?_
  have hwI := WM_f hW
  have q1 := i32_lo x1
  have q2 : (Int32.toInt64 x1).toInt = (x1).toInt := Int32.toInt_toInt64 _
  have q3 : (0 : Int64).toInt = 0 := rfl
  have q4 : (7 : Int64).toInt = 7 := rfl
  refine sfX12_in  trivial  (fun v2  hp1 => ?_)
  first | have hrsx1 := WM_rowSize hW (k := Int32.toNatClampNeg x1) (by rw [tn_eq]; omega) | skip
  refine ⟨fun hc2 => ?_, fun hc3 => ?_⟩
  · skip
    have q5 := i32_lo v2
    have q6 : (0 : Int32).toInt = 0 := rfl
    have hc2 := Int32.toInt_inj.mpr hc2
    first | have hrsx1 := WM_rowSize hW (k := Int32.toNatClampNeg x1) (by rw [tn_eq]; omega) | skip
    exact hK _  (by first | exact Or.inl ⟨by omega, rfl⟩ | exact Or.inr (⟨by omega, rfl⟩))
  · skip
    have q5 := i32_lo v2
    have q6 : (0 : Int32).toInt = 0 := rfl
    have hc3 : ¬ (v2).toInt = (0 : Int32).toInt := fun z => hc3 (Int32.toInt_inj.mp z)
    first | have hrsx1 := WM_rowSize hW (k := Int32.toNatClampNeg x1) (by rw [tn_eq]; omega) | skip
    refine ⟨vp_of (by omega) (by omega), ?_⟩
    refine ⟨fun hc4 => ?_, fun hc5 => ?_⟩
    · skip
      have q7 : (1 : Int32).toInt = 1 := rfl
      have hc4 : ¬ ((I (t + 1) (Int32.toNatClampNeg x1))).toInt = (1 : Int32).toInt := fun z => hc4 (Int32.toInt_inj.mp z)
      first | have hrsx1 := WM_rowSize hW (k := Int32.toNatClampNeg x1) (by rw [tn_eq]; omega) | skip
      exact hK _  (by first | exact Or.inl ⟨by omega, rfl⟩ | exact Or.inr (⟨by omega, rfl⟩))
    · skip
      have q7 : (1 : Int32).toInt = 1 := rfl
      have hc5 := Int32.toInt_inj.mpr hc5
      first | have hrsx1 := WM_rowSize hW (k := Int32.toNatClampNeg x1) (by rw [tn_eq]; omega) | skip
      refine ⟨vp_of (by omega) (by omega), ?_⟩
      have q8 := i32_lo x2
      have q9 : (Int32.toInt64 x2).toInt = (x2).toInt := Int32.toInt_toInt64 _
      have q10 := i32_sub (I (t + 3) (Int32.toNatClampNeg x1)) 1 (by omega) (by omega)
      have q11 : (Int32.toInt64 ((I (t + 3) (Int32.toNatClampNeg x1)) - 1)).toInt = (((I (t + 3) (Int32.toNatClampNeg x1)) - 1)).toInt := Int32.toInt_toInt64 _
      refine sfX12_in  trivial  (fun v6  hp6 => ?_)
      first | have hrsx1 := WM_rowSize hW (k := Int32.toNatClampNeg x1) (by rw [tn_eq]; omega) | skip
      refine ⟨fun hc7 => ?_, fun hc8 => ?_⟩
      · skip
        have q12 := i32_lo v6
        have hc7 := Int32.toInt_inj.mpr hc7
        first | have hrsx1 := WM_rowSize hW (k := Int32.toNatClampNeg x1) (by rw [tn_eq]; omega) | skip
        exact hK _  (by first | exact Or.inl ⟨by omega, rfl⟩ | exact Or.inr (⟨by omega, rfl⟩))
      · skip
        have q12 := i32_lo v6
        have hc8 : ¬ (v6).toInt = (0 : Int32).toInt := fun z => hc8 (Int32.toInt_inj.mp z)
        first | have hrsx1 := WM_rowSize hW (k := Int32.toNatClampNeg x1) (by rw [tn_eq]; omega) | skip
        refine ⟨vp_of (by omega) (by omega), ?_⟩
        refine ⟨vp_of (by omega) (by omega), ?_⟩
        exact hK _  (by first | exact Or.inl ⟨by omega, rfl⟩ | exact Or.inr (⟨by omega, rfl⟩))
theorem sfX12_holds {G : jdG} {n : Nat} {Z : jdL} {J : jdJ} {K : Int32 → jdI → jdJ → Prop}  {I : jdI} {t : Nat} {x1 : Int32} (ht : zModel Z t)  (hW : WM 7 t I)  (hK : ∀ (v : Int32), ((¬ (0 ≤ x1.toInt ∧ x1.toInt ≤ 7) ∧ v.toInt = -1) ∨ ((0 ≤ x1.toInt ∧ x1.toInt ≤ 7) ∧ (I (t + 1) (Int32.toNatClampNeg x1)).toInt = 0 ∧ v.toInt = -1) ∨ ((0 ≤ x1.toInt ∧ x1.toInt ≤ 7) ∧ (I (t + 1) (Int32.toNatClampNeg x1)).toInt = 1 ∧ v.toInt = (I (t + 2) (Int32.toNatClampNeg x1)).toInt) ∨ ((0 ≤ x1.toInt ∧ x1.toInt ≤ 7) ∧ ¬ (I (t + 1) (Int32.toNatClampNeg x1)).toInt = 0 ∧ ¬ (I (t + 1) (Int32.toNatClampNeg x1)).toInt = 1 ∧ (1 ≤ (I (t + 14) (Int32.toNatClampNeg x1)).toInt ∧ (I (t + 14) (Int32.toNatClampNeg x1)).toInt ≤ 5 → v.toInt = 10 + (I (t + 14) (Int32.toNatClampNeg x1)).toInt))) → K v I J) : Cl G mX12_holds (n + 1) 0 0 [.ref (gb G + t), .int x1] Z I J (qi Z K) := by
  refine eX12_holds ht ?_
  have hwI := WM_f hW
  have q1 := i32_lo x1
  have q2 : (Int32.toInt64 x1).toInt = (x1).toInt := Int32.toInt_toInt64 _
  have q3 : (0 : Int64).toInt = 0 := rfl
  have q4 : (7 : Int64).toInt = 7 := rfl
  refine sfX12_in  trivial  (fun v2  hp1 => ?_)
  refine ⟨fun hc2 => ?_, fun hc3 => ?_⟩
  · skip
    have q5 := i32_lo v2
    have q6 : (0 : Int32).toInt = 0 := rfl
    have hc2 := Int32.toInt_inj.mpr hc2
    have q7 : (-1 : Int32).toInt = -1 := rfl
    exact hK _  (by omega)
  · skip
    have q5 := i32_lo v2
    have q6 : (0 : Int32).toInt = 0 := rfl
    have hc3 : ¬ (v2).toInt = (0 : Int32).toInt := fun z => hc3 (Int32.toInt_inj.mp z)
    refine ⟨vp_of (by omega) (by omega), ?_⟩
    refine ⟨fun hc4 => ?_, fun hc5 => ?_⟩
    · skip
      have hc4 : ¬ ((I (t + 1) (Int32.toNatClampNeg x1))).toInt = (0 : Int32).toInt := fun z => hc4 (Int32.toInt_inj.mp z)
      refine ⟨vp_of (by omega) (by omega), ?_⟩
      refine ⟨fun hc6 => ?_, fun hc7 => ?_⟩
      · skip
        have q7 : (1 : Int32).toInt = 1 := rfl
        have hc6 : ¬ ((I (t + 1) (Int32.toNatClampNeg x1))).toInt = (1 : Int32).toInt := fun z => hc6 (Int32.toInt_inj.mp z)
        refine ⟨vp_of (by omega) (by omega), ?_⟩
        have q8 : (10 : Int32).toInt = 10 := rfl
        have q9 := i32_addI 10 (I (t + 14) (Int32.toNatClampNeg x1))
        exact hK _  (by omega)
      · skip
        have q7 : (1 : Int32).toInt = 1 := rfl
        have hc7 := Int32.toInt_inj.mpr hc7
        refine ⟨vp_of (by omega) (by omega), ?_⟩
        exact hK _  (by omega)
    · skip
      have hc5 := Int32.toInt_inj.mpr hc5
      have q7 : (-1 : Int32).toInt = -1 := rfl
      exact hK _  (by omega)
theorem sfX12_coachman {G : jdG} {n : Nat} {Z : jdL} {J : jdJ} {K : Int32 → jdI → jdJ → Prop}  {I : jdI} {t : Nat} {x1 : Int32} {x2 : Int32} {x3 : Int32} (ht : zModel Z t)  (hW : WM 7 t I)  (hK : ∀ (v : Int32) (I2 : jdI), WM 7 t I2 → Fr (fun a k => ((a = t + 1 ∨ a = t + 14 ∨ a = t + 15) ∧ k = (Int32.toNatClampNeg x1)) ∨ a = t + 17) I I2 → ((v.toInt = 1 ∧ ((0 ≤ x1.toInt ∧ x1.toInt ≤ 7) ∧ (1 ≤ x2.toInt ∧ x2.toInt ≤ 5) ∧ 0 ≤ x3.toInt ∧ x3.toInt ≤ 9) ∧ (I2 (t + 1) (Int32.toNatClampNeg x1)).toInt = 2 ∧ (I2 (t + 14) (Int32.toNatClampNeg x1)).toInt = x2.toInt) ∨ (v.toInt = -2 ∧ ¬ ((0 ≤ x1.toInt ∧ x1.toInt ≤ 7) ∧ (1 ≤ x2.toInt ∧ x2.toInt ≤ 5) ∧ 0 ≤ x3.toInt ∧ x3.toInt ≤ 9) ∧ (I2 (t + 1) (Int32.toNatClampNeg x1)).toInt = (I (t + 1) (Int32.toNatClampNeg x1)).toInt ∧ (I2 (t + 14) (Int32.toNatClampNeg x1)).toInt = (I (t + 14) (Int32.toNatClampNeg x1)).toInt)) → K v I2 J) : Cl G mX12_coachman (n + 1) 0 0 [.ref (gb G + t), .int x1, .int x2, .int x3] Z I J (qi Z K) := by
  refine eX12_coachman ht ?_
  have hwI := WM_f hW
  have q1 := i32_lo x1
  have q2 : (Int32.toInt64 x1).toInt = (x1).toInt := Int32.toInt_toInt64 _
  have q3 : (0 : Int64).toInt = 0 := rfl
  have q4 : (7 : Int64).toInt = 7 := rfl
  refine sfX12_in  trivial  (fun v2  hp1 => ?_)
  refine ⟨fun hc2 => ?_, fun hc3 => ?_⟩
  · skip
    have q5 := i32_lo v2
    have q6 : (0 : Int32).toInt = 0 := rfl
    have hc2 := Int32.toInt_inj.mpr hc2
    have q7 : (-2 : Int32).toInt = -2 := rfl
    refine sfX12_refuse ht (by decide) hW (by omega) (fun v4 I3 hWI3 hFI3 hp4 => ?_)
    have hwI3 := WM_f hWI3
    first | have hk5 : (I3 (t + 1) (Int32.toNatClampNeg x1)).toInt = (I (t + 1) (Int32.toNatClampNeg x1)).toInt := (by rw [hFI3 (t + 1) (Int32.toNatClampNeg x1) (by omega)]) | skip
    first | have hk6 : (I3 (t + 14) (Int32.toNatClampNeg x1)).toInt = (I (t + 14) (Int32.toNatClampNeg x1)).toInt := (by rw [hFI3 (t + 14) (Int32.toNatClampNeg x1) (by omega)]) | skip
    have q8 := i32_lo v4
    exact hK _ _ hWI3 (Fr.tr Fr.rf hFI3 (by intro a k h; omega)) (by omega)
  · skip
    have q5 := i32_lo v2
    have q6 : (0 : Int32).toInt = 0 := rfl
    have hc3 : ¬ (v2).toInt = (0 : Int32).toInt := fun z => hc3 (Int32.toInt_inj.mp z)
    have q7 := i32_lo x2
    have q8 : (Int32.toInt64 x2).toInt = (x2).toInt := Int32.toInt_toInt64 _
    have q9 : (1 : Int64).toInt = 1 := rfl
    have q10 : (5 : Int64).toInt = 5 := rfl
    refine sfX12_in  trivial  (fun v6  hp7 => ?_)
    refine ⟨fun hc8 => ?_, fun hc9 => ?_⟩
    · skip
      have q11 := i32_lo v6
      have hc8 := Int32.toInt_inj.mpr hc8
      have q12 : (-2 : Int32).toInt = -2 := rfl
      refine sfX12_refuse ht (by decide) hW (by omega) (fun v8 I7 hWI7 hFI7 hp10 => ?_)
      have hwI7 := WM_f hWI7
      first | have hk11 : (I7 (t + 1) (Int32.toNatClampNeg x1)).toInt = (I (t + 1) (Int32.toNatClampNeg x1)).toInt := (by rw [hFI7 (t + 1) (Int32.toNatClampNeg x1) (by omega)]) | skip
      first | have hk12 : (I7 (t + 14) (Int32.toNatClampNeg x1)).toInt = (I (t + 14) (Int32.toNatClampNeg x1)).toInt := (by rw [hFI7 (t + 14) (Int32.toNatClampNeg x1) (by omega)]) | skip
      have q13 := i32_lo v8
      exact hK _ _ hWI7 (Fr.tr Fr.rf hFI7 (by intro a k h; omega)) (by omega)
    · skip
      have q11 := i32_lo v6
      have hc9 : ¬ (v6).toInt = (0 : Int32).toInt := fun z => hc9 (Int32.toInt_inj.mp z)
      have q12 := i32_lo x3
      have q13 : (Int32.toInt64 x3).toInt = (x3).toInt := Int32.toInt_toInt64 _
      have q14 : (9 : Int64).toInt = 9 := rfl
      refine sfX12_in  trivial  (fun v10  hp13 => ?_)
      refine ⟨fun hc14 => ?_, fun hc15 => ?_⟩
      · skip
        have q15 := i32_lo v10
        have hc14 : ¬ (v10).toInt = (0 : Int32).toInt := fun z => hc14 (Int32.toInt_inj.mp z)
        refine ⟨vp_of (by omega) (by omega), ?_⟩
        refine ⟨vp_of (by omega) (by omega), ?_⟩
        refine ⟨vp_of (by omega) (by omega), ?_⟩
        have q16 : (1 : Int32).toInt = 1 := rfl
        have hr16 : (((uI (uI (uI I (t + 1) (Int32.toNatClampNeg x1) 2) (t + 14) (Int32.toNatClampNeg x1) x2) (t + 15) (Int32.toNatClampNeg x1) x3)) (t + 1) (Int32.toNatClampNeg x1)).toInt = ((2 : Int32)).toInt := congrArg Int32.toInt (uI_ne (by omega) (uI_ne (by omega) (uI_ss _ _ _ _)))
        have q17 : (2 : Int32).toInt = 2 := rfl
        have hr17 : (((uI (uI (uI I (t + 1) (Int32.toNatClampNeg x1) 2) (t + 14) (Int32.toNatClampNeg x1) x2) (t + 15) (Int32.toNatClampNeg x1) x3)) (t + 14) (Int32.toNatClampNeg x1)).toInt = (x2).toInt := congrArg Int32.toInt (uI_ne (by omega) (uI_ss _ _ _ _))
        exact hK _ _ (WM_uI (WM_uI (WM_uI hW (by first | exact okMo (by decide) (by decide) (by decide) (by decide) (by decide) | exact okMf (by decide) (by decide) (by decide) (by decide) (by decide) (by decide) (by decide) (by decide) | exact okM30 (by omega) | exact okM42 (by omega) | exact okM33 (by omega) | exact okM10 (by omega) | exact okM8 (by omega) | exact okM22 (by omega) | exact okM24 (by omega) | exact okM14 (by omega) | exact okMa31 (by omega) | exact okMa35 (by omega) | exact okMa36 (by omega) | exact okMa3 (by omega) | exact okMr (by omega) | (unfold okM; refine ⟨?_, ?_, ?_, ?_, ?_, ?_, ?_, ?_, ?_, ?_, ?_, ?_⟩ <;> intro h <;> omega))) (by first | exact okMo (by decide) (by decide) (by decide) (by decide) (by decide) | exact okMf (by decide) (by decide) (by decide) (by decide) (by decide) (by decide) (by decide) (by decide) | exact okM30 (by omega) | exact okM42 (by omega) | exact okM33 (by omega) | exact okM10 (by omega) | exact okM8 (by omega) | exact okM22 (by omega) | exact okM24 (by omega) | exact okM14 (by omega) | exact okMa31 (by omega) | exact okMa35 (by omega) | exact okMa36 (by omega) | exact okMa3 (by omega) | exact okMr (by omega) | (unfold okM; refine ⟨?_, ?_, ?_, ?_, ?_, ?_, ?_, ?_, ?_, ?_, ?_, ?_⟩ <;> intro h <;> omega))) (by first | exact okMo (by decide) (by decide) (by decide) (by decide) (by decide) | exact okMf (by decide) (by decide) (by decide) (by decide) (by decide) (by decide) (by decide) (by decide) | exact okM30 (by omega) | exact okM42 (by omega) | exact okM33 (by omega) | exact okM10 (by omega) | exact okM8 (by omega) | exact okM22 (by omega) | exact okM24 (by omega) | exact okM14 (by omega) | exact okMa31 (by omega) | exact okMa35 (by omega) | exact okMa36 (by omega) | exact okMa3 (by omega) | exact okMr (by omega) | (unfold okM; refine ⟨?_, ?_, ?_, ?_, ?_, ?_, ?_, ?_, ?_, ?_, ?_, ?_⟩ <;> intro h <;> omega))) (Fr_uI (Fr_uI (Fr_uI Fr.rf (by omega)) (by omega)) (by omega)) (by omega)
      · skip
        have q15 := i32_lo v10
        have hc15 := Int32.toInt_inj.mpr hc15
        have q16 : (-2 : Int32).toInt = -2 := rfl
        refine sfX12_refuse ht (by decide) hW (by omega) (fun v15 I14 hWI14 hFI14 hp18 => ?_)
        have hwI14 := WM_f hWI14
        first | have hk19 : (I14 (t + 1) (Int32.toNatClampNeg x1)).toInt = (I (t + 1) (Int32.toNatClampNeg x1)).toInt := (by rw [hFI14 (t + 1) (Int32.toNatClampNeg x1) (by omega)]) | skip
        first | have hk20 : (I14 (t + 14) (Int32.toNatClampNeg x1)).toInt = (I (t + 14) (Int32.toNatClampNeg x1)).toInt := (by rw [hFI14 (t + 14) (Int32.toNatClampNeg x1) (by omega)]) | skip
        have q17 := i32_lo v15
        exact hK _ _ hWI14 (Fr.tr Fr.rf hFI14 (by intro a k h; omega)) (by omega)
theorem sfX12_isUnder {G : jdG} {n : Nat} {Z : jdL} {J : jdJ} {K : Int32 → jdI → jdJ → Prop}  {I : jdI} {x0 : Int32} {x1 : Int32}   (hW : True)  (hK : ∀ (v : Int32), K v I J) : Cl G mX12_isUnder n 0 0 [.int x0, .int x1] Z I J (qi Z K) := by
  refine eX12_isUnder  ?_
  refine ⟨fun hc1 => ?_, fun hc2 => ?_⟩
  · skip
    have q1 := i32_lo x1
    have q2 : (0 : Int32).toInt = 0 := rfl
    have hc1 := Int32.toInt_inj.mpr hc1
    exact hK _ 
  · skip
    have q1 := i32_lo x1
    have q2 : (0 : Int32).toInt = 0 := rfl
    have hc2 : ¬ (x1).toInt = (0 : Int32).toInt := fun z => hc2 (Int32.toInt_inj.mp z)
    refine ⟨fun hc3 => ?_, fun hc4 => ?_⟩
    · skip
      have q3 := i32_lo x0
      have hc3 : ¬ (x0).toInt = (x1).toInt := fun z => hc3 (Int32.toInt_inj.mp z)
      refine ⟨fun hc5 => ?_, fun hc6 => ?_⟩
      · skip
        have q4 : (1 : Int32).toInt = 1 := rfl
        have hc5 : ¬ (x1).toInt = (1 : Int32).toInt := fun z => hc5 (Int32.toInt_inj.mp z)
        refine ⟨fun hc7 => ?_, fun hc8 => ?_⟩
        · skip
          have q5 : (2 : Int32).toInt = 2 := rfl
          have hc7 : ¬ (x1).toInt = (2 : Int32).toInt := fun z => hc7 (Int32.toInt_inj.mp z)
          exact hK _ 
        · skip
          have q5 : (2 : Int32).toInt = 2 := rfl
          have hc8 := Int32.toInt_inj.mpr hc8
          refine ⟨fun hc9 => ?_, fun hc10 => ?_⟩
          · skip
            have q6 : (4 : Int32).toInt = 4 := rfl
            have hc9 := Int32.lt_iff_toInt_lt.mp hc9
            exact hK _ 
          · skip
            have q6 : (4 : Int32).toInt = 4 := rfl
            have hc10 := mt Int32.lt_iff_toInt_lt.mpr hc10
            exact hK _ 
      · skip
        have q4 : (1 : Int32).toInt = 1 := rfl
        have hc6 := Int32.toInt_inj.mpr hc6
        refine ⟨fun hc11 => ?_, fun hc12 => ?_⟩
        · skip
          have q5 : (3 : Int32).toInt = 3 := rfl
          have hc11 : ¬ (x0).toInt = (3 : Int32).toInt := fun z => hc11 (Int32.toInt_inj.mp z)
          exact hK _ 
        · skip
          have q5 : (3 : Int32).toInt = 3 := rfl
          have hc12 := Int32.toInt_inj.mpr hc12
          exact hK _ 
    · skip
      have q3 := i32_lo x0
      have hc4 := Int32.toInt_inj.mpr hc4
      exact hK _ 
theorem lX12_addOne_22 {G : jdG} {n : Nat} {Z : jdL} {J : jdJ} {rc rs : Nat} {K : jdI → jdJ → Prop} {c : Int} {I0 : jdI} {t : Nat} {x1 : Int32} {x2 : Int32} (ht : zModel Z t)  (hc : c ≤ 8)  (hK : ∀ (I2 : jdI), WM c t I2 → Fr (fun a k => (a = t ∧ k = 10) ∨ a = t + 18 ∨ a = t + 19 ∨ (t + 21 ≤ a ∧ a ≤ t + 28)) I0 I2 → K I2 J) : ∀ m : Nat, ∀ (I : jdI) (x3 : Int32), WM c t I → Fr (fun a k => (a = t ∧ k = 10) ∨ a = t + 18 ∨ a = t + 19 ∨ (t + 21 ≤ a ∧ a ≤ t + 28)) I0 I → (0 ≤ x3.toInt ∧ x3.toInt ≤ (I t 10).toInt) → ((I t 10).toInt + 1 ≤ c) → ((I t 10).toInt) - x3.toInt < (m : Int) → Jd G mX12_addOne (jdFm G (qv Z K)) n rc rs 22 [(0, .ref (gb G + t)), (1, .int x1), (2, .int x2), (3, .int x3)] [] Z I J := by
  intro m
  induction m with
  | zero =>
    intro I x3 hW hF hx3 hpe hm
    have hwI := WM_f hW
    omega
  | succ m ih =>
    intro I x3 hW hF hx3 hpe hm
    have hwI := WM_f hW
    refine rX12_addOne_22 ht ?_
    refine ⟨fun hc1 => ?_, fun hc2 => ?_⟩
    · skip
      have q1 := i32_lo (I t 10)
      have q2 := i32_lo x3
      have hc1 := Int32.le_iff_toInt_le.mp hc1
      have q3 : (1 : Int32).toInt = 1 := rfl
      have q4 := i32_add (I t 10) 1 (by omega) (by omega)
      exact hK _ (WM_uI hW (by first | exact okMo (by decide) (by decide) (by decide) (by decide) (by decide) | exact okMf (by decide) (by decide) (by decide) (by decide) (by decide) (by decide) (by decide) (by decide) | exact okM30 (by omega) | exact okM42 (by omega) | exact okM33 (by omega) | exact okM10 (by omega) | exact okM8 (by omega) | exact okM22 (by omega) | exact okM24 (by omega) | exact okM14 (by omega) | exact okMa31 (by omega) | exact okMa35 (by omega) | exact okMa36 (by omega) | exact okMa3 (by omega) | exact okMr (by omega) | (unfold okM; refine ⟨?_, ?_, ?_, ?_, ?_, ?_, ?_, ?_, ?_, ?_, ?_, ?_⟩ <;> intro h <;> omega))) (Fr_uI hF (by omega))
    · skip
      have q1 := i32_lo (I t 10)
      have q2 := i32_lo x3
      have hc2 := mt Int32.le_iff_toInt_le.mpr hc2
      refine ⟨vp_of (by omega) (by omega), ?_⟩
      refine ⟨vp_of (by omega) (by omega), ?_⟩
      refine ⟨vp_of (by omega) (by omega), ?_⟩
      have hr3 : (((uI I (t + 21 + (Int32.toNatClampNeg (I t 10))) (Int32.toNatClampNeg x3) (-1))) t 10).toInt = ((I) t 10).toInt := by rw [uI_n _ _ _ (show t ≠ (t + 21 + (Int32.toNatClampNeg (I t 10))) by omega)]
      refine ⟨vp_of (by omega) (by omega), ?_⟩
      have q3 : (1 : Int32).toInt = 1 := rfl
      have q4 := i32_add x3 1 (by omega) (by omega)
      have q5 := tn_eq x3
      have q6 := tn_eq (I t 10)
      have hr4 : (((uI (uI I (t + 21 + (Int32.toNatClampNeg (I t 10))) (Int32.toNatClampNeg x3) (-1)) (t + 21 + (Int32.toNatClampNeg x3)) (Int32.toNatClampNeg ((uI I (t + 21 + (Int32.toNatClampNeg (I t 10))) (Int32.toNatClampNeg x3) (-1)) t 10)) (-1))) t 10).toInt = (((uI I (t + 21 + (Int32.toNatClampNeg (I t 10))) (Int32.toNatClampNeg x3) (-1))) t 10).toInt := by rw [uI_n _ _ _ (show t ≠ (t + 21 + (Int32.toNatClampNeg x3)) by omega)]
      exact ih _ (x3 + 1) (WM_uI (WM_uI hW (by first | exact okMo (by decide) (by decide) (by decide) (by decide) (by decide) | exact okMf (by decide) (by decide) (by decide) (by decide) (by decide) (by decide) (by decide) (by decide) | exact okM30 (by omega) | exact okM42 (by omega) | exact okM33 (by omega) | exact okM10 (by omega) | exact okM8 (by omega) | exact okM22 (by omega) | exact okM24 (by omega) | exact okM14 (by omega) | exact okMa31 (by omega) | exact okMa35 (by omega) | exact okMa36 (by omega) | exact okMa3 (by omega) | exact okMr (by omega) | (unfold okM; refine ⟨?_, ?_, ?_, ?_, ?_, ?_, ?_, ?_, ?_, ?_, ?_, ?_⟩ <;> intro h <;> omega))) (by first | exact okMo (by decide) (by decide) (by decide) (by decide) (by decide) | exact okMf (by decide) (by decide) (by decide) (by decide) (by decide) (by decide) (by decide) (by decide) | exact okM30 (by omega) | exact okM42 (by omega) | exact okM33 (by omega) | exact okM10 (by omega) | exact okM8 (by omega) | exact okM22 (by omega) | exact okM24 (by omega) | exact okM14 (by omega) | exact okMa31 (by omega) | exact okMa35 (by omega) | exact okMa36 (by omega) | exact okMa3 (by omega) | exact okMr (by omega) | (unfold okM; refine ⟨?_, ?_, ?_, ?_, ?_, ?_, ?_, ?_, ?_, ?_, ?_, ?_⟩ <;> intro h <;> omega))) (Fr_uI (Fr_uI hF (by omega)) (by omega)) (by omega) (by omega) (by omega)
theorem sfX12_addOne {G : jdG} {n : Nat} {Z : jdL} {J : jdJ} {K : jdI → jdJ → Prop} {c : Int} {I : jdI} {t : Nat} {x1 : Int32} {x2 : Int32} (ht : zModel Z t)  (hc : c ≤ 8) (hW : WM c t I) (hpe : (I t 10).toInt + 1 ≤ c) (hK : ∀ (I2 : jdI), WM c t I2 → Fr (fun a k => (a = t ∧ k = 10) ∨ a = t + 18 ∨ a = t + 19 ∨ (t + 21 ≤ a ∧ a ≤ t + 28)) I I2 → K I2 J) : Cl G mX12_addOne n 0 0 [.ref (gb G + t), .int x1, .int x2] Z I J (qv Z K) := by
  refine eX12_addOne ht ?_
  have hwI := WM_f hW
  have q1 := i32_lo (I t 10)
  refine ⟨vp_of (by omega) (by omega), ?_⟩
  refine ⟨vp_of (by omega) (by omega), ?_⟩
  have q2 : (0 : Int32).toInt = 0 := rfl
  have hr1 : (((uI (uI I (t + 18) (Int32.toNatClampNeg (I t 10)) x1) (t + 19) (Int32.toNatClampNeg (I t 10)) x2)) t 10).toInt = ((I t 10)).toInt := congrArg Int32.toInt (uI_ne (by omega) (uI_ne (by omega) rfl))
  exact lX12_addOne_22 ht  hc  hK  (((((uI (uI I (t + 18) (Int32.toNatClampNeg (I t 10)) x1) (t + 19) (Int32.toNatClampNeg (I t 10)) x2) t 10).toInt) - (0 : Int32).toInt).toNat + 1) _ 0 (WM_uI (WM_uI hW (by first | exact okMo (by decide) (by decide) (by decide) (by decide) (by decide) | exact okMf (by decide) (by decide) (by decide) (by decide) (by decide) (by decide) (by decide) (by decide) | exact okM30 (by omega) | exact okM42 (by omega) | exact okM33 (by omega) | exact okM10 (by omega) | exact okM8 (by omega) | exact okM22 (by omega) | exact okM24 (by omega) | exact okM14 (by omega) | exact okMa31 (by omega) | exact okMa35 (by omega) | exact okMa36 (by omega) | exact okMa3 (by omega) | exact okMr (by omega) | (unfold okM; refine ⟨?_, ?_, ?_, ?_, ?_, ?_, ?_, ?_, ?_, ?_, ?_, ?_⟩ <;> intro h <;> omega))) (by first | exact okMo (by decide) (by decide) (by decide) (by decide) (by decide) | exact okMf (by decide) (by decide) (by decide) (by decide) (by decide) (by decide) (by decide) (by decide) | exact okM30 (by omega) | exact okM42 (by omega) | exact okM33 (by omega) | exact okM10 (by omega) | exact okM8 (by omega) | exact okM22 (by omega) | exact okM24 (by omega) | exact okM14 (by omega) | exact okMa31 (by omega) | exact okMa35 (by omega) | exact okMa36 (by omega) | exact okMa3 (by omega) | exact okMr (by omega) | (unfold okM; refine ⟨?_, ?_, ?_, ?_, ?_, ?_, ?_, ?_, ?_, ?_, ?_, ?_⟩ <;> intro h <;> omega))) (Fr_uI (Fr_uI Fr.rf (by omega)) (by omega)) (by omega) (by omega) (by omega)
