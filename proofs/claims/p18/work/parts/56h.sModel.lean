theorem sfX12_element {G : jdG} {n : Nat} {Z : jdL} {J : jdJ} {K : Int64 → jdI → jdJ → Prop}  {I : jdI} {t : Nat} {x1 : Int32} {x2 : Int32} (ht : zModel Z t)  (hW : WM 7 t I)  (hK : ∀ (v : Int64), ((((0 ≤ x1.toInt ∧ x1.toInt ≤ 7) ∧ (I (t + 1) (Int32.toNatClampNeg x1)).toInt = 1 ∧ 0 ≤ x2.toInt ∧ x2.toInt < (I (t + 3) (Int32.toNatClampNeg x1)).toInt) ∧ v = J (t + 5 + (Int32.toNatClampNeg x1)) (Int32.toNatClampNeg x2)) ∨ (¬ ((0 ≤ x1.toInt ∧ x1.toInt ≤ 7) ∧ (I (t + 1) (Int32.toNatClampNeg x1)).toInt = 1 ∧ 0 ≤ x2.toInt ∧ x2.toInt < (I (t + 3) (Int32.toNatClampNeg x1)).toInt) ∧ v = 0)) → K v I J) : Cl G mX12_element (n + 1) 0 0 [.ref (gb G + t), .int x1, .int x2] Z I J (ql Z K) := by
  refine eX12_element ht ?_
  have hwI := WM_f hW
  have q1 := i32_lo x1
  have q2 : (Int32.toInt64 x1).toInt = (x1).toInt := Int32.toInt_toInt64 _
  have q3 : (0 : Int64).toInt = 0 := rfl
  have q4 : (7 : Int64).toInt = 7 := rfl
  refine sfX12_in  trivial  (fun v2  hp1 => ?_)
  first | (revert hrsx1; intro hrsx1) | have hrsx1 := WM_rowSize hW (k := Int32.toNatClampNeg x1) (by rw [tn_eq]; omega) | skip
  refine ⟨fun hc2 => ?_, fun hc3 => ?_⟩
  · skip
    have q5 := i32_lo v2
    have q6 : (0 : Int32).toInt = 0 := rfl
    have hc2 := Int32.toInt_inj.mpr hc2
    first | (revert hrsx1; intro hrsx1) | have hrsx1 := WM_rowSize hW (k := Int32.toNatClampNeg x1) (by rw [tn_eq]; omega) | skip
    exact hK _  (by first | exact Or.inl ⟨by omega, rfl⟩ | exact Or.inr (⟨by omega, rfl⟩))
  · skip
    have q5 := i32_lo v2
    have q6 : (0 : Int32).toInt = 0 := rfl
    have hc3 : ¬ (v2).toInt = (0 : Int32).toInt := fun z => hc3 (Int32.toInt_inj.mp z)
    first | (revert hrsx1; intro hrsx1) | have hrsx1 := WM_rowSize hW (k := Int32.toNatClampNeg x1) (by rw [tn_eq]; omega) | skip
    refine ⟨vp_of (by omega) (by omega), ?_⟩
    refine ⟨fun hc4 => ?_, fun hc5 => ?_⟩
    · skip
      have q7 : (1 : Int32).toInt = 1 := rfl
      have hc4 : ¬ ((I (t + 1) (Int32.toNatClampNeg x1))).toInt = (1 : Int32).toInt := fun z => hc4 (Int32.toInt_inj.mp z)
      first | (revert hrsx1; intro hrsx1) | have hrsx1 := WM_rowSize hW (k := Int32.toNatClampNeg x1) (by rw [tn_eq]; omega) | skip
      exact hK _  (by first | exact Or.inl ⟨by omega, rfl⟩ | exact Or.inr (⟨by omega, rfl⟩))
    · skip
      have q7 : (1 : Int32).toInt = 1 := rfl
      have hc5 := Int32.toInt_inj.mpr hc5
      first | (revert hrsx1; intro hrsx1) | have hrsx1 := WM_rowSize hW (k := Int32.toNatClampNeg x1) (by rw [tn_eq]; omega) | skip
      refine ⟨vp_of (by omega) (by omega), ?_⟩
      have q8 := i32_lo x2
      have q9 : (Int32.toInt64 x2).toInt = (x2).toInt := Int32.toInt_toInt64 _
      have q10 := i32_sub (I (t + 3) (Int32.toNatClampNeg x1)) 1 (by omega) (by omega)
      have q11 : (Int32.toInt64 ((I (t + 3) (Int32.toNatClampNeg x1)) - 1)).toInt = (((I (t + 3) (Int32.toNatClampNeg x1)) - 1)).toInt := Int32.toInt_toInt64 _
      refine sfX12_in  trivial  (fun v6  hp6 => ?_)
      first | (revert hrsx1; intro hrsx1) | have hrsx1 := WM_rowSize hW (k := Int32.toNatClampNeg x1) (by rw [tn_eq]; omega) | skip
      refine ⟨fun hc7 => ?_, fun hc8 => ?_⟩
      · skip
        have q12 := i32_lo v6
        have hc7 := Int32.toInt_inj.mpr hc7
        first | (revert hrsx1; intro hrsx1) | have hrsx1 := WM_rowSize hW (k := Int32.toNatClampNeg x1) (by rw [tn_eq]; omega) | skip
        exact hK _  (by first | exact Or.inl ⟨by omega, rfl⟩ | exact Or.inr (⟨by omega, rfl⟩))
      · skip
        have q12 := i32_lo v6
        have hc8 : ¬ (v6).toInt = (0 : Int32).toInt := fun z => hc8 (Int32.toInt_inj.mp z)
        first | (revert hrsx1; intro hrsx1) | have hrsx1 := WM_rowSize hW (k := Int32.toNatClampNeg x1) (by rw [tn_eq]; omega) | skip
        refine ⟨vp_of (by omega) (by omega), ?_⟩
        refine ⟨vp_of (by omega) (by omega), ?_⟩
        exact hK _  (by first | exact Or.inl ⟨by omega, rfl⟩ | exact Or.inr (⟨by omega, rfl⟩))
theorem sfX12_holds {G : jdG} {n : Nat} {Z : jdL} {J : jdJ} {K : Int32 → jdI → jdJ → Prop}  {I : jdI} {t : Nat} {x1 : Int32} (ht : zModel Z t)  (hW : WM 7 t I)  (hK : ∀ (v : Int32), ((¬ (0 ≤ x1.toInt ∧ x1.toInt ≤ 7) ∧ v.toInt = -1) ∨ ((0 ≤ x1.toInt ∧ x1.toInt ≤ 7) ∧ (I (t + 1) (Int32.toNatClampNeg x1)).toInt = 0 ∧ v.toInt = -1) ∨ ((0 ≤ x1.toInt ∧ x1.toInt ≤ 7) ∧ (I (t + 1) (Int32.toNatClampNeg x1)).toInt = 1 ∧ v.toInt = (I (t + 2) (Int32.toNatClampNeg x1)).toInt) ∨ ((0 ≤ x1.toInt ∧ x1.toInt ≤ 7) ∧ ¬ (I (t + 1) (Int32.toNatClampNeg x1)).toInt = 0 ∧ ¬ (I (t + 1) (Int32.toNatClampNeg x1)).toInt = 1 ∧ (1 ≤ (I (t + 14) (Int32.toNatClampNeg x1)).toInt ∧ (I (t + 14) (Int32.toNatClampNeg x1)).toInt ≤ 5 → v.toInt = 10 + (I (t + 14) (Int32.toNatClampNeg x1)).toInt))) → K v I J) : Cl G mX12_holds (n + 1) 0 0 [.ref (gb G + t), .int x1] Z I J (qi Z K) := by
  refine eX12_holds ht ?_
  have hwI := WM_f hW
  have q1 := i32_lo x1
  have q2 : (Int32.toInt64 x1).toInt = (x1).toInt := Int32.toInt_toInt64 _
  have q3 : (0 : Int64).toInt = 0 := rfl
  have q4 : (7 : Int64).toInt = 7 := rfl
  refine sfX12_in  trivial  (fun v2  hp1 => ?_)
  refine ⟨fun hc2 => ?_, fun hc3 => ?_⟩
  · skip
    have q5 := i32_lo v2
    have q6 : (0 : Int32).toInt = 0 := rfl
    have hc2 := Int32.toInt_inj.mpr hc2
    have q7 : (-1 : Int32).toInt = -1 := rfl
    exact hK _  (by omega)
  · skip
    have q5 := i32_lo v2
    have q6 : (0 : Int32).toInt = 0 := rfl
    have hc3 : ¬ (v2).toInt = (0 : Int32).toInt := fun z => hc3 (Int32.toInt_inj.mp z)
    refine ⟨vp_of (by omega) (by omega), ?_⟩
    refine ⟨fun hc4 => ?_, fun hc5 => ?_⟩
    · skip
      have hc4 : ¬ ((I (t + 1) (Int32.toNatClampNeg x1))).toInt = (0 : Int32).toInt := fun z => hc4 (Int32.toInt_inj.mp z)
      refine ⟨vp_of (by omega) (by omega), ?_⟩
      refine ⟨fun hc6 => ?_, fun hc7 => ?_⟩
      · skip
        have q7 : (1 : Int32).toInt = 1 := rfl
        have hc6 : ¬ ((I (t + 1) (Int32.toNatClampNeg x1))).toInt = (1 : Int32).toInt := fun z => hc6 (Int32.toInt_inj.mp z)
        refine ⟨vp_of (by omega) (by omega), ?_⟩
        have q8 : (10 : Int32).toInt = 10 := rfl
        have q9 := i32_addI 10 (I (t + 14) (Int32.toNatClampNeg x1))
        exact hK _  (by omega)
      · skip
        have q7 : (1 : Int32).toInt = 1 := rfl
        have hc7 := Int32.toInt_inj.mpr hc7
        refine ⟨vp_of (by omega) (by omega), ?_⟩
        exact hK _  (by omega)
    · skip
      have hc5 := Int32.toInt_inj.mpr hc5
      have q7 : (-1 : Int32).toInt = -1 := rfl
      exact hK _  (by omega)
theorem sfX12_isUnder {G : jdG} {n : Nat} {Z : jdL} {J : jdJ} {K : Int32 → jdI → jdJ → Prop}  {I : jdI} {x0 : Int32} {x1 : Int32}   (hW : True)  (hK : ∀ (v : Int32), K v I J) : Cl G mX12_isUnder n 0 0 [.int x0, .int x1] Z I J (qi Z K) := by
  refine eX12_isUnder  ?_
  refine ⟨fun hc1 => ?_, fun hc2 => ?_⟩
  · skip
    have q1 := i32_lo x1
    have q2 : (0 : Int32).toInt = 0 := rfl
    have hc1 := Int32.toInt_inj.mpr hc1
    exact hK _ 
  · skip
    have q1 := i32_lo x1
    have q2 : (0 : Int32).toInt = 0 := rfl
    have hc2 : ¬ (x1).toInt = (0 : Int32).toInt := fun z => hc2 (Int32.toInt_inj.mp z)
    refine ⟨fun hc3 => ?_, fun hc4 => ?_⟩
    · skip
      have q3 := i32_lo x0
      have hc3 : ¬ (x0).toInt = (x1).toInt := fun z => hc3 (Int32.toInt_inj.mp z)
      refine ⟨fun hc5 => ?_, fun hc6 => ?_⟩
      · skip
        have q4 : (1 : Int32).toInt = 1 := rfl
        have hc5 : ¬ (x1).toInt = (1 : Int32).toInt := fun z => hc5 (Int32.toInt_inj.mp z)
        refine ⟨fun hc7 => ?_, fun hc8 => ?_⟩
        · skip
          have q5 : (2 : Int32).toInt = 2 := rfl
          have hc7 : ¬ (x1).toInt = (2 : Int32).toInt := fun z => hc7 (Int32.toInt_inj.mp z)
          exact hK _ 
        · skip
          have q5 : (2 : Int32).toInt = 2 := rfl
          have hc8 := Int32.toInt_inj.mpr hc8
          refine ⟨fun hc9 => ?_, fun hc10 => ?_⟩
          · skip
            have q6 : (4 : Int32).toInt = 4 := rfl
            have hc9 := Int32.lt_iff_toInt_lt.mp hc9
            exact hK _ 
          · skip
            have q6 : (4 : Int32).toInt = 4 := rfl
            have hc10 := mt Int32.lt_iff_toInt_lt.mpr hc10
            exact hK _ 
      · skip
        have q4 : (1 : Int32).toInt = 1 := rfl
        have hc6 := Int32.toInt_inj.mpr hc6
        refine ⟨fun hc11 => ?_, fun hc12 => ?_⟩
        · skip
          have q5 : (3 : Int32).toInt = 3 := rfl
          have hc11 : ¬ (x0).toInt = (3 : Int32).toInt := fun z => hc11 (Int32.toInt_inj.mp z)
          exact hK _ 
        · skip
          have q5 : (3 : Int32).toInt = 3 := rfl
          have hc12 := Int32.toInt_inj.mpr hc12
          exact hK _ 
    · skip
      have q3 := i32_lo x0
      have hc4 := Int32.toInt_inj.mpr hc4
      exact hK _ 
theorem lX12_addOne_22 {G : jdG} {n : Nat} {Z : jdL} {J : jdJ} {rc rs : Nat} {K : jdI → jdJ → Prop} {c : Int} {I0 : jdI} {t : Nat} {x1 : Int32} {x2 : Int32} (ht : zModel Z t)  (hc : c ≤ 8)  (hK : ∀ (I2 : jdI), WM c t I2 → Fr (fun a k => (a = t ∧ k = 10) ∨ a = t + 18 ∨ a = t + 19 ∨ (t + 21 ≤ a ∧ a ≤ t + 28)) I0 I2 → K I2 J) : ∀ m : Nat, ∀ (I : jdI) (x3 : Int32), WM c t I → Fr (fun a k => (a = t ∧ k = 10) ∨ a = t + 18 ∨ a = t + 19 ∨ (t + 21 ≤ a ∧ a ≤ t + 28)) I0 I → (0 ≤ x3.toInt ∧ x3.toInt ≤ (I t 10).toInt) → ((I t 10).toInt + 1 ≤ c) → ((I t 10).toInt) - x3.toInt < (m : Int) → Jd G mX12_addOne (jdFm G (qv Z K)) n rc rs 22 [(0, .ref (gb G + t)), (1, .int x1), (2, .int x2), (3, .int x3)] [] Z I J := by
  intro m
  induction m with
  | zero =>
    intro I x3 hW hF hx3 hpe hm
    have hwI := WM_f hW
    omega
  | succ m ih =>
    intro I x3 hW hF hx3 hpe hm
    have hwI := WM_f hW
    refine rX12_addOne_22 ht ?_
    refine ⟨fun hc1 => ?_, fun hc2 => ?_⟩
    · skip
      have q1 := i32_lo (I t 10)
      have q2 := i32_lo x3
      have hc1 := Int32.le_iff_toInt_le.mp hc1
      have q3 : (1 : Int32).toInt = 1 := rfl
      have q4 := i32_add (I t 10) 1 (by omega) (by omega)
      exact hK _ (WM_uI hW (by first | exact okMo (by decide) (by decide) (by decide) (by decide) (by decide) | exact okMf (by decide) (by decide) (by decide) (by decide) (by decide) (by decide) (by decide) (by decide) | exact okM30 (by omega) | exact okM42 (by omega) | exact okM33 (by omega) | exact okM10 (by omega) | exact okM8 (by omega) | exact okM22 (by omega) | exact okM24 (by omega) | exact okM14 (by omega) | exact okMa31 (by omega) | exact okMa35 (by omega) | exact okMa36 (by omega) | exact okMa3 (by omega) | exact okMr (by omega) | (unfold okM; refine ⟨?_, ?_, ?_, ?_, ?_, ?_, ?_, ?_, ?_, ?_, ?_, ?_⟩ <;> intro h <;> omega))) (Fr_uI hF (by omega))
    · skip
      have q1 := i32_lo (I t 10)
      have q2 := i32_lo x3
      have hc2 := mt Int32.le_iff_toInt_le.mpr hc2
      refine ⟨vp_of (by omega) (by omega), ?_⟩
      refine ⟨vp_of (by omega) (by omega), ?_⟩
      refine ⟨vp_of (by omega) (by omega), ?_⟩
      have hr3 : (((uI I (t + 21 + (Int32.toNatClampNeg (I t 10))) (Int32.toNatClampNeg x3) (-1))) t 10).toInt = ((I) t 10).toInt := by rw [uI_n _ _ _ (show t ≠ (t + 21 + (Int32.toNatClampNeg (I t 10))) by omega)]
      refine ⟨vp_of (by omega) (by omega), ?_⟩
      have q3 : (1 : Int32).toInt = 1 := rfl
      have q4 := i32_add x3 1 (by omega) (by omega)
      have q5 := tn_eq x3
      have q6 := tn_eq (I t 10)
      have hr4 : (((uI (uI I (t + 21 + (Int32.toNatClampNeg (I t 10))) (Int32.toNatClampNeg x3) (-1)) (t + 21 + (Int32.toNatClampNeg x3)) (Int32.toNatClampNeg ((uI I (t + 21 + (Int32.toNatClampNeg (I t 10))) (Int32.toNatClampNeg x3) (-1)) t 10)) (-1))) t 10).toInt = (((uI I (t + 21 + (Int32.toNatClampNeg (I t 10))) (Int32.toNatClampNeg x3) (-1))) t 10).toInt := by rw [uI_n _ _ _ (show t ≠ (t + 21 + (Int32.toNatClampNeg x3)) by omega)]
      exact ih _ (x3 + 1) (WM_uI (WM_uI hW (by first | exact okMo (by decide) (by decide) (by decide) (by decide) (by decide) | exact okMf (by decide) (by decide) (by decide) (by decide) (by decide) (by decide) (by decide) (by decide) | exact okM30 (by omega) | exact okM42 (by omega) | exact okM33 (by omega) | exact okM10 (by omega) | exact okM8 (by omega) | exact okM22 (by omega) | exact okM24 (by omega) | exact okM14 (by omega) | exact okMa31 (by omega) | exact okMa35 (by omega) | exact okMa36 (by omega) | exact okMa3 (by omega) | exact okMr (by omega) | (unfold okM; refine ⟨?_, ?_, ?_, ?_, ?_, ?_, ?_, ?_, ?_, ?_, ?_, ?_⟩ <;> intro h <;> omega))) (by first | exact okMo (by decide) (by decide) (by decide) (by decide) (by decide) | exact okMf (by decide) (by decide) (by decide) (by decide) (by decide) (by decide) (by decide) (by decide) | exact okM30 (by omega) | exact okM42 (by omega) | exact okM33 (by omega) | exact okM10 (by omega) | exact okM8 (by omega) | exact okM22 (by omega) | exact okM24 (by omega) | exact okM14 (by omega) | exact okMa31 (by omega) | exact okMa35 (by omega) | exact okMa36 (by omega) | exact okMa3 (by omega) | exact okMr (by omega) | (unfold okM; refine ⟨?_, ?_, ?_, ?_, ?_, ?_, ?_, ?_, ?_, ?_, ?_, ?_⟩ <;> intro h <;> omega))) (Fr_uI (Fr_uI hF (by omega)) (by omega)) (by omega) (by omega) (by omega)
