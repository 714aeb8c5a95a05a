theorem sfX12_addOne {G : jdG} {n : Nat} {Z : jdL} {J : jdJ} {K : jdI → jdJ → Prop} {c : Int} {I : jdI} {t : Nat} {x1 : Int32} {x2 : Int32} (ht : zModel Z t)  (hc : c ≤ 8) (hW : WM c t I) (hpe : (I t 10).toInt + 1 ≤ c) (hK : ∀ (I2 : jdI), WM c t I2 → Fr (fun a k => (a = t ∧ k = 10) ∨ a = t + 18 ∨ a = t + 19 ∨ (t + 21 ≤ a ∧ a ≤ t + 28)) I I2 → K I2 J) : Cl G mX12_addOne n 0 0 [.ref (gb G + t), .int x1, .int x2] Z I J (qv Z K) := by
  refine eX12_addOne ht ?_
  have hwI := WM_f hW
  have q1 := i32_lo (I t 10)
  refine ⟨vp_of (by omega) (by omega), ?_⟩
  refine ⟨vp_of (by omega) (by omega), ?_⟩
  have q2 : (0 : Int32).toInt = 0 := rfl
  have hr1 : (((uI (uI I (t + 18) (Int32.toNatClampNeg (I t 10)) x1) (t + 19) (Int32.toNatClampNeg (I t 10)) x2)) t 10).toInt = ((I t 10)).toInt := congrArg Int32.toInt (uI_ne (by omega) (uI_ne (by omega) rfl))
  exact lX12_addOne_22 ht  hc  hK  (((((uI (uI I (t + 18) (Int32.toNatClampNeg (I t 10)) x1) (t + 19) (Int32.toNatClampNeg (I t 10)) x2) t 10).toInt) - (0 : Int32).toInt).toNat + 1) _ 0 (WM_uI (WM_uI hW (by first | exact okMo (by decide) (by decide) (by decide) (by decide) (by decide) | exact okMf (by decide) (by decide) (by decide) (by decide) (by decide) (by decide) (by decide) (by decide) | exact okM30 (by omega) | exact okM42 (by omega) | exact okM33 (by omega) | exact okM10 (by omega) | exact okM8 (by omega) | exact okM22 (by omega) | exact okM24 (by omega) | exact okM14 (by omega) | exact okMa31 (by omega) | exact okMa35 (by omega) | exact okMa36 (by omega) | exact okMa3 (by omega) | exact okMr (by omega) | (unfold okM; refine ⟨?_, ?_, ?_, ?_, ?_, ?_, ?_, ?_, ?_, ?_, ?_, ?_⟩ <;> intro h <;> omega))) (by first | exact okMo (by decide) (by decide) (by decide) (by decide) (by decide) | exact okMf (by decide) (by decide) (by decide) (by decide) (by decide) (by decide) (by decide) (by decide) | exact okM30 (by omega) | exact okM42 (by omega) | exact okM33 (by omega) | exact okM10 (by omega) | exact okM8 (by omega) | exact okM22 (by omega) | exact okM24 (by omega) | exact okM14 (by omega) | exact okMa31 (by omega) | exact okMa35 (by omega) | exact okMa36 (by omega) | exact okMa3 (by omega) | exact okMr (by omega) | (unfold okM; refine ⟨?_, ?_, ?_, ?_, ?_, ?_, ?_, ?_, ?_, ?_, ?_, ?_⟩ <;> intro h <;> omega))) (Fr_uI (Fr_uI Fr.rf (by omega)) (by omega)) (by omega) (by omega) (by omega)
theorem sfX12_knows {G : jdG} {n : Nat} {Z : jdL} {J : jdJ} {K : jdI → jdJ → Prop} {c : Int} {I : jdI} {t : Nat} {x1 : Int32} {x2 : Int32} {x3 : Int32} (ht : zModel Z t)  (hc : c ≤ 8) (hW : WM c t I) (hx1 : 0 ≤ x1.toInt ∧ x1.toInt ≤ 7) (hx2 : 0 ≤ x2.toInt ∧ x2.toInt ≤ 7) (hK : ∀ (I2 : jdI), WM c t I2 → Fr (fun a k => t + 21 ≤ a ∧ a ≤ t + 28) I I2 → K I2 J) : Cl G mX12_knows n 0 0 [.ref (gb G + t), .int x1, .int x2, .int x3] Z I J (qv Z K) := by
  refine eX12_knows ht ?_
  have hwI := WM_f hW
  have q1 := i32_lo x1
  refine ⟨vp_of (by omega) (by omega), ?_⟩
  have q2 := i32_lo x2
  refine ⟨vp_of (by omega) (by omega), ?_⟩
  refine ⟨vp_of (by omega) (by omega), ?_⟩
  refine ⟨vp_of (by omega) (by omega), ?_⟩
  have q3 := tn_eq x2
  have q4 := tn_eq x1
  exact hK _ (WM_uI (WM_uI hW (by first | exact okMo (by decide) (by decide) (by decide) (by decide) (by decide) | exact okMf (by decide) (by decide) (by decide) (by decide) (by decide) (by decide) (by decide) (by decide) | exact okM30 (by omega) | exact okM42 (by omega) | exact okM33 (by omega) | exact okM10 (by omega) | exact okM8 (by omega) | exact okM22 (by omega) | exact okM24 (by omega) | exact okM14 (by omega) | exact okMa31 (by omega) | exact okMa35 (by omega) | exact okMa36 (by omega) | exact okMa3 (by omega) | exact okMr (by omega) | (unfold okM; refine ⟨?_, ?_, ?_, ?_, ?_, ?_, ?_, ?_, ?_, ?_, ?_, ?_⟩ <;> intro h <;> omega))) (by first | exact okMo (by decide) (by decide) (by decide) (by decide) (by decide) | exact okMf (by decide) (by decide) (by decide) (by decide) (by decide) (by decide) (by decide) (by decide) | exact okM30 (by omega) | exact okM42 (by omega) | exact okM33 (by omega) | exact okM10 (by omega) | exact okM8 (by omega) | exact okM22 (by omega) | exact okM24 (by omega) | exact okM14 (by omega) | exact okMa31 (by omega) | exact okMa35 (by omega) | exact okMa36 (by omega) | exact okMa3 (by omega) | exact okMr (by omega) | (unfold okM; refine ⟨?_, ?_, ?_, ?_, ?_, ?_, ?_, ?_, ?_, ?_, ?_, ?_⟩ <;> intro h <;> omega))) (Fr_uI (Fr_uI Fr.rf (by omega)) (by omega))
theorem sfX12_areTwo {G : jdG} {n : Nat} {Z : jdL} {J : jdJ} {K : Int32 → jdI → jdJ → Prop}  {I : jdI} {t : Nat} {x1 : Int32} {x2 : Int32} (ht : zModel Z t)  (hW : WM 7 t I)  (hK : ∀ (v : Int32), ((v.toInt = 1 ∧ (0 ≤ x1.toInt ∧ x1.toInt < (I t 10).toInt) ∧ (0 ≤ x2.toInt ∧ x2.toInt < (I t 10).toInt) ∧ ¬ x1.toInt = x2.toInt) ∨ (v.toInt = 0 ∧ ¬ ((0 ≤ x1.toInt ∧ x1.toInt < (I t 10).toInt) ∧ (0 ≤ x2.toInt ∧ x2.toInt < (I t 10).toInt) ∧ ¬ x1.toInt = x2.toInt))) → K v I J) : Cl G mX12_areTwo (n + 2) 0 0 [.ref (gb G + t), .int x1, .int x2] Z I J (qi Z K) := by
  refine eX12_areTwo ht ?_
  have hwI := WM_f hW
  have q1 := i32_lo x1
  refine sfX12_isOne ht hW  (fun v2  hp1 => ?_)
  refine ⟨fun hc2 => ?_, fun hc3 => ?_⟩
  · skip
    have q2 := i32_lo v2
    have q3 : (0 : Int32).toInt = 0 := rfl
    have hc2 := Int32.toInt_inj.mpr hc2
    exact hK _  (by omega)
  · skip
    have q2 := i32_lo v2
    have q3 : (0 : Int32).toInt = 0 := rfl
    have hc3 : ¬ (v2).toInt = (0 : Int32).toInt := fun z => hc3 (Int32.toInt_inj.mp z)
    have q4 := i32_lo x2
    refine sfX12_isOne ht hW  (fun v4  hp4 => ?_)
    refine ⟨fun hc5 => ?_, fun hc6 => ?_⟩
    · skip
      have q5 := i32_lo v4
      have hc5 := Int32.toInt_inj.mpr hc5
      exact hK _  (by omega)
    · skip
      have q5 := i32_lo v4
      have hc6 : ¬ (v4).toInt = (0 : Int32).toInt := fun z => hc6 (Int32.toInt_inj.mp z)
      refine ⟨fun hc7 => ?_, fun hc8 => ?_⟩
      · skip
        have hc7 := Int32.toInt_inj.mpr hc7
        exact hK _  (by omega)
      · skip
        have hc8 : ¬ (x1).toInt = (x2).toInt := fun z => hc8 (Int32.toInt_inj.mp z)
        have q6 : (1 : Int32).toInt = 1 := rfl
        exact hK _  (by omega)
theorem lX12_meets_15 {G : jdG} {n : Nat} {Z : jdL} {J : jdJ} {rc rs : Nat} {K : Int32 → jdI → jdJ → Prop}  {I0 : jdI} {mo4 : Nat} {t : Nat} {x1 : Int32} (ht : zModel Z t)   (hK : ∀ (v : Int32) (I2 : jdI), WM 7 t I2 → Fr (fun a k => t + 21 ≤ a ∧ a ≤ t + 28) I0 I2 → K v I2 J) (hO4 : ∀ (I : jdI) (x2 : Int32) (x3 : Int32), WM 7 t I → Fr (fun a k => t + 21 ≤ a ∧ a ≤ t + 28) I0 I → (0 ≤ x3.toInt ∧ x3.toInt ≤ 7) → (7) - x3.toInt < (mo4 : Int) → Jd G mX12_meets (jdFm G (qi Z K)) (n + 1) rc rs 4 [(0, .ref (gb G + t)), (1, .int x1), (2, .int x2), (3, .int x3)] [] Z I J) : ∀ m : Nat, ∀ (I : jdI) (x2 : Int32) (x3 : Int32) (x4 : Int32), WM 7 t I → Fr (fun a k => t + 21 ≤ a ∧ a ≤ t + 28) I0 I → (0 ≤ x4.toInt ∧ x4.toInt ≤ 7) → (0 ≤ x3.toInt ∧ x3.toInt ≤ 6) → (7) - x3.toInt ≤ (mo4 : Int) → (7) - x4.toInt < (m : Int) → Jd G mX12_meets (jdFm G (qi Z K)) (n + 1) rc rs 15 [(0, .ref (gb G + t)), (1, .int x1), (2, .int x2), (3, .int x3), (4, .int x4)] [] Z I J := by
  intro m
  induction m with
  | zero =>
    intro I x2 x3 x4 hW hF hx4 hx3 hmo4 hm
    have hwI := WM_f hW
    omega
  | succ m ih =>
    intro I x2 x3 x4 hW hF hx4 hx3 hmo4 hm
    have hwI := WM_f hW
    refine rX12_meets_15 ht ?_
    refine ⟨fun hc1 => ?_, fun hc2 => ?_⟩
    · skip
      have q1 := i32_lo x3
      have q2 := i32_lo x4
      have hc1 := Int32.le_iff_toInt_le.mp hc1
      have q3 : (1 : Int32).toInt = 1 := rfl
      have q4 := i32_add x3 1 (by omega) (by omega)
      exact hO4 _ x2 (x3 + 1) hW hF (by omega) (by omega)
    · skip
      have q1 := i32_lo x3
      have q2 := i32_lo x4
      have hc2 := mt Int32.le_iff_toInt_le.mpr hc2
      have q3 := i32_lo x1
      refine sfX12_has  trivial  (fun v2  hp3 => ?_)
      refine ⟨fun hc4 => ?_, fun hc5 => ?_⟩
      · skip
        have q4 := i32_lo v2
        have q5 : (0 : Int32).toInt = 0 := rfl
        have hc4 := Int32.toInt_inj.mpr hc4
        have q6 : (1 : Int32).toInt = 1 := rfl
        have q7 := i32_add x4 1 (by omega) (by omega)
        exact ih _ x2 x3 (x4 + 1) hW hF (by omega) (by omega) (by omega) (by omega)
      · skip
        have q4 := i32_lo v2
        have q5 : (0 : Int32).toInt = 0 := rfl
        have hc5 : ¬ (v2).toInt = (0 : Int32).toInt := fun z => hc5 (Int32.toInt_inj.mp z)
        refine sfX12_has  trivial  (fun v4  hp6 => ?_)
        refine ⟨fun hc7 => ?_, fun hc8 => ?_⟩
        · skip
          have q6 := i32_lo v4
          have hc7 := Int32.toInt_inj.mpr hc7
          have q7 : (1 : Int32).toInt = 1 := rfl
          have q8 := i32_add x4 1 (by omega) (by omega)
          exact ih _ x2 x3 (x4 + 1) hW hF (by omega) (by omega) (by omega) (by omega)
        · skip
          have q6 := i32_lo v4
          have hc8 : ¬ (v4).toInt = (0 : Int32).toInt := fun z => hc8 (Int32.toInt_inj.mp z)
          refine ⟨vp_of (by omega) (by omega), ?_⟩
          refine ⟨vp_of (by omega) (by omega), ?_⟩
          refine ⟨fun hc9 => ?_, fun hc10 => ?_⟩
          · skip
            have q7 : (-1 : Int32).toInt = -1 := rfl
            have hc9 : ¬ ((I (t + 21 + (Int32.toNatClampNeg x3)) (Int32.toNatClampNeg x4))).toInt = ((-1) : Int32).toInt := fun z => hc9 (Int32.toInt_inj.mp z)
            refine sfX12_knows ht (by decide) hW (by omega) (by omega) (fun I7 hWI7 hFI7 => ?_)
            have hwI7 := WM_f hWI7
            have q8 : (1 : Int32).toInt = 1 := rfl
            have q9 := i32_add x4 1 (by omega) (by omega)
            exact ih _ (x2 + 0) x3 (x4 + 1) hWI7 (Fr.tr hF hFI7 (by intro a k h; omega)) (by omega) (by omega) (by omega) (by omega)
          · skip
            have q7 : (-1 : Int32).toInt = -1 := rfl
            have hc10 := Int32.toInt_inj.mpr hc10
            refine sfX12_knows ht (by decide) hW (by omega) (by omega) (fun I9 hWI9 hFI9 => ?_)
            have hwI9 := WM_f hWI9
            have q8 : (1 : Int32).toInt = 1 := rfl
            have q9 := i32_add x4 1 (by omega) (by omega)
            exact ih _ (x2 + 1) x3 (x4 + 1) hWI9 (Fr.tr hF hFI9 (by intro a k h; omega)) (by omega) (by omega) (by omega) (by omega)
theorem lX12_meets_4 {G : jdG} {n : Nat} {Z : jdL} {J : jdJ} {rc rs : Nat} {K : Int32 → jdI → jdJ → Prop}  {I0 : jdI} {t : Nat} {x1 : Int32} (ht : zModel Z t)   (hK : ∀ (v : Int32) (I2 : jdI), WM 7 t I2 → Fr (fun a k => t + 21 ≤ a ∧ a ≤ t + 28) I0 I2 → K v I2 J) : ∀ m : Nat, ∀ (I : jdI) (x2 : Int32) (x3 : Int32), WM 7 t I → Fr (fun a k => t + 21 ≤ a ∧ a ≤ t + 28) I0 I → (0 ≤ x3.toInt ∧ x3.toInt ≤ 7) → (7) - x3.toInt < (m : Int) → Jd G mX12_meets (jdFm G (qi Z K)) (n + 1) rc rs 4 [(0, .ref (gb G + t)), (1, .int x1), (2, .int x2), (3, .int x3)] [] Z I J := by
  intro m
  induction m with
  | zero =>
    intro I x2 x3 hW hF hx3 hm
    have hwI := WM_f hW
    omega
  | succ m ih =>
    intro I x2 x3 hW hF hx3 hm
    have hwI := WM_f hW
    refine rX12_meets_4 ht ?_
    refine ⟨fun hc1 => ?_, fun hc2 => ?_⟩
    · skip
      have q1 := i32_lo (I t 10)
      have q2 := i32_lo x3
      have hc1 := Int32.le_iff_toInt_le.mp hc1
      exact hK _ _ hW hF
    · skip
      have q1 := i32_lo (I t 10)
      have q2 := i32_lo x3
      have hc2 := mt Int32.le_iff_toInt_le.mpr hc2
      have q3 : (0 : Int32).toInt = 0 := rfl
      exact lX12_meets_15 ht   hK ih (((7) - (0 : Int32).toInt).toNat + 1) _ x2 x3 0 hW hF (by omega) (by omega) (by omega) (by omega)
theorem sfX12_meets {G : jdG} {n : Nat} {Z : jdL} {J : jdJ} {K : Int32 → jdI → jdJ → Prop}  {I : jdI} {t : Nat} {x1 : Int32} (ht : zModel Z t)  (hW : WM 7 t I)  (hK : ∀ (v : Int32) (I2 : jdI), WM 7 t I2 → Fr (fun a k => t + 21 ≤ a ∧ a ≤ t + 28) I I2 → K v I2 J) : Cl G mX12_meets (n + 1) 0 0 [.ref (gb G + t), .int x1] Z I J (qi Z K) := by
  refine eX12_meets ht ?_
  have hwI := WM_f hW
  have q1 : (0 : Int32).toInt = 0 := rfl
  exact lX12_meets_4 ht   hK  (((7) - (0 : Int32).toInt).toNat + 1) _ 0 0 hW Fr.rf (by omega) (by omega)
theorem sfX12_wipe {G : jdG} {n : Nat} {Z : jdL} {J : jdJ} {K : Int32 → jdI → jdJ → Prop}  {I : jdI} {t : Nat} (ht : zModel Z t)  (hW : WM 7 t I)  (hK : ∀ (v : Int32) (I2 : jdI), WM 7 t I2 → Fr (fun a k => a = t ∧ k = 8) I I2 → (v.toInt = (I t 8).toInt ∧ (I2 t 8).toInt = 0) → K v I2 J) : Cl G mX12_wipe n 0 0 [.ref (gb G + t)] Z I J (qi Z K) := by
  refine eX12_wipe ht ?_
  have hwI := WM_f hW
  have q1 := i32_lo (I t 8)
  have q2 : (0 : Int32).toInt = 0 := rfl
  have hr1 : (((uI I t 8 0)) t 8).toInt = ((0 : Int32)).toInt := congrArg Int32.toInt (uI_ss _ _ _ _)
  exact hK _ _ (WM_uI hW (by first | exact okMo (by decide) (by decide) (by decide) (by decide) (by decide) | exact okMf (by decide) (by decide) (by decide) (by decide) (by decide) (by decide) (by decide) (by decide) | exact okM30 (by omega) | exact okM42 (by omega) | exact okM33 (by omega) | exact okM10 (by omega) | exact okM8 (by omega) | exact okM22 (by omega) | exact okM24 (by omega) | exact okM14 (by omega) | exact okMa31 (by omega) | exact okMa35 (by omega) | exact okMa36 (by omega) | exact okMa3 (by omega) | exact okMr (by omega) | (unfold okM; refine ⟨?_, ?_, ?_, ?_, ?_, ?_, ?_, ?_, ?_, ?_, ?_, ?_⟩ <;> intro h <;> omega))) (Fr_uI Fr.rf (by omega)) (by omega)
theorem sfX12_isLetter {G : jdG} {n : Nat} {Z : jdL} {J : jdJ} {K : Int32 → jdI → jdJ → Prop}  {I : jdI} {x0 : Int32}   (hW : True)  (hK : ∀ (v : Int32), ((v.toInt = 1 ∧ 97 ≤ x0.toInt ∧ x0.toInt ≤ 122) ∨ (v.toInt = 0 ∧ ¬ (97 ≤ x0.toInt ∧ x0.toInt ≤ 122))) → K v I J) : Cl G mX12_isLetter n 0 0 [.int x0] Z I J (qi Z K) := by
  refine eX12_isLetter  ?_
  refine ⟨fun hc1 => ?_, fun hc2 => ?_⟩
  · skip
    have q1 := i32_lo x0
    have q2 : (97 : Int32).toInt = 97 := rfl
    have hc1 := Int32.lt_iff_toInt_lt.mp hc1
    have q3 : (0 : Int32).toInt = 0 := rfl
    exact hK _  (by omega)
  · skip
    have q1 := i32_lo x0
    have q2 : (97 : Int32).toInt = 97 := rfl
    have hc2 := mt Int32.lt_iff_toInt_lt.mpr hc2
    refine ⟨fun hc3 => ?_, fun hc4 => ?_⟩
    · skip
      have q3 : (122 : Int32).toInt = 122 := rfl
      have hc3 := Int32.lt_iff_toInt_lt.mp hc3
      have q4 : (0 : Int32).toInt = 0 := rfl
      exact hK _  (by omega)
    · skip
      have q3 : (122 : Int32).toInt = 122 := rfl
      have hc4 := mt Int32.lt_iff_toInt_lt.mpr hc4
      have q4 : (1 : Int32).toInt = 1 := rfl
      exact hK _  (by omega)
theorem sfX12_isDigit {G : jdG} {n : Nat} {Z : jdL} {J : jdJ} {K : Int32 → jdI → jdJ → Prop}  {I : jdI} {x0 : Int32}   (hW : True)  (hK : ∀ (v : Int32), ((v.toInt = 1 ∧ 48 ≤ x0.toInt ∧ x0.toInt ≤ 57) ∨ (v.toInt = 0 ∧ ¬ (48 ≤ x0.toInt ∧ x0.toInt ≤ 57))) → K v I J) : Cl G mX12_isDigit n 0 0 [.int x0] Z I J (qi Z K) := by
  refine eX12_isDigit  ?_
  refine ⟨fun hc1 => ?_, fun hc2 => ?_⟩
  · skip
    have q1 := i32_lo x0
    have q2 : (48 : Int32).toInt = 48 := rfl
    have hc1 := Int32.lt_iff_toInt_lt.mp hc1
    have q3 : (0 : Int32).toInt = 0 := rfl
    exact hK _  (by omega)
  · skip
    have q1 := i32_lo x0
    have q2 : (48 : Int32).toInt = 48 := rfl
    have hc2 := mt Int32.lt_iff_toInt_lt.mpr hc2
    refine ⟨fun hc3 => ?_, fun hc4 => ?_⟩
    · skip
      have q3 : (57 : Int32).toInt = 57 := rfl
      have hc3 := Int32.lt_iff_toInt_lt.mp hc3
      have q4 : (0 : Int32).toInt = 0 := rfl
      exact hK _  (by omega)
    · skip
      have q3 : (57 : Int32).toInt = 57 := rfl
      have hc4 := mt Int32.lt_iff_toInt_lt.mpr hc4
      have q4 : (1 : Int32).toInt = 1 := rfl
      exact hK _  (by omega)

