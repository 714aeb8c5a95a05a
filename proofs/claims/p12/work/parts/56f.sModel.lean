theorem lX12_meets_15 {G : jdG} {n : Nat} {Z : jdL} {J : jdJ} {rc rs : Nat} {K : Int32 → jdI → jdJ → Prop}  {I0 : jdI} {mo4 : Nat} {t : Nat} {x1 : Int32} (ht : zModel Z t)   (hK : ∀ (v : Int32) (I2 : jdI), WM 7 t I2 → Fr (fun a k => t + 21 ≤ a ∧ a ≤ t + 28) I0 I2 → K v I2 J) (hO4 : ∀ (I : jdI) (x2 : Int32) (x3 : Int32), WM 7 t I → Fr (fun a k => t + 21 ≤ a ∧ a ≤ t + 28) I0 I → (0 ≤ x3.toInt ∧ x3.toInt ≤ 7) → (7) - x3.toInt < (mo4 : Int) → Jd G mX12_meets (jdFm G (qi Z K)) (n + 1) rc rs 4 [(0, .ref (gb G + t)), (1, .int x1), (2, .int x2), (3, .int x3)] [] Z I J) : ∀ m : Nat, ∀ (I : jdI) (x2 : Int32) (x3 : Int32) (x4 : Int32), WM 7 t I → Fr (fun a k => t + 21 ≤ a ∧ a ≤ t + 28) I0 I → (0 ≤ x4.toInt ∧ x4.toInt ≤ 7) → (0 ≤ x3.toInt ∧ x3.toInt ≤ 6) → (7) - x3.toInt ≤ (mo4 : Int) → (7) - x4.toInt < (m : Int) → Jd G mX12_meets (jdFm G (qi Z K)) (n + 1) rc rs 15 [(0, .ref (gb G + t)), (1, .int x1), (2, .int x2), (3, .int x3), (4, .int x4)] [] Z I J := by
  intro m
  induction m with
  | zero =>
    intro I x2 x3 x4 hW hF hx4 hx3 hmo4 hm
    have hwI := WM_f hW
    omega
  | succ m ih =>
    intro I x2 x3 x4 hW hF hx4 hx3 hmo4 hm
    have hwI := WM_f hW
    refine rX12_meets_15 ht ?_
    refine ⟨fun hc1 => ?_, fun hc2 => ?_⟩
    · skip
      have q1 := i32_lo x3
      have q2 := i32_lo x4
      have hc1 := Int32.le_iff_toInt_le.mp hc1
      have q3 : (1 : Int32).toInt = 1 := rfl
      have q4 := i32_add x3 1 (by omega) (by omega)
      exact hO4 _ x2 (x3 + 1) hW hF (by omega) (by omega)
    · skip
      have q1 := i32_lo x3
      have q2 := i32_lo x4
      have hc2 := mt Int32.le_iff_toInt_le.mpr hc2
      have q3 := i32_lo x1
      refine sfX12_has  trivial  (fun v2  hp3 => ?_)
      refine ⟨fun hc4 => ?_, fun hc5 => ?_⟩
      · skip
        have q4 := i32_lo v2
        have q5 : (0 : Int32).toInt = 0 := rfl
        have hc4 := Int32.toInt_inj.mpr hc4
        have q6 : (1 : Int32).toInt = 1 := rfl
        have q7 := i32_add x4 1 (by omega) (by omega)
        exact ih _ x2 x3 (x4 + 1) hW hF (by omega) (by omega) (by omega) (by omega)
      · skip
        have q4 := i32_lo v2
        have q5 : (0 : Int32).toInt = 0 := rfl
        have hc5 : ¬ (v2).toInt = (0 : Int32).toInt := fun z => hc5 (Int32.toInt_inj.mp z)
        refine sfX12_has  trivial  (fun v4  hp6 => ?_)
        refine ⟨fun hc7 => ?_, fun hc8 => ?_⟩
        · skip
          have q6 := i32_lo v4
          have hc7 := Int32.toInt_inj.mpr hc7
          have q7 : (1 : Int32).toInt = 1 := rfl
          have q8 := i32_add x4 1 (by omega) (by omega)
          exact ih _ x2 x3 (x4 + 1) hW hF (by omega) (by omega) (by omega) (by omega)
        · skip
          have q6 := i32_lo v4
          have hc8 : ¬ (v4).toInt = (0 : Int32).toInt := fun z => hc8 (Int32.toInt_inj.mp z)
          refine ⟨vp_of (by omega) (by omega), ?_⟩
          refine ⟨vp_of (by omega) (by omega), ?_⟩
          refine ⟨fun hc9 => ?_, fun hc10 => ?_⟩
          · skip
            have q7 : (-1 : Int32).toInt = -1 := rfl
            have hc9 : ¬ ((I (t + 21 + (Int32.toNatClampNeg x3)) (Int32.toNatClampNeg x4))).toInt = ((-1) : Int32).toInt := fun z => hc9 (Int32.toInt_inj.mp z)
            refine sfX12_knows ht (by decide) hW (by omega) (by omega) (fun I7 hWI7 hFI7 => ?_)
            have hwI7 := WM_f hWI7
            have q8 : (1 : Int32).toInt = 1 := rfl
            have q9 := i32_add x4 1 (by omega) (by omega)
            exact ih _ (x2 + 0) x3 (x4 + 1) hWI7 (Fr.tr hF hFI7 (by intro a k h; omega)) (by omega) (by omega) (by omega) (by omega)
          · skip
            have q7 : (-1 : Int32).toInt = -1 := rfl
            have hc10 := Int32.toInt_inj.mpr hc10
            refine sfX12_knows ht (by decide) hW (by omega) (by omega) (fun I9 hWI9 hFI9 => ?_)
            have hwI9 := WM_f hWI9
            have q8 : (1 : Int32).toInt = 1 := rfl
            have q9 := i32_add x4 1 (by omega) (by omega)
            exact ih _ (x2 + 1) x3 (x4 + 1) hWI9 (Fr.tr hF hFI9 (by intro a k h; omega)) (by omega) (by omega) (by omega) (by omega)
theorem lX12_meets_4 {G : jdG} {n : Nat} {Z : jdL} {J : jdJ} {rc rs : Nat} {K : Int32 → jdI → jdJ → Prop}  {I0 : jdI} {t : Nat} {x1 : Int32} (ht : zModel Z t)   (hK : ∀ (v : Int32) (I2 : jdI), WM 7 t I2 → Fr (fun a k => t + 21 ≤ a ∧ a ≤ t + 28) I0 I2 → K v I2 J) : ∀ m : Nat, ∀ (I : jdI) (x2 : Int32) (x3 : Int32), WM 7 t I → Fr (fun a k => t + 21 ≤ a ∧ a ≤ t + 28) I0 I → (0 ≤ x3.toInt ∧ x3.toInt ≤ 7) → (7) - x3.toInt < (m : Int) → Jd G mX12_meets (jdFm G (qi Z K)) (n + 1) rc rs 4 [(0, .ref (gb G + t)), (1, .int x1), (2, .int x2), (3, .int x3)] [] Z I J := by
  intro m
  induction m with
  | zero =>
    intro I x2 x3 hW hF hx3 hm
    have hwI := WM_f hW
    omega
  | succ m ih =>
    intro I x2 x3 hW hF hx3 hm
    have hwI := WM_f hW
    refine rX12_meets_4 ht ?_
    refine ⟨fun hc1 => ?_, fun hc2 => ?_⟩
    · skip
      have q1 := i32_lo (I t 10)
      have q2 := i32_lo x3
      have hc1 := Int32.le_iff_toInt_le.mp hc1
      exact hK _ _ hW hF
    · skip
      have q1 := i32_lo (I t 10)
      have q2 := i32_lo x3
      have hc2 := mt Int32.le_iff_toInt_le.mpr hc2
      have q3 : (0 : Int32).toInt = 0 := rfl
      exact lX12_meets_15 ht   hK ih (((7) - (0 : Int32).toInt).toNat + 1) _ x2 x3 0 hW hF (by omega) (by omega) (by omega) (by omega)
theorem sfX12_meets {G : jdG} {n : Nat} {Z : jdL} {J : jdJ} {K : Int32 → jdI → jdJ → Prop}  {I : jdI} {t : Nat} {x1 : Int32} (ht : zModel Z t)  (hW : WM 7 t I)  (hK : ∀ (v : Int32) (I2 : jdI), WM 7 t I2 → Fr (fun a k => t + 21 ≤ a ∧ a ≤ t + 28) I I2 → K v I2 J) : Cl G mX12_meets (n + 1) 0 0 [.ref (gb G + t), .int x1] Z I J (qi Z K) := by
  refine eX12_meets ht ?_
  have hwI := WM_f hW
  have q1 : (0 : Int32).toInt = 0 := rfl
  exact lX12_meets_4 ht   hK  (((7) - (0 : Int32).toInt).toNat + 1) _ 0 0 hW Fr.rf (by omega) (by omega)
theorem sfX12_feed {G : jdG} {n : Nat} {Z : jdL} {J : jdJ} {K : Int32 → jdI → jdJ → Prop}  {I : jdI} {t : Nat} {x1 : Int32} (ht : zModel Z t)  (hW : WM 7 t I)  (hK : ∀ (v : Int32) (I2 : jdI), WM 7 t I2 → Fr (fun a k => (a = t ∧ k = 8) ∨ a = t + 16 ∨ a = t + 17) I I2 → (((0 ≤ x1.toInt ∧ x1.toInt ≤ 255) ∧ (I t 8).toInt < 250 ∧ v.toInt = (I t 8).toInt + 1 ∧ (I2 t 8).toInt = (I t 8).toInt + 1) ∨ ((0 ≤ x1.toInt ∧ x1.toInt ≤ 255) ∧ (I t 8).toInt = 250 ∧ v.toInt = -6 ∧ (I2 t 8).toInt = (I t 8).toInt) ∨ (¬ (0 ≤ x1.toInt ∧ x1.toInt ≤ 255) ∧ v.toInt = -2 ∧ (I2 t 8).toInt = (I t 8).toInt)) → K v I2 J) : Cl G mX12_feed (n + 1) 0 0 [.ref (gb G + t), .int x1] Z I J (qi Z K) := by
  refine eX12_feed ht ?_
  have hwI := WM_f hW
  have q1 := i32_lo x1
  have q2 : (Int32.toInt64 x1).toInt = (x1).toInt := Int32.toInt_toInt64 _
  have q3 : (0 : Int64).toInt = 0 := rfl
  have q4 : (255 : Int64).toInt = 255 := rfl
  refine sfX12_in  trivial  (fun v2  hp1 => ?_)
  refine ⟨fun hc2 => ?_, fun hc3 => ?_⟩
  · skip
    have q5 := i32_lo v2
    have q6 : (0 : Int32).toInt = 0 := rfl
    have hc2 : ¬ (v2).toInt = (0 : Int32).toInt := fun z => hc2 (Int32.toInt_inj.mp z)
    refine ⟨fun hc4 => ?_, fun hc5 => ?_⟩
    · skip
      have q7 := i32_lo (I t 8)
      have q8 : (250 : Int32).toInt = 250 := rfl
      have hc4 : ¬ ((I t 8)).toInt = (250 : Int32).toInt := fun z => hc4 (Int32.toInt_inj.mp z)
      refine ⟨vp_of (by omega) (by omega), ?_⟩
      have q9 : (1 : Int32).toInt = 1 := rfl
      have q10 := i32_add (I t 8) 1 (by omega) (by omega)
      have hr6 : (((uI (uI I t 8 ((I t 8) + 1)) (t + 16) (Int32.toNatClampNeg (I t 8)) x1)) t 8).toInt = (((I t 8) + 1)).toInt := congrArg Int32.toInt (uI_ne (by omega) (uI_ss _ _ _ _))
      exact hK _ _ (WM_uI (WM_uI hW (by first | exact okMo (by decide) (by decide) (by decide) (by decide) (by decide) | exact okMf (by decide) (by decide) (by decide) (by decide) (by decide) (by decide) (by decide) (by decide) | exact okM30 (by omega) | exact okM42 (by omega) | exact okM33 (by omega) | exact okM10 (by omega) | exact okM8 (by omega) | exact okM22 (by omega) | exact okM24 (by omega) | exact okM14 (by omega) | exact okMa31 (by omega) | exact okMa35 (by omega) | exact okMa36 (by omega) | exact okMa3 (by omega) | exact okMr (by omega) | (unfold okM; refine ⟨?_, ?_, ?_, ?_, ?_, ?_, ?_, ?_, ?_, ?_, ?_, ?_⟩ <;> intro h <;> omega))) (by first | exact okMo (by decide) (by decide) (by decide) (by decide) (by decide) | exact okMf (by decide) (by decide) (by decide) (by decide) (by decide) (by decide) (by decide) (by decide) | exact okM30 (by omega) | exact okM42 (by omega) | exact okM33 (by omega) | exact okM10 (by omega) | exact okM8 (by omega) | exact okM22 (by omega) | exact okM24 (by omega) | exact okM14 (by omega) | exact okMa31 (by omega) | exact okMa35 (by omega) | exact okMa36 (by omega) | exact okMa3 (by omega) | exact okMr (by omega) | (unfold okM; refine ⟨?_, ?_, ?_, ?_, ?_, ?_, ?_, ?_, ?_, ?_, ?_, ?_⟩ <;> intro h <;> omega))) (Fr_uI (Fr_uI Fr.rf (by omega)) (by omega)) (by omega)
    · skip
      have q7 := i32_lo (I t 8)
      have q8 : (250 : Int32).toInt = 250 := rfl
      have hc5 := Int32.toInt_inj.mpr hc5
      have q9 : (-6 : Int32).toInt = -6 := rfl
      refine sfX12_refuse ht (by decide) hW (by omega) (fun v5 I4 hWI4 hFI4 hp7 => ?_)
      have hwI4 := WM_f hWI4
      first | have hk8 : (I4 t 8).toInt = (I t 8).toInt := (by rw [hFI4 t 8 (by omega)]) | skip
      have q10 := i32_lo v5
      exact hK _ _ hWI4 (Fr.tr Fr.rf hFI4 (by intro a k h; omega)) (by omega)
  · skip
    have q5 := i32_lo v2
    have q6 : (0 : Int32).toInt = 0 := rfl
    have hc3 := Int32.toInt_inj.mpr hc3
    have q7 : (-2 : Int32).toInt = -2 := rfl
    refine sfX12_refuse ht (by decide) hW (by omega) (fun v7 I6 hWI6 hFI6 hp9 => ?_)
    have hwI6 := WM_f hWI6
    first | have hk10 : (I6 t 8).toInt = (I t 8).toInt := (by rw [hFI6 t 8 (by omega)]) | skip
    have q8 := i32_lo v7
    exact hK _ _ hWI6 (Fr.tr Fr.rf hFI6 (by intro a k h; omega)) (by omega)
theorem sfX12_wipe {G : jdG} {n : Nat} {Z : jdL} {J : jdJ} {K : Int32 → jdI → jdJ → Prop}  {I : jdI} {t : Nat} (ht : zModel Z t)  (hW : WM 7 t I)  (hK : ∀ (v : Int32) (I2 : jdI), WM 7 t I2 → Fr (fun a k => a = t ∧ k = 8) I I2 → (v.toInt = (I t 8).toInt ∧ (I2 t 8).toInt = 0) → K v I2 J) : Cl G mX12_wipe n 0 0 [.ref (gb G + t)] Z I J (qi Z K) := by
  refine eX12_wipe ht ?_
  have hwI := WM_f hW
  have q1 := i32_lo (I t 8)
  have q2 : (0 : Int32).toInt = 0 := rfl
  have hr1 : (((uI I t 8 0)) t 8).toInt = ((0 : Int32)).toInt := congrArg Int32.toInt (uI_ss _ _ _ _)
  exact hK _ _ (WM_uI hW (by first | exact okMo (by decide) (by decide) (by decide) (by decide) (by decide) | exact okMf (by decide) (by decide) (by decide) (by decide) (by decide) (by decide) (by decide) (by decide) | exact okM30 (by omega) | exact okM42 (by omega) | exact okM33 (by omega) | exact okM10 (by omega) | exact okM8 (by omega) | exact okM22 (by omega) | exact okM24 (by omega) | exact okM14 (by omega) | exact okMa31 (by omega) | exact okMa35 (by omega) | exact okMa36 (by omega) | exact okMa3 (by omega) | exact okMr (by omega) | (unfold okM; refine ⟨?_, ?_, ?_, ?_, ?_, ?_, ?_, ?_, ?_, ?_, ?_, ?_⟩ <;> intro h <;> omega))) (Fr_uI Fr.rf (by omega)) (by omega)
theorem sfX12_isLetter {G : jdG} {n : Nat} {Z : jdL} {J : jdJ} {K : Int32 → jdI → jdJ → Prop}  {I : jdI} {x0 : Int32}   (hW : True)  (hK : ∀ (v : Int32), ((v.toInt = 1 ∧ 97 ≤ x0.toInt ∧ x0.toInt ≤ 122) ∨ (v.toInt = 0 ∧ ¬ (97 ≤ x0.toInt ∧ x0.toInt ≤ 122))) → K v I J) : Cl G mX12_isLetter n 0 0 [.int x0] Z I J (qi Z K) := by
  refine eX12_isLetter  ?_
  refine ⟨fun hc1 => ?_, fun hc2 => ?_⟩
  · skip
    have q1 := i32_lo x0
    have q2 : (97 : Int32).toInt = 97 := rfl
    have hc1 := Int32.lt_iff_toInt_lt.mp hc1
    have q3 : (0 : Int32).toInt = 0 := rfl
    exact hK _  (by omega)
  · skip
    have q1 := i32_lo x0
    have q2 : (97 : Int32).toInt = 97 := rfl
    have hc2 := mt Int32.lt_iff_toInt_lt.mpr hc2
    refine ⟨fun hc3 => ?_, fun hc4 => ?_⟩
    · skip
      have q3 : (122 : Int32).toInt = 122 := rfl
      have hc3 := Int32.lt_iff_toInt_lt.mp hc3
      have q4 : (0 : Int32).toInt = 0 := rfl
      exact hK _  (by omega)
    · skip
      have q3 : (122 : Int32).toInt = 122 := rfl
      have hc4 := mt Int32.lt_iff_toInt_lt.mpr hc4
      have q4 : (1 : Int32).toInt = 1 := rfl
      exact hK _  (by omega)
theorem sfX12_isDigit {G : jdG} {n : Nat} {Z : jdL} {J : jdJ} {K : Int32 → jdI → jdJ → Prop}  {I : jdI} {x0 : Int32}   (hW : True)  (hK : ∀ (v : Int32), ((v.toInt = 1 ∧ 48 ≤ x0.toInt ∧ x0.toInt ≤ 57) ∨ (v.toInt = 0 ∧ ¬ (48 ≤ x0.toInt ∧ x0.toInt ≤ 57))) → K v I J) : Cl G mX12_isDigit n 0 0 [.int x0] Z I J (qi Z K) := by
  refine eX12_isDigit  ?_
  refine ⟨fun hc1 => ?_, fun hc2 => ?_⟩
  · skip
    have q1 := i32_lo x0
    have q2 : (48 : Int32).toInt = 48 := rfl
    have hc1 := Int32.lt_iff_toInt_lt.mp hc1
    have q3 : (0 : Int32).toInt = 0 := rfl
    exact hK _  (by omega)
  · skip
    have q1 := i32_lo x0
    have q2 : (48 : Int32).toInt = 48 := rfl
    have hc2 := mt Int32.lt_iff_toInt_lt.mpr hc2
    refine ⟨fun hc3 => ?_, fun hc4 => ?_⟩
    · skip
      have q3 : (57 : Int32).toInt = 57 := rfl
      have hc3 := Int32.lt_iff_toInt_lt.mp hc3
      have q4 : (0 : Int32).toInt = 0 := rfl
      exact hK _  (by omega)
    · skip
      have q3 : (57 : Int32).toInt = 57 := rfl
      have hc4 := mt Int32.lt_iff_toInt_lt.mpr hc4
      have q4 : (1 : Int32).toInt = 1 := rfl
      exact hK _  (by omega)
theorem lX12_look_149 {G : jdG} {n : Nat} {Z : jdL} {J : jdJ} {rc rs : Nat} {K : jdI → jdJ → Prop}  {I0 : jdI} {t : Nat} (ht : zModel Z t)   (hK : ∀ (I2 : jdI), WM 7 t I2 → Fr (fun a k => a = t ∧ 22 ≤ k ∧ k ≤ 25) I0 I2 → ((I0 t 22).toInt ≤ (I2 t 22).toInt ∧ (I2 t 22).toInt ≤ (I2 t 8).toInt ∧ ((I2 t 23).toInt = 3 → (I0 t 22).toInt < (I2 t 22).toInt)) → K I2 J) : ∀ m : Nat, ∀ (I : jdI) , WM 7 t I → Fr (fun a k => a = t ∧ 22 ≤ k ∧ k ≤ 25) I0 I → ((I0 t 22).toInt ≤ (I t 22).toInt ∧ (I t 22).toInt ≤ (I t 8).toInt) → ((I t 23).toInt = 2) → 250 - (I t 22).toInt < (m : Int) → Jd G mX12_look (jdFm G (qv Z K)) (n + 1) rc rs 149 [(0, .ref (gb G + t))] [] Z I J := by
  intro m
  induction m with
  | zero =>
    intro I hW hF hat htk hm
    have hwI := WM_f hW
    omega
  | succ m ih =>
    intro I hW hF hat htk hm
    have hwI := WM_f hW
    refine rX12_look_149 ht ?_
    refine ⟨fun hc1 => ?_, fun hc2 => ?_⟩
    · skip
      have q1 := i32_lo (I t 8)
      have q2 := i32_lo (I t 22)
      have hc1 := Int32.le_iff_toInt_le.mp hc1
      exact hK _ hW hF (by omega)
    · skip
      have q1 := i32_lo (I t 8)
      have q2 := i32_lo (I t 22)
      have hc2 := mt Int32.le_iff_toInt_le.mpr hc2
      refine ⟨vp_of (by omega) (by omega), ?_⟩
      refine sfX12_isDigit  trivial  (fun v3  hp3 => ?_)
      refine ⟨fun hc4 => ?_, fun hc5 => ?_⟩
      · skip
        have q3 := i32_lo v3
        have q4 : (0 : Int32).toInt = 0 := rfl
        have hc4 := Int32.toInt_inj.mpr hc4
        exact hK _ hW hF (by omega)
      · skip
        have q3 := i32_lo v3
        have q4 : (0 : Int32).toInt = 0 := rfl
        have hc5 : ¬ (v3).toInt = (0 : Int32).toInt := fun z => hc5 (Int32.toInt_inj.mp z)
        refine ⟨fun hc6 => ?_, fun hc7 => ?_⟩
        · skip
          have q5 : (2 : Int32).toInt = 2 := rfl
          have q6 := i32_lo (I t 24)
          have q7 := i32_subI (I t 22) (I t 24)
          have hc6 := Int32.le_iff_toInt_le.mp hc6
          have q8 : (1 : Int32).toInt = 1 := rfl
          have q9 := i32_add (I t 22) 1 (by omega) (by omega)
          have hr8 : (((uI (uI I t 25 100000) t 22 ((I t 22) + 1))) t 22).toInt = (((I t 22) + 1)).toInt := congrArg Int32.toInt (uI_ss _ _ _ _)
          have hr9 : (((uI (uI I t 25 100000) t 22 ((I t 22) + 1))) t 8).toInt = ((I t 8)).toInt := congrArg Int32.toInt (uI_sk (by decide) (uI_sk (by decide) rfl))
          have hr10 : (((uI (uI I t 25 100000) t 22 ((I t 22) + 1))) t 23).toInt = ((I t 23)).toInt := congrArg Int32.toInt (uI_sk (by decide) (uI_sk (by decide) rfl))
          exact ih _ (WM_uI (WM_uI hW (by first | exact okMo (by decide) (by decide) (by decide) (by decide) (by decide) | exact okMf (by decide) (by decide) (by decide) (by decide) (by decide) (by decide) (by decide) (by decide) | exact okM30 (by omega) | exact okM42 (by omega) | exact okM33 (by omega) | exact okM10 (by omega) | exact okM8 (by omega) | exact okM22 (by omega) | exact okM24 (by omega) | exact okM14 (by omega) | exact okMa31 (by omega) | exact okMa35 (by omega) | exact okMa36 (by omega) | exact okMa3 (by omega) | exact okMr (by omega) | (unfold okM; refine ⟨?_, ?_, ?_, ?_, ?_, ?_, ?_, ?_, ?_, ?_, ?_, ?_⟩ <;> intro h <;> omega))) (by first | exact okMo (by decide) (by decide) (by decide) (by decide) (by decide) | exact okMf (by decide) (by decide) (by decide) (by decide) (by decide) (by decide) (by decide) (by decide) | exact okM30 (by omega) | exact okM42 (by omega) | exact okM33 (by omega) | exact okM10 (by omega) | exact okM8 (by omega) | exact okM22 (by omega) | exact okM24 (by omega) | exact okM14 (by omega) | exact okMa31 (by omega) | exact okMa35 (by omega) | exact okMa36 (by omega) | exact okMa3 (by omega) | exact okMr (by omega) | (unfold okM; refine ⟨?_, ?_, ?_, ?_, ?_, ?_, ?_, ?_, ?_, ?_, ?_, ?_⟩ <;> intro h <;> omega))) (Fr_uI (Fr_uI hF (by omega)) (by omega)) (by omega) (by omega) (by omega)
        · skip
          have q5 : (2 : Int32).toInt = 2 := rfl
          have q6 := i32_lo (I t 24)
          have q7 := i32_subI (I t 22) (I t 24)
          have hc7 := mt Int32.le_iff_toInt_le.mpr hc7
          refine ⟨vp_of (by omega) (by omega), ?_⟩
          have q8 : (1 : Int32).toInt = 1 := rfl
          have q9 := i32_add (I t 22) 1 (by omega) (by omega)
          have hr11 : (((uI (uI I t 25 ((((I t 25) * 10) + (I (t + 16) (Int32.toNatClampNeg (I t 22)))) - 48)) t 22 ((I t 22) + 1))) t 22).toInt = (((I t 22) + 1)).toInt := congrArg Int32.toInt (uI_ss _ _ _ _)
          have hr12 : (((uI (uI I t 25 ((((I t 25) * 10) + (I (t + 16) (Int32.toNatClampNeg (I t 22)))) - 48)) t 22 ((I t 22) + 1))) t 8).toInt = ((I t 8)).toInt := congrArg Int32.toInt (uI_sk (by decide) (uI_sk (by decide) rfl))
          have hr13 : (((uI (uI I t 25 ((((I t 25) * 10) + (I (t + 16) (Int32.toNatClampNeg (I t 22)))) - 48)) t 22 ((I t 22) + 1))) t 23).toInt = ((I t 23)).toInt := congrArg Int32.toInt (uI_sk (by decide) (uI_sk (by decide) rfl))
          exact ih _ (WM_uI (WM_uI hW (by first | exact okMo (by decide) (by decide) (by decide) (by decide) (by decide) | exact okMf (by decide) (by decide) (by decide) (by decide) (by decide) (by decide) (by decide) (by decide) | exact okM30 (by omega) | exact okM42 (by omega) | exact okM33 (by omega) | exact okM10 (by omega) | exact okM8 (by omega) | exact okM22 (by omega) | exact okM24 (by omega) | exact okM14 (by omega) | exact okMa31 (by omega) | exact okMa35 (by omega) | exact okMa36 (by omega) | exact okMa3 (by omega) | exact okMr (by omega) | (unfold okM; refine ⟨?_, ?_, ?_, ?_, ?_, ?_, ?_, ?_, ?_, ?_, ?_, ?_⟩ <;> intro h <;> omega))) (by first | exact okMo (by decide) (by decide) (by decide) (by decide) (by decide) | exact okMf (by decide) (by decide) (by decide) (by decide) (by decide) (by decide) (by decide) (by decide) | exact okM30 (by omega) | exact okM42 (by omega) | exact okM33 (by omega) | exact okM10 (by omega) | exact okM8 (by omega) | exact okM22 (by omega) | exact okM24 (by omega) | exact okM14 (by omega) | exact okMa31 (by omega) | exact okMa35 (by omega) | exact okMa36 (by omega) | exact okMa3 (by omega) | exact okMr (by omega) | (unfold okM; refine ⟨?_, ?_, ?_, ?_, ?_, ?_, ?_, ?_, ?_, ?_, ?_, ?_⟩ <;> intro h <;> omega))) (Fr_uI (Fr_uI hF (by omega)) (by omega)) (by omega) (by omega) (by omega)
theorem lX12_look_90 {G : jdG} {n : Nat} {Z : jdL} {J : jdJ} {rc rs : Nat} {K : jdI → jdJ → Prop}  {I0 : jdI} {t : Nat} (ht : zModel Z t)   (hK : ∀ (I2 : jdI), WM 7 t I2 → Fr (fun a k => a = t ∧ 22 ≤ k ∧ k ≤ 25) I0 I2 → ((I0 t 22).toInt ≤ (I2 t 22).toInt ∧ (I2 t 22).toInt ≤ (I2 t 8).toInt ∧ ((I2 t 23).toInt = 3 → (I0 t 22).toInt < (I2 t 22).toInt)) → K I2 J) : ∀ m : Nat, ∀ (I : jdI) , WM 7 t I → Fr (fun a k => a = t ∧ 22 ≤ k ∧ k ≤ 25) I0 I → ((I0 t 22).toInt ≤ (I t 22).toInt ∧ (I t 22).toInt ≤ (I t 8).toInt) → ((I t 23).toInt = 1) → 250 - (I t 22).toInt < (m : Int) → Jd G mX12_look (jdFm G (qv Z K)) (n + 1) rc rs 90 [(0, .ref (gb G + t))] [] Z I J := by
  intro m
  induction m with
  | zero =>
    intro I hW hF hat htk hm
    have hwI := WM_f hW
    omega
  | succ m ih =>
    intro I hW hF hat htk hm
    have hwI := WM_f hW
    refine rX12_look_90 ht ?_
    refine ⟨fun hc1 => ?_, fun hc2 => ?_⟩
    · skip
      have q1 := i32_lo (I t 8)
      have q2 := i32_lo (I t 22)
      have hc1 := Int32.le_iff_toInt_le.mp hc1
      exact hK _ hW hF (by omega)
    · skip
      have q1 := i32_lo (I t 8)
      have q2 := i32_lo (I t 22)
      have hc2 := mt Int32.le_iff_toInt_le.mpr hc2
      refine ⟨vp_of (by omega) (by omega), ?_⟩
      refine sfX12_isLetter  trivial  (fun v3  hp3 => ?_)
      refine ⟨fun hc4 => ?_, fun hc5 => ?_⟩
      · skip
        have q3 := i32_lo v3
        have q4 : (0 : Int32).toInt = 0 := rfl
        have hc4 := Int32.toInt_inj.mpr hc4
        exact hK _ hW hF (by omega)
      · skip
        have q3 := i32_lo v3
        have q4 : (0 : Int32).toInt = 0 := rfl
        have hc5 : ¬ (v3).toInt = (0 : Int32).toInt := fun z => hc5 (Int32.toInt_inj.mp z)
        have q5 : (1 : Int32).toInt = 1 := rfl
        have q6 := i32_add (I t 22) 1 (by omega) (by omega)
        have hr6 : (((uI I t 22 ((I t 22) + 1))) t 22).toInt = (((I t 22) + 1)).toInt := congrArg Int32.toInt (uI_ss _ _ _ _)
        have hr7 : (((uI I t 22 ((I t 22) + 1))) t 8).toInt = ((I t 8)).toInt := congrArg Int32.toInt (uI_sk (by decide) rfl)
        have hr8 : (((uI I t 22 ((I t 22) + 1))) t 23).toInt = ((I t 23)).toInt := congrArg Int32.toInt (uI_sk (by decide) rfl)
        exact ih _ (WM_uI hW (by first | exact okMo (by decide) (by decide) (by decide) (by decide) (by decide) | exact okMf (by decide) (by decide) (by decide) (by decide) (by decide) (by decide) (by decide) (by decide) | exact okM30 (by omega) | exact okM42 (by omega) | exact okM33 (by omega) | exact okM10 (by omega) | exact okM8 (by omega) | exact okM22 (by omega) | exact okM24 (by omega) | exact okM14 (by omega) | exact okMa31 (by omega) | exact okMa35 (by omega) | exact okMa36 (by omega) | exact okMa3 (by omega) | exact okMr (by omega) | (unfold okM; refine ⟨?_, ?_, ?_, ?_, ?_, ?_, ?_, ?_, ?_, ?_, ?_, ?_⟩ <;> intro h <;> omega))) (Fr_uI hF (by omega)) (by omega) (by omega) (by omega)
theorem lX12_look_0 {G : jdG} {n : Nat} {Z : jdL} {J : jdJ} {rc rs : Nat} {K : jdI → jdJ → Prop}  {I0 : jdI} {t : Nat} (ht : zModel Z t)   (hK : ∀ (I2 : jdI), WM 7 t I2 → Fr (fun a k => a = t ∧ 22 ≤ k ∧ k ≤ 25) I0 I2 → ((I0 t 22).toInt ≤ (I2 t 22).toInt ∧ (I2 t 22).toInt ≤ (I2 t 8).toInt ∧ ((I2 t 23).toInt = 3 → (I0 t 22).toInt < (I2 t 22).toInt)) → K I2 J) : ∀ m : Nat, ∀ (I : jdI) , WM 7 t I → Fr (fun a k => a = t ∧ 22 ≤ k ∧ k ≤ 25) I0 I → ((I0 t 22).toInt ≤ (I t 22).toInt ∧ (I t 22).toInt ≤ (I t 8).toInt) → 250 - (I t 22).toInt < (m : Int) → Jd G mX12_look (jdFm G (qv Z K)) (n + 1) rc rs 0 [(0, .ref (gb G + t))] [] Z I J := by
  intro m
  induction m with
  | zero =>
    intro I hW hF hat hm
    have hwI := WM_f hW
    omega
  | succ m ih =>
    intro I hW hF hat hm
    have hwI := WM_f hW
    refine rX12_look_0 ht ?_
    refine ⟨fun hc1 => ?_, fun hc2 => ?_⟩
    · skip
      have q1 := i32_lo (I t 8)
      have q2 := i32_lo (I t 22)
      have hc1 := Int32.le_iff_toInt_le.mp hc1
      refine ⟨fun hc3 => ?_, fun hc4 => ?_⟩
      · skip
        have hc3 : ¬ ((I t 22)).toInt = ((I t 8)).toInt := fun z => hc3 (Int32.toInt_inj.mp z)
        refine ⟨vp_of (by omega) (by omega), ?_⟩
        refine sfX12_isLetter  trivial  (fun v3  hp5 => ?_)
        refine ⟨fun hc6 => ?_, fun hc7 => ?_⟩
        · skip
          have q3 := i32_lo v3
          have q4 : (0 : Int32).toInt = 0 := rfl
          have hc6 := Int32.toInt_inj.mpr hc6
          have hr8 : (((uI (uI I t 24 (I t 22)) t 25 0)) t 22).toInt = ((I t 22)).toInt := congrArg Int32.toInt (uI_sk (by decide) (uI_sk (by decide) rfl))
          refine ⟨vp_of (by omega) (by omega), ?_⟩
          have hr9 : (((uI (uI I t 24 (I t 22)) t 25 0)) (t + 16) (Int32.toNatClampNeg ((uI (uI I t 24 (I t 22)) t 25 0) t 22))).toInt = ((I (t + 16) (Int32.toNatClampNeg ((uI (uI I t 24 (I t 22)) t 25 0) t 22)))).toInt := congrArg Int32.toInt (uI_ne (by omega) (uI_ne (by omega) rfl))
          refine sfX12_isDigit  trivial  (fun v6  hp10 => ?_)
          refine ⟨fun hc11 => ?_, fun hc12 => ?_⟩
          · skip
            have q5 := i32_lo v6
            have hc11 := Int32.toInt_inj.mpr hc11
            refine ⟨vp_of (by omega) (by omega), ?_⟩
            refine ⟨fun hc13 => ?_, fun hc14 => ?_⟩
            · skip
              have q6 : (59 : Int32).toInt = 59 := rfl
              have hc13 : ¬ (((uI (uI I t 24 (I t 22)) t 25 0) (t + 16) (Int32.toNatClampNeg ((uI (uI I t 24 (I t 22)) t 25 0) t 22)))).toInt = (59 : Int32).toInt := fun z => hc13 (Int32.toInt_inj.mp z)
              have q7 : (1 : Int32).toInt = 1 := rfl
              have q8 := i32_add ((uI (uI I t 24 (I t 22)) t 25 0) t 22) 1 (by omega) (by omega)
              have hr15 : (((uI (uI (uI (uI I t 24 (I t 22)) t 25 0) t 23 4) t 22 (((uI (uI I t 24 (I t 22)) t 25 0) t 22) + 1))) t 22).toInt = ((((uI (uI I t 24 (I t 22)) t 25 0) t 22) + 1)).toInt := congrArg Int32.toInt (uI_ss _ _ _ _)
              have hr16 : (((uI (uI (uI (uI I t 24 (I t 22)) t 25 0) t 23 4) t 22 (((uI (uI I t 24 (I t 22)) t 25 0) t 22) + 1))) t 8).toInt = ((I t 8)).toInt := congrArg Int32.toInt (uI_sk (by decide) (uI_sk (by decide) (uI_sk (by decide) (uI_sk (by decide) rfl))))
              have hr17 : (((uI (uI (uI (uI I t 24 (I t 22)) t 25 0) t 23 4) t 22 (((uI (uI I t 24 (I t 22)) t 25 0) t 22) + 1))) t 23).toInt = ((4 : Int32)).toInt := congrArg Int32.toInt (uI_sk (by decide) (uI_ss _ _ _ _))
              have q9 : (4 : Int32).toInt = 4 := rfl
              exact hK _ (WM_uI (WM_uI (WM_uI (WM_uI hW (by first | exact okMo (by decide) (by decide) (by decide) (by decide) (by decide) | exact okMf (by decide) (by decide) (by decide) (by decide) (by decide) (by decide) (by decide) (by decide) | exact okM30 (by omega) | exact okM42 (by omega) | exact okM33 (by omega) | exact okM10 (by omega) | exact okM8 (by omega) | exact okM22 (by omega) | exact okM24 (by omega) | exact okM14 (by omega) | exact okMa31 (by omega) | exact okMa35 (by omega) | exact okMa36 (by omega) | exact okMa3 (by omega) | exact okMr (by omega) | (unfold okM; refine ⟨?_, ?_, ?_, ?_, ?_, ?_, ?_, ?_, ?_, ?_, ?_, ?_⟩ <;> intro h <;> omega))) (by first | exact okMo (by decide) (by decide) (by decide) (by decide) (by decide) | exact okMf (by decide) (by decide) (by decide) (by decide) (by decide) (by decide) (by decide) (by decide) | exact okM30 (by omega) | exact okM42 (by omega) | exact okM33 (by omega) | exact okM10 (by omega) | exact okM8 (by omega) | exact okM22 (by omega) | exact okM24 (by omega) | exact okM14 (by omega) | exact okMa31 (by omega) | exact okMa35 (by omega) | exact okMa36 (by omega) | exact okMa3 (by omega) | exact okMr (by omega) | (unfold okM; refine ⟨?_, ?_, ?_, ?_, ?_, ?_, ?_, ?_, ?_, ?_, ?_, ?_⟩ <;> intro h <;> omega))) (by first | exact okMo (by decide) (by decide) (by decide) (by decide) (by decide) | exact okMf (by decide) (by decide) (by decide) (by decide) (by decide) (by decide) (by decide) (by decide) | exact okM30 (by omega) | exact okM42 (by omega) | exact okM33 (by omega) | exact okM10 (by omega) | exact okM8 (by omega) | exact okM22 (by omega) | exact okM24 (by omega) | exact okM14 (by omega) | exact okMa31 (by omega) | exact okMa35 (by omega) | exact okMa36 (by omega) | exact okMa3 (by omega) | exact okMr (by omega) | (unfold okM; refine ⟨?_, ?_, ?_, ?_, ?_, ?_, ?_, ?_, ?_, ?_, ?_, ?_⟩ <;> intro h <;> omega))) (by first | exact okMo (by decide) (by decide) (by decide) (by decide) (by decide) | exact okMf (by decide) (by decide) (by decide) (by decide) (by decide) (by decide) (by decide) (by decide) | exact okM30 (by omega) | exact okM42 (by omega) | exact okM33 (by omega) | exact okM10 (by omega) | exact okM8 (by omega) | exact okM22 (by omega) | exact okM24 (by omega) | exact okM14 (by omega) | exact okMa31 (by omega) | exact okMa35 (by omega) | exact okMa36 (by omega) | exact okMa3 (by omega) | exact okMr (by omega) | (unfold okM; refine ⟨?_, ?_, ?_, ?_, ?_, ?_, ?_, ?_, ?_, ?_, ?_, ?_⟩ <;> intro h <;> omega))) (Fr_uI (Fr_uI (Fr_uI (Fr_uI hF (by omega)) (by omega)) (by omega)) (by omega)) (by omega)
            · skip
              have q6 : (59 : Int32).toInt = 59 := rfl
              have hc14 := Int32.toInt_inj.mpr hc14
              have q7 : (1 : Int32).toInt = 1 := rfl
              have q8 := i32_add ((uI (uI I t 24 (I t 22)) t 25 0) t 22) 1 (by omega) (by omega)
              have hr18 : (((uI (uI (uI (uI I t 24 (I t 22)) t 25 0) t 23 3) t 22 (((uI (uI I t 24 (I t 22)) t 25 0) t 22) + 1))) t 22).toInt = ((((uI (uI I t 24 (I t 22)) t 25 0) t 22) + 1)).toInt := congrArg Int32.toInt (uI_ss _ _ _ _)
              have hr19 : (((uI (uI (uI (uI I t 24 (I t 22)) t 25 0) t 23 3) t 22 (((uI (uI I t 24 (I t 22)) t 25 0) t 22) + 1))) t 8).toInt = ((I t 8)).toInt := congrArg Int32.toInt (uI_sk (by decide) (uI_sk (by decide) (uI_sk (by decide) (uI_sk (by decide) rfl))))
              have hr20 : (((uI (uI (uI (uI I t 24 (I t 22)) t 25 0) t 23 3) t 22 (((uI (uI I t 24 (I t 22)) t 25 0) t 22) + 1))) t 23).toInt = ((3 : Int32)).toInt := congrArg Int32.toInt (uI_sk (by decide) (uI_ss _ _ _ _))
              have q9 : (3 : Int32).toInt = 3 := rfl
              exact hK _ (WM_uI (WM_uI (WM_uI (WM_uI hW (by first | exact okMo (by decide) (by decide) (by decide) (by decide) (by decide) | exact okMf (by decide) (by decide) (by decide) (by decide) (by decide) (by decide) (by decide) (by decide) | exact okM30 (by omega) | exact okM42 (by omega) | exact okM33 (by omega) | exact okM10 (by omega) | exact okM8 (by omega) | exact okM22 (by omega) | exact okM24 (by omega) | exact okM14 (by omega) | exact okMa31 (by omega) | exact okMa35 (by omega) | exact okMa36 (by omega) | exact okMa3 (by omega) | exact okMr (by omega) | (unfold okM; refine ⟨?_, ?_, ?_, ?_, ?_, ?_, ?_, ?_, ?_, ?_, ?_, ?_⟩ <;> intro h <;> omega))) (by first | exact okMo (by decide) (by decide) (by decide) (by decide) (by decide) | exact okMf (by decide) (by decide) (by decide) (by decide) (by decide) (by decide) (by decide) (by decide) | exact okM30 (by omega) | exact okM42 (by omega) | exact okM33 (by omega) | exact okM10 (by omega) | exact okM8 (by omega) | exact okM22 (by omega) | exact okM24 (by omega) | exact okM14 (by omega) | exact okMa31 (by omega) | exact okMa35 (by omega) | exact okMa36 (by omega) | exact okMa3 (by omega) | exact okMr (by omega) | (unfold okM; refine ⟨?_, ?_, ?_, ?_, ?_, ?_, ?_, ?_, ?_, ?_, ?_, ?_⟩ <;> intro h <;> omega))) (by first | exact okMo (by decide) (by decide) (by decide) (by decide) (by decide) | exact okMf (by decide) (by decide) (by decide) (by decide) (by decide) (by decide) (by decide) (by decide) | exact okM30 (by omega) | exact okM42 (by omega) | exact okM33 (by omega) | exact okM10 (by omega) | exact okM8 (by omega) | exact okM22 (by omega) | exact okM24 (by omega) | exact okM14 (by omega) | exact okMa31 (by omega) | exact okMa35 (by omega) | exact okMa36 (by omega) | exact okMa3 (by omega) | exact okMr (by omega) | (unfold okM; refine ⟨?_, ?_, ?_, ?_, ?_, ?_, ?_, ?_, ?_, ?_, ?_, ?_⟩ <;> intro h <;> omega))) (by first | exact okMo (by decide) (by decide) (by decide) (by decide) (by decide) | exact okMf (by decide) (by decide) (by decide) (by decide) (by decide) (by decide) (by decide) (by decide) | exact okM30 (by omega) | exact okM42 (by omega) | exact okM33 (by omega) | exact okM10 (by omega) | exact okM8 (by omega) | exact okM22 (by omega) | exact okM24 (by omega) | exact okM14 (by omega) | exact okMa31 (by omega) | exact okMa35 (by omega) | exact okMa36 (by omega) | exact okMa3 (by omega) | exact okMr (by omega) | (unfold okM; refine ⟨?_, ?_, ?_, ?_, ?_, ?_, ?_, ?_, ?_, ?_, ?_, ?_⟩ <;> intro h <;> omega))) (Fr_uI (Fr_uI (Fr_uI (Fr_uI hF (by omega)) (by omega)) (by omega)) (by omega)) (by omega)
          · skip
            have q5 := i32_lo v6
            have hc12 : ¬ (v6).toInt = (0 : Int32).toInt := fun z => hc12 (Int32.toInt_inj.mp z)
            have hr21 : (((uI (uI (uI I t 24 (I t 22)) t 25 0) t 23 2)) t 22).toInt = ((I t 22)).toInt := congrArg Int32.toInt (uI_sk (by decide) (uI_sk (by decide) (uI_sk (by decide) rfl)))
            have hr22 : (((uI (uI (uI I t 24 (I t 22)) t 25 0) t 23 2)) t 8).toInt = ((I t 8)).toInt := congrArg Int32.toInt (uI_sk (by decide) (uI_sk (by decide) (uI_sk (by decide) rfl)))
            have hr23 : (((uI (uI (uI I t 24 (I t 22)) t 25 0) t 23 2)) t 23).toInt = ((2 : Int32)).toInt := congrArg Int32.toInt (uI_ss _ _ _ _)
            have q6 : (2 : Int32).toInt = 2 := rfl
            exact lX12_look_149 ht   hK  ((250 - ((uI (uI (uI I t 24 (I t 22)) t 25 0) t 23 2) t 22).toInt).toNat + 1) _ (WM_uI (WM_uI (WM_uI hW (by first | exact okMo (by decide) (by decide) (by decide) (by decide) (by decide) | exact okMf (by decide) (by decide) (by decide) (by decide) (by decide) (by decide) (by decide) (by decide) | exact okM30 (by omega) | exact okM42 (by omega) | exact okM33 (by omega) | exact okM10 (by omega) | exact okM8 (by omega) | exact okM22 (by omega) | exact okM24 (by omega) | exact okM14 (by omega) | exact okMa31 (by omega) | exact okMa35 (by omega) | exact okMa36 (by omega) | exact okMa3 (by omega) | exact okMr (by omega) | (unfold okM; refine ⟨?_, ?_, ?_, ?_, ?_, ?_, ?_, ?_, ?_, ?_, ?_, ?_⟩ <;> intro h <;> omega))) (by first | exact okMo (by decide) (by decide) (by decide) (by decide) (by decide) | exact okMf (by decide) (by decide) (by decide) (by decide) (by decide) (by decide) (by decide) (by decide) | exact okM30 (by omega) | exact okM42 (by omega) | exact okM33 (by omega) | exact okM10 (by omega) | exact okM8 (by omega) | exact okM22 (by omega) | exact okM24 (by omega) | exact okM14 (by omega) | exact okMa31 (by omega) | exact okMa35 (by omega) | exact okMa36 (by omega) | exact okMa3 (by omega) | exact okMr (by omega) | (unfold okM; refine ⟨?_, ?_, ?_, ?_, ?_, ?_, ?_, ?_, ?_, ?_, ?_, ?_⟩ <;> intro h <;> omega))) (by first | exact okMo (by decide) (by decide) (by decide) (by decide) (by decide) | exact okMf (by decide) (by decide) (by decide) (by decide) (by decide) (by decide) (by decide) (by decide) | exact okM30 (by omega) | exact okM42 (by omega) | exact okM33 (by omega) | exact okM10 (by omega) | exact okM8 (by omega) | exact okM22 (by omega) | exact okM24 (by omega) | exact okM14 (by omega) | exact okMa31 (by omega) | exact okMa35 (by omega) | exact okMa36 (by omega) | exact okMa3 (by omega) | exact okMr (by omega) | (unfold okM; refine ⟨?_, ?_, ?_, ?_, ?_, ?_, ?_, ?_, ?_, ?_, ?_, ?_⟩ <;> intro h <;> omega))) (Fr_uI (Fr_uI (Fr_uI hF (by omega)) (by omega)) (by omega)) (by omega) (by omega) (by omega)
        · skip
          have q3 := i32_lo v3
          have q4 : (0 : Int32).toInt = 0 := rfl
          have hc7 : ¬ (v3).toInt = (0 : Int32).toInt := fun z => hc7 (Int32.toInt_inj.mp z)
          have hr24 : (((uI (uI (uI I t 24 (I t 22)) t 25 0) t 23 1)) t 22).toInt = ((I t 22)).toInt := congrArg Int32.toInt (uI_sk (by decide) (uI_sk (by decide) (uI_sk (by decide) rfl)))
          have hr25 : (((uI (uI (uI I t 24 (I t 22)) t 25 0) t 23 1)) t 8).toInt = ((I t 8)).toInt := congrArg Int32.toInt (uI_sk (by decide) (uI_sk (by decide) (uI_sk (by decide) rfl)))
          have hr26 : (((uI (uI (uI I t 24 (I t 22)) t 25 0) t 23 1)) t 23).toInt = ((1 : Int32)).toInt := congrArg Int32.toInt (uI_ss _ _ _ _)
          have q5 : (1 : Int32).toInt = 1 := rfl
          exact lX12_look_90 ht   hK  ((250 - ((uI (uI (uI I t 24 (I t 22)) t 25 0) t 23 1) t 22).toInt).toNat + 1) _ (WM_uI (WM_uI (WM_uI hW (by first | exact okMo (by decide) (by decide) (by decide) (by decide) (by decide) | exact okMf (by decide) (by decide) (by decide) (by decide) (by decide) (by decide) (by decide) (by decide) | exact okM30 (by omega) | exact okM42 (by omega) | exact okM33 (by omega) | exact okM10 (by omega) | exact okM8 (by omega) | exact okM22 (by omega) | exact okM24 (by omega) | exact okM14 (by omega) | exact okMa31 (by omega) | exact okMa35 (by omega) | exact okMa36 (by omega) | exact okMa3 (by omega) | exact okMr (by omega) | (unfold okM; refine ⟨?_, ?_, ?_, ?_, ?_, ?_, ?_, ?_, ?_, ?_, ?_, ?_⟩ <;> intro h <;> omega))) (by first | exact okMo (by decide) (by decide) (by decide) (by decide) (by decide) | exact okMf (by decide) (by decide) (by decide) (by decide) (by decide) (by decide) (by decide) (by decide) | exact okM30 (by omega) | exact okM42 (by omega) | exact okM33 (by omega) | exact okM10 (by omega) | exact okM8 (by omega) | exact okM22 (by omega) | exact okM24 (by omega) | exact okM14 (by omega) | exact okMa31 (by omega) | exact okMa35 (by omega) | exact okMa36 (by omega) | exact okMa3 (by omega) | exact okMr (by omega) | (unfold okM; refine ⟨?_, ?_, ?_, ?_, ?_, ?_, ?_, ?_, ?_, ?_, ?_, ?_⟩ <;> intro h <;> omega))) (by first | exact okMo (by decide) (by decide) (by decide) (by decide) (by decide) | exact okMf (by decide) (by decide) (by decide) (by decide) (by decide) (by decide) (by decide) (by decide) | exact okM30 (by omega) | exact okM42 (by omega) | exact okM33 (by omega) | exact okM10 (by omega) | exact okM8 (by omega) | exact okM22 (by omega) | exact okM24 (by omega) | exact okM14 (by omega) | exact okMa31 (by omega) | exact okMa35 (by omega) | exact okMa36 (by omega) | exact okMa3 (by omega) | exact okMr (by omega) | (unfold okM; refine ⟨?_, ?_, ?_, ?_, ?_, ?_, ?_, ?_, ?_, ?_, ?_, ?_⟩ <;> intro h <;> omega))) (Fr_uI (Fr_uI (Fr_uI hF (by omega)) (by omega)) (by omega)) (by omega) (by omega) (by omega)
      · skip
        have hc4 := Int32.toInt_inj.mpr hc4
        have hr27 : (((uI (uI (uI I t 24 (I t 22)) t 25 0) t 23 0)) t 22).toInt = ((I t 22)).toInt := congrArg Int32.toInt (uI_sk (by decide) (uI_sk (by decide) (uI_sk (by decide) rfl)))
        have hr28 : (((uI (uI (uI I t 24 (I t 22)) t 25 0) t 23 0)) t 8).toInt = ((I t 8)).toInt := congrArg Int32.toInt (uI_sk (by decide) (uI_sk (by decide) (uI_sk (by decide) rfl)))
        have hr29 : (((uI (uI (uI I t 24 (I t 22)) t 25 0) t 23 0)) t 23).toInt = ((0 : Int32)).toInt := congrArg Int32.toInt (uI_ss _ _ _ _)
        have q3 : (0 : Int32).toInt = 0 := rfl
        exact hK _ (WM_uI (WM_uI (WM_uI hW (by first | exact okMo (by decide) (by decide) (by decide) (by decide) (by decide) | exact okMf (by decide) (by decide) (by decide) (by decide) (by decide) (by decide) (by decide) (by decide) | exact okM30 (by omega) | exact okM42 (by omega) | exact okM33 (by omega) | exact okM10 (by omega) | exact okM8 (by omega) | exact okM22 (by omega) | exact okM24 (by omega) | exact okM14 (by omega) | exact okMa31 (by omega) | exact okMa35 (by omega) | exact okMa36 (by omega) | exact okMa3 (by omega) | exact okMr (by omega) | (unfold okM; refine ⟨?_, ?_, ?_, ?_, ?_, ?_, ?_, ?_, ?_, ?_, ?_, ?_⟩ <;> intro h <;> omega))) (by first | exact okMo (by decide) (by decide) (by decide) (by decide) (by decide) | exact okMf (by decide) (by decide) (by decide) (by decide) (by decide) (by decide) (by decide) (by decide) | exact okM30 (by omega) | exact okM42 (by omega) | exact okM33 (by omega) | exact okM10 (by omega) | exact okM8 (by omega) | exact okM22 (by omega) | exact okM24 (by omega) | exact okM14 (by omega) | exact okMa31 (by omega) | exact okMa35 (by omega) | exact okMa36 (by omega) | exact okMa3 (by omega) | exact okMr (by omega) | (unfold okM; refine ⟨?_, ?_, ?_, ?_, ?_, ?_, ?_, ?_, ?_, ?_, ?_, ?_⟩ <;> intro h <;> omega))) (by first | exact okMo (by decide) (by decide) (by decide) (by decide) (by decide) | exact okMf (by decide) (by decide) (by decide) (by decide) (by decide) (by decide) (by decide) (by decide) | exact okM30 (by omega) | exact okM42 (by omega) | exact okM33 (by omega) | exact okM10 (by omega) | exact okM8 (by omega) | exact okM22 (by omega) | exact okM24 (by omega) | exact okM14 (by omega) | exact okMa31 (by omega) | exact okMa35 (by omega) | exact okMa36 (by omega) | exact okMa3 (by omega) | exact okMr (by omega) | (unfold okM; refine ⟨?_, ?_, ?_, ?_, ?_, ?_, ?_, ?_, ?_, ?_, ?_, ?_⟩ <;> intro h <;> omega))) (Fr_uI (Fr_uI (Fr_uI hF (by omega)) (by omega)) (by omega)) (by omega)
    · skip
      have q1 := i32_lo (I t 8)
      have q2 := i32_lo (I t 22)
      have hc2 := mt Int32.le_iff_toInt_le.mpr hc2
      refine ⟨vp_of (by omega) (by omega), ?_⟩
      refine ⟨fun hc30 => ?_, fun hc31 => ?_⟩
      · skip
        have q3 : (32 : Int32).toInt = 32 := rfl
        have hc30 : ¬ ((I (t + 16) (Int32.toNatClampNeg (I t 22)))).toInt = (32 : Int32).toInt := fun z => hc30 (Int32.toInt_inj.mp z)
        refine ⟨fun hc32 => ?_, fun hc33 => ?_⟩
        · skip
          have hc32 : ¬ ((I t 22)).toInt = ((I t 8)).toInt := fun z => hc32 (Int32.toInt_inj.mp z)
          refine ⟨vp_of (by omega) (by omega), ?_⟩
          refine sfX12_isLetter  trivial  (fun v11  hp34 => ?_)
          refine ⟨fun hc35 => ?_, fun hc36 => ?_⟩
          · skip
            have q4 := i32_lo v11
            have q5 : (0 : Int32).toInt = 0 := rfl
            have hc35 := Int32.toInt_inj.mpr hc35
            have hr37 : (((uI (uI I t 24 (I t 22)) t 25 0)) t 22).toInt = ((I t 22)).toInt := congrArg Int32.toInt (uI_sk (by decide) (uI_sk (by decide) rfl))
            refine ⟨vp_of (by omega) (by omega), ?_⟩
            have hr38 : (((uI (uI I t 24 (I t 22)) t 25 0)) (t + 16) (Int32.toNatClampNeg ((uI (uI I t 24 (I t 22)) t 25 0) t 22))).toInt = ((I (t + 16) (Int32.toNatClampNeg ((uI (uI I t 24 (I t 22)) t 25 0) t 22)))).toInt := congrArg Int32.toInt (uI_ne (by omega) (uI_ne (by omega) rfl))
            refine sfX12_isDigit  trivial  (fun v14  hp39 => ?_)
            refine ⟨fun hc40 => ?_, fun hc41 => ?_⟩
            · skip
              have q6 := i32_lo v14
              have hc40 := Int32.toInt_inj.mpr hc40
              refine ⟨vp_of (by omega) (by omega), ?_⟩
              refine ⟨fun hc42 => ?_, fun hc43 => ?_⟩
              · skip
                have q7 : (59 : Int32).toInt = 59 := rfl
                have hc42 : ¬ (((uI (uI I t 24 (I t 22)) t 25 0) (t + 16) (Int32.toNatClampNeg ((uI (uI I t 24 (I t 22)) t 25 0) t 22)))).toInt = (59 : Int32).toInt := fun z => hc42 (Int32.toInt_inj.mp z)
                have q8 : (1 : Int32).toInt = 1 := rfl
                have q9 := i32_add ((uI (uI I t 24 (I t 22)) t 25 0) t 22) 1 (by omega) (by omega)
                have hr44 : (((uI (uI (uI (uI I t 24 (I t 22)) t 25 0) t 23 4) t 22 (((uI (uI I t 24 (I t 22)) t 25 0) t 22) + 1))) t 22).toInt = ((((uI (uI I t 24 (I t 22)) t 25 0) t 22) + 1)).toInt := congrArg Int32.toInt (uI_ss _ _ _ _)
                have hr45 : (((uI (uI (uI (uI I t 24 (I t 22)) t 25 0) t 23 4) t 22 (((uI (uI I t 24 (I t 22)) t 25 0) t 22) + 1))) t 8).toInt = ((I t 8)).toInt := congrArg Int32.toInt (uI_sk (by decide) (uI_sk (by decide) (uI_sk (by decide) (uI_sk (by decide) rfl))))
                have hr46 : (((uI (uI (uI (uI I t 24 (I t 22)) t 25 0) t 23 4) t 22 (((uI (uI I t 24 (I t 22)) t 25 0) t 22) + 1))) t 23).toInt = ((4 : Int32)).toInt := congrArg Int32.toInt (uI_sk (by decide) (uI_ss _ _ _ _))
                have q10 : (4 : Int32).toInt = 4 := rfl
                exact hK _ (WM_uI (WM_uI (WM_uI (WM_uI hW (by first | exact okMo (by decide) (by decide) (by decide) (by decide) (by decide) | exact okMf (by decide) (by decide) (by decide) (by decide) (by decide) (by decide) (by decide) (by decide) | exact okM30 (by omega) | exact okM42 (by omega) | exact okM33 (by omega) | exact okM10 (by omega) | exact okM8 (by omega) | exact okM22 (by omega) | exact okM24 (by omega) | exact okM14 (by omega) | exact okMa31 (by omega) | exact okMa35 (by omega) | exact okMa36 (by omega) | exact okMa3 (by omega) | exact okMr (by omega) | (unfold okM; refine ⟨?_, ?_, ?_, ?_, ?_, ?_, ?_, ?_, ?_, ?_, ?_, ?_⟩ <;> intro h <;> omega))) (by first | exact okMo (by decide) (by decide) (by decide) (by decide) (by decide) | exact okMf (by decide) (by decide) (by decide) (by decide) (by decide) (by decide) (by decide) (by decide) | exact okM30 (by omega) | exact okM42 (by omega) | exact okM33 (by omega) | exact okM10 (by omega) | exact okM8 (by omega) | exact okM22 (by omega) | exact okM24 (by omega) | exact okM14 (by omega) | exact okMa31 (by omega) | exact okMa35 (by omega) | exact okMa36 (by omega) | exact okMa3 (by omega) | exact okMr (by omega) | (unfold okM; refine ⟨?_, ?_, ?_, ?_, ?_, ?_, ?_, ?_, ?_, ?_, ?_, ?_⟩ <;> intro h <;> omega))) (by first | exact okMo (by decide) (by decide) (by decide) (by decide) (by decide) | exact okMf (by decide) (by decide) (by decide) (by decide) (by decide) (by decide) (by decide) (by decide) | exact okM30 (by omega) | exact okM42 (by omega) | exact okM33 (by omega) | exact okM10 (by omega) | exact okM8 (by omega) | exact okM22 (by omega) | exact okM24 (by omega) | exact okM14 (by omega) | exact okMa31 (by omega) | exact okMa35 (by omega) | exact okMa36 (by omega) | exact okMa3 (by omega) | exact okMr (by omega) | (unfold okM; refine ⟨?_, ?_, ?_, ?_, ?_, ?_, ?_, ?_, ?_, ?_, ?_, ?_⟩ <;> intro h <;> omega))) (by first | exact okMo (by decide) (by decide) (by decide) (by decide) (by decide) | exact okMf (by decide) (by decide) (by decide) (by decide) (by decide) (by decide) (by decide) (by decide) | exact okM30 (by omega) | exact okM42 (by omega) | exact okM33 (by omega) | exact okM10 (by omega) | exact okM8 (by omega) | exact okM22 (by omega) | exact okM24 (by omega) | exact okM14 (by omega) | exact okMa31 (by omega) | exact okMa35 (by omega) | exact okMa36 (by omega) | exact okMa3 (by omega) | exact okMr (by omega) | (unfold okM; refine ⟨?_, ?_, ?_, ?_, ?_, ?_, ?_, ?_, ?_, ?_, ?_, ?_⟩ <;> intro h <;> omega))) (Fr_uI (Fr_uI (Fr_uI (Fr_uI hF (by omega)) (by omega)) (by omega)) (by omega)) (by omega)
              · skip
                have q7 : (59 : Int32).toInt = 59 := rfl
                have hc43 := Int32.toInt_inj.mpr hc43
                have q8 : (1 : Int32).toInt = 1 := rfl
                have q9 := i32_add ((uI (uI I t 24 (I t 22)) t 25 0) t 22) 1 (by omega) (by omega)
                have hr47 : (((uI (uI (uI (uI I t 24 (I t 22)) t 25 0) t 23 3) t 22 (((uI (uI I t 24 (I t 22)) t 25 0) t 22) + 1))) t 22).toInt = ((((uI (uI I t 24 (I t 22)) t 25 0) t 22) + 1)).toInt := congrArg Int32.toInt (uI_ss _ _ _ _)
                have hr48 : (((uI (uI (uI (uI I t 24 (I t 22)) t 25 0) t 23 3) t 22 (((uI (uI I t 24 (I t 22)) t 25 0) t 22) + 1))) t 8).toInt = ((I t 8)).toInt := congrArg Int32.toInt (uI_sk (by decide) (uI_sk (by decide) (uI_sk (by decide) (uI_sk (by decide) rfl))))
                have hr49 : (((uI (uI (uI (uI I t 24 (I t 22)) t 25 0) t 23 3) t 22 (((uI (uI I t 24 (I t 22)) t 25 0) t 22) + 1))) t 23).toInt = ((3 : Int32)).toInt := congrArg Int32.toInt (uI_sk (by decide) (uI_ss _ _ _ _))
                have q10 : (3 : Int32).toInt = 3 := rfl
                exact hK _ (WM_uI (WM_uI (WM_uI (WM_uI hW (by first | exact okMo (by decide) (by decide) (by decide) (by decide) (by decide) | exact okMf (by decide) (by decide) (by decide) (by decide) (by decide) (by decide) (by decide) (by decide) | exact okM30 (by omega) | exact okM42 (by omega) | exact okM33 (by omega) | exact okM10 (by omega) | exact okM8 (by omega) | exact okM22 (by omega) | exact okM24 (by omega) | exact okM14 (by omega) | exact okMa31 (by omega) | exact okMa35 (by omega) | exact okMa36 (by omega) | exact okMa3 (by omega) | exact okMr (by omega) | (unfold okM; refine ⟨?_, ?_, ?_, ?_, ?_, ?_, ?_, ?_, ?_, ?_, ?_, ?_⟩ <;> intro h <;> omega))) (by first | exact okMo (by decide) (by decide) (by decide) (by decide) (by decide) | exact okMf (by decide) (by decide) (by decide) (by decide) (by decide) (by decide) (by decide) (by decide) | exact okM30 (by omega) | exact okM42 (by omega) | exact okM33 (by omega) | exact okM10 (by omega) | exact okM8 (by omega) | exact okM22 (by omega) | exact okM24 (by omega) | exact okM14 (by omega) | exact okMa31 (by omega) | exact okMa35 (by omega) | exact okMa36 (by omega) | exact okMa3 (by omega) | exact okMr (by omega) | (unfold okM; refine ⟨?_, ?_, ?_, ?_, ?_, ?_, ?_, ?_, ?_, ?_, ?_, ?_⟩ <;> intro h <;> omega))) (by first | exact okMo (by decide) (by decide) (by decide) (by decide) (by decide) | exact okMf (by decide) (by decide) (by decide) (by decide) (by decide) (by decide) (by decide) (by decide) | exact okM30 (by omega) | exact okM42 (by omega) | exact okM33 (by omega) | exact okM10 (by omega) | exact okM8 (by omega) | exact okM22 (by omega) | exact okM24 (by omega) | exact okM14 (by omega) | exact okMa31 (by omega) | exact okMa35 (by omega) | exact okMa36 (by omega) | exact okMa3 (by omega) | exact okMr (by omega) | (unfold okM; refine ⟨?_, ?_, ?_, ?_, ?_, ?_, ?_, ?_, ?_, ?_, ?_, ?_⟩ <;> intro h <;> omega))) (by first | exact okMo (by decide) (by decide) (by decide) (by decide) (by decide) | exact okMf (by decide) (by decide) (by decide) (by decide) (by decide) (by decide) (by decide) (by decide) | exact okM30 (by omega) | exact okM42 (by omega) | exact okM33 (by omega) | exact okM10 (by omega) | exact okM8 (by omega) | exact okM22 (by omega) | exact okM24 (by omega) | exact okM14 (by omega) | exact okMa31 (by omega) | exact okMa35 (by omega) | exact okMa36 (by omega) | exact okMa3 (by omega) | exact okMr (by omega) | (unfold okM; refine ⟨?_, ?_, ?_, ?_, ?_, ?_, ?_, ?_, ?_, ?_, ?_, ?_⟩ <;> intro h <;> omega))) (Fr_uI (Fr_uI (Fr_uI (Fr_uI hF (by omega)) (by omega)) (by omega)) (by omega)) (by omega)
            · skip
              have q6 := i32_lo v14
              have hc41 : ¬ (v14).toInt = (0 : Int32).toInt := fun z => hc41 (Int32.toInt_inj.mp z)
              have hr50 : (((uI (uI (uI I t 24 (I t 22)) t 25 0) t 23 2)) t 22).toInt = ((I t 22)).toInt := congrArg Int32.toInt (uI_sk (by decide) (uI_sk (by decide) (uI_sk (by decide) rfl)))
              have hr51 : (((uI (uI (uI I t 24 (I t 22)) t 25 0) t 23 2)) t 8).toInt = ((I t 8)).toInt := congrArg Int32.toInt (uI_sk (by decide) (uI_sk (by decide) (uI_sk (by decide) rfl)))
              have hr52 : (((uI (uI (uI I t 24 (I t 22)) t 25 0) t 23 2)) t 23).toInt = ((2 : Int32)).toInt := congrArg Int32.toInt (uI_ss _ _ _ _)
              have q7 : (2 : Int32).toInt = 2 := rfl
              exact lX12_look_149 ht   hK  ((250 - ((uI (uI (uI I t 24 (I t 22)) t 25 0) t 23 2) t 22).toInt).toNat + 1) _ (WM_uI (WM_uI (WM_uI hW (by first | exact okMo (by decide) (by decide) (by decide) (by decide) (by decide) | exact okMf (by decide) (by decide) (by decide) (by decide) (by decide) (by decide) (by decide) (by decide) | exact okM30 (by omega) | exact okM42 (by omega) | exact okM33 (by omega) | exact okM10 (by omega) | exact okM8 (by omega) | exact okM22 (by omega) | exact okM24 (by omega) | exact okM14 (by omega) | exact okMa31 (by omega) | exact okMa35 (by omega) | exact okMa36 (by omega) | exact okMa3 (by omega) | exact okMr (by omega) | (unfold okM; refine ⟨?_, ?_, ?_, ?_, ?_, ?_, ?_, ?_, ?_, ?_, ?_, ?_⟩ <;> intro h <;> omega))) (by first | exact okMo (by decide) (by decide) (by decide) (by decide) (by decide) | exact okMf (by decide) (by decide) (by decide) (by decide) (by decide) (by decide) (by decide) (by decide) | exact okM30 (by omega) | exact okM42 (by omega) | exact okM33 (by omega) | exact okM10 (by omega) | exact okM8 (by omega) | exact okM22 (by omega) | exact okM24 (by omega) | exact okM14 (by omega) | exact okMa31 (by omega) | exact okMa35 (by omega) | exact okMa36 (by omega) | exact okMa3 (by omega) | exact okMr (by omega) | (unfold okM; refine ⟨?_, ?_, ?_, ?_, ?_, ?_, ?_, ?_, ?_, ?_, ?_, ?_⟩ <;> intro h <;> omega))) (by first | exact okMo (by decide) (by decide) (by decide) (by decide) (by decide) | exact okMf (by decide) (by decide) (by decide) (by decide) (by decide) (by decide) (by decide) (by decide) | exact okM30 (by omega) | exact okM42 (by omega) | exact okM33 (by omega) | exact okM10 (by omega) | exact okM8 (by omega) | exact okM22 (by omega) | exact okM24 (by omega) | exact okM14 (by omega) | exact okMa31 (by omega) | exact okMa35 (by omega) | exact okMa36 (by omega) | exact okMa3 (by omega) | exact okMr (by omega) | (unfold okM; refine ⟨?_, ?_, ?_, ?_, ?_, ?_, ?_, ?_, ?_, ?_, ?_, ?_⟩ <;> intro h <;> omega))) (Fr_uI (Fr_uI (Fr_uI hF (by omega)) (by omega)) (by omega)) (by omega) (by omega) (by omega)
          · skip
            have q4 := i32_lo v11
            have q5 : (0 : Int32).toInt = 0 := rfl
            have hc36 : ¬ (v11).toInt = (0 : Int32).toInt := fun z => hc36 (Int32.toInt_inj.mp z)
            have hr53 : (((uI (uI (uI I t 24 (I t 22)) t 25 0) t 23 1)) t 22).toInt = ((I t 22)).toInt := congrArg Int32.toInt (uI_sk (by decide) (uI_sk (by decide) (uI_sk (by decide) rfl)))
            have hr54 : (((uI (uI (uI I t 24 (I t 22)) t 25 0) t 23 1)) t 8).toInt = ((I t 8)).toInt := congrArg Int32.toInt (uI_sk (by decide) (uI_sk (by decide) (uI_sk (by decide) rfl)))
            have hr55 : (((uI (uI (uI I t 24 (I t 22)) t 25 0) t 23 1)) t 23).toInt = ((1 : Int32)).toInt := congrArg Int32.toInt (uI_ss _ _ _ _)
            have q6 : (1 : Int32).toInt = 1 := rfl
            exact lX12_look_90 ht   hK  ((250 - ((uI (uI (uI I t 24 (I t 22)) t 25 0) t 23 1) t 22).toInt).toNat + 1) _ (WM_uI (WM_uI (WM_uI hW (by first | exact okMo (by decide) (by decide) (by decide) (by decide) (by decide) | exact okMf (by decide) (by decide) (by decide) (by decide) (by decide) (by decide) (by decide) (by decide) | exact okM30 (by omega) | exact okM42 (by omega) | exact okM33 (by omega) | exact okM10 (by omega) | exact okM8 (by omega) | exact okM22 (by omega) | exact okM24 (by omega) | exact okM14 (by omega) | exact okMa31 (by omega) | exact okMa35 (by omega) | exact okMa36 (by omega) | exact okMa3 (by omega) | exact okMr (by omega) | (unfold okM; refine ⟨?_, ?_, ?_, ?_, ?_, ?_, ?_, ?_, ?_, ?_, ?_, ?_⟩ <;> intro h <;> omega))) (by first | exact okMo (by decide) (by decide) (by decide) (by decide) (by decide) | exact okMf (by decide) (by decide) (by decide) (by decide) (by decide) (by decide) (by decide) (by decide) | exact okM30 (by omega) | exact okM42 (by omega) | exact okM33 (by omega) | exact okM10 (by omega) | exact okM8 (by omega) | exact okM22 (by omega) | exact okM24 (by omega) | exact okM14 (by omega) | exact okMa31 (by omega) | exact okMa35 (by omega) | exact okMa36 (by omega) | exact okMa3 (by omega) | exact okMr (by omega) | (unfold okM; refine ⟨?_, ?_, ?_, ?_, ?_, ?_, ?_, ?_, ?_, ?_, ?_, ?_⟩ <;> intro h <;> omega))) (by first | exact okMo (by decide) (by decide) (by decide) (by decide) (by decide) | exact okMf (by decide) (by decide) (by decide) (by decide) (by decide) (by decide) (by decide) (by decide) | exact okM30 (by omega) | exact okM42 (by omega) | exact okM33 (by omega) | exact okM10 (by omega) | exact okM8 (by omega) | exact okM22 (by omega) | exact okM24 (by omega) | exact okM14 (by omega) | exact okMa31 (by omega) | exact okMa35 (by omega) | exact okMa36 (by omega) | exact okMa3 (by omega) | exact okMr (by omega) | (unfold okM; refine ⟨?_, ?_, ?_, ?_, ?_, ?_, ?_, ?_, ?_, ?_, ?_, ?_⟩ <;> intro h <;> omega))) (Fr_uI (Fr_uI (Fr_uI hF (by omega)) (by omega)) (by omega)) (by omega) (by omega) (by omega)
        · skip
          have hc33 := Int32.toInt_inj.mpr hc33
          have hr56 : (((uI (uI (uI I t 24 (I t 22)) t 25 0) t 23 0)) t 22).toInt = ((I t 22)).toInt := congrArg Int32.toInt (uI_sk (by decide) (uI_sk (by decide) (uI_sk (by decide) rfl)))
          have hr57 : (((uI (uI (uI I t 24 (I t 22)) t 25 0) t 23 0)) t 8).toInt = ((I t 8)).toInt := congrArg Int32.toInt (uI_sk (by decide) (uI_sk (by decide) (uI_sk (by decide) rfl)))
          have hr58 : (((uI (uI (uI I t 24 (I t 22)) t 25 0) t 23 0)) t 23).toInt = ((0 : Int32)).toInt := congrArg Int32.toInt (uI_ss _ _ _ _)
          have q4 : (0 : Int32).toInt = 0 := rfl
          exact hK _ (WM_uI (WM_uI (WM_uI hW (by first | exact okMo (by decide) (by decide) (by decide) (by decide) (by decide) | exact okMf (by decide) (by decide) (by decide) (by decide) (by decide) (by decide) (by decide) (by decide) | exact okM30 (by omega) | exact okM42 (by omega) | exact okM33 (by omega) | exact okM10 (by omega) | exact okM8 (by omega) | exact okM22 (by omega) | exact okM24 (by omega) | exact okM14 (by omega) | exact okMa31 (by omega) | exact okMa35 (by omega) | exact okMa36 (by omega) | exact okMa3 (by omega) | exact okMr (by omega) | (unfold okM; refine ⟨?_, ?_, ?_, ?_, ?_, ?_, ?_, ?_, ?_, ?_, ?_, ?_⟩ <;> intro h <;> omega))) (by first | exact okMo (by decide) (by decide) (by decide) (by decide) (by decide) | exact okMf (by decide) (by decide) (by decide) (by decide) (by decide) (by decide) (by decide) (by decide) | exact okM30 (by omega) | exact okM42 (by omega) | exact okM33 (by omega) | exact okM10 (by omega) | exact okM8 (by omega) | exact okM22 (by omega) | exact okM24 (by omega) | exact okM14 (by omega) | exact okMa31 (by omega) | exact okMa35 (by omega) | exact okMa36 (by omega) | exact okMa3 (by omega) | exact okMr (by omega) | (unfold okM; refine ⟨?_, ?_, ?_, ?_, ?_, ?_, ?_, ?_, ?_, ?_, ?_, ?_⟩ <;> intro h <;> omega))) (by first | exact okMo (by decide) (by decide) (by decide) (by decide) (by decide) | exact okMf (by decide) (by decide) (by decide) (by decide) (by decide) (by decide) (by decide) (by decide) | exact okM30 (by omega) | exact okM42 (by omega) | exact okM33 (by omega) | exact okM10 (by omega) | exact okM8 (by omega) | exact okM22 (by omega) | exact okM24 (by omega) | exact okM14 (by omega) | exact okMa31 (by omega) | exact okMa35 (by omega) | exact okMa36 (by omega) | exact okMa3 (by omega) | exact okMr (by omega) | (unfold okM; refine ⟨?_, ?_, ?_, ?_, ?_, ?_, ?_, ?_, ?_, ?_, ?_, ?_⟩ <;> intro h <;> omega))) (Fr_uI (Fr_uI (Fr_uI hF (by omega)) (by omega)) (by omega)) (by omega)
      · skip
        have q3 : (32 : Int32).toInt = 32 := rfl
        have hc31 := Int32.toInt_inj.mpr hc31
        have q4 : (1 : Int32).toInt = 1 := rfl
        have q5 := i32_add (I t 22) 1 (by omega) (by omega)
        have hr59 : (((uI I t 22 ((I t 22) + 1))) t 22).toInt = (((I t 22) + 1)).toInt := congrArg Int32.toInt (uI_ss _ _ _ _)
        have hr60 : (((uI I t 22 ((I t 22) + 1))) t 8).toInt = ((I t 8)).toInt := congrArg Int32.toInt (uI_sk (by decide) rfl)
        exact ih _ (WM_uI hW (by first | exact okMo (by decide) (by decide) (by decide) (by decide) (by decide) | exact okMf (by decide) (by decide) (by decide) (by decide) (by decide) (by decide) (by decide) (by decide) | exact okM30 (by omega) | exact okM42 (by omega) | exact okM33 (by omega) | exact okM10 (by omega) | exact okM8 (by omega) | exact okM22 (by omega) | exact okM24 (by omega) | exact okM14 (by omega) | exact okMa31 (by omega) | exact okMa35 (by omega) | exact okMa36 (by omega) | exact okMa3 (by omega) | exact okMr (by omega) | (unfold okM; refine ⟨?_, ?_, ?_, ?_, ?_, ?_, ?_, ?_, ?_, ?_, ?_, ?_⟩ <;> intro h <;> omega))) (Fr_uI hF (by omega)) (by omega) (by omega)
