theorem sfX12_fit {G : jdG} {n : Nat} {Z : jdL} {J : jdJ} {K : Int64 → jdI → jdJ → Prop}  {I : jdI} {x0 : Int32} {y1 : Int64}   (hW : True)  (hK : ∀ (v : Int64), (v = cutf x0.toInt y1) → K v I J) : Cl G mX12_fit n 0 0 [.int x0, .long y1] Z I J (ql Z K) := by
  refine eX12_fit  ?_
  refine ⟨fun hc1 => ?_, fun hc2 => ?_, fun hc3 => ?_, fun hc4 => ?_, fun hc5 => ?_⟩
  · skip
    refine ⟨fun hc6 => ?_, fun hc7 => ?_⟩
    · skip
      have q1 : (0 : Int64).toInt = 0 := rfl
      have q2 := lg_f y1 0
      have q3 : (0 : Int32).toInt = 0 := rfl
      have hc6 := Int32.toInt_inj.mpr hc6
      exact hK _  (by first | (exfalso; omega) | (unfold cutf; (repeat first | rw [if_pos (by omega)] | rw [if_neg (by omega)])))
    · skip
      have q1 : (0 : Int64).toInt = 0 := rfl
      have q2 := lg_f y1 0
      have q3 : (0 : Int32).toInt = 0 := rfl
      have hc7 : ¬ ((lg_cmp y1 0)).toInt = (0 : Int32).toInt := fun z => hc7 (Int32.toInt_inj.mp z)
      exact hK _  (by first | (exfalso; omega) | (unfold cutf; (repeat first | rw [if_pos (by omega)] | rw [if_neg (by omega)])))
  · skip
    exact hK _  (by first | (exfalso; omega) | (unfold cutf; (repeat first | rw [if_pos (by omega)] | rw [if_neg (by omega)])))
  · skip
    exact hK _  (by first | (exfalso; omega) | (unfold cutf; (repeat first | rw [if_pos (by omega)] | rw [if_neg (by omega)])))
  · skip
    exact hK _  (by first | (exfalso; omega) | (unfold cutf; (repeat first | rw [if_pos (by omega)] | rw [if_neg (by omega)])))
  · skip
    exact hK _  (by first | (exfalso; omega) | (unfold cutf; (repeat first | rw [if_pos (by omega)] | rw [if_neg (by omega)])))
theorem sfX12_noRow {G : jdG} {n : Nat} {Z : jdL} {J : jdJ} {K : Int32 → jdI → jdJ → Prop}  {I : jdI} {t : Nat} {x1 : Int32} (ht : zModel Z t)  (hW : WM 7 t I)  (hK : ∀ (v : Int32) (I2 : jdI), WM 7 t I2 → Fr (fun a k => a = t + 17) I I2 → ((v.toInt = 0 ∧ (0 ≤ x1.toInt ∧ x1.toInt ≤ 7) ∧ ¬ (I (t + 1) (Int32.toNatClampNeg x1)).toInt = 0 ∧ ¬ (I (t + 1) (Int32.toNatClampNeg x1)).toInt = 2) ∨ (¬ (0 ≤ x1.toInt ∧ x1.toInt ≤ 7) ∧ v.toInt = -2) ∨ ((0 ≤ x1.toInt ∧ x1.toInt ≤ 7) ∧ (I (t + 1) (Int32.toNatClampNeg x1)).toInt = 0 ∧ v.toInt = -4) ∨ ((0 ≤ x1.toInt ∧ x1.toInt ≤ 7) ∧ (I (t + 1) (Int32.toNatClampNeg x1)).toInt = 2 ∧ v.toInt = -3)) → K v I2 J) : Cl G mX12_noRow (n + 1) 0 0 [.ref (gb G + t), .int x1] Z I J (qi Z K) := by
  refine eX12_noRow ht ?_
  have hwI := WM_f hW
  have q1 := i32_lo x1
  have q2 : (Int32.toInt64 x1).toInt = (x1).toInt := Int32.toInt_toInt64 _
  have q3 : (0 : Int64).toInt = 0 := rfl
  have q4 : (7 : Int64).toInt = 7 := rfl
  refine sfX12_in  trivial  (fun v2  hp1 => ?_)
  refine ⟨fun hc2 => ?_, fun hc3 => ?_⟩
  · skip
    have q5 := i32_lo v2
    have q6 : (0 : Int32).toInt = 0 := rfl
    have hc2 : ¬ (v2).toInt = (0 : Int32).toInt := fun z => hc2 (Int32.toInt_inj.mp z)
    refine ⟨vp_of (by omega) (by omega), ?_⟩
    refine ⟨fun hc4 => ?_, fun hc5 => ?_⟩
    · skip
      have q7 : (2 : Int32).toInt = 2 := rfl
      have hc4 : ¬ ((I (t + 1) (Int32.toNatClampNeg x1))).toInt = (2 : Int32).toInt := fun z => hc4 (Int32.toInt_inj.mp z)
      refine ⟨vp_of (by omega) (by omega), ?_⟩
      refine ⟨fun hc6 => ?_, fun hc7 => ?_⟩
      · skip
        have hc6 : ¬ ((I (t + 1) (Int32.toNatClampNeg x1))).toInt = (0 : Int32).toInt := fun z => hc6 (Int32.toInt_inj.mp z)
        exact hK _ _ hW Fr.rf (by omega)
      · skip
        have hc7 := Int32.toInt_inj.mpr hc7
        have q8 : (-4 : Int32).toInt = -4 := rfl
        refine sfX12_refuse ht (by decide) hW (by omega) (fun v6 I5 hWI5 hFI5 hp8 => ?_)
        have hwI5 := WM_f hWI5
        have q9 := i32_lo v6
        exact hK _ _ hWI5 (Fr.tr Fr.rf hFI5 (by intro a k h; omega)) (by omega)
    · skip
      have q7 : (2 : Int32).toInt = 2 := rfl
      have hc5 := Int32.toInt_inj.mpr hc5
      have q8 : (-3 : Int32).toInt = -3 := rfl
      refine sfX12_refuse ht (by decide) hW (by omega) (fun v8 I7 hWI7 hFI7 hp9 => ?_)
      have hwI7 := WM_f hWI7
      have q9 := i32_lo v8
      exact hK _ _ hWI7 (Fr.tr Fr.rf hFI7 (by intro a k h; omega)) (by omega)
  · skip
    have q5 := i32_lo v2
    have q6 : (0 : Int32).toInt = 0 := rfl
    have hc3 := Int32.toInt_inj.mpr hc3
    have q7 : (-2 : Int32).toInt = -2 := rfl
    refine sfX12_refuse ht (by decide) hW (by omega) (fun v10 I9 hWI9 hFI9 hp10 => ?_)
    have hwI9 := WM_f hWI9
    have q8 := i32_lo v10
    exact hK _ _ hWI9 (Fr.tr Fr.rf hFI9 (by intro a k h; omega)) (by omega)
theorem sfX12_noMan {G : jdG} {n : Nat} {Z : jdL} {J : jdJ} {K : Int32 → jdI → jdJ → Prop}  {I : jdI} {t : Nat} {x1 : Int32} (ht : zModel Z t)  (hW : WM 7 t I)  (hK : ∀ (v : Int32) (I2 : jdI), WM 7 t I2 → Fr (fun a k => a = t + 17) I I2 → ((v.toInt = 0 ∧ 0 ≤ x1.toInt ∧ x1.toInt ≤ 7) ∨ ¬ v.toInt = 0) → K v I2 J) : Cl G mX12_noMan (n + 1) 0 0 [.ref (gb G + t), .int x1] Z I J (qi Z K) := by
  refine eX12_noMan ht ?_
  have hwI := WM_f hW
  have q1 := i32_lo x1
  have q2 : (Int32.toInt64 x1).toInt = (x1).toInt := Int32.toInt_toInt64 _
  have q3 : (0 : Int64).toInt = 0 := rfl
  have q4 : (7 : Int64).toInt = 7 := rfl
  refine sfX12_in  trivial  (fun v2  hp1 => ?_)
  refine ⟨fun hc2 => ?_, fun hc3 => ?_⟩
  · skip
    have q5 := i32_lo v2
    have q6 : (0 : Int32).toInt = 0 := rfl
    have hc2 : ¬ (v2).toInt = (0 : Int32).toInt := fun z => hc2 (Int32.toInt_inj.mp z)
    refine ⟨vp_of (by omega) (by omega), ?_⟩
    refine ⟨fun hc4 => ?_, fun hc5 => ?_⟩
    · skip
      have q7 : (1 : Int32).toInt = 1 := rfl
      have hc4 : ¬ ((I (t + 1) (Int32.toNatClampNeg x1))).toInt = (1 : Int32).toInt := fun z => hc4 (Int32.toInt_inj.mp z)
      refine ⟨vp_of (by omega) (by omega), ?_⟩
      refine ⟨fun hc6 => ?_, fun hc7 => ?_⟩
      · skip
        have hc6 : ¬ ((I (t + 1) (Int32.toNatClampNeg x1))).toInt = (0 : Int32).toInt := fun z => hc6 (Int32.toInt_inj.mp z)
        exact hK _ _ hW Fr.rf (by omega)
      · skip
        have hc7 := Int32.toInt_inj.mpr hc7
        have q8 : (-4 : Int32).toInt = -4 := rfl
        refine sfX12_refuse ht (by decide) hW (by omega) (fun v6 I5 hWI5 hFI5 hp8 => ?_)
        have hwI5 := WM_f hWI5
        have q9 := i32_lo v6
        exact hK _ _ hWI5 (Fr.tr Fr.rf hFI5 (by intro a k h; omega)) (by omega)
    · skip
      have q7 : (1 : Int32).toInt = 1 := rfl
      have hc5 := Int32.toInt_inj.mpr hc5
      have q8 : (-3 : Int32).toInt = -3 := rfl
      refine sfX12_refuse ht (by decide) hW (by omega) (fun v8 I7 hWI7 hFI7 hp9 => ?_)
      have hwI7 := WM_f hWI7
      have q9 := i32_lo v8
      exact hK _ _ hWI7 (Fr.tr Fr.rf hFI7 (by intro a k h; omega)) (by omega)
  · skip
    have q5 := i32_lo v2
    have q6 : (0 : Int32).toInt = 0 := rfl
    have hc3 := Int32.toInt_inj.mpr hc3
    have q7 : (-2 : Int32).toInt = -2 := rfl
    refine sfX12_refuse ht (by decide) hW (by omega) (fun v10 I9 hWI9 hFI9 hp10 => ?_)
    have hwI9 := WM_f hWI9
    have q8 := i32_lo v10
    exact hK _ _ hWI9 (Fr.tr Fr.rf hFI9 (by intro a k h; omega)) (by omega)
theorem sfX12_set {G : jdG} {n : Nat} {Z : jdL} {J : jdJ} {K : Int32 → jdI → jdJ → Prop}  {I : jdI} {t : Nat} {x1 : Int32} {x2 : Int32} {y3 : Int64} (ht : zModel Z t)  (hW : WM 7 t I)  (hK : ∀ (v : Int32) (I2 : jdI) (J2 : jdJ), WM 7 t I2 → Fr (fun a k => a = t + 17) I I2 → (((¬ (0 ≤ x1.toInt ∧ x1.toInt ≤ 7) ∧ v.toInt = -2) ∨ ((0 ≤ x1.toInt ∧ x1.toInt ≤ 7) ∧ (I (t + 1) (Int32.toNatClampNeg x1)).toInt = 0 ∧ v.toInt = -4) ∨ ((0 ≤ x1.toInt ∧ x1.toInt ≤ 7) ∧ (I (t + 1) (Int32.toNatClampNeg x1)).toInt = 2 ∧ v.toInt = -3) ∨ (((0 ≤ x1.toInt ∧ x1.toInt ≤ 7) ∧ ¬ (I (t + 1) (Int32.toNatClampNeg x1)).toInt = 0 ∧ ¬ (I (t + 1) (Int32.toNatClampNeg x1)).toInt = 2 ∧ 0 ≤ x2.toInt ∧ x2.toInt < (I (t + 3) (Int32.toNatClampNeg x1)).toInt) ∧ v.toInt = 1) ∨ ((0 ≤ x1.toInt ∧ x1.toInt ≤ 7) ∧ ¬ (I (t + 1) (Int32.toNatClampNeg x1)).toInt = 0 ∧ ¬ (I (t + 1) (Int32.toNatClampNeg x1)).toInt = 2 ∧ ¬ (0 ≤ x2.toInt ∧ x2.toInt < (I (t + 3) (Int32.toNatClampNeg x1)).toInt) ∧ v.toInt = -2)) ∧ (((0 ≤ x1.toInt ∧ x1.toInt ≤ 7) ∧ ¬ (I (t + 1) (Int32.toNatClampNeg x1)).toInt = 0 ∧ ¬ (I (t + 1) (Int32.toNatClampNeg x1)).toInt = 2 ∧ 0 ≤ x2.toInt ∧ x2.toInt < (I (t + 3) (Int32.toNatClampNeg x1)).toInt) → J2 = uJ J (t + 5 + (Int32.toNatClampNeg x1)) (Int32.toNatClampNeg x2) (cutf (I (t + 2) (Int32.toNatClampNeg x1)).toInt y3)) ∧ (¬ ((0 ≤ x1.toInt ∧ x1.toInt ≤ 7) ∧ ¬ (I (t + 1) (Int32.toNatClampNeg x1)).toInt = 0 ∧ ¬ (I (t + 1) (Int32.toNatClampNeg x1)).toInt = 2 ∧ 0 ≤ x2.toInt ∧ x2.toInt < (I (t + 3) (Int32.toNatClampNeg x1)).toInt) → J2 = J)) → K v I2 J2) : Cl G mX12_set (n + 2) 0 0 [.ref (gb G + t), .int x1, .int x2, .long y3] Z I J (qi Z K) := by
  refine eX12_set ht ?_
  have hwI := WM_f hW
  have q1 := i32_lo x1
  refine sfX12_noRow ht hW  (fun v2 I1 hWI1 hFI1 hp1 => ?_)
  have hwI1 := WM_f hWI1
  first | have hk2 : (I1 (t + 3) (Int32.toNatClampNeg x1)).toInt = (I (t + 3) (Int32.toNatClampNeg x1)).toInt := (by rw [hFI1 (t + 3) (Int32.toNatClampNeg x1) (by omega)]) | skip
  first | (revert hrsx1; intro hrsx1) | have hrsx1 := WM_rowSize hWI1 (k := Int32.toNatClampNeg x1) (by rw [tn_eq]; omega) | skip
  refine ⟨fun hc3 => ?_, fun hc4 => ?_⟩
  · skip
    have q2 := i32_lo v2
    have q3 : (0 : Int32).toInt = 0 := rfl
    have hc3 := Int32.toInt_inj.mpr hc3
    first | (revert hrsx1; intro hrsx1) | have hrsx1 := WM_rowSize hWI1 (k := Int32.toNatClampNeg x1) (by rw [tn_eq]; omega) | skip
    refine ⟨vp_of (by omega) (by omega), ?_⟩
    have q4 := i32_lo x2
    have q5 : (Int32.toInt64 x2).toInt = (x2).toInt := Int32.toInt_toInt64 _
    have q6 : (0 : Int64).toInt = 0 := rfl
    have q7 : (1 : Int32).toInt = 1 := rfl
    have q8 := i32_sub (I1 (t + 3) (Int32.toNatClampNeg x1)) 1 (by omega) (by omega)
    have q9 : (Int32.toInt64 ((I1 (t + 3) (Int32.toNatClampNeg x1)) - 1)).toInt = (((I1 (t + 3) (Int32.toNatClampNeg x1)) - 1)).toInt := Int32.toInt_toInt64 _
    refine sfX12_in  trivial  (fun v5  hp5 => ?_)
    first | (revert hrsx1; intro hrsx1) | have hrsx1 := WM_rowSize hWI1 (k := Int32.toNatClampNeg x1) (by rw [tn_eq]; omega) | skip
    refine ⟨fun hc6 => ?_, fun hc7 => ?_⟩
    · skip
      have q10 := i32_lo v5
      have hc6 : ¬ (v5).toInt = (0 : Int32).toInt := fun z => hc6 (Int32.toInt_inj.mp z)
      first | (revert hrsx1; intro hrsx1) | have hrsx1 := WM_rowSize hWI1 (k := Int32.toNatClampNeg x1) (by rw [tn_eq]; omega) | skip
      refine ⟨vp_of (by omega) (by omega), ?_⟩
      refine ⟨vp_of (by omega) (by omega), ?_⟩
      refine sfX12_fit  trivial  (fun v9  hp8 => ?_)
      have hfit := hp8
      first | (revert hrsx1; intro hrsx1) | have hrsx1 := WM_rowSize hWI1 (k := Int32.toNatClampNeg x1) (by rw [tn_eq]; omega) | skip
      refine ⟨vp_of (by omega) (by omega), ?_⟩
      exact hK _ _ _ hWI1 (Fr.tr Fr.rf hFI1 (by intro a k h; omega)) ⟨by omega, fun q => by first | (exfalso; omega) | exact (by rw [hfit, hFI1 (t + 2) (Int32.toNatClampNeg x1) (by omega)]), fun q => by first | rfl | (exfalso; omega)⟩
    · skip
      have q10 := i32_lo v5
      have hc7 := Int32.toInt_inj.mpr hc7
      first | (revert hrsx1; intro hrsx1) | have hrsx1 := WM_rowSize hWI1 (k := Int32.toNatClampNeg x1) (by rw [tn_eq]; omega) | skip
      have q11 : (-2 : Int32).toInt = -2 := rfl
      refine sfX12_refuse ht (by decide) hWI1 (by omega) (fun v12 I11 hWI11 hFI11 hp9 => ?_)
      have hwI11 := WM_f hWI11
      first | have hk10 : (I11 (t + 3) (Int32.toNatClampNeg x1)).toInt = (I1 (t + 3) (Int32.toNatClampNeg x1)).toInt := (by rw [hFI11 (t + 3) (Int32.toNatClampNeg x1) (by omega)]) | skip
      first | (revert hrsx1; intro hrsx1) | have hrsx1 := WM_rowSize hWI1 (k := Int32.toNatClampNeg x1) (by rw [tn_eq]; omega) | skip
      have q12 := i32_lo v12
      exact hK _ _ _ hWI11 (Fr.tr (Fr.tr Fr.rf hFI1 (by intro a k h; omega)) hFI11 (by intro a k h; omega)) ⟨by omega, fun q => by first | (exfalso; omega) | exact (by rw [hfit, hFI1 (t + 2) (Int32.toNatClampNeg x1) (by omega)]), fun q => by first | rfl | (exfalso; omega)⟩
  · skip
    have q2 := i32_lo v2
    have q3 : (0 : Int32).toInt = 0 := rfl
    have hc4 : ¬ (v2).toInt = (0 : Int32).toInt := fun z => hc4 (Int32.toInt_inj.mp z)
    first | (revert hrsx1; intro hrsx1) | have hrsx1 := WM_rowSize hWI1 (k := Int32.toNatClampNeg x1) (by rw [tn_eq]; omega) | skip
    exact hK _ _ _ hWI1 (Fr.tr Fr.rf hFI1 (by intro a k h; omega)) ⟨by omega, fun q => by first | (exfalso; omega) | exact (by rw [hfit, hFI1 (t + 2) (Int32.toNatClampNeg x1) (by omega)]), fun q => by first | rfl | (exfalso; omega)⟩
theorem lX12_copy_225 {G : jdG} {n : Nat} {Z : jdL} {rc rs : Nat} {K : Int32 → jdI → jdJ → Prop}  {I0 : jdI} {J0 : jdJ} {t : Nat} {x1 : Int32} {x2 : Int32} {x3 : Int32} {x4 : Int32} {x5 : Int32} (ht : zModel Z t)   (hK : ∀ (v : Int32) (I2 : jdI) (J2 : jdJ), WM 7 t I2 → Fr (fun a k => a = t + 17) I0 I2 → ((¬ ((0 ≤ x1.toInt ∧ x1.toInt ≤ 7) ∧ 0 ≤ x2.toInt ∧ x2.toInt ≤ 7) ∧ v.toInt = -2 ∧ J2 = J0) ∨ (((0 ≤ x1.toInt ∧ x1.toInt ≤ 7) ∧ 0 ≤ x2.toInt ∧ x2.toInt ≤ 7) ∧ ¬ ((0 ≤ (I0 (t + 1) (Int32.toNatClampNeg x1)).toInt ∧ (I0 (t + 1) (Int32.toNatClampNeg x1)).toInt ≤ 2) ∧ 0 ≤ (I0 (t + 1) (Int32.toNatClampNeg x2)).toInt ∧ (I0 (t + 1) (Int32.toNatClampNeg x2)).toInt ≤ 2)) ∨ (((0 ≤ x1.toInt ∧ x1.toInt ≤ 7) ∧ 0 ≤ x2.toInt ∧ x2.toInt ≤ 7) ∧ ((I0 (t + 1) (Int32.toNatClampNeg x1)).toInt = 2 ∨ (I0 (t + 1) (Int32.toNatClampNeg x2)).toInt = 2) ∧ v.toInt = -3 ∧ J2 = J0) ∨ (((0 ≤ x1.toInt ∧ x1.toInt ≤ 7) ∧ 0 ≤ x2.toInt ∧ x2.toInt ≤ 7) ∧ ¬ (I0 (t + 1) (Int32.toNatClampNeg x1)).toInt = 2 ∧ ¬ (I0 (t + 1) (Int32.toNatClampNeg x2)).toInt = 2 ∧ ((I0 (t + 1) (Int32.toNatClampNeg x1)).toInt = 0 ∨ (I0 (t + 1) (Int32.toNatClampNeg x2)).toInt = 0) ∧ v.toInt = -4 ∧ J2 = J0) ∨ (((0 ≤ x1.toInt ∧ x1.toInt ≤ 7) ∧ 0 ≤ x2.toInt ∧ x2.toInt ≤ 7) ∧ ((I0 (t + 1) (Int32.toNatClampNeg x1)).toInt = 1 ∧ (I0 (t + 1) (Int32.toNatClampNeg x2)).toInt = 1) ∧ ¬ (I0 (t + 2) (Int32.toNatClampNeg x1)).toInt = (I0 (t + 2) (Int32.toNatClampNeg x2)).toInt ∧ v.toInt = -3 ∧ J2 = J0) ∨ (((0 ≤ x1.toInt ∧ x1.toInt ≤ 7) ∧ 0 ≤ x2.toInt ∧ x2.toInt ≤ 7) ∧ ((I0 (t + 1) (Int32.toNatClampNeg x1)).toInt = 1 ∧ (I0 (t + 1) (Int32.toNatClampNeg x2)).toInt = 1) ∧ (I0 (t + 2) (Int32.toNatClampNeg x1)).toInt = (I0 (t + 2) (Int32.toNatClampNeg x2)).toInt ∧ (0 ≤ x3.toInt ∧ 0 ≤ x4.toInt ∧ 0 ≤ x5.toInt ∧ x5.toInt ≤ (I0 (t + 3) (Int32.toNatClampNeg x1)).toInt - x3.toInt ∧ x5.toInt ≤ (I0 (t + 3) (Int32.toNatClampNeg x2)).toInt - x4.toInt) ∧ v.toInt = x5.toInt ∧ ((∀ q : Nat, q < 40 → J2 (t + 5 + (Int32.toNatClampNeg x2)) q = va_cpy (J0 (t + 5 + (Int32.toNatClampNeg x1))) (J0 (t + 5 + (Int32.toNatClampNeg x2))) (Int32.toNatClampNeg x3) (Int32.toNatClampNeg x4) (Int32.toNatClampNeg x5) q) ∧ ∀ a, a ≠ t + 13 → a ≠ t + 5 + (Int32.toNatClampNeg x2) → J2 a = J0 a)) ∨ (((0 ≤ x1.toInt ∧ x1.toInt ≤ 7) ∧ 0 ≤ x2.toInt ∧ x2.toInt ≤ 7) ∧ ((I0 (t + 1) (Int32.toNatClampNeg x1)).toInt = 1 ∧ (I0 (t + 1) (Int32.toNatClampNeg x2)).toInt = 1) ∧ (I0 (t + 2) (Int32.toNatClampNeg x1)).toInt = (I0 (t + 2) (Int32.toNatClampNeg x2)).toInt ∧ ¬ (0 ≤ x3.toInt ∧ 0 ≤ x4.toInt ∧ 0 ≤ x5.toInt ∧ x5.toInt ≤ (I0 (t + 3) (Int32.toNatClampNeg x1)).toInt - x3.toInt ∧ x5.toInt ≤ (I0 (t + 3) (Int32.toNatClampNeg x2)).toInt - x4.toInt) ∧ v.toInt = -2 ∧ J2 = J0)) → K v I2 J2) : ∀ m : Nat, ∀ (I : jdI) (J : jdJ) (x6 : Int32), WM 7 t I → Fr (fun a k => a = t + 17) I0 I → (0 ≤ x6.toInt ∧ x6.toInt ≤ x5.toInt) → ((0 ≤ x1.toInt ∧ x1.toInt ≤ 7) ∧ 0 ≤ x2.toInt ∧ x2.toInt ≤ 7) → (0 ≤ x3.toInt ∧ 0 ≤ x5.toInt ∧ x3.toInt + x5.toInt ≤ 40) → (0 ≤ x4.toInt ∧ x4.toInt + x5.toInt ≤ 40) → (((0 ≤ (I0 (t + 1) (Int32.toNatClampNeg x1)).toInt ∧ (I0 (t + 1) (Int32.toNatClampNeg x1)).toInt ≤ 2) ∧ 0 ≤ (I0 (t + 1) (Int32.toNatClampNeg x2)).toInt ∧ (I0 (t + 1) (Int32.toNatClampNeg x2)).toInt ≤ 2) → ((0 ≤ x1.toInt ∧ x1.toInt ≤ 7) ∧ 0 ≤ x2.toInt ∧ x2.toInt ≤ 7) ∧ ((I0 (t + 1) (Int32.toNatClampNeg x1)).toInt = 1 ∧ (I0 (t + 1) (Int32.toNatClampNeg x2)).toInt = 1) ∧ (I0 (t + 2) (Int32.toNatClampNeg x1)).toInt = (I0 (t + 2) (Int32.toNatClampNeg x2)).toInt ∧ (0 ≤ x3.toInt ∧ 0 ≤ x4.toInt ∧ 0 ≤ x5.toInt ∧ x5.toInt ≤ (I0 (t + 3) (Int32.toNatClampNeg x1)).toInt - x3.toInt ∧ x5.toInt ≤ (I0 (t + 3) (Int32.toNatClampNeg x2)).toInt - x4.toInt)) → ((∀ q : Nat, J (t + 5 + (Int32.toNatClampNeg x2)) q = va_cpy (J0 (t + 5 + (Int32.toNatClampNeg x1))) (J0 (t + 5 + (Int32.toNatClampNeg x2))) (Int32.toNatClampNeg x3) (Int32.toNatClampNeg x4) (Int32.toNatClampNeg x6) q) ∧ (∀ q : Nat, (q : Int) < x5.toInt → J (t + 13) q = J0 (t + 5 + (Int32.toNatClampNeg x1)) ((Int32.toNatClampNeg x3) + q)) ∧ ∀ a, a ≠ t + 13 → a ≠ t + 5 + (Int32.toNatClampNeg x2) → J a = J0 a) → (x5.toInt) - x6.toInt < (m : Int) → Jd G mX12_copy (jdFm G (qi Z K)) (n + 1) rc rs 225 [(0, .ref (gb G + t)), (1, .int x1), (2, .int x2), (3, .int x3), (4, .int x4), (5, .int x5), (6, .int x6)] [] Z I J := by
  intro m
  induction m with
  | zero =>
    intro I J x6 hW hF hx6 hx12 hx35 hx45 hsu hJ hm
    have hwI := WM_f hW
    omega
  | succ m ih =>
    intro I J x6 hW hF hx6 hx12 hx35 hx45 hsu hJ hm
    have hwI := WM_f hW
    refine rX12_copy_225 ht ?_
    have hn1 := tn_eq x1
    have hn2 := tn_eq x2
    refine ⟨fun hc1 => ?_, fun hc2 => ?_⟩
    · skip
      have q1 := i32_lo x5
      have q2 := i32_lo x6
      have hc1 := Int32.le_iff_toInt_le.mp hc1
      first | (revert hrsx1; intro hrsx1) | have hrsx1 := WM_rowSize hW (k := Int32.toNatClampNeg x1) (by rw [tn_eq]; omega) | skip
      first | (revert hrsx2; intro hrsx2) | have hrsx2 := WM_rowSize hW (k := Int32.toNatClampNeg x2) (by rw [tn_eq]; omega) | skip
      exact hK _ _ _ hW hF (by first | exact Or.inl ⟨by omega, by omega, rfl⟩ | exact Or.inr (Or.inl ⟨by omega, by omega⟩) | exact Or.inr (Or.inr (Or.inl ⟨by omega, by omega, by omega, rfl⟩)) | exact Or.inr (Or.inr (Or.inr (Or.inl ⟨by omega, by omega, by omega, by omega, by omega, rfl⟩))) | exact Or.inr (Or.inr (Or.inr (Or.inr (Or.inl ⟨by omega, by omega, by omega, by omega, rfl⟩)))) | exact Or.inr (Or.inr (Or.inr (Or.inr (Or.inr (Or.inl ⟨by omega, by omega, by omega, by omega, by omega, ⟨fun q _ => cp_end (by omega) (by omega) (hJ.1 q), hJ.2⟩⟩))))) | exact Or.inr (Or.inr (Or.inr (Or.inr (Or.inr (Or.inr (⟨by omega, by omega, by omega, by omega, by omega, rfl⟩)))))) | (by_cases hA : ((0 ≤ (I0 (t + 1) (Int32.toNatClampNeg x1)).toInt ∧ (I0 (t + 1) (Int32.toNatClampNeg x1)).toInt ≤ 2) ∧ 0 ≤ (I0 (t + 1) (Int32.toNatClampNeg x2)).toInt ∧ (I0 (t + 1) (Int32.toNatClampNeg x2)).toInt ≤ 2) <;> first | (have hs9 := hsu hA; exact Or.inr (Or.inr (Or.inr (Or.inr (Or.inr (Or.inl ⟨hs9.1, hs9.2.1, hs9.2.2.1, hs9.2.2.2, rfl, fun q _ => cp_end (by omega) (by omega) (hJ.1 q), hJ.2.2⟩)))))) | exact Or.inr (Or.inl ⟨by omega, hA⟩)))
    · skip
      have q1 := i32_lo x5
      have q2 := i32_lo x6
      have hc2 := mt Int32.le_iff_toInt_le.mpr hc2
      first | (revert hrsx1; intro hrsx1) | have hrsx1 := WM_rowSize hW (k := Int32.toNatClampNeg x1) (by rw [tn_eq]; omega) | skip
      first | (revert hrsx2; intro hrsx2) | have hrsx2 := WM_rowSize hW (k := Int32.toNatClampNeg x2) (by rw [tn_eq]; omega) | skip
      have q3 := i32_lo x2
      refine ⟨vp_of (by omega) (by omega), ?_⟩
      refine ⟨vp_of (by omega) (by omega), ?_⟩
      have q4 := i32_lo x4
      have q5 := i32_add x4 x6 (by omega) (by omega)
      refine ⟨vp_of (by omega) (by omega), ?_⟩
      have q6 : (1 : Int32).toInt = 1 := rfl
      have q7 := i32_add x6 1 (by omega) (by omega)
      exact ih _ _ (x6 + 1) hW hF (by omega) (by omega) (by omega) (by omega) (by omega) (by first | exact cp_2 hJ (by omega) (by omega) | exact cp_3 hJ (by omega) (by omega) (by omega) (by omega) (by omega)) (by omega)
