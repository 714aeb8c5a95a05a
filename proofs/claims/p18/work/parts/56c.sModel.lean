theorem lX12_copy_191 {G : jdG} {n : Nat} {Z : jdL} {rc rs : Nat} {K : Int32 → jdI → jdJ → Prop}  {I0 : jdI} {J0 : jdJ} {t : Nat} {x1 : Int32} {x2 : Int32} {x3 : Int32} {x4 : Int32} {x5 : Int32} (ht : zModel Z t)   (hK : ∀ (v : Int32) (I2 : jdI) (J2 : jdJ), WM 7 t I2 → Fr (fun a k => a = t + 17) I0 I2 → ((¬ ((0 ≤ x1.toInt ∧ x1.toInt ≤ 7) ∧ 0 ≤ x2.toInt ∧ x2.toInt ≤ 7) ∧ v.toInt = -2 ∧ J2 = J0) ∨ (((0 ≤ x1.toInt ∧ x1.toInt ≤ 7) ∧ 0 ≤ x2.toInt ∧ x2.toInt ≤ 7) ∧ ¬ ((0 ≤ (I0 (t + 1) (Int32.toNatClampNeg x1)).toInt ∧ (I0 (t + 1) (Int32.toNatClampNeg x1)).toInt ≤ 2) ∧ 0 ≤ (I0 (t + 1) (Int32.toNatClampNeg x2)).toInt ∧ (I0 (t + 1) (Int32.toNatClampNeg x2)).toInt ≤ 2)) ∨ (((0 ≤ x1.toInt ∧ x1.toInt ≤ 7) ∧ 0 ≤ x2.toInt ∧ x2.toInt ≤ 7) ∧ ((I0 (t + 1) (Int32.toNatClampNeg x1)).toInt = 2 ∨ (I0 (t + 1) (Int32.toNatClampNeg x2)).toInt = 2) ∧ v.toInt = -3 ∧ J2 = J0) ∨ (((0 ≤ x1.toInt ∧ x1.toInt ≤ 7) ∧ 0 ≤ x2.toInt ∧ x2.toInt ≤ 7) ∧ ¬ (I0 (t + 1) (Int32.toNatClampNeg x1)).toInt = 2 ∧ ¬ (I0 (t + 1) (Int32.toNatClampNeg x2)).toInt = 2 ∧ ((I0 (t + 1) (Int32.toNatClampNeg x1)).toInt = 0 ∨ (I0 (t + 1) (Int32.toNatClampNeg x2)).toInt = 0) ∧ v.toInt = -4 ∧ J2 = J0) ∨ (((0 ≤ x1.toInt ∧ x1.toInt ≤ 7) ∧ 0 ≤ x2.toInt ∧ x2.toInt ≤ 7) ∧ ((I0 (t + 1) (Int32.toNatClampNeg x1)).toInt = 1 ∧ (I0 (t + 1) (Int32.toNatClampNeg x2)).toInt = 1) ∧ ¬ (I0 (t + 2) (Int32.toNatClampNeg x1)).toInt = (I0 (t + 2) (Int32.toNatClampNeg x2)).toInt ∧ v.toInt = -3 ∧ J2 = J0) ∨ (((0 ≤ x1.toInt ∧ x1.toInt ≤ 7) ∧ 0 ≤ x2.toInt ∧ x2.toInt ≤ 7) ∧ ((I0 (t + 1) (Int32.toNatClampNeg x1)).toInt = 1 ∧ (I0 (t + 1) (Int32.toNatClampNeg x2)).toInt = 1) ∧ (I0 (t + 2) (Int32.toNatClampNeg x1)).toInt = (I0 (t + 2) (Int32.toNatClampNeg x2)).toInt ∧ (0 ≤ x3.toInt ∧ 0 ≤ x4.toInt ∧ 0 ≤ x5.toInt ∧ x5.toInt ≤ (I0 (t + 3) (Int32.toNatClampNeg x1)).toInt - x3.toInt ∧ x5.toInt ≤ (I0 (t + 3) (Int32.toNatClampNeg x2)).toInt - x4.toInt) ∧ v.toInt = x5.toInt ∧ ((∀ q : Nat, q < 40 → J2 (t + 5 + (Int32.toNatClampNeg x2)) q = va_cpy (J0 (t + 5 + (Int32.toNatClampNeg x1))) (J0 (t + 5 + (Int32.toNatClampNeg x2))) (Int32.toNatClampNeg x3) (Int32.toNatClampNeg x4) (Int32.toNatClampNeg x5) q) ∧ ∀ a, a ≠ t + 13 → a ≠ t + 5 + (Int32.toNatClampNeg x2) → J2 a = J0 a)) ∨ (((0 ≤ x1.toInt ∧ x1.toInt ≤ 7) ∧ 0 ≤ x2.toInt ∧ x2.toInt ≤ 7) ∧ ((I0 (t + 1) (Int32.toNatClampNeg x1)).toInt = 1 ∧ (I0 (t + 1) (Int32.toNatClampNeg x2)).toInt = 1) ∧ (I0 (t + 2) (Int32.toNatClampNeg x1)).toInt = (I0 (t + 2) (Int32.toNatClampNeg x2)).toInt ∧ ¬ (0 ≤ x3.toInt ∧ 0 ≤ x4.toInt ∧ 0 ≤ x5.toInt ∧ x5.toInt ≤ (I0 (t + 3) (Int32.toNatClampNeg x1)).toInt - x3.toInt ∧ x5.toInt ≤ (I0 (t + 3) (Int32.toNatClampNeg x2)).toInt - x4.toInt) ∧ v.toInt = -2 ∧ J2 = J0)) → K v I2 J2) : ∀ m : Nat, ∀ (I : jdI) (J : jdJ) (x6 : Int32), WM 7 t I → Fr (fun a k => a = t + 17) I0 I → (0 ≤ x6.toInt ∧ x6.toInt ≤ x5.toInt) → ((0 ≤ x1.toInt ∧ x1.toInt ≤ 7) ∧ 0 ≤ x2.toInt ∧ x2.toInt ≤ 7) → (0 ≤ x3.toInt ∧ 0 ≤ x5.toInt ∧ x3.toInt + x5.toInt ≤ 40) → (0 ≤ x4.toInt ∧ x4.toInt + x5.toInt ≤ 40) → (((0 ≤ (I0 (t + 1) (Int32.toNatClampNeg x1)).toInt ∧ (I0 (t + 1) (Int32.toNatClampNeg x1)).toInt ≤ 2) ∧ 0 ≤ (I0 (t + 1) (Int32.toNatClampNeg x2)).toInt ∧ (I0 (t + 1) (Int32.toNatClampNeg x2)).toInt ≤ 2) → ((0 ≤ x1.toInt ∧ x1.toInt ≤ 7) ∧ 0 ≤ x2.toInt ∧ x2.toInt ≤ 7) ∧ ((I0 (t + 1) (Int32.toNatClampNeg x1)).toInt = 1 ∧ (I0 (t + 1) (Int32.toNatClampNeg x2)).toInt = 1) ∧ (I0 (t + 2) (Int32.toNatClampNeg x1)).toInt = (I0 (t + 2) (Int32.toNatClampNeg x2)).toInt ∧ (0 ≤ x3.toInt ∧ 0 ≤ x4.toInt ∧ 0 ≤ x5.toInt ∧ x5.toInt ≤ (I0 (t + 3) (Int32.toNatClampNeg x1)).toInt - x3.toInt ∧ x5.toInt ≤ (I0 (t + 3) (Int32.toNatClampNeg x2)).toInt - x4.toInt)) → ((∀ q : Nat, (q : Int) < x6.toInt → J (t + 13) q = J0 (t + 5 + (Int32.toNatClampNeg x1)) ((Int32.toNatClampNeg x3) + q)) ∧ ∀ a, a ≠ t + 13 → J a = J0 a) → (x5.toInt) - x6.toInt < (m : Int) → Jd G mX12_copy (jdFm G (qi Z K)) (n + 1) rc rs 191 [(0, .ref (gb G + t)), (1, .int x1), (2, .int x2), (3, .int x3), (4, .int x4), (5, .int x5), (6, .int x6)] [] Z I J := by
  intro m
  induction m with
  | zero =>
    intro I J x6 hW hF hx6 hx12 hx35 hx45 hsu hJ hm
    have hwI := WM_f hW
    omega
  | succ m ih =>
    intro I J x6 hW hF hx6 hx12 hx35 hx45 hsu hJ hm
    have hwI := WM_f hW
    refine rX12_copy_191 ht ?_
    have hn1 := tn_eq x1
    have hn2 := tn_eq x2
    refine ⟨fun hc1 => ?_, fun hc2 => ?_⟩
    · skip
      have q1 := i32_lo x5
      have q2 := i32_lo x6
      have hc1 := Int32.le_iff_toInt_le.mp hc1
      first | (revert hrsx1; intro hrsx1) | have hrsx1 := WM_rowSize hW (k := Int32.toNatClampNeg x1) (by rw [tn_eq]; omega) | skip
      first | (revert hrsx2; intro hrsx2) | have hrsx2 := WM_rowSize hW (k := Int32.toNatClampNeg x2) (by rw [tn_eq]; omega) | skip
      have q3 : (0 : Int32).toInt = 0 := rfl
      exact lX12_copy_225 ht   hK  (((x5.toInt) - (0 : Int32).toInt).toNat + 1) _ _ 0 hW hF (by omega) (by omega) (by omega) (by omega) (by omega) (by first | exact cp_2 hJ (by omega) (by omega) | exact cp_3 hJ (by omega) (by omega) (by omega) (by omega) (by omega)) (by omega)
    · skip
      have q1 := i32_lo x5
      have q2 := i32_lo x6
      have hc2 := mt Int32.le_iff_toInt_le.mpr hc2
      first | (revert hrsx1; intro hrsx1) | have hrsx1 := WM_rowSize hW (k := Int32.toNatClampNeg x1) (by rw [tn_eq]; omega) | skip
      first | (revert hrsx2; intro hrsx2) | have hrsx2 := WM_rowSize hW (k := Int32.toNatClampNeg x2) (by rw [tn_eq]; omega) | skip
      have q3 := i32_lo x1
      refine ⟨vp_of (by omega) (by omega), ?_⟩
      have q4 := i32_lo x3
      have q5 := i32_add x3 x6 (by omega) (by omega)
      refine ⟨vp_of (by omega) (by omega), ?_⟩
      refine ⟨vp_of (by omega) (by omega), ?_⟩
      have q6 : (1 : Int32).toInt = 1 := rfl
      have q7 := i32_add x6 1 (by omega) (by omega)
      exact ih _ _ (x6 + 1) hW hF (by omega) (by omega) (by omega) (by omega) (by omega) (by first | exact ⟨fun q hq => by exfalso; omega, fun _ _ => rfl⟩ | exact cp_1 hJ (by omega) (by omega) (by omega) (by omega) (by omega)) (by omega)
theorem sfX12_copy {G : jdG} {n : Nat} {Z : jdL} {J : jdJ} {K : Int32 → jdI → jdJ → Prop}  {I : jdI} {t : Nat} {x1 : Int32} {x2 : Int32} {x3 : Int32} {x4 : Int32} {x5 : Int32} (ht : zModel Z t)  (hW : WM 7 t I)  (hK : ∀ (v : Int32) (I2 : jdI) (J2 : jdJ), WM 7 t I2 → Fr (fun a k => a = t + 17) I I2 → ((¬ ((0 ≤ x1.toInt ∧ x1.toInt ≤ 7) ∧ 0 ≤ x2.toInt ∧ x2.toInt ≤ 7) ∧ v.toInt = -2 ∧ J2 = J) ∨ (((0 ≤ x1.toInt ∧ x1.toInt ≤ 7) ∧ 0 ≤ x2.toInt ∧ x2.toInt ≤ 7) ∧ ¬ ((0 ≤ (I (t + 1) (Int32.toNatClampNeg x1)).toInt ∧ (I (t + 1) (Int32.toNatClampNeg x1)).toInt ≤ 2) ∧ 0 ≤ (I (t + 1) (Int32.toNatClampNeg x2)).toInt ∧ (I (t + 1) (Int32.toNatClampNeg x2)).toInt ≤ 2)) ∨ (((0 ≤ x1.toInt ∧ x1.toInt ≤ 7) ∧ 0 ≤ x2.toInt ∧ x2.toInt ≤ 7) ∧ ((I (t + 1) (Int32.toNatClampNeg x1)).toInt = 2 ∨ (I (t + 1) (Int32.toNatClampNeg x2)).toInt = 2) ∧ v.toInt = -3 ∧ J2 = J) ∨ (((0 ≤ x1.toInt ∧ x1.toInt ≤ 7) ∧ 0 ≤ x2.toInt ∧ x2.toInt ≤ 7) ∧ ¬ (I (t + 1) (Int32.toNatClampNeg x1)).toInt = 2 ∧ ¬ (I (t + 1) (Int32.toNatClampNeg x2)).toInt = 2 ∧ ((I (t + 1) (Int32.toNatClampNeg x1)).toInt = 0 ∨ (I (t + 1) (Int32.toNatClampNeg x2)).toInt = 0) ∧ v.toInt = -4 ∧ J2 = J) ∨ (((0 ≤ x1.toInt ∧ x1.toInt ≤ 7) ∧ 0 ≤ x2.toInt ∧ x2.toInt ≤ 7) ∧ ((I (t + 1) (Int32.toNatClampNeg x1)).toInt = 1 ∧ (I (t + 1) (Int32.toNatClampNeg x2)).toInt = 1) ∧ ¬ (I (t + 2) (Int32.toNatClampNeg x1)).toInt = (I (t + 2) (Int32.toNatClampNeg x2)).toInt ∧ v.toInt = -3 ∧ J2 = J) ∨ (((0 ≤ x1.toInt ∧ x1.toInt ≤ 7) ∧ 0 ≤ x2.toInt ∧ x2.toInt ≤ 7) ∧ ((I (t + 1) (Int32.toNatClampNeg x1)).toInt = 1 ∧ (I (t + 1) (Int32.toNatClampNeg x2)).toInt = 1) ∧ (I (t + 2) (Int32.toNatClampNeg x1)).toInt = (I (t + 2) (Int32.toNatClampNeg x2)).toInt ∧ (0 ≤ x3.toInt ∧ 0 ≤ x4.toInt ∧ 0 ≤ x5.toInt ∧ x5.toInt ≤ (I (t + 3) (Int32.toNatClampNeg x1)).toInt - x3.toInt ∧ x5.toInt ≤ (I (t + 3) (Int32.toNatClampNeg x2)).toInt - x4.toInt) ∧ v.toInt = x5.toInt ∧ ((∀ q : Nat, q < 40 → J2 (t + 5 + (Int32.toNatClampNeg x2)) q = va_cpy (J (t + 5 + (Int32.toNatClampNeg x1))) (J (t + 5 + (Int32.toNatClampNeg x2))) (Int32.toNatClampNeg x3) (Int32.toNatClampNeg x4) (Int32.toNatClampNeg x5) q) ∧ ∀ a, a ≠ t + 13 → a ≠ t + 5 + (Int32.toNatClampNeg x2) → J2 a = J a)) ∨ (((0 ≤ x1.toInt ∧ x1.toInt ≤ 7) ∧ 0 ≤ x2.toInt ∧ x2.toInt ≤ 7) ∧ ((I (t + 1) (Int32.toNatClampNeg x1)).toInt = 1 ∧ (I (t + 1) (Int32.toNatClampNeg x2)).toInt = 1) ∧ (I (t + 2) (Int32.toNatClampNeg x1)).toInt = (I (t + 2) (Int32.toNatClampNeg x2)).toInt ∧ ¬ (0 ≤ x3.toInt ∧ 0 ≤ x4.toInt ∧ 0 ≤ x5.toInt ∧ x5.toInt ≤ (I (t + 3) (Int32.toNatClampNeg x1)).toInt - x3.toInt ∧ x5.toInt ≤ (I (t + 3) (Int32.toNatClampNeg x2)).toInt - x4.toInt) ∧ v.toInt = -2 ∧ J2 = J)) → K v I2 J2) : Cl G mX12_copy (n + 1) 0 0 [.ref (gb G + t), .int x1, .int x2, .int x3, .int x4, .int x5] Z I J (qi Z K) := by
  refine eX12_copy ht ?_
  have hwI := WM_f hW
  have q1 := i32_lo x1
  have q2 : (Int32.toInt64 x1).toInt = (x1).toInt := Int32.toInt_toInt64 _
  have q3 : (0 : Int64).toInt = 0 := rfl
  have q4 : (7 : Int64).toInt = 7 := rfl
  refine sfX12_in  trivial  (fun v2  hp1 => ?_)
  first | (revert hrsx1; intro hrsx1) | have hrsx1 := WM_rowSize hW (k := Int32.toNatClampNeg x1) (by rw [tn_eq]; omega) | skip
  first | (revert hrsx2; intro hrsx2) | have hrsx2 := WM_rowSize hW (k := Int32.toNatClampNeg x2) (by rw [tn_eq]; omega) | skip
  refine ⟨fun hc2 => ?_, fun hc3 => ?_⟩
  · skip
    have q5 := i32_lo v2
    have q6 : (0 : Int32).toInt = 0 := rfl
    have hc2 := Int32.toInt_inj.mpr hc2
    first | (revert hrsx1; intro hrsx1) | have hrsx1 := WM_rowSize hW (k := Int32.toNatClampNeg x1) (by rw [tn_eq]; omega) | skip
    first | (revert hrsx2; intro hrsx2) | have hrsx2 := WM_rowSize hW (k := Int32.toNatClampNeg x2) (by rw [tn_eq]; omega) | skip
    have q7 : (-2 : Int32).toInt = -2 := rfl
    refine sfX12_refuse ht (by decide) hW (by omega) (fun v4 I3 hWI3 hFI3 hp4 => ?_)
    have hwI3 := WM_f hWI3
    first | (revert hrsx1; intro hrsx1) | have hrsx1 := WM_rowSize hW (k := Int32.toNatClampNeg x1) (by rw [tn_eq]; omega) | skip
    first | (revert hrsx2; intro hrsx2) | have hrsx2 := WM_rowSize hW (k := Int32.toNatClampNeg x2) (by rw [tn_eq]; omega) | skip
    have q8 := i32_lo v4
    exact hK _ _ _ hWI3 (Fr.tr Fr.rf hFI3 (by intro a k h; omega)) (by first | exact Or.inl ⟨by omega, by omega, rfl⟩ | exact Or.inr (Or.inr (Or.inr (Or.inr (Or.inr (Or.inr (⟨by omega, by omega, by omega, by omega, by omega, rfl⟩)))))) | exact Or.inr (Or.inl ⟨by omega, by omega⟩) | exact Or.inr (Or.inr (Or.inl ⟨by omega, by omega, by omega, rfl⟩)) | exact Or.inr (Or.inr (Or.inr (Or.inl ⟨by omega, by omega, by omega, by omega, by omega, rfl⟩))) | exact Or.inr (Or.inr (Or.inr (Or.inr (Or.inl ⟨by omega, by omega, by omega, by omega, rfl⟩)))) | exact Or.inr (Or.inr (Or.inr (Or.inr (Or.inr (Or.inl ⟨by omega, by omega, by omega, by omega, by omega, ⟨fun q _ => cp_end (by omega) (by omega) (hJ.1 q), hJ.2⟩⟩))))) | (by_cases hA : ((0 ≤ (I0 (t + 1) (Int32.toNatClampNeg x1)).toInt ∧ (I0 (t + 1) (Int32.toNatClampNeg x1)).toInt ≤ 2) ∧ 0 ≤ (I0 (t + 1) (Int32.toNatClampNeg x2)).toInt ∧ (I0 (t + 1) (Int32.toNatClampNeg x2)).toInt ≤ 2) <;> first | (have hs9 := hsu hA; exact Or.inr (Or.inr (Or.inr (Or.inr (Or.inr (Or.inl ⟨hs9.1, hs9.2.1, hs9.2.2.1, hs9.2.2.2, rfl, fun q _ => cp_end (by omega) (by omega) (hJ.1 q), hJ.2.2⟩)))))) | exact Or.inr (Or.inl ⟨by omega, hA⟩)))
  · skip
    have q5 := i32_lo v2
    have q6 : (0 : Int32).toInt = 0 := rfl
    have hc3 : ¬ (v2).toInt = (0 : Int32).toInt := fun z => hc3 (Int32.toInt_inj.mp z)
    first | (revert hrsx1; intro hrsx1) | have hrsx1 := WM_rowSize hW (k := Int32.toNatClampNeg x1) (by rw [tn_eq]; omega) | skip
    first | (revert hrsx2; intro hrsx2) | have hrsx2 := WM_rowSize hW (k := Int32.toNatClampNeg x2) (by rw [tn_eq]; omega) | skip
    have q7 := i32_lo x2
    have q8 : (Int32.toInt64 x2).toInt = (x2).toInt := Int32.toInt_toInt64 _
    refine sfX12_in  trivial  (fun v6  hp5 => ?_)
    first | (revert hrsx1; intro hrsx1) | have hrsx1 := WM_rowSize hW (k := Int32.toNatClampNeg x1) (by rw [tn_eq]; omega) | skip
    first | (revert hrsx2; intro hrsx2) | have hrsx2 := WM_rowSize hW (k := Int32.toNatClampNeg x2) (by rw [tn_eq]; omega) | skip
    refine ⟨fun hc6 => ?_, fun hc7 => ?_⟩
    · skip
      have q9 := i32_lo v6
      have hc6 : ¬ (v6).toInt = (0 : Int32).toInt := fun z => hc6 (Int32.toInt_inj.mp z)
      first | (revert hrsx1; intro hrsx1) | have hrsx1 := WM_rowSize hW (k := Int32.toNatClampNeg x1) (by rw [tn_eq]; omega) | skip
      first | (revert hrsx2; intro hrsx2) | have hrsx2 := WM_rowSize hW (k := Int32.toNatClampNeg x2) (by rw [tn_eq]; omega) | skip
      refine ⟨vp_of (by omega) (by omega), ?_⟩
      refine ⟨fun hc8 => ?_, fun hc9 => ?_⟩
      · skip
        have q10 : (2 : Int32).toInt = 2 := rfl
        have hc8 := Int32.toInt_inj.mpr hc8
        first | (revert hrsx1; intro hrsx1) | have hrsx1 := WM_rowSize hW (k := Int32.toNatClampNeg x1) (by rw [tn_eq]; omega) | skip
        first | (revert hrsx2; intro hrsx2) | have hrsx2 := WM_rowSize hW (k := Int32.toNatClampNeg x2) (by rw [tn_eq]; omega) | skip
        have q11 : (-3 : Int32).toInt = -3 := rfl
        refine sfX12_refuse ht (by decide) hW (by omega) (fun v9 I8 hWI8 hFI8 hp10 => ?_)
        have hwI8 := WM_f hWI8
        first | (revert hrsx1; intro hrsx1) | have hrsx1 := WM_rowSize hW (k := Int32.toNatClampNeg x1) (by rw [tn_eq]; omega) | skip
        first | (revert hrsx2; intro hrsx2) | have hrsx2 := WM_rowSize hW (k := Int32.toNatClampNeg x2) (by rw [tn_eq]; omega) | skip
        have q12 := i32_lo v9
        exact hK _ _ _ hWI8 (Fr.tr Fr.rf hFI8 (by intro a k h; omega)) (by first | exact Or.inr (Or.inr (Or.inl ⟨by omega, by omega, by omega, rfl⟩)) | exact Or.inr (Or.inr (Or.inr (Or.inr (Or.inl ⟨by omega, by omega, by omega, by omega, rfl⟩)))) | exact Or.inl ⟨by omega, by omega, rfl⟩ | exact Or.inr (Or.inl ⟨by omega, by omega⟩) | exact Or.inr (Or.inr (Or.inr (Or.inl ⟨by omega, by omega, by omega, by omega, by omega, rfl⟩))) | exact Or.inr (Or.inr (Or.inr (Or.inr (Or.inr (Or.inl ⟨by omega, by omega, by omega, by omega, by omega, ⟨fun q _ => cp_end (by omega) (by omega) (hJ.1 q), hJ.2⟩⟩))))) | exact Or.inr (Or.inr (Or.inr (Or.inr (Or.inr (Or.inr (⟨by omega, by omega, by omega, by omega, by omega, rfl⟩)))))) | (by_cases hA : ((0 ≤ (I0 (t + 1) (Int32.toNatClampNeg x1)).toInt ∧ (I0 (t + 1) (Int32.toNatClampNeg x1)).toInt ≤ 2) ∧ 0 ≤ (I0 (t + 1) (Int32.toNatClampNeg x2)).toInt ∧ (I0 (t + 1) (Int32.toNatClampNeg x2)).toInt ≤ 2) <;> first | (have hs9 := hsu hA; exact Or.inr (Or.inr (Or.inr (Or.inr (Or.inr (Or.inl ⟨hs9.1, hs9.2.1, hs9.2.2.1, hs9.2.2.2, rfl, fun q _ => cp_end (by omega) (by omega) (hJ.1 q), hJ.2.2⟩)))))) | exact Or.inr (Or.inl ⟨by omega, hA⟩)))
      · skip
        have q10 : (2 : Int32).toInt = 2 := rfl
        have hc9 : ¬ ((I (t + 1) (Int32.toNatClampNeg x1))).toInt = (2 : Int32).toInt := fun z => hc9 (Int32.toInt_inj.mp z)
        first | (revert hrsx1; intro hrsx1) | have hrsx1 := WM_rowSize hW (k := Int32.toNatClampNeg x1) (by rw [tn_eq]; omega) | skip
        first | (revert hrsx2; intro hrsx2) | have hrsx2 := WM_rowSize hW (k := Int32.toNatClampNeg x2) (by rw [tn_eq]; omega) | skip
        refine ⟨vp_of (by omega) (by omega), ?_⟩
        refine ⟨fun hc11 => ?_, fun hc12 => ?_⟩
        · skip
          have hc11 := Int32.toInt_inj.mpr hc11
          first | (revert hrsx1; intro hrsx1) | have hrsx1 := WM_rowSize hW (k := Int32.toNatClampNeg x1) (by rw [tn_eq]; omega) | skip
          first | (revert hrsx2; intro hrsx2) | have hrsx2 := WM_rowSize hW (k := Int32.toNatClampNeg x2) (by rw [tn_eq]; omega) | skip
          have q11 : (-3 : Int32).toInt = -3 := rfl
          refine sfX12_refuse ht (by decide) hW (by omega) (fun v12 I11 hWI11 hFI11 hp13 => ?_)
          have hwI11 := WM_f hWI11
          first | (revert hrsx1; intro hrsx1) | have hrsx1 := WM_rowSize hW (k := Int32.toNatClampNeg x1) (by rw [tn_eq]; omega) | skip
          first | (revert hrsx2; intro hrsx2) | have hrsx2 := WM_rowSize hW (k := Int32.toNatClampNeg x2) (by rw [tn_eq]; omega) | skip
          have q12 := i32_lo v12
          exact hK _ _ _ hWI11 (Fr.tr Fr.rf hFI11 (by intro a k h; omega)) (by first | exact Or.inr (Or.inr (Or.inl ⟨by omega, by omega, by omega, rfl⟩)) | exact Or.inr (Or.inr (Or.inr (Or.inr (Or.inl ⟨by omega, by omega, by omega, by omega, rfl⟩)))) | exact Or.inl ⟨by omega, by omega, rfl⟩ | exact Or.inr (Or.inl ⟨by omega, by omega⟩) | exact Or.inr (Or.inr (Or.inr (Or.inl ⟨by omega, by omega, by omega, by omega, by omega, rfl⟩))) | exact Or.inr (Or.inr (Or.inr (Or.inr (Or.inr (Or.inl ⟨by omega, by omega, by omega, by omega, by omega, ⟨fun q _ => cp_end (by omega) (by omega) (hJ.1 q), hJ.2⟩⟩))))) | exact Or.inr (Or.inr (Or.inr (Or.inr (Or.inr (Or.inr (⟨by omega, by omega, by omega, by omega, by omega, rfl⟩)))))) | (by_cases hA : ((0 ≤ (I0 (t + 1) (Int32.toNatClampNeg x1)).toInt ∧ (I0 (t + 1) (Int32.toNatClampNeg x1)).toInt ≤ 2) ∧ 0 ≤ (I0 (t + 1) (Int32.toNatClampNeg x2)).toInt ∧ (I0 (t + 1) (Int32.toNatClampNeg x2)).toInt ≤ 2) <;> first | (have hs9 := hsu hA; exact Or.inr (Or.inr (Or.inr (Or.inr (Or.inr (Or.inl ⟨hs9.1, hs9.2.1, hs9.2.2.1, hs9.2.2.2, rfl, fun q _ => cp_end (by omega) (by omega) (hJ.1 q), hJ.2.2⟩)))))) | exact Or.inr (Or.inl ⟨by omega, hA⟩)))
        · skip
          have hc12 : ¬ ((I (t + 1) (Int32.toNatClampNeg x2))).toInt = (2 : Int32).toInt := fun z => hc12 (Int32.toInt_inj.mp z)
          first | (revert hrsx1; intro hrsx1) | have hrsx1 := WM_rowSize hW (k := Int32.toNatClampNeg x1) (by rw [tn_eq]; omega) | skip
          first | (revert hrsx2; intro hrsx2) | have hrsx2 := WM_rowSize hW (k := Int32.toNatClampNeg x2) (by rw [tn_eq]; omega) | skip
          refine ⟨vp_of (by omega) (by omega), ?_⟩
          refine ⟨fun hc14 => ?_, fun hc15 => ?_⟩
          · skip
            have q11 : (1 : Int32).toInt = 1 := rfl
            have hc14 : ¬ ((I (t + 1) (Int32.toNatClampNeg x1))).toInt = (1 : Int32).toInt := fun z => hc14 (Int32.toInt_inj.mp z)
            first | (revert hrsx1; intro hrsx1) | have hrsx1 := WM_rowSize hW (k := Int32.toNatClampNeg x1) (by rw [tn_eq]; omega) | skip
            first | (revert hrsx2; intro hrsx2) | have hrsx2 := WM_rowSize hW (k := Int32.toNatClampNeg x2) (by rw [tn_eq]; omega) | skip
            refine ⟨vp_of (by omega) (by omega), ?_⟩
            refine ⟨fun hc16 => ?_, fun hc17 => ?_⟩
            · skip
              have hc16 := Int32.toInt_inj.mpr hc16
              first | (revert hrsx1; intro hrsx1) | have hrsx1 := WM_rowSize hW (k := Int32.toNatClampNeg x1) (by rw [tn_eq]; omega) | skip
              first | (revert hrsx2; intro hrsx2) | have hrsx2 := WM_rowSize hW (k := Int32.toNatClampNeg x2) (by rw [tn_eq]; omega) | skip
              have q12 : (-4 : Int32).toInt = -4 := rfl
              refine sfX12_refuse ht (by decide) hW (by omega) (fun v16 I15 hWI15 hFI15 hp18 => ?_)
              have hwI15 := WM_f hWI15
              first | (revert hrsx1; intro hrsx1) | have hrsx1 := WM_rowSize hW (k := Int32.toNatClampNeg x1) (by rw [tn_eq]; omega) | skip
              first | (revert hrsx2; intro hrsx2) | have hrsx2 := WM_rowSize hW (k := Int32.toNatClampNeg x2) (by rw [tn_eq]; omega) | skip
              have q13 := i32_lo v16
              exact hK _ _ _ hWI15 (Fr.tr Fr.rf hFI15 (by intro a k h; omega)) (by first | exact Or.inr (Or.inr (Or.inr (Or.inl ⟨by omega, by omega, by omega, by omega, by omega, rfl⟩))) | exact Or.inl ⟨by omega, by omega, rfl⟩ | exact Or.inr (Or.inl ⟨by omega, by omega⟩) | exact Or.inr (Or.inr (Or.inl ⟨by omega, by omega, by omega, rfl⟩)) | exact Or.inr (Or.inr (Or.inr (Or.inr (Or.inl ⟨by omega, by omega, by omega, by omega, rfl⟩)))) | exact Or.inr (Or.inr (Or.inr (Or.inr (Or.inr (Or.inl ⟨by omega, by omega, by omega, by omega, by omega, ⟨fun q _ => cp_end (by omega) (by omega) (hJ.1 q), hJ.2⟩⟩))))) | exact Or.inr (Or.inr (Or.inr (Or.inr (Or.inr (Or.inr (⟨by omega, by omega, by omega, by omega, by omega, rfl⟩)))))) | (by_cases hA : ((0 ≤ (I0 (t + 1) (Int32.toNatClampNeg x1)).toInt ∧ (I0 (t + 1) (Int32.toNatClampNeg x1)).toInt ≤ 2) ∧ 0 ≤ (I0 (t + 1) (Int32.toNatClampNeg x2)).toInt ∧ (I0 (t + 1) (Int32.toNatClampNeg x2)).toInt ≤ 2) <;> first | (have hs9 := hsu hA; exact Or.inr (Or.inr (Or.inr (Or.inr (Or.inr (Or.inl ⟨hs9.1, hs9.2.1, hs9.2.2.1, hs9.2.2.2, rfl, fun q _ => cp_end (by omega) (by omega) (hJ.1 q), hJ.2.2⟩)))))) | exact Or.inr (Or.inl ⟨by omega, hA⟩)))
            · skip
              have hc17 : ¬ ((I (t + 1) (Int32.toNatClampNeg x1))).toInt = (0 : Int32).toInt := fun z => hc17 (Int32.toInt_inj.mp z)
              first | (revert hrsx1; intro hrsx1) | have hrsx1 := WM_rowSize hW (k := Int32.toNatClampNeg x1) (by rw [tn_eq]; omega) | skip
              first | (revert hrsx2; intro hrsx2) | have hrsx2 := WM_rowSize hW (k := Int32.toNatClampNeg x2) (by rw [tn_eq]; omega) | skip
              refine ⟨vp_of (by omega) (by omega), ?_⟩
              refine ⟨fun hc19 => ?_, fun hc20 => ?_⟩
              · skip
                have hc19 : ¬ ((I (t + 1) (Int32.toNatClampNeg x2))).toInt = (0 : Int32).toInt := fun z => hc19 (Int32.toInt_inj.mp z)
                first | (revert hrsx1; intro hrsx1) | have hrsx1 := WM_rowSize hW (k := Int32.toNatClampNeg x1) (by rw [tn_eq]; omega) | skip
                first | (revert hrsx2; intro hrsx2) | have hrsx2 := WM_rowSize hW (k := Int32.toNatClampNeg x2) (by rw [tn_eq]; omega) | skip
                refine ⟨fun hc21 => ?_, fun hc22 => ?_⟩
                · skip
                  have q12 := i32_lo x5
                  have hc21 := Int32.lt_iff_toInt_lt.mp hc21
                  first | (revert hrsx1; intro hrsx1) | have hrsx1 := WM_rowSize hW (k := Int32.toNatClampNeg x1) (by rw [tn_eq]; omega) | skip
                  first | (revert hrsx2; intro hrsx2) | have hrsx2 := WM_rowSize hW (k := Int32.toNatClampNeg x2) (by rw [tn_eq]; omega) | skip
                  have q13 : (-2 : Int32).toInt = -2 := rfl
                  refine sfX12_refuse ht (by decide) hW (by omega) (fun v19 I18 hWI18 hFI18 hp23 => ?_)
                  have hwI18 := WM_f hWI18
                  first | (revert hrsx1; intro hrsx1) | have hrsx1 := WM_rowSize hW (k := Int32.toNatClampNeg x1) (by rw [tn_eq]; omega) | skip
                  first | (revert hrsx2; intro hrsx2) | have hrsx2 := WM_rowSize hW (k := Int32.toNatClampNeg x2) (by rw [tn_eq]; omega) | skip
                  have q14 := i32_lo v19
                  exact hK _ _ _ hWI18 (Fr.tr Fr.rf hFI18 (by intro a k h; omega)) (by first | exact Or.inr (Or.inr (Or.inr (Or.inr (Or.inr (Or.inr (⟨by omega, by omega, by omega, by omega, by omega, rfl⟩)))))) | exact Or.inl ⟨by omega, by omega, rfl⟩ | exact Or.inr (Or.inl ⟨by omega, by omega⟩) | exact Or.inr (Or.inr (Or.inl ⟨by omega, by omega, by omega, rfl⟩)) | exact Or.inr (Or.inr (Or.inr (Or.inl ⟨by omega, by omega, by omega, by omega, by omega, rfl⟩))) | exact Or.inr (Or.inr (Or.inr (Or.inr (Or.inl ⟨by omega, by omega, by omega, by omega, rfl⟩)))) | exact Or.inr (Or.inr (Or.inr (Or.inr (Or.inr (Or.inl ⟨by omega, by omega, by omega, by omega, by omega, ⟨fun q _ => cp_end (by omega) (by omega) (hJ.1 q), hJ.2⟩⟩))))) | (by_cases hA : ((0 ≤ (I0 (t + 1) (Int32.toNatClampNeg x1)).toInt ∧ (I0 (t + 1) (Int32.toNatClampNeg x1)).toInt ≤ 2) ∧ 0 ≤ (I0 (t + 1) (Int32.toNatClampNeg x2)).toInt ∧ (I0 (t + 1) (Int32.toNatClampNeg x2)).toInt ≤ 2) <;> first | (have hs9 := hsu hA; exact Or.inr (Or.inr (Or.inr (Or.inr (Or.inr (Or.inl ⟨hs9.1, hs9.2.1, hs9.2.2.1, hs9.2.2.2, rfl, fun q _ => cp_end (by omega) (by omega) (hJ.1 q), hJ.2.2⟩)))))) | exact Or.inr (Or.inl ⟨by omega, hA⟩)))
                · skip
                  have q12 := i32_lo x5
                  have hc22 := mt Int32.lt_iff_toInt_lt.mpr hc22
                  first | (revert hrsx1; intro hrsx1) | have hrsx1 := WM_rowSize hW (k := Int32.toNatClampNeg x1) (by rw [tn_eq]; omega) | skip
                  first | (revert hrsx2; intro hrsx2) | have hrsx2 := WM_rowSize hW (k := Int32.toNatClampNeg x2) (by rw [tn_eq]; omega) | skip
                  refine ⟨fun hc24 => ?_, fun hc25 => ?_⟩
                  · skip
                    have q13 := i32_lo x3
                    have hc24 := Int32.lt_iff_toInt_lt.mp hc24
                    first | (revert hrsx1; intro hrsx1) | have hrsx1 := WM_rowSize hW (k := Int32.toNatClampNeg x1) (by rw [tn_eq]; omega) | skip
                    first | (revert hrsx2; intro hrsx2) | have hrsx2 := WM_rowSize hW (k := Int32.toNatClampNeg x2) (by rw [tn_eq]; omega) | skip
                    have q14 : (-2 : Int32).toInt = -2 := rfl
                    refine sfX12_refuse ht (by decide) hW (by omega) (fun v21 I20 hWI20 hFI20 hp26 => ?_)
                    have hwI20 := WM_f hWI20
                    first | (revert hrsx1; intro hrsx1) | have hrsx1 := WM_rowSize hW (k := Int32.toNatClampNeg x1) (by rw [tn_eq]; omega) | skip
                    first | (revert hrsx2; intro hrsx2) | have hrsx2 := WM_rowSize hW (k := Int32.toNatClampNeg x2) (by rw [tn_eq]; omega) | skip
                    have q15 := i32_lo v21
                    exact hK _ _ _ hWI20 (Fr.tr Fr.rf hFI20 (by intro a k h; omega)) (by first | exact Or.inr (Or.inr (Or.inr (Or.inr (Or.inr (Or.inr (⟨by omega, by omega, by omega, by omega, by omega, rfl⟩)))))) | exact Or.inl ⟨by omega, by omega, rfl⟩ | exact Or.inr (Or.inl ⟨by omega, by omega⟩) | exact Or.inr (Or.inr (Or.inl ⟨by omega, by omega, by omega, rfl⟩)) | exact Or.inr (Or.inr (Or.inr (Or.inl ⟨by omega, by omega, by omega, by omega, by omega, rfl⟩))) | exact Or.inr (Or.inr (Or.inr (Or.inr (Or.inl ⟨by omega, by omega, by omega, by omega, rfl⟩)))) | exact Or.inr (Or.inr (Or.inr (Or.inr (Or.inr (Or.inl ⟨by omega, by omega, by omega, by omega, by omega, ⟨fun q _ => cp_end (by omega) (by omega) (hJ.1 q), hJ.2⟩⟩))))) | (by_cases hA : ((0 ≤ (I0 (t + 1) (Int32.toNatClampNeg x1)).toInt ∧ (I0 (t + 1) (Int32.toNatClampNeg x1)).toInt ≤ 2) ∧ 0 ≤ (I0 (t + 1) (Int32.toNatClampNeg x2)).toInt ∧ (I0 (t + 1) (Int32.toNatClampNeg x2)).toInt ≤ 2) <;> first | (have hs9 := hsu hA; exact Or.inr (Or.inr (Or.inr (Or.inr (Or.inr (Or.inl ⟨hs9.1, hs9.2.1, hs9.2.2.1, hs9.2.2.2, rfl, fun q _ => cp_end (by omega) (by omega) (hJ.1 q), hJ.2.2⟩)))))) | exact Or.inr (Or.inl ⟨by omega, hA⟩)))
                  · skip
                    have q13 := i32_lo x3
                    have hc25 := mt Int32.lt_iff_toInt_lt.mpr hc25
                    first | (revert hrsx1; intro hrsx1) | have hrsx1 := WM_rowSize hW (k := Int32.toNatClampNeg x1) (by rw [tn_eq]; omega) | skip
                    first | (revert hrsx2; intro hrsx2) | have hrsx2 := WM_rowSize hW (k := Int32.toNatClampNeg x2) (by rw [tn_eq]; omega) | skip
                    refine ⟨fun hc27 => ?_, fun hc28 => ?_⟩
                    · skip
                      have q14 := i32_lo x4
                      have hc27 := Int32.lt_iff_toInt_lt.mp hc27
                      first | (revert hrsx1; intro hrsx1) | have hrsx1 := WM_rowSize hW (k := Int32.toNatClampNeg x1) (by rw [tn_eq]; omega) | skip
                      first | (revert hrsx2; intro hrsx2) | have hrsx2 := WM_rowSize hW (k := Int32.toNatClampNeg x2) (by rw [tn_eq]; omega) | skip
                      have q15 : (-2 : Int32).toInt = -2 := rfl
                      refine sfX12_refuse ht (by decide) hW (by omega) (fun v23 I22 hWI22 hFI22 hp29 => ?_)
                      have hwI22 := WM_f hWI22
                      first | (revert hrsx1; intro hrsx1) | have hrsx1 := WM_rowSize hW (k := Int32.toNatClampNeg x1) (by rw [tn_eq]; omega) | skip
                      first | (revert hrsx2; intro hrsx2) | have hrsx2 := WM_rowSize hW (k := Int32.toNatClampNeg x2) (by rw [tn_eq]; omega) | skip
                      have q16 := i32_lo v23
                      exact hK _ _ _ hWI22 (Fr.tr Fr.rf hFI22 (by intro a k h; omega)) (by first | exact Or.inr (Or.inr (Or.inr (Or.inr (Or.inr (Or.inr (⟨by omega, by omega, by omega, by omega, by omega, rfl⟩)))))) | exact Or.inl ⟨by omega, by omega, rfl⟩ | exact Or.inr (Or.inl ⟨by omega, by omega⟩) | exact Or.inr (Or.inr (Or.inl ⟨by omega, by omega, by omega, rfl⟩)) | exact Or.inr (Or.inr (Or.inr (Or.inl ⟨by omega, by omega, by omega, by omega, by omega, rfl⟩))) | exact Or.inr (Or.inr (Or.inr (Or.inr (Or.inl ⟨by omega, by omega, by omega, by omega, rfl⟩)))) | exact Or.inr (Or.inr (Or.inr (Or.inr (Or.inr (Or.inl ⟨by omega, by omega, by omega, by omega, by omega, ⟨fun q _ => cp_end (by omega) (by omega) (hJ.1 q), hJ.2⟩⟩))))) | (by_cases hA : ((0 ≤ (I0 (t + 1) (Int32.toNatClampNeg x1)).toInt ∧ (I0 (t + 1) (Int32.toNatClampNeg x1)).toInt ≤ 2) ∧ 0 ≤ (I0 (t + 1) (Int32.toNatClampNeg x2)).toInt ∧ (I0 (t + 1) (Int32.toNatClampNeg x2)).toInt ≤ 2) <;> first | (have hs9 := hsu hA; exact Or.inr (Or.inr (Or.inr (Or.inr (Or.inr (Or.inl ⟨hs9.1, hs9.2.1, hs9.2.2.1, hs9.2.2.2, rfl, fun q _ => cp_end (by omega) (by omega) (hJ.1 q), hJ.2.2⟩)))))) | exact Or.inr (Or.inl ⟨by omega, hA⟩)))
                    · skip
                      have q14 := i32_lo x4
                      have hc28 := mt Int32.lt_iff_toInt_lt.mpr hc28
                      first | (revert hrsx1; intro hrsx1) | have hrsx1 := WM_rowSize hW (k := Int32.toNatClampNeg x1) (by rw [tn_eq]; omega) | skip
                      first | (revert hrsx2; intro hrsx2) | have hrsx2 := WM_rowSize hW (k := Int32.toNatClampNeg x2) (by rw [tn_eq]; omega) | skip
                      refine ⟨vp_of (by omega) (by omega), ?_⟩
                      refine ⟨fun hc30 => ?_, fun hc31 => ?_⟩
                      · skip
                        have hc30 := Int32.lt_iff_toInt_lt.mp hc30
                        first | (revert hrsx1; intro hrsx1) | have hrsx1 := WM_rowSize hW (k := Int32.toNatClampNeg x1) (by rw [tn_eq]; omega) | skip
                        first | (revert hrsx2; intro hrsx2) | have hrsx2 := WM_rowSize hW (k := Int32.toNatClampNeg x2) (by rw [tn_eq]; omega) | skip
                        have q15 : (-2 : Int32).toInt = -2 := rfl
                        refine sfX12_refuse ht (by decide) hW (by omega) (fun v26 I25 hWI25 hFI25 hp32 => ?_)
                        have hwI25 := WM_f hWI25
                        first | (revert hrsx1; intro hrsx1) | have hrsx1 := WM_rowSize hW (k := Int32.toNatClampNeg x1) (by rw [tn_eq]; omega) | skip
                        first | (revert hrsx2; intro hrsx2) | have hrsx2 := WM_rowSize hW (k := Int32.toNatClampNeg x2) (by rw [tn_eq]; omega) | skip
                        have q16 := i32_lo v26
                        exact hK _ _ _ hWI25 (Fr.tr Fr.rf hFI25 (by intro a k h; omega)) (by first | exact Or.inr (Or.inr (Or.inr (Or.inr (Or.inr (Or.inr (⟨by omega, by omega, by omega, by omega, by omega, rfl⟩)))))) | exact Or.inl ⟨by omega, by omega, rfl⟩ | exact Or.inr (Or.inl ⟨by omega, by omega⟩) | exact Or.inr (Or.inr (Or.inl ⟨by omega, by omega, by omega, rfl⟩)) | exact Or.inr (Or.inr (Or.inr (Or.inl ⟨by omega, by omega, by omega, by omega, by omega, rfl⟩))) | exact Or.inr (Or.inr (Or.inr (Or.inr (Or.inl ⟨by omega, by omega, by omega, by omega, rfl⟩)))) | exact Or.inr (Or.inr (Or.inr (Or.inr (Or.inr (Or.inl ⟨by omega, by omega, by omega, by omega, by omega, ⟨fun q _ => cp_end (by omega) (by omega) (hJ.1 q), hJ.2⟩⟩))))) | (by_cases hA : ((0 ≤ (I0 (t + 1) (Int32.toNatClampNeg x1)).toInt ∧ (I0 (t + 1) (Int32.toNatClampNeg x1)).toInt ≤ 2) ∧ 0 ≤ (I0 (t + 1) (Int32.toNatClampNeg x2)).toInt ∧ (I0 (t + 1) (Int32.toNatClampNeg x2)).toInt ≤ 2) <;> first | (have hs9 := hsu hA; exact Or.inr (Or.inr (Or.inr (Or.inr (Or.inr (Or.inl ⟨hs9.1, hs9.2.1, hs9.2.2.1, hs9.2.2.2, rfl, fun q _ => cp_end (by omega) (by omega) (hJ.1 q), hJ.2.2⟩)))))) | exact Or.inr (Or.inl ⟨by omega, hA⟩)))
                      · skip
                        have hc31 := mt Int32.lt_iff_toInt_lt.mpr hc31
                        first | (revert hrsx1; intro hrsx1) | have hrsx1 := WM_rowSize hW (k := Int32.toNatClampNeg x1) (by rw [tn_eq]; omega) | skip
                        first | (revert hrsx2; intro hrsx2) | have hrsx2 := WM_rowSize hW (k := Int32.toNatClampNeg x2) (by rw [tn_eq]; omega) | skip
                        refine ⟨vp_of (by omega) (by omega), ?_⟩
                        refine ⟨fun hc33 => ?_, fun hc34 => ?_⟩
                        · skip
                          have hc33 := Int32.lt_iff_toInt_lt.mp hc33
                          first | (revert hrsx1; intro hrsx1) | have hrsx1 := WM_rowSize hW (k := Int32.toNatClampNeg x1) (by rw [tn_eq]; omega) | skip
                          first | (revert hrsx2; intro hrsx2) | have hrsx2 := WM_rowSize hW (k := Int32.toNatClampNeg x2) (by rw [tn_eq]; omega) | skip
                          have q15 : (-2 : Int32).toInt = -2 := rfl
                          refine sfX12_refuse ht (by decide) hW (by omega) (fun v29 I28 hWI28 hFI28 hp35 => ?_)
                          have hwI28 := WM_f hWI28
                          first | (revert hrsx1; intro hrsx1) | have hrsx1 := WM_rowSize hW (k := Int32.toNatClampNeg x1) (by rw [tn_eq]; omega) | skip
                          first | (revert hrsx2; intro hrsx2) | have hrsx2 := WM_rowSize hW (k := Int32.toNatClampNeg x2) (by rw [tn_eq]; omega) | skip
                          have q16 := i32_lo v29
                          exact hK _ _ _ hWI28 (Fr.tr Fr.rf hFI28 (by intro a k h; omega)) (by first | exact Or.inr (Or.inr (Or.inr (Or.inr (Or.inr (Or.inr (⟨by omega, by omega, by omega, by omega, by omega, rfl⟩)))))) | exact Or.inl ⟨by omega, by omega, rfl⟩ | exact Or.inr (Or.inl ⟨by omega, by omega⟩) | exact Or.inr (Or.inr (Or.inl ⟨by omega, by omega, by omega, rfl⟩)) | exact Or.inr (Or.inr (Or.inr (Or.inl ⟨by omega, by omega, by omega, by omega, by omega, rfl⟩))) | exact Or.inr (Or.inr (Or.inr (Or.inr (Or.inl ⟨by omega, by omega, by omega, by omega, rfl⟩)))) | exact Or.inr (Or.inr (Or.inr (Or.inr (Or.inr (Or.inl ⟨by omega, by omega, by omega, by omega, by omega, ⟨fun q _ => cp_end (by omega) (by omega) (hJ.1 q), hJ.2⟩⟩))))) | (by_cases hA : ((0 ≤ (I0 (t + 1) (Int32.toNatClampNeg x1)).toInt ∧ (I0 (t + 1) (Int32.toNatClampNeg x1)).toInt ≤ 2) ∧ 0 ≤ (I0 (t + 1) (Int32.toNatClampNeg x2)).toInt ∧ (I0 (t + 1) (Int32.toNatClampNeg x2)).toInt ≤ 2) <;> first | (have hs9 := hsu hA; exact Or.inr (Or.inr (Or.inr (Or.inr (Or.inr (Or.inl ⟨hs9.1, hs9.2.1, hs9.2.2.1, hs9.2.2.2, rfl, fun q _ => cp_end (by omega) (by omega) (hJ.1 q), hJ.2.2⟩)))))) | exact Or.inr (Or.inl ⟨by omega, hA⟩)))
                        · skip
                          have hc34 := mt Int32.lt_iff_toInt_lt.mpr hc34
                          first | (revert hrsx1; intro hrsx1) | have hrsx1 := WM_rowSize hW (k := Int32.toNatClampNeg x1) (by rw [tn_eq]; omega) | skip
                          first | (revert hrsx2; intro hrsx2) | have hrsx2 := WM_rowSize hW (k := Int32.toNatClampNeg x2) (by rw [tn_eq]; omega) | skip
                          refine ⟨vp_of (by omega) (by omega), ?_⟩
                          refine ⟨fun hc36 => ?_, fun hc37 => ?_⟩
                          · skip
                            have q15 := i32_subI (I (t + 3) (Int32.toNatClampNeg x1)) x5
                            have hc36 := Int32.lt_iff_toInt_lt.mp hc36
                            first | (revert hrsx1; intro hrsx1) | have hrsx1 := WM_rowSize hW (k := Int32.toNatClampNeg x1) (by rw [tn_eq]; omega) | skip
                            first | (revert hrsx2; intro hrsx2) | have hrsx2 := WM_rowSize hW (k := Int32.toNatClampNeg x2) (by rw [tn_eq]; omega) | skip
                            have q16 : (-2 : Int32).toInt = -2 := rfl
                            refine sfX12_refuse ht (by decide) hW (by omega) (fun v32 I31 hWI31 hFI31 hp38 => ?_)
                            have hwI31 := WM_f hWI31
                            first | (revert hrsx1; intro hrsx1) | have hrsx1 := WM_rowSize hW (k := Int32.toNatClampNeg x1) (by rw [tn_eq]; omega) | skip
                            first | (revert hrsx2; intro hrsx2) | have hrsx2 := WM_rowSize hW (k := Int32.toNatClampNeg x2) (by rw [tn_eq]; omega) | skip
                            have q17 := i32_lo v32
                            exact hK _ _ _ hWI31 (Fr.tr Fr.rf hFI31 (by intro a k h; omega)) (by first | exact Or.inr (Or.inr (Or.inr (Or.inr (Or.inr (Or.inr (⟨by omega, by omega, by omega, by omega, by omega, rfl⟩)))))) | exact Or.inl ⟨by omega, by omega, rfl⟩ | exact Or.inr (Or.inl ⟨by omega, by omega⟩) | exact Or.inr (Or.inr (Or.inl ⟨by omega, by omega, by omega, rfl⟩)) | exact Or.inr (Or.inr (Or.inr (Or.inl ⟨by omega, by omega, by omega, by omega, by omega, rfl⟩))) | exact Or.inr (Or.inr (Or.inr (Or.inr (Or.inl ⟨by omega, by omega, by omega, by omega, rfl⟩)))) | exact Or.inr (Or.inr (Or.inr (Or.inr (Or.inr (Or.inl ⟨by omega, by omega, by omega, by omega, by omega, ⟨fun q _ => cp_end (by omega) (by omega) (hJ.1 q), hJ.2⟩⟩))))) | (by_cases hA : ((0 ≤ (I0 (t + 1) (Int32.toNatClampNeg x1)).toInt ∧ (I0 (t + 1) (Int32.toNatClampNeg x1)).toInt ≤ 2) ∧ 0 ≤ (I0 (t + 1) (Int32.toNatClampNeg x2)).toInt ∧ (I0 (t + 1) (Int32.toNatClampNeg x2)).toInt ≤ 2) <;> first | (have hs9 := hsu hA; exact Or.inr (Or.inr (Or.inr (Or.inr (Or.inr (Or.inl ⟨hs9.1, hs9.2.1, hs9.2.2.1, hs9.2.2.2, rfl, fun q _ => cp_end (by omega) (by omega) (hJ.1 q), hJ.2.2⟩)))))) | exact Or.inr (Or.inl ⟨by omega, hA⟩)))
                          · skip
                            have q15 := i32_subI (I (t + 3) (Int32.toNatClampNeg x1)) x5
                            have hc37 := mt Int32.lt_iff_toInt_lt.mpr hc37
                            first | (revert hrsx1; intro hrsx1) | have hrsx1 := WM_rowSize hW (k := Int32.toNatClampNeg x1) (by rw [tn_eq]; omega) | skip
                            first | (revert hrsx2; intro hrsx2) | have hrsx2 := WM_rowSize hW (k := Int32.toNatClampNeg x2) (by rw [tn_eq]; omega) | skip
                            refine ⟨vp_of (by omega) (by omega), ?_⟩
                            refine ⟨fun hc39 => ?_, fun hc40 => ?_⟩
                            · skip
                              have q16 := i32_subI (I (t + 3) (Int32.toNatClampNeg x2)) x5
                              have hc39 := Int32.le_iff_toInt_le.mp hc39
                              first | (revert hrsx1; intro hrsx1) | have hrsx1 := WM_rowSize hW (k := Int32.toNatClampNeg x1) (by rw [tn_eq]; omega) | skip
                              first | (revert hrsx2; intro hrsx2) | have hrsx2 := WM_rowSize hW (k := Int32.toNatClampNeg x2) (by rw [tn_eq]; omega) | skip
                              exact lX12_copy_191 ht   hK  (((x5.toInt) - (0 : Int32).toInt).toNat + 1) _ _ 0 hW Fr.rf (by omega) (by omega) (by omega) (by omega) (by omega) (by first | exact ⟨fun q hq => by exfalso; omega, fun _ _ => rfl⟩ | exact cp_1 hJ (by omega) (by omega) (by omega) (by omega) (by omega)) (by omega)
                            · skip
                              have q16 := i32_subI (I (t + 3) (Int32.toNatClampNeg x2)) x5
                              have hc40 := mt Int32.le_iff_toInt_le.mpr hc40
                              first | (revert hrsx1; intro hrsx1) | have hrsx1 := WM_rowSize hW (k := Int32.toNatClampNeg x1) (by rw [tn_eq]; omega) | skip
                              first | (revert hrsx2; intro hrsx2) | have hrsx2 := WM_rowSize hW (k := Int32.toNatClampNeg x2) (by rw [tn_eq]; omega) | skip
                              have q17 : (-2 : Int32).toInt = -2 := rfl
                              refine sfX12_refuse ht (by decide) hW (by omega) (fun v35 I34 hWI34 hFI34 hp41 => ?_)
                              have hwI34 := WM_f hWI34
                              first | (revert hrsx1; intro hrsx1) | have hrsx1 := WM_rowSize hW (k := Int32.toNatClampNeg x1) (by rw [tn_eq]; omega) | skip
                              first | (revert hrsx2; intro hrsx2) | have hrsx2 := WM_rowSize hW (k := Int32.toNatClampNeg x2) (by rw [tn_eq]; omega) | skip
                              have q18 := i32_lo v35
                              exact hK _ _ _ hWI34 (Fr.tr Fr.rf hFI34 (by intro a k h; omega)) (by first | exact Or.inr (Or.inr (Or.inr (Or.inr (Or.inr (Or.inr (⟨by omega, by omega, by omega, by omega, by omega, rfl⟩)))))) | exact Or.inl ⟨by omega, by omega, rfl⟩ | exact Or.inr (Or.inl ⟨by omega, by omega⟩) | exact Or.inr (Or.inr (Or.inl ⟨by omega, by omega, by omega, rfl⟩)) | exact Or.inr (Or.inr (Or.inr (Or.inl ⟨by omega, by omega, by omega, by omega, by omega, rfl⟩))) | exact Or.inr (Or.inr (Or.inr (Or.inr (Or.inl ⟨by omega, by omega, by omega, by omega, rfl⟩)))) | exact Or.inr (Or.inr (Or.inr (Or.inr (Or.inr (Or.inl ⟨by omega, by omega, by omega, by omega, by omega, ⟨fun q _ => cp_end (by omega) (by omega) (hJ.1 q), hJ.2⟩⟩))))) | (by_cases hA : ((0 ≤ (I0 (t + 1) (Int32.toNatClampNeg x1)).toInt ∧ (I0 (t + 1) (Int32.toNatClampNeg x1)).toInt ≤ 2) ∧ 0 ≤ (I0 (t + 1) (Int32.toNatClampNeg x2)).toInt ∧ (I0 (t + 1) (Int32.toNatClampNeg x2)).toInt ≤ 2) <;> first | (have hs9 := hsu hA; exact Or.inr (Or.inr (Or.inr (Or.inr (Or.inr (Or.inl ⟨hs9.1, hs9.2.1, hs9.2.2.1, hs9.2.2.2, rfl, fun q _ => cp_end (by omega) (by omega) (hJ.1 q), hJ.2.2⟩)))))) | exact Or.inr (Or.inl ⟨by omega, hA⟩)))
              · skip
                have hc20 := Int32.toInt_inj.mpr hc20
                first | (revert hrsx1; intro hrsx1) | have hrsx1 := WM_rowSize hW (k := Int32.toNatClampNeg x1) (by rw [tn_eq]; omega) | skip
                first | (revert hrsx2; intro hrsx2) | have hrsx2 := WM_rowSize hW (k := Int32.toNatClampNeg x2) (by rw [tn_eq]; omega) | skip
                have q12 : (-4 : Int32).toInt = -4 := rfl
                refine sfX12_refuse ht (by decide) hW (by omega) (fun v37 I36 hWI36 hFI36 hp42 => ?_)
                have hwI36 := WM_f hWI36
                first | (revert hrsx1; intro hrsx1) | have hrsx1 := WM_rowSize hW (k := Int32.toNatClampNeg x1) (by rw [tn_eq]; omega) | skip
                first | (revert hrsx2; intro hrsx2) | have hrsx2 := WM_rowSize hW (k := Int32.toNatClampNeg x2) (by rw [tn_eq]; omega) | skip
                have q13 := i32_lo v37
                exact hK _ _ _ hWI36 (Fr.tr Fr.rf hFI36 (by intro a k h; omega)) (by first | exact Or.inr (Or.inr (Or.inr (Or.inl ⟨by omega, by omega, by omega, by omega, by omega, rfl⟩))) | exact Or.inl ⟨by omega, by omega, rfl⟩ | exact Or.inr (Or.inl ⟨by omega, by omega⟩) | exact Or.inr (Or.inr (Or.inl ⟨by omega, by omega, by omega, rfl⟩)) | exact Or.inr (Or.inr (Or.inr (Or.inr (Or.inl ⟨by omega, by omega, by omega, by omega, rfl⟩)))) | exact Or.inr (Or.inr (Or.inr (Or.inr (Or.inr (Or.inl ⟨by omega, by omega, by omega, by omega, by omega, ⟨fun q _ => cp_end (by omega) (by omega) (hJ.1 q), hJ.2⟩⟩))))) | exact Or.inr (Or.inr (Or.inr (Or.inr (Or.inr (Or.inr (⟨by omega, by omega, by omega, by omega, by omega, rfl⟩)))))) | (by_cases hA : ((0 ≤ (I0 (t + 1) (Int32.toNatClampNeg x1)).toInt ∧ (I0 (t + 1) (Int32.toNatClampNeg x1)).toInt ≤ 2) ∧ 0 ≤ (I0 (t + 1) (Int32.toNatClampNeg x2)).toInt ∧ (I0 (t + 1) (Int32.toNatClampNeg x2)).toInt ≤ 2) <;> first | (have hs9 := hsu hA; exact Or.inr (Or.inr (Or.inr (Or.inr (Or.inr (Or.inl ⟨hs9.1, hs9.2.1, hs9.2.2.1, hs9.2.2.2, rfl, fun q _ => cp_end (by omega) (by omega) (hJ.1 q), hJ.2.2⟩)))))) | exact Or.inr (Or.inl ⟨by omega, hA⟩)))
          · skip
            have q11 : (1 : Int32).toInt = 1 := rfl
            have hc15 := Int32.toInt_inj.mpr hc15
            first | (revert hrsx1; intro hrsx1) | have hrsx1 := WM_rowSize hW (k := Int32.toNatClampNeg x1) (by rw [tn_eq]; omega) | skip
            first | (revert hrsx2; intro hrsx2) | have hrsx2 := WM_rowSize hW (k := Int32.toNatClampNeg x2) (by rw [tn_eq]; omega) | skip
            refine ⟨vp_of (by omega) (by omega), ?_⟩
            refine ⟨fun hc43 => ?_, fun hc44 => ?_⟩
            · skip
              have hc43 : ¬ ((I (t + 1) (Int32.toNatClampNeg x2))).toInt = (1 : Int32).toInt := fun z => hc43 (Int32.toInt_inj.mp z)
              first | (revert hrsx1; intro hrsx1) | have hrsx1 := WM_rowSize hW (k := Int32.toNatClampNeg x1) (by rw [tn_eq]; omega) | skip
              first | (revert hrsx2; intro hrsx2) | have hrsx2 := WM_rowSize hW (k := Int32.toNatClampNeg x2) (by rw [tn_eq]; omega) | skip
              refine ⟨vp_of (by omega) (by omega), ?_⟩
              refine ⟨fun hc45 => ?_, fun hc46 => ?_⟩
              · skip
                have hc45 := Int32.toInt_inj.mpr hc45
                first | (revert hrsx1; intro hrsx1) | have hrsx1 := WM_rowSize hW (k := Int32.toNatClampNeg x1) (by rw [tn_eq]; omega) | skip
                first | (revert hrsx2; intro hrsx2) | have hrsx2 := WM_rowSize hW (k := Int32.toNatClampNeg x2) (by rw [tn_eq]; omega) | skip
                have q12 : (-4 : Int32).toInt = -4 := rfl
                refine sfX12_refuse ht (by decide) hW (by omega) (fun v41 I40 hWI40 hFI40 hp47 => ?_)
                have hwI40 := WM_f hWI40
                first | (revert hrsx1; intro hrsx1) | have hrsx1 := WM_rowSize hW (k := Int32.toNatClampNeg x1) (by rw [tn_eq]; omega) | skip
                first | (revert hrsx2; intro hrsx2) | have hrsx2 := WM_rowSize hW (k := Int32.toNatClampNeg x2) (by rw [tn_eq]; omega) | skip
                have q13 := i32_lo v41
                exact hK _ _ _ hWI40 (Fr.tr Fr.rf hFI40 (by intro a k h; omega)) (by first | exact Or.inr (Or.inr (Or.inr (Or.inl ⟨by omega, by omega, by omega, by omega, by omega, rfl⟩))) | exact Or.inl ⟨by omega, by omega, rfl⟩ | exact Or.inr (Or.inl ⟨by omega, by omega⟩) | exact Or.inr (Or.inr (Or.inl ⟨by omega, by omega, by omega, rfl⟩)) | exact Or.inr (Or.inr (Or.inr (Or.inr (Or.inl ⟨by omega, by omega, by omega, by omega, rfl⟩)))) | exact Or.inr (Or.inr (Or.inr (Or.inr (Or.inr (Or.inl ⟨by omega, by omega, by omega, by omega, by omega, ⟨fun q _ => cp_end (by omega) (by omega) (hJ.1 q), hJ.2⟩⟩))))) | exact Or.inr (Or.inr (Or.inr (Or.inr (Or.inr (Or.inr (⟨by omega, by omega, by omega, by omega, by omega, rfl⟩)))))) | (by_cases hA : ((0 ≤ (I0 (t + 1) (Int32.toNatClampNeg x1)).toInt ∧ (I0 (t + 1) (Int32.toNatClampNeg x1)).toInt ≤ 2) ∧ 0 ≤ (I0 (t + 1) (Int32.toNatClampNeg x2)).toInt ∧ (I0 (t + 1) (Int32.toNatClampNeg x2)).toInt ≤ 2) <;> first | (have hs9 := hsu hA; exact Or.inr (Or.inr (Or.inr (Or.inr (Or.inr (Or.inl ⟨hs9.1, hs9.2.1, hs9.2.2.1, hs9.2.2.2, rfl, fun q _ => cp_end (by omega) (by omega) (hJ.1 q), hJ.2.2⟩)))))) | exact Or.inr (Or.inl ⟨by omega, hA⟩)))
              · skip
                have hc46 : ¬ ((I (t + 1) (Int32.toNatClampNeg x1))).toInt = (0 : Int32).toInt := fun z => hc46 (Int32.toInt_inj.mp z)
                first | (revert hrsx1; intro hrsx1) | have hrsx1 := WM_rowSize hW (k := Int32.toNatClampNeg x1) (by rw [tn_eq]; omega) | skip
                first | (revert hrsx2; intro hrsx2) | have hrsx2 := WM_rowSize hW (k := Int32.toNatClampNeg x2) (by rw [tn_eq]; omega) | skip
                refine ⟨vp_of (by omega) (by omega), ?_⟩
                refine ⟨fun hc48 => ?_, fun hc49 => ?_⟩
                · skip
                  have hc48 : ¬ ((I (t + 1) (Int32.toNatClampNeg x2))).toInt = (0 : Int32).toInt := fun z => hc48 (Int32.toInt_inj.mp z)
                  first | (revert hrsx1; intro hrsx1) | have hrsx1 := WM_rowSize hW (k := Int32.toNatClampNeg x1) (by rw [tn_eq]; omega) | skip
                  first | (revert hrsx2; intro hrsx2) | have hrsx2 := WM_rowSize hW (k := Int32.toNatClampNeg x2) (by rw [tn_eq]; omega) | skip
                  refine ⟨fun hc50 => ?_, fun hc51 => ?_⟩
                  · skip
                    have q12 := i32_lo x5
                    have hc50 := Int32.lt_iff_toInt_lt.mp hc50
                    first | (revert hrsx1; intro hrsx1) | have hrsx1 := WM_rowSize hW (k := Int32.toNatClampNeg x1) (by rw [tn_eq]; omega) | skip
                    first | (revert hrsx2; intro hrsx2) | have hrsx2 := WM_rowSize hW (k := Int32.toNatClampNeg x2) (by rw [tn_eq]; omega) | skip
                    have q13 : (-2 : Int32).toInt = -2 := rfl
                    refine sfX12_refuse ht (by decide) hW (by omega) (fun v44 I43 hWI43 hFI43 hp52 => ?_)
                    have hwI43 := WM_f hWI43
                    first | (revert hrsx1; intro hrsx1) | have hrsx1 := WM_rowSize hW (k := Int32.toNatClampNeg x1) (by rw [tn_eq]; omega) | skip
                    first | (revert hrsx2; intro hrsx2) | have hrsx2 := WM_rowSize hW (k := Int32.toNatClampNeg x2) (by rw [tn_eq]; omega) | skip
                    have q14 := i32_lo v44
                    exact hK _ _ _ hWI43 (Fr.tr Fr.rf hFI43 (by intro a k h; omega)) (by first | exact Or.inr (Or.inr (Or.inr (Or.inr (Or.inr (Or.inr (⟨by omega, by omega, by omega, by omega, by omega, rfl⟩)))))) | exact Or.inl ⟨by omega, by omega, rfl⟩ | exact Or.inr (Or.inl ⟨by omega, by omega⟩) | exact Or.inr (Or.inr (Or.inl ⟨by omega, by omega, by omega, rfl⟩)) | exact Or.inr (Or.inr (Or.inr (Or.inl ⟨by omega, by omega, by omega, by omega, by omega, rfl⟩))) | exact Or.inr (Or.inr (Or.inr (Or.inr (Or.inl ⟨by omega, by omega, by omega, by omega, rfl⟩)))) | exact Or.inr (Or.inr (Or.inr (Or.inr (Or.inr (Or.inl ⟨by omega, by omega, by omega, by omega, by omega, ⟨fun q _ => cp_end (by omega) (by omega) (hJ.1 q), hJ.2⟩⟩))))) | (by_cases hA : ((0 ≤ (I0 (t + 1) (Int32.toNatClampNeg x1)).toInt ∧ (I0 (t + 1) (Int32.toNatClampNeg x1)).toInt ≤ 2) ∧ 0 ≤ (I0 (t + 1) (Int32.toNatClampNeg x2)).toInt ∧ (I0 (t + 1) (Int32.toNatClampNeg x2)).toInt ≤ 2) <;> first | (have hs9 := hsu hA; exact Or.inr (Or.inr (Or.inr (Or.inr (Or.inr (Or.inl ⟨hs9.1, hs9.2.1, hs9.2.2.1, hs9.2.2.2, rfl, fun q _ => cp_end (by omega) (by omega) (hJ.1 q), hJ.2.2⟩)))))) | exact Or.inr (Or.inl ⟨by omega, hA⟩)))
                  · skip
                    have q12 := i32_lo x5
                    have hc51 := mt Int32.lt_iff_toInt_lt.mpr hc51
                    first | (revert hrsx1; intro hrsx1) | have hrsx1 := WM_rowSize hW (k := Int32.toNatClampNeg x1) (by rw [tn_eq]; omega) | skip
                    first | (revert hrsx2; intro hrsx2) | have hrsx2 := WM_rowSize hW (k := Int32.toNatClampNeg x2) (by rw [tn_eq]; omega) | skip
                    refine ⟨fun hc53 => ?_, fun hc54 => ?_⟩
                    · skip
                      have q13 := i32_lo x3
                      have hc53 := Int32.lt_iff_toInt_lt.mp hc53
                      first | (revert hrsx1; intro hrsx1) | have hrsx1 := WM_rowSize hW (k := Int32.toNatClampNeg x1) (by rw [tn_eq]; omega) | skip
                      first | (revert hrsx2; intro hrsx2) | have hrsx2 := WM_rowSize hW (k := Int32.toNatClampNeg x2) (by rw [tn_eq]; omega) | skip
                      have q14 : (-2 : Int32).toInt = -2 := rfl
                      refine sfX12_refuse ht (by decide) hW (by omega) (fun v46 I45 hWI45 hFI45 hp55 => ?_)
                      have hwI45 := WM_f hWI45
                      first | (revert hrsx1; intro hrsx1) | have hrsx1 := WM_rowSize hW (k := Int32.toNatClampNeg x1) (by rw [tn_eq]; omega) | skip
                      first | (revert hrsx2; intro hrsx2) | have hrsx2 := WM_rowSize hW (k := Int32.toNatClampNeg x2) (by rw [tn_eq]; omega) | skip
                      have q15 := i32_lo v46
                      exact hK _ _ _ hWI45 (Fr.tr Fr.rf hFI45 (by intro a k h; omega)) (by first | exact Or.inr (Or.inr (Or.inr (Or.inr (Or.inr (Or.inr (⟨by omega, by omega, by omega, by omega, by omega, rfl⟩)))))) | exact Or.inl ⟨by omega, by omega, rfl⟩ | exact Or.inr (Or.inl ⟨by omega, by omega⟩) | exact Or.inr (Or.inr (Or.inl ⟨by omega, by omega, by omega, rfl⟩)) | exact Or.inr (Or.inr (Or.inr (Or.inl ⟨by omega, by omega, by omega, by omega, by omega, rfl⟩))) | exact Or.inr (Or.inr (Or.inr (Or.inr (Or.inl ⟨by omega, by omega, by omega, by omega, rfl⟩)))) | exact Or.inr (Or.inr (Or.inr (Or.inr (Or.inr (Or.inl ⟨by omega, by omega, by omega, by omega, by omega, ⟨fun q _ => cp_end (by omega) (by omega) (hJ.1 q), hJ.2⟩⟩))))) | (by_cases hA : ((0 ≤ (I0 (t + 1) (Int32.toNatClampNeg x1)).toInt ∧ (I0 (t + 1) (Int32.toNatClampNeg x1)).toInt ≤ 2) ∧ 0 ≤ (I0 (t + 1) (Int32.toNatClampNeg x2)).toInt ∧ (I0 (t + 1) (Int32.toNatClampNeg x2)).toInt ≤ 2) <;> first | (have hs9 := hsu hA; exact Or.inr (Or.inr (Or.inr (Or.inr (Or.inr (Or.inl ⟨hs9.1, hs9.2.1, hs9.2.2.1, hs9.2.2.2, rfl, fun q _ => cp_end (by omega) (by omega) (hJ.1 q), hJ.2.2⟩)))))) | exact Or.inr (Or.inl ⟨by omega, hA⟩)))
                    · skip
                      have q13 := i32_lo x3
                      have hc54 := mt Int32.lt_iff_toInt_lt.mpr hc54
                      first | (revert hrsx1; intro hrsx1) | have hrsx1 := WM_rowSize hW (k := Int32.toNatClampNeg x1) (by rw [tn_eq]; omega) | skip
                      first | (revert hrsx2; intro hrsx2) | have hrsx2 := WM_rowSize hW (k := Int32.toNatClampNeg x2) (by rw [tn_eq]; omega) | skip
                      refine ⟨fun hc56 => ?_, fun hc57 => ?_⟩
                      · skip
                        have q14 := i32_lo x4
                        have hc56 := Int32.lt_iff_toInt_lt.mp hc56
                        first | (revert hrsx1; intro hrsx1) | have hrsx1 := WM_rowSize hW (k := Int32.toNatClampNeg x1) (by rw [tn_eq]; omega) | skip
                        first | (revert hrsx2; intro hrsx2) | have hrsx2 := WM_rowSize hW (k := Int32.toNatClampNeg x2) (by rw [tn_eq]; omega) | skip
                        have q15 : (-2 : Int32).toInt = -2 := rfl
                        refine sfX12_refuse ht (by decide) hW (by omega) (fun v48 I47 hWI47 hFI47 hp58 => ?_)
                        have hwI47 := WM_f hWI47
                        first | (revert hrsx1; intro hrsx1) | have hrsx1 := WM_rowSize hW (k := Int32.toNatClampNeg x1) (by rw [tn_eq]; omega) | skip
                        first | (revert hrsx2; intro hrsx2) | have hrsx2 := WM_rowSize hW (k := Int32.toNatClampNeg x2) (by rw [tn_eq]; omega) | skip
                        have q16 := i32_lo v48
                        exact hK _ _ _ hWI47 (Fr.tr Fr.rf hFI47 (by intro a k h; omega)) (by first | exact Or.inr (Or.inr (Or.inr (Or.inr (Or.inr (Or.inr (⟨by omega, by omega, by omega, by omega, by omega, rfl⟩)))))) | exact Or.inl ⟨by omega, by omega, rfl⟩ | exact Or.inr (Or.inl ⟨by omega, by omega⟩) | exact Or.inr (Or.inr (Or.inl ⟨by omega, by omega, by omega, rfl⟩)) | exact Or.inr (Or.inr (Or.inr (Or.inl ⟨by omega, by omega, by omega, by omega, by omega, rfl⟩))) | exact Or.inr (Or.inr (Or.inr (Or.inr (Or.inl ⟨by omega, by omega, by omega, by omega, rfl⟩)))) | exact Or.inr (Or.inr (Or.inr (Or.inr (Or.inr (Or.inl ⟨by omega, by omega, by omega, by omega, by omega, ⟨fun q _ => cp_end (by omega) (by omega) (hJ.1 q), hJ.2⟩⟩))))) | (by_cases hA : ((0 ≤ (I0 (t + 1) (Int32.toNatClampNeg x1)).toInt ∧ (I0 (t + 1) (Int32.toNatClampNeg x1)).toInt ≤ 2) ∧ 0 ≤ (I0 (t + 1) (Int32.toNatClampNeg x2)).toInt ∧ (I0 (t + 1) (Int32.toNatClampNeg x2)).toInt ≤ 2) <;> first | (have hs9 := hsu hA; exact Or.inr (Or.inr (Or.inr (Or.inr (Or.inr (Or.inl ⟨hs9.1, hs9.2.1, hs9.2.2.1, hs9.2.2.2, rfl, fun q _ => cp_end (by omega) (by omega) (hJ.1 q), hJ.2.2⟩)))))) | exact Or.inr (Or.inl ⟨by omega, hA⟩)))
                      · skip
                        have q14 := i32_lo x4
                        have hc57 := mt Int32.lt_iff_toInt_lt.mpr hc57
                        first | (revert hrsx1; intro hrsx1) | have hrsx1 := WM_rowSize hW (k := Int32.toNatClampNeg x1) (by rw [tn_eq]; omega) | skip
                        first | (revert hrsx2; intro hrsx2) | have hrsx2 := WM_rowSize hW (k := Int32.toNatClampNeg x2) (by rw [tn_eq]; omega) | skip
                        refine ⟨vp_of (by omega) (by omega), ?_⟩
                        refine ⟨fun hc59 => ?_, fun hc60 => ?_⟩
                        · skip
                          have hc59 := Int32.lt_iff_toInt_lt.mp hc59
                          first | (revert hrsx1; intro hrsx1) | have hrsx1 := WM_rowSize hW (k := Int32.toNatClampNeg x1) (by rw [tn_eq]; omega) | skip
                          first | (revert hrsx2; intro hrsx2) | have hrsx2 := WM_rowSize hW (k := Int32.toNatClampNeg x2) (by rw [tn_eq]; omega) | skip
                          have q15 : (-2 : Int32).toInt = -2 := rfl
                          refine sfX12_refuse ht (by decide) hW (by omega) (fun v51 I50 hWI50 hFI50 hp61 => ?_)
                          have hwI50 := WM_f hWI50
                          first | (revert hrsx1; intro hrsx1) | have hrsx1 := WM_rowSize hW (k := Int32.toNatClampNeg x1) (by rw [tn_eq]; omega) | skip
                          first | (revert hrsx2; intro hrsx2) | have hrsx2 := WM_rowSize hW (k := Int32.toNatClampNeg x2) (by rw [tn_eq]; omega) | skip
                          have q16 := i32_lo v51
                          exact hK _ _ _ hWI50 (Fr.tr Fr.rf hFI50 (by intro a k h; omega)) (by first | exact Or.inr (Or.inr (Or.inr (Or.inr (Or.inr (Or.inr (⟨by omega, by omega, by omega, by omega, by omega, rfl⟩)))))) | exact Or.inl ⟨by omega, by omega, rfl⟩ | exact Or.inr (Or.inl ⟨by omega, by omega⟩) | exact Or.inr (Or.inr (Or.inl ⟨by omega, by omega, by omega, rfl⟩)) | exact Or.inr (Or.inr (Or.inr (Or.inl ⟨by omega, by omega, by omega, by omega, by omega, rfl⟩))) | exact Or.inr (Or.inr (Or.inr (Or.inr (Or.inl ⟨by omega, by omega, by omega, by omega, rfl⟩)))) | exact Or.inr (Or.inr (Or.inr (Or.inr (Or.inr (Or.inl ⟨by omega, by omega, by omega, by omega, by omega, ⟨fun q _ => cp_end (by omega) (by omega) (hJ.1 q), hJ.2⟩⟩))))) | (by_cases hA : ((0 ≤ (I0 (t + 1) (Int32.toNatClampNeg x1)).toInt ∧ (I0 (t + 1) (Int32.toNatClampNeg x1)).toInt ≤ 2) ∧ 0 ≤ (I0 (t + 1) (Int32.toNatClampNeg x2)).toInt ∧ (I0 (t + 1) (Int32.toNatClampNeg x2)).toInt ≤ 2) <;> first | (have hs9 := hsu hA; exact Or.inr (Or.inr (Or.inr (Or.inr (Or.inr (Or.inl ⟨hs9.1, hs9.2.1, hs9.2.2.1, hs9.2.2.2, rfl, fun q _ => cp_end (by omega) (by omega) (hJ.1 q), hJ.2.2⟩)))))) | exact Or.inr (Or.inl ⟨by omega, hA⟩)))
                        · skip
                          have hc60 := mt Int32.lt_iff_toInt_lt.mpr hc60
                          first | (revert hrsx1; intro hrsx1) | have hrsx1 := WM_rowSize hW (k := Int32.toNatClampNeg x1) (by rw [tn_eq]; omega) | skip
                          first | (revert hrsx2; intro hrsx2) | have hrsx2 := WM_rowSize hW (k := Int32.toNatClampNeg x2) (by rw [tn_eq]; omega) | skip
                          refine ⟨vp_of (by omega) (by omega), ?_⟩
                          refine ⟨fun hc62 => ?_, fun hc63 => ?_⟩
                          · skip
                            have hc62 := Int32.lt_iff_toInt_lt.mp hc62
                            first | (revert hrsx1; intro hrsx1) | have hrsx1 := WM_rowSize hW (k := Int32.toNatClampNeg x1) (by rw [tn_eq]; omega) | skip
                            first | (revert hrsx2; intro hrsx2) | have hrsx2 := WM_rowSize hW (k := Int32.toNatClampNeg x2) (by rw [tn_eq]; omega) | skip
                            have q15 : (-2 : Int32).toInt = -2 := rfl
                            refine sfX12_refuse ht (by decide) hW (by omega) (fun v54 I53 hWI53 hFI53 hp64 => ?_)
                            have hwI53 := WM_f hWI53
                            first | (revert hrsx1; intro hrsx1) | have hrsx1 := WM_rowSize hW (k := Int32.toNatClampNeg x1) (by rw [tn_eq]; omega) | skip
                            first | (revert hrsx2; intro hrsx2) | have hrsx2 := WM_rowSize hW (k := Int32.toNatClampNeg x2) (by rw [tn_eq]; omega) | skip
                            have q16 := i32_lo v54
                            exact hK _ _ _ hWI53 (Fr.tr Fr.rf hFI53 (by intro a k h; omega)) (by first | exact Or.inr (Or.inr (Or.inr (Or.inr (Or.inr (Or.inr (⟨by omega, by omega, by omega, by omega, by omega, rfl⟩)))))) | exact Or.inl ⟨by omega, by omega, rfl⟩ | exact Or.inr (Or.inl ⟨by omega, by omega⟩) | exact Or.inr (Or.inr (Or.inl ⟨by omega, by omega, by omega, rfl⟩)) | exact Or.inr (Or.inr (Or.inr (Or.inl ⟨by omega, by omega, by omega, by omega, by omega, rfl⟩))) | exact Or.inr (Or.inr (Or.inr (Or.inr (Or.inl ⟨by omega, by omega, by omega, by omega, rfl⟩)))) | exact Or.inr (Or.inr (Or.inr (Or.inr (Or.inr (Or.inl ⟨by omega, by omega, by omega, by omega, by omega, ⟨fun q _ => cp_end (by omega) (by omega) (hJ.1 q), hJ.2⟩⟩))))) | (by_cases hA : ((0 ≤ (I0 (t + 1) (Int32.toNatClampNeg x1)).toInt ∧ (I0 (t + 1) (Int32.toNatClampNeg x1)).toInt ≤ 2) ∧ 0 ≤ (I0 (t + 1) (Int32.toNatClampNeg x2)).toInt ∧ (I0 (t + 1) (Int32.toNatClampNeg x2)).toInt ≤ 2) <;> first | (have hs9 := hsu hA; exact Or.inr (Or.inr (Or.inr (Or.inr (Or.inr (Or.inl ⟨hs9.1, hs9.2.1, hs9.2.2.1, hs9.2.2.2, rfl, fun q _ => cp_end (by omega) (by omega) (hJ.1 q), hJ.2.2⟩)))))) | exact Or.inr (Or.inl ⟨by omega, hA⟩)))
                          · skip
                            have hc63 := mt Int32.lt_iff_toInt_lt.mpr hc63
                            first | (revert hrsx1; intro hrsx1) | have hrsx1 := WM_rowSize hW (k := Int32.toNatClampNeg x1) (by rw [tn_eq]; omega) | skip
                            first | (revert hrsx2; intro hrsx2) | have hrsx2 := WM_rowSize hW (k := Int32.toNatClampNeg x2) (by rw [tn_eq]; omega) | skip
                            refine ⟨vp_of (by omega) (by omega), ?_⟩
                            refine ⟨fun hc65 => ?_, fun hc66 => ?_⟩
                            · skip
                              have q15 := i32_subI (I (t + 3) (Int32.toNatClampNeg x1)) x5
                              have hc65 := Int32.lt_iff_toInt_lt.mp hc65
                              first | (revert hrsx1; intro hrsx1) | have hrsx1 := WM_rowSize hW (k := Int32.toNatClampNeg x1) (by rw [tn_eq]; omega) | skip
                              first | (revert hrsx2; intro hrsx2) | have hrsx2 := WM_rowSize hW (k := Int32.toNatClampNeg x2) (by rw [tn_eq]; omega) | skip
                              have q16 : (-2 : Int32).toInt = -2 := rfl
                              refine sfX12_refuse ht (by decide) hW (by omega) (fun v57 I56 hWI56 hFI56 hp67 => ?_)
                              have hwI56 := WM_f hWI56
                              first | (revert hrsx1; intro hrsx1) | have hrsx1 := WM_rowSize hW (k := Int32.toNatClampNeg x1) (by rw [tn_eq]; omega) | skip
                              first | (revert hrsx2; intro hrsx2) | have hrsx2 := WM_rowSize hW (k := Int32.toNatClampNeg x2) (by rw [tn_eq]; omega) | skip
                              have q17 := i32_lo v57
                              exact hK _ _ _ hWI56 (Fr.tr Fr.rf hFI56 (by intro a k h; omega)) (by first | exact Or.inr (Or.inr (Or.inr (Or.inr (Or.inr (Or.inr (⟨by omega, by omega, by omega, by omega, by omega, rfl⟩)))))) | exact Or.inl ⟨by omega, by omega, rfl⟩ | exact Or.inr (Or.inl ⟨by omega, by omega⟩) | exact Or.inr (Or.inr (Or.inl ⟨by omega, by omega, by omega, rfl⟩)) | exact Or.inr (Or.inr (Or.inr (Or.inl ⟨by omega, by omega, by omega, by omega, by omega, rfl⟩))) | exact Or.inr (Or.inr (Or.inr (Or.inr (Or.inl ⟨by omega, by omega, by omega, by omega, rfl⟩)))) | exact Or.inr (Or.inr (Or.inr (Or.inr (Or.inr (Or.inl ⟨by omega, by omega, by omega, by omega, by omega, ⟨fun q _ => cp_end (by omega) (by omega) (hJ.1 q), hJ.2⟩⟩))))) | (by_cases hA : ((0 ≤ (I0 (t + 1) (Int32.toNatClampNeg x1)).toInt ∧ (I0 (t + 1) (Int32.toNatClampNeg x1)).toInt ≤ 2) ∧ 0 ≤ (I0 (t + 1) (Int32.toNatClampNeg x2)).toInt ∧ (I0 (t + 1) (Int32.toNatClampNeg x2)).toInt ≤ 2) <;> first | (have hs9 := hsu hA; exact Or.inr (Or.inr (Or.inr (Or.inr (Or.inr (Or.inl ⟨hs9.1, hs9.2.1, hs9.2.2.1, hs9.2.2.2, rfl, fun q _ => cp_end (by omega) (by omega) (hJ.1 q), hJ.2.2⟩)))))) | exact Or.inr (Or.inl ⟨by omega, hA⟩)))
                            · skip
                              have q15 := i32_subI (I (t + 3) (Int32.toNatClampNeg x1)) x5
                              have hc66 := mt Int32.lt_iff_toInt_lt.mpr hc66
                              first | (revert hrsx1; intro hrsx1) | have hrsx1 := WM_rowSize hW (k := Int32.toNatClampNeg x1) (by rw [tn_eq]; omega) | skip
                              first | (revert hrsx2; intro hrsx2) | have hrsx2 := WM_rowSize hW (k := Int32.toNatClampNeg x2) (by rw [tn_eq]; omega) | skip
                              refine ⟨vp_of (by omega) (by omega), ?_⟩
                              refine ⟨fun hc68 => ?_, fun hc69 => ?_⟩
                              · skip
                                have q16 := i32_subI (I (t + 3) (Int32.toNatClampNeg x2)) x5
                                have hc68 := Int32.le_iff_toInt_le.mp hc68
                                first | (revert hrsx1; intro hrsx1) | have hrsx1 := WM_rowSize hW (k := Int32.toNatClampNeg x1) (by rw [tn_eq]; omega) | skip
                                first | (revert hrsx2; intro hrsx2) | have hrsx2 := WM_rowSize hW (k := Int32.toNatClampNeg x2) (by rw [tn_eq]; omega) | skip
                                exact lX12_copy_191 ht   hK  (((x5.toInt) - (0 : Int32).toInt).toNat + 1) _ _ 0 hW Fr.rf (by omega) (by omega) (by omega) (by omega) (by omega) (by first | exact ⟨fun q hq => by exfalso; omega, fun _ _ => rfl⟩ | exact cp_1 hJ (by omega) (by omega) (by omega) (by omega) (by omega)) (by omega)
                              · skip
                                have q16 := i32_subI (I (t + 3) (Int32.toNatClampNeg x2)) x5
                                have hc69 := mt Int32.le_iff_toInt_le.mpr hc69
                                first | (revert hrsx1; intro hrsx1) | have hrsx1 := WM_rowSize hW (k := Int32.toNatClampNeg x1) (by rw [tn_eq]; omega) | skip
                                first | (revert hrsx2; intro hrsx2) | have hrsx2 := WM_rowSize hW (k := Int32.toNatClampNeg x2) (by rw [tn_eq]; omega) | skip
                                have q17 : (-2 : Int32).toInt = -2 := rfl
                                refine sfX12_refuse ht (by decide) hW (by omega) (fun v60 I59 hWI59 hFI59 hp70 => ?_)
                                have hwI59 := WM_f hWI59
                                first | (revert hrsx1; intro hrsx1) | have hrsx1 := WM_rowSize hW (k := Int32.toNatClampNeg x1) (by rw [tn_eq]; omega) | skip
                                first | (revert hrsx2; intro hrsx2) | have hrsx2 := WM_rowSize hW (k := Int32.toNatClampNeg x2) (by rw [tn_eq]; omega) | skip
                                have q18 := i32_lo v60
                                exact hK _ _ _ hWI59 (Fr.tr Fr.rf hFI59 (by intro a k h; omega)) (by first | exact Or.inr (Or.inr (Or.inr (Or.inr (Or.inr (Or.inr (⟨by omega, by omega, by omega, by omega, by omega, rfl⟩)))))) | exact Or.inl ⟨by omega, by omega, rfl⟩ | exact Or.inr (Or.inl ⟨by omega, by omega⟩) | exact Or.inr (Or.inr (Or.inl ⟨by omega, by omega, by omega, rfl⟩)) | exact Or.inr (Or.inr (Or.inr (Or.inl ⟨by omega, by omega, by omega, by omega, by omega, rfl⟩))) | exact Or.inr (Or.inr (Or.inr (Or.inr (Or.inl ⟨by omega, by omega, by omega, by omega, rfl⟩)))) | exact Or.inr (Or.inr (Or.inr (Or.inr (Or.inr (Or.inl ⟨by omega, by omega, by omega, by omega, by omega, ⟨fun q _ => cp_end (by omega) (by omega) (hJ.1 q), hJ.2⟩⟩))))) | (by_cases hA : ((0 ≤ (I0 (t + 1) (Int32.toNatClampNeg x1)).toInt ∧ (I0 (t + 1) (Int32.toNatClampNeg x1)).toInt ≤ 2) ∧ 0 ≤ (I0 (t + 1) (Int32.toNatClampNeg x2)).toInt ∧ (I0 (t + 1) (Int32.toNatClampNeg x2)).toInt ≤ 2) <;> first | (have hs9 := hsu hA; exact Or.inr (Or.inr (Or.inr (Or.inr (Or.inr (Or.inl ⟨hs9.1, hs9.2.1, hs9.2.2.1, hs9.2.2.2, rfl, fun q _ => cp_end (by omega) (by omega) (hJ.1 q), hJ.2.2⟩)))))) | exact Or.inr (Or.inl ⟨by omega, hA⟩)))
                · skip
                  have hc49 := Int32.toInt_inj.mpr hc49
                  first | (revert hrsx1; intro hrsx1) | have hrsx1 := WM_rowSize hW (k := Int32.toNatClampNeg x1) (by rw [tn_eq]; omega) | skip
                  first | (revert hrsx2; intro hrsx2) | have hrsx2 := WM_rowSize hW (k := Int32.toNatClampNeg x2) (by rw [tn_eq]; omega) | skip
                  have q12 : (-4 : Int32).toInt = -4 := rfl
                  refine sfX12_refuse ht (by decide) hW (by omega) (fun v62 I61 hWI61 hFI61 hp71 => ?_)
                  have hwI61 := WM_f hWI61
                  first | (revert hrsx1; intro hrsx1) | have hrsx1 := WM_rowSize hW (k := Int32.toNatClampNeg x1) (by rw [tn_eq]; omega) | skip
                  first | (revert hrsx2; intro hrsx2) | have hrsx2 := WM_rowSize hW (k := Int32.toNatClampNeg x2) (by rw [tn_eq]; omega) | skip
                  have q13 := i32_lo v62
                  exact hK _ _ _ hWI61 (Fr.tr Fr.rf hFI61 (by intro a k h; omega)) (by first | exact Or.inr (Or.inr (Or.inr (Or.inl ⟨by omega, by omega, by omega, by omega, by omega, rfl⟩))) | exact Or.inl ⟨by omega, by omega, rfl⟩ | exact Or.inr (Or.inl ⟨by omega, by omega⟩) | exact Or.inr (Or.inr (Or.inl ⟨by omega, by omega, by omega, rfl⟩)) | exact Or.inr (Or.inr (Or.inr (Or.inr (Or.inl ⟨by omega, by omega, by omega, by omega, rfl⟩)))) | exact Or.inr (Or.inr (Or.inr (Or.inr (Or.inr (Or.inl ⟨by omega, by omega, by omega, by omega, by omega, ⟨fun q _ => cp_end (by omega) (by omega) (hJ.1 q), hJ.2⟩⟩))))) | exact Or.inr (Or.inr (Or.inr (Or.inr (Or.inr (Or.inr (⟨by omega, by omega, by omega, by omega, by omega, rfl⟩)))))) | (by_cases hA : ((0 ≤ (I0 (t + 1) (Int32.toNatClampNeg x1)).toInt ∧ (I0 (t + 1) (Int32.toNatClampNeg x1)).toInt ≤ 2) ∧ 0 ≤ (I0 (t + 1) (Int32.toNatClampNeg x2)).toInt ∧ (I0 (t + 1) (Int32.toNatClampNeg x2)).toInt ≤ 2) <;> first | (have hs9 := hsu hA; exact Or.inr (Or.inr (Or.inr (Or.inr (Or.inr (Or.inl ⟨hs9.1, hs9.2.1, hs9.2.2.1, hs9.2.2.2, rfl, fun q _ => cp_end (by omega) (by omega) (hJ.1 q), hJ.2.2⟩)))))) | exact Or.inr (Or.inl ⟨by omega, hA⟩)))
            · skip
              have hc44 := Int32.toInt_inj.mpr hc44
              first | (revert hrsx1; intro hrsx1) | have hrsx1 := WM_rowSize hW (k := Int32.toNatClampNeg x1) (by rw [tn_eq]; omega) | skip
              first | (revert hrsx2; intro hrsx2) | have hrsx2 := WM_rowSize hW (k := Int32.toNatClampNeg x2) (by rw [tn_eq]; omega) | skip
              refine ⟨vp_of (by omega) (by omega), ?_⟩
              refine ⟨vp_of (by omega) (by omega), ?_⟩
              refine ⟨fun hc72 => ?_, fun hc73 => ?_⟩
              · skip
                have hc72 := Int32.toInt_inj.mpr hc72
                first | (revert hrsx1; intro hrsx1) | have hrsx1 := WM_rowSize hW (k := Int32.toNatClampNeg x1) (by rw [tn_eq]; omega) | skip
                first | (revert hrsx2; intro hrsx2) | have hrsx2 := WM_rowSize hW (k := Int32.toNatClampNeg x2) (by rw [tn_eq]; omega) | skip
                refine ⟨vp_of (by omega) (by omega), ?_⟩
                refine ⟨fun hc74 => ?_, fun hc75 => ?_⟩
                · skip
                  have hc74 := Int32.toInt_inj.mpr hc74
                  first | (revert hrsx1; intro hrsx1) | have hrsx1 := WM_rowSize hW (k := Int32.toNatClampNeg x1) (by rw [tn_eq]; omega) | skip
                  first | (revert hrsx2; intro hrsx2) | have hrsx2 := WM_rowSize hW (k := Int32.toNatClampNeg x2) (by rw [tn_eq]; omega) | skip
                  have q12 : (-4 : Int32).toInt = -4 := rfl
                  refine sfX12_refuse ht (by decide) hW (by omega) (fun v67 I66 hWI66 hFI66 hp76 => ?_)
                  have hwI66 := WM_f hWI66
                  first | (revert hrsx1; intro hrsx1) | have hrsx1 := WM_rowSize hW (k := Int32.toNatClampNeg x1) (by rw [tn_eq]; omega) | skip
                  first | (revert hrsx2; intro hrsx2) | have hrsx2 := WM_rowSize hW (k := Int32.toNatClampNeg x2) (by rw [tn_eq]; omega) | skip
                  have q13 := i32_lo v67
                  exact hK _ _ _ hWI66 (Fr.tr Fr.rf hFI66 (by intro a k h; omega)) (by first | exact Or.inr (Or.inr (Or.inr (Or.inl ⟨by omega, by omega, by omega, by omega, by omega, rfl⟩))) | exact Or.inl ⟨by omega, by omega, rfl⟩ | exact Or.inr (Or.inl ⟨by omega, by omega⟩) | exact Or.inr (Or.inr (Or.inl ⟨by omega, by omega, by omega, rfl⟩)) | exact Or.inr (Or.inr (Or.inr (Or.inr (Or.inl ⟨by omega, by omega, by omega, by omega, rfl⟩)))) | exact Or.inr (Or.inr (Or.inr (Or.inr (Or.inr (Or.inl ⟨by omega, by omega, by omega, by omega, by omega, ⟨fun q _ => cp_end (by omega) (by omega) (hJ.1 q), hJ.2⟩⟩))))) | exact Or.inr (Or.inr (Or.inr (Or.inr (Or.inr (Or.inr (⟨by omega, by omega, by omega, by omega, by omega, rfl⟩)))))) | (by_cases hA : ((0 ≤ (I0 (t + 1) (Int32.toNatClampNeg x1)).toInt ∧ (I0 (t + 1) (Int32.toNatClampNeg x1)).toInt ≤ 2) ∧ 0 ≤ (I0 (t + 1) (Int32.toNatClampNeg x2)).toInt ∧ (I0 (t + 1) (Int32.toNatClampNeg x2)).toInt ≤ 2) <;> first | (have hs9 := hsu hA; exact Or.inr (Or.inr (Or.inr (Or.inr (Or.inr (Or.inl ⟨hs9.1, hs9.2.1, hs9.2.2.1, hs9.2.2.2, rfl, fun q _ => cp_end (by omega) (by omega) (hJ.1 q), hJ.2.2⟩)))))) | exact Or.inr (Or.inl ⟨by omega, hA⟩)))
                · skip
                  have hc75 : ¬ ((I (t + 1) (Int32.toNatClampNeg x1))).toInt = (0 : Int32).toInt := fun z => hc75 (Int32.toInt_inj.mp z)
                  first | (revert hrsx1; intro hrsx1) | have hrsx1 := WM_rowSize hW (k := Int32.toNatClampNeg x1) (by rw [tn_eq]; omega) | skip
                  first | (revert hrsx2; intro hrsx2) | have hrsx2 := WM_rowSize hW (k := Int32.toNatClampNeg x2) (by rw [tn_eq]; omega) | skip
                  refine ⟨vp_of (by omega) (by omega), ?_⟩
                  refine ⟨fun hc77 => ?_, fun hc78 => ?_⟩
                  · skip
                    have hc77 : ¬ ((I (t + 1) (Int32.toNatClampNeg x2))).toInt = (0 : Int32).toInt := fun z => hc77 (Int32.toInt_inj.mp z)
                    first | (revert hrsx1; intro hrsx1) | have hrsx1 := WM_rowSize hW (k := Int32.toNatClampNeg x1) (by rw [tn_eq]; omega) | skip
                    first | (revert hrsx2; intro hrsx2) | have hrsx2 := WM_rowSize hW (k := Int32.toNatClampNeg x2) (by rw [tn_eq]; omega) | skip
                    refine ⟨fun hc79 => ?_, fun hc80 => ?_⟩
                    · skip
                      have q12 := i32_lo x5
                      have hc79 := Int32.lt_iff_toInt_lt.mp hc79
                      first | (revert hrsx1; intro hrsx1) | have hrsx1 := WM_rowSize hW (k := Int32.toNatClampNeg x1) (by rw [tn_eq]; omega) | skip
                      first | (revert hrsx2; intro hrsx2) | have hrsx2 := WM_rowSize hW (k := Int32.toNatClampNeg x2) (by rw [tn_eq]; omega) | skip
                      have q13 : (-2 : Int32).toInt = -2 := rfl
                      refine sfX12_refuse ht (by decide) hW (by omega) (fun v70 I69 hWI69 hFI69 hp81 => ?_)
                      have hwI69 := WM_f hWI69
                      first | (revert hrsx1; intro hrsx1) | have hrsx1 := WM_rowSize hW (k := Int32.toNatClampNeg x1) (by rw [tn_eq]; omega) | skip
                      first | (revert hrsx2; intro hrsx2) | have hrsx2 := WM_rowSize hW (k := Int32.toNatClampNeg x2) (by rw [tn_eq]; omega) | skip
                      have q14 := i32_lo v70
                      exact hK _ _ _ hWI69 (Fr.tr Fr.rf hFI69 (by intro a k h; omega)) (by first | exact Or.inr (Or.inr (Or.inr (Or.inr (Or.inr (Or.inr (⟨by omega, by omega, by omega, by omega, by omega, rfl⟩)))))) | exact Or.inl ⟨by omega, by omega, rfl⟩ | exact Or.inr (Or.inl ⟨by omega, by omega⟩) | exact Or.inr (Or.inr (Or.inl ⟨by omega, by omega, by omega, rfl⟩)) | exact Or.inr (Or.inr (Or.inr (Or.inl ⟨by omega, by omega, by omega, by omega, by omega, rfl⟩))) | exact Or.inr (Or.inr (Or.inr (Or.inr (Or.inl ⟨by omega, by omega, by omega, by omega, rfl⟩)))) | exact Or.inr (Or.inr (Or.inr (Or.inr (Or.inr (Or.inl ⟨by omega, by omega, by omega, by omega, by omega, ⟨fun q _ => cp_end (by omega) (by omega) (hJ.1 q), hJ.2⟩⟩))))) | (by_cases hA : ((0 ≤ (I0 (t + 1) (Int32.toNatClampNeg x1)).toInt ∧ (I0 (t + 1) (Int32.toNatClampNeg x1)).toInt ≤ 2) ∧ 0 ≤ (I0 (t + 1) (Int32.toNatClampNeg x2)).toInt ∧ (I0 (t + 1) (Int32.toNatClampNeg x2)).toInt ≤ 2) <;> first | (have hs9 := hsu hA; exact Or.inr (Or.inr (Or.inr (Or.inr (Or.inr (Or.inl ⟨hs9.1, hs9.2.1, hs9.2.2.1, hs9.2.2.2, rfl, fun q _ => cp_end (by omega) (by omega) (hJ.1 q), hJ.2.2⟩)))))) | exact Or.inr (Or.inl ⟨by omega, hA⟩)))
                    · skip
                      have q12 := i32_lo x5
                      have hc80 := mt Int32.lt_iff_toInt_lt.mpr hc80
                      first | (revert hrsx1; intro hrsx1) | have hrsx1 := WM_rowSize hW (k := Int32.toNatClampNeg x1) (by rw [tn_eq]; omega) | skip
                      first | (revert hrsx2; intro hrsx2) | have hrsx2 := WM_rowSize hW (k := Int32.toNatClampNeg x2) (by rw [tn_eq]; omega) | skip
                      refine ⟨fun hc82 => ?_, fun hc83 => ?_⟩
                      · skip
                        have q13 := i32_lo x3
                        have hc82 := Int32.lt_iff_toInt_lt.mp hc82
                        first | (revert hrsx1; intro hrsx1) | have hrsx1 := WM_rowSize hW (k := Int32.toNatClampNeg x1) (by rw [tn_eq]; omega) | skip
                        first | (revert hrsx2; intro hrsx2) | have hrsx2 := WM_rowSize hW (k := Int32.toNatClampNeg x2) (by rw [tn_eq]; omega) | skip
                        have q14 : (-2 : Int32).toInt = -2 := rfl
                        refine sfX12_refuse ht (by decide) hW (by omega) (fun v72 I71 hWI71 hFI71 hp84 => ?_)
                        have hwI71 := WM_f hWI71
                        first | (revert hrsx1; intro hrsx1) | have hrsx1 := WM_rowSize hW (k := Int32.toNatClampNeg x1) (by rw [tn_eq]; omega) | skip
                        first | (revert hrsx2; intro hrsx2) | have hrsx2 := WM_rowSize hW (k := Int32.toNatClampNeg x2) (by rw [tn_eq]; omega) | skip
                        have q15 := i32_lo v72
                        exact hK _ _ _ hWI71 (Fr.tr Fr.rf hFI71 (by intro a k h; omega)) (by first | exact Or.inr (Or.inr (Or.inr (Or.inr (Or.inr (Or.inr (⟨by omega, by omega, by omega, by omega, by omega, rfl⟩)))))) | exact Or.inl ⟨by omega, by omega, rfl⟩ | exact Or.inr (Or.inl ⟨by omega, by omega⟩) | exact Or.inr (Or.inr (Or.inl ⟨by omega, by omega, by omega, rfl⟩)) | exact Or.inr (Or.inr (Or.inr (Or.inl ⟨by omega, by omega, by omega, by omega, by omega, rfl⟩))) | exact Or.inr (Or.inr (Or.inr (Or.inr (Or.inl ⟨by omega, by omega, by omega, by omega, rfl⟩)))) | exact Or.inr (Or.inr (Or.inr (Or.inr (Or.inr (Or.inl ⟨by omega, by omega, by omega, by omega, by omega, ⟨fun q _ => cp_end (by omega) (by omega) (hJ.1 q), hJ.2⟩⟩))))) | (by_cases hA : ((0 ≤ (I0 (t + 1) (Int32.toNatClampNeg x1)).toInt ∧ (I0 (t + 1) (Int32.toNatClampNeg x1)).toInt ≤ 2) ∧ 0 ≤ (I0 (t + 1) (Int32.toNatClampNeg x2)).toInt ∧ (I0 (t + 1) (Int32.toNatClampNeg x2)).toInt ≤ 2) <;> first | (have hs9 := hsu hA; exact Or.inr (Or.inr (Or.inr (Or.inr (Or.inr (Or.inl ⟨hs9.1, hs9.2.1, hs9.2.2.1, hs9.2.2.2, rfl, fun q _ => cp_end (by omega) (by omega) (hJ.1 q), hJ.2.2⟩)))))) | exact Or.inr (Or.inl ⟨by omega, hA⟩)))
                      · skip
                        have q13 := i32_lo x3
                        have hc83 := mt Int32.lt_iff_toInt_lt.mpr hc83
                        first | (revert hrsx1; intro hrsx1) | have hrsx1 := WM_rowSize hW (k := Int32.toNatClampNeg x1) (by rw [tn_eq]; omega) | skip
                        first | (revert hrsx2; intro hrsx2) | have hrsx2 := WM_rowSize hW (k := Int32.toNatClampNeg x2) (by rw [tn_eq]; omega) | skip
                        refine ⟨fun hc85 => ?_, fun hc86 => ?_⟩
                        · skip
                          have q14 := i32_lo x4
                          have hc85 := Int32.lt_iff_toInt_lt.mp hc85
                          first | (revert hrsx1; intro hrsx1) | have hrsx1 := WM_rowSize hW (k := Int32.toNatClampNeg x1) (by rw [tn_eq]; omega) | skip
                          first | (revert hrsx2; intro hrsx2) | have hrsx2 := WM_rowSize hW (k := Int32.toNatClampNeg x2) (by rw [tn_eq]; omega) | skip
                          have q15 : (-2 : Int32).toInt = -2 := rfl
                          refine sfX12_refuse ht (by decide) hW (by omega) (fun v74 I73 hWI73 hFI73 hp87 => ?_)
                          have hwI73 := WM_f hWI73
                          first | (revert hrsx1; intro hrsx1) | have hrsx1 := WM_rowSize hW (k := Int32.toNatClampNeg x1) (by rw [tn_eq]; omega) | skip
                          first | (revert hrsx2; intro hrsx2) | have hrsx2 := WM_rowSize hW (k := Int32.toNatClampNeg x2) (by rw [tn_eq]; omega) | skip
                          have q16 := i32_lo v74
                          exact hK _ _ _ hWI73 (Fr.tr Fr.rf hFI73 (by intro a k h; omega)) (by first | exact Or.inr (Or.inr (Or.inr (Or.inr (Or.inr (Or.inr (⟨by omega, by omega, by omega, by omega, by omega, rfl⟩)))))) | exact Or.inl ⟨by omega, by omega, rfl⟩ | exact Or.inr (Or.inl ⟨by omega, by omega⟩) | exact Or.inr (Or.inr (Or.inl ⟨by omega, by omega, by omega, rfl⟩)) | exact Or.inr (Or.inr (Or.inr (Or.inl ⟨by omega, by omega, by omega, by omega, by omega, rfl⟩))) | exact Or.inr (Or.inr (Or.inr (Or.inr (Or.inl ⟨by omega, by omega, by omega, by omega, rfl⟩)))) | exact Or.inr (Or.inr (Or.inr (Or.inr (Or.inr (Or.inl ⟨by omega, by omega, by omega, by omega, by omega, ⟨fun q _ => cp_end (by omega) (by omega) (hJ.1 q), hJ.2⟩⟩))))) | (by_cases hA : ((0 ≤ (I0 (t + 1) (Int32.toNatClampNeg x1)).toInt ∧ (I0 (t + 1) (Int32.toNatClampNeg x1)).toInt ≤ 2) ∧ 0 ≤ (I0 (t + 1) (Int32.toNatClampNeg x2)).toInt ∧ (I0 (t + 1) (Int32.toNatClampNeg x2)).toInt ≤ 2) <;> first | (have hs9 := hsu hA; exact Or.inr (Or.inr (Or.inr (Or.inr (Or.inr (Or.inl ⟨hs9.1, hs9.2.1, hs9.2.2.1, hs9.2.2.2, rfl, fun q _ => cp_end (by omega) (by omega) (hJ.1 q), hJ.2.2⟩)))))) | exact Or.inr (Or.inl ⟨by omega, hA⟩)))
                        · skip
                          have q14 := i32_lo x4
                          have hc86 := mt Int32.lt_iff_toInt_lt.mpr hc86
                          first | (revert hrsx1; intro hrsx1) | have hrsx1 := WM_rowSize hW (k := Int32.toNatClampNeg x1) (by rw [tn_eq]; omega) | skip
                          first | (revert hrsx2; intro hrsx2) | have hrsx2 := WM_rowSize hW (k := Int32.toNatClampNeg x2) (by rw [tn_eq]; omega) | skip
                          refine ⟨vp_of (by omega) (by omega), ?_⟩
                          refine ⟨fun hc88 => ?_, fun hc89 => ?_⟩
                          · skip
                            have hc88 := Int32.lt_iff_toInt_lt.mp hc88
                            first | (revert hrsx1; intro hrsx1) | have hrsx1 := WM_rowSize hW (k := Int32.toNatClampNeg x1) (by rw [tn_eq]; omega) | skip
                            first | (revert hrsx2; intro hrsx2) | have hrsx2 := WM_rowSize hW (k := Int32.toNatClampNeg x2) (by rw [tn_eq]; omega) | skip
                            have q15 : (-2 : Int32).toInt = -2 := rfl
                            refine sfX12_refuse ht (by decide) hW (by omega) (fun v77 I76 hWI76 hFI76 hp90 => ?_)
                            have hwI76 := WM_f hWI76
                            first | (revert hrsx1; intro hrsx1) | have hrsx1 := WM_rowSize hW (k := Int32.toNatClampNeg x1) (by rw [tn_eq]; omega) | skip
                            first | (revert hrsx2; intro hrsx2) | have hrsx2 := WM_rowSize hW (k := Int32.toNatClampNeg x2) (by rw [tn_eq]; omega) | skip
                            have q16 := i32_lo v77
                            exact hK _ _ _ hWI76 (Fr.tr Fr.rf hFI76 (by intro a k h; omega)) (by first | exact Or.inr (Or.inr (Or.inr (Or.inr (Or.inr (Or.inr (⟨by omega, by omega, by omega, by omega, by omega, rfl⟩)))))) | exact Or.inl ⟨by omega, by omega, rfl⟩ | exact Or.inr (Or.inl ⟨by omega, by omega⟩) | exact Or.inr (Or.inr (Or.inl ⟨by omega, by omega, by omega, rfl⟩)) | exact Or.inr (Or.inr (Or.inr (Or.inl ⟨by omega, by omega, by omega, by omega, by omega, rfl⟩))) | exact Or.inr (Or.inr (Or.inr (Or.inr (Or.inl ⟨by omega, by omega, by omega, by omega, rfl⟩)))) | exact Or.inr (Or.inr (Or.inr (Or.inr (Or.inr (Or.inl ⟨by omega, by omega, by omega, by omega, by omega, ⟨fun q _ => cp_end (by omega) (by omega) (hJ.1 q), hJ.2⟩⟩))))) | (by_cases hA : ((0 ≤ (I0 (t + 1) (Int32.toNatClampNeg x1)).toInt ∧ (I0 (t + 1) (Int32.toNatClampNeg x1)).toInt ≤ 2) ∧ 0 ≤ (I0 (t + 1) (Int32.toNatClampNeg x2)).toInt ∧ (I0 (t + 1) (Int32.toNatClampNeg x2)).toInt ≤ 2) <;> first | (have hs9 := hsu hA; exact Or.inr (Or.inr (Or.inr (Or.inr (Or.inr (Or.inl ⟨hs9.1, hs9.2.1, hs9.2.2.1, hs9.2.2.2, rfl, fun q _ => cp_end (by omega) (by omega) (hJ.1 q), hJ.2.2⟩)))))) | exact Or.inr (Or.inl ⟨by omega, hA⟩)))
                          · skip
                            have hc89 := mt Int32.lt_iff_toInt_lt.mpr hc89
                            first | (revert hrsx1; intro hrsx1) | have hrsx1 := WM_rowSize hW (k := Int32.toNatClampNeg x1) (by rw [tn_eq]; omega) | skip
                            first | (revert hrsx2; intro hrsx2) | have hrsx2 := WM_rowSize hW (k := Int32.toNatClampNeg x2) (by rw [tn_eq]; omega) | skip
                            refine ⟨vp_of (by omega) (by omega), ?_⟩
                            refine ⟨fun hc91 => ?_, fun hc92 => ?_⟩
                            · skip
                              have hc91 := Int32.lt_iff_toInt_lt.mp hc91
                              first | (revert hrsx1; intro hrsx1) | have hrsx1 := WM_rowSize hW (k := Int32.toNatClampNeg x1) (by rw [tn_eq]; omega) | skip
                              first | (revert hrsx2; intro hrsx2) | have hrsx2 := WM_rowSize hW (k := Int32.toNatClampNeg x2) (by rw [tn_eq]; omega) | skip
                              have q15 : (-2 : Int32).toInt = -2 := rfl
                              refine sfX12_refuse ht (by decide) hW (by omega) (fun v80 I79 hWI79 hFI79 hp93 => ?_)
                              have hwI79 := WM_f hWI79
                              first | (revert hrsx1; intro hrsx1) | have hrsx1 := WM_rowSize hW (k := Int32.toNatClampNeg x1) (by rw [tn_eq]; omega) | skip
                              first | (revert hrsx2; intro hrsx2) | have hrsx2 := WM_rowSize hW (k := Int32.toNatClampNeg x2) (by rw [tn_eq]; omega) | skip
                              have q16 := i32_lo v80
                              exact hK _ _ _ hWI79 (Fr.tr Fr.rf hFI79 (by intro a k h; omega)) (by first | exact Or.inr (Or.inr (Or.inr (Or.inr (Or.inr (Or.inr (⟨by omega, by omega, by omega, by omega, by omega, rfl⟩)))))) | exact Or.inl ⟨by omega, by omega, rfl⟩ | exact Or.inr (Or.inl ⟨by omega, by omega⟩) | exact Or.inr (Or.inr (Or.inl ⟨by omega, by omega, by omega, rfl⟩)) | exact Or.inr (Or.inr (Or.inr (Or.inl ⟨by omega, by omega, by omega, by omega, by omega, rfl⟩))) | exact Or.inr (Or.inr (Or.inr (Or.inr (Or.inl ⟨by omega, by omega, by omega, by omega, rfl⟩)))) | exact Or.inr (Or.inr (Or.inr (Or.inr (Or.inr (Or.inl ⟨by omega, by omega, by omega, by omega, by omega, ⟨fun q _ => cp_end (by omega) (by omega) (hJ.1 q), hJ.2⟩⟩))))) | (by_cases hA : ((0 ≤ (I0 (t + 1) (Int32.toNatClampNeg x1)).toInt ∧ (I0 (t + 1) (Int32.toNatClampNeg x1)).toInt ≤ 2) ∧ 0 ≤ (I0 (t + 1) (Int32.toNatClampNeg x2)).toInt ∧ (I0 (t + 1) (Int32.toNatClampNeg x2)).toInt ≤ 2) <;> first | (have hs9 := hsu hA; exact Or.inr (Or.inr (Or.inr (Or.inr (Or.inr (Or.inl ⟨hs9.1, hs9.2.1, hs9.2.2.1, hs9.2.2.2, rfl, fun q _ => cp_end (by omega) (by omega) (hJ.1 q), hJ.2.2⟩)))))) | exact Or.inr (Or.inl ⟨by omega, hA⟩)))
                            · skip
                              have hc92 := mt Int32.lt_iff_toInt_lt.mpr hc92
                              first | (revert hrsx1; intro hrsx1) | have hrsx1 := WM_rowSize hW (k := Int32.toNatClampNeg x1) (by rw [tn_eq]; omega) | skip
                              first | (revert hrsx2; intro hrsx2) | have hrsx2 := WM_rowSize hW (k := Int32.toNatClampNeg x2) (by rw [tn_eq]; omega) | skip
                              refine ⟨vp_of (by omega) (by omega), ?_⟩
                              refine ⟨fun hc94 => ?_, fun hc95 => ?_⟩
                              · skip
                                have q15 := i32_subI (I (t + 3) (Int32.toNatClampNeg x1)) x5
                                have hc94 := Int32.lt_iff_toInt_lt.mp hc94
                                first | (revert hrsx1; intro hrsx1) | have hrsx1 := WM_rowSize hW (k := Int32.toNatClampNeg x1) (by rw [tn_eq]; omega) | skip
                                first | (revert hrsx2; intro hrsx2) | have hrsx2 := WM_rowSize hW (k := Int32.toNatClampNeg x2) (by rw [tn_eq]; omega) | skip
                                have q16 : (-2 : Int32).toInt = -2 := rfl
                                refine sfX12_refuse ht (by decide) hW (by omega) (fun v83 I82 hWI82 hFI82 hp96 => ?_)
                                have hwI82 := WM_f hWI82
                                first | (revert hrsx1; intro hrsx1) | have hrsx1 := WM_rowSize hW (k := Int32.toNatClampNeg x1) (by rw [tn_eq]; omega) | skip
                                first | (revert hrsx2; intro hrsx2) | have hrsx2 := WM_rowSize hW (k := Int32.toNatClampNeg x2) (by rw [tn_eq]; omega) | skip
                                have q17 := i32_lo v83
                                exact hK _ _ _ hWI82 (Fr.tr Fr.rf hFI82 (by intro a k h; omega)) (by first | exact Or.inr (Or.inr (Or.inr (Or.inr (Or.inr (Or.inr (⟨by omega, by omega, by omega, by omega, by omega, rfl⟩)))))) | exact Or.inl ⟨by omega, by omega, rfl⟩ | exact Or.inr (Or.inl ⟨by omega, by omega⟩) | exact Or.inr (Or.inr (Or.inl ⟨by omega, by omega, by omega, rfl⟩)) | exact Or.inr (Or.inr (Or.inr (Or.inl ⟨by omega, by omega, by omega, by omega, by omega, rfl⟩))) | exact Or.inr (Or.inr (Or.inr (Or.inr (Or.inl ⟨by omega, by omega, by omega, by omega, rfl⟩)))) | exact Or.inr (Or.inr (Or.inr (Or.inr (Or.inr (Or.inl ⟨by omega, by omega, by omega, by omega, by omega, ⟨fun q _ => cp_end (by omega) (by omega) (hJ.1 q), hJ.2⟩⟩))))) | (by_cases hA : ((0 ≤ (I0 (t + 1) (Int32.toNatClampNeg x1)).toInt ∧ (I0 (t + 1) (Int32.toNatClampNeg x1)).toInt ≤ 2) ∧ 0 ≤ (I0 (t + 1) (Int32.toNatClampNeg x2)).toInt ∧ (I0 (t + 1) (Int32.toNatClampNeg x2)).toInt ≤ 2) <;> first | (have hs9 := hsu hA; exact Or.inr (Or.inr (Or.inr (Or.inr (Or.inr (Or.inl ⟨hs9.1, hs9.2.1, hs9.2.2.1, hs9.2.2.2, rfl, fun q _ => cp_end (by omega) (by omega) (hJ.1 q), hJ.2.2⟩)))))) | exact Or.inr (Or.inl ⟨by omega, hA⟩)))
                              · skip
                                have q15 := i32_subI (I (t + 3) (Int32.toNatClampNeg x1)) x5
                                have hc95 := mt Int32.lt_iff_toInt_lt.mpr hc95
                                first | (revert hrsx1; intro hrsx1) | have hrsx1 := WM_rowSize hW (k := Int32.toNatClampNeg x1) (by rw [tn_eq]; omega) | skip
                                first | (revert hrsx2; intro hrsx2) | have hrsx2 := WM_rowSize hW (k := Int32.toNatClampNeg x2) (by rw [tn_eq]; omega) | skip
                                refine ⟨vp_of (by omega) (by omega), ?_⟩
                                refine ⟨fun hc97 => ?_, fun hc98 => ?_⟩
                                · skip
                                  have q16 := i32_subI (I (t + 3) (Int32.toNatClampNeg x2)) x5
                                  have hc97 := Int32.le_iff_toInt_le.mp hc97
                                  first | (revert hrsx1; intro hrsx1) | have hrsx1 := WM_rowSize hW (k := Int32.toNatClampNeg x1) (by rw [tn_eq]; omega) | skip
                                  first | (revert hrsx2; intro hrsx2) | have hrsx2 := WM_rowSize hW (k := Int32.toNatClampNeg x2) (by rw [tn_eq]; omega) | skip
                                  exact lX12_copy_191 ht   hK  (((x5.toInt) - (0 : Int32).toInt).toNat + 1) _ _ 0 hW Fr.rf (by omega) (by omega) (by omega) (by omega) (by omega) (by first | exact ⟨fun q hq => by exfalso; omega, fun _ _ => rfl⟩ | exact cp_1 hJ (by omega) (by omega) (by omega) (by omega) (by omega)) (by omega)
                                · skip
                                  have q16 := i32_subI (I (t + 3) (Int32.toNatClampNeg x2)) x5
                                  have hc98 := mt Int32.le_iff_toInt_le.mpr hc98
                                  first | (revert hrsx1; intro hrsx1) | have hrsx1 := WM_rowSize hW (k := Int32.toNatClampNeg x1) (by rw [tn_eq]; omega) | skip
                                  first | (revert hrsx2; intro hrsx2) | have hrsx2 := WM_rowSize hW (k := Int32.toNatClampNeg x2) (by rw [tn_eq]; omega) | skip
                                  have q17 : (-2 : Int32).toInt = -2 := rfl
                                  refine sfX12_refuse ht (by decide) hW (by omega) (fun v86 I85 hWI85 hFI85 hp99 => ?_)
                                  have hwI85 := WM_f hWI85
                                  first | (revert hrsx1; intro hrsx1) | have hrsx1 := WM_rowSize hW (k := Int32.toNatClampNeg x1) (by rw [tn_eq]; omega) | skip
                                  first | (revert hrsx2; intro hrsx2) | have hrsx2 := WM_rowSize hW (k := Int32.toNatClampNeg x2) (by rw [tn_eq]; omega) | skip
                                  have q18 := i32_lo v86
                                  exact hK _ _ _ hWI85 (Fr.tr Fr.rf hFI85 (by intro a k h; omega)) (by first | exact Or.inr (Or.inr (Or.inr (Or.inr (Or.inr (Or.inr (⟨by omega, by omega, by omega, by omega, by omega, rfl⟩)))))) | exact Or.inl ⟨by omega, by omega, rfl⟩ | exact Or.inr (Or.inl ⟨by omega, by omega⟩) | exact Or.inr (Or.inr (Or.inl ⟨by omega, by omega, by omega, rfl⟩)) | exact Or.inr (Or.inr (Or.inr (Or.inl ⟨by omega, by omega, by omega, by omega, by omega, rfl⟩))) | exact Or.inr (Or.inr (Or.inr (Or.inr (Or.inl ⟨by omega, by omega, by omega, by omega, rfl⟩)))) | exact Or.inr (Or.inr (Or.inr (Or.inr (Or.inr (Or.inl ⟨by omega, by omega, by omega, by omega, by omega, ⟨fun q _ => cp_end (by omega) (by omega) (hJ.1 q), hJ.2⟩⟩))))) | (by_cases hA : ((0 ≤ (I0 (t + 1) (Int32.toNatClampNeg x1)).toInt ∧ (I0 (t + 1) (Int32.toNatClampNeg x1)).toInt ≤ 2) ∧ 0 ≤ (I0 (t + 1) (Int32.toNatClampNeg x2)).toInt ∧ (I0 (t + 1) (Int32.toNatClampNeg x2)).toInt ≤ 2) <;> first | (have hs9 := hsu hA; exact Or.inr (Or.inr (Or.inr (Or.inr (Or.inr (Or.inl ⟨hs9.1, hs9.2.1, hs9.2.2.1, hs9.2.2.2, rfl, fun q _ => cp_end (by omega) (by omega) (hJ.1 q), hJ.2.2⟩)))))) | exact Or.inr (Or.inl ⟨by omega, hA⟩)))
                  · skip
                    have hc78 := Int32.toInt_inj.mpr hc78
                    first | (revert hrsx1; intro hrsx1) | have hrsx1 := WM_rowSize hW (k := Int32.toNatClampNeg x1) (by rw [tn_eq]; omega) | skip
                    first | (revert hrsx2; intro hrsx2) | have hrsx2 := WM_rowSize hW (k := Int32.toNatClampNeg x2) (by rw [tn_eq]; omega) | skip
                    have q12 : (-4 : Int32).toInt = -4 := rfl
                    refine sfX12_refuse ht (by decide) hW (by omega) (fun v88 I87 hWI87 hFI87 hp100 => ?_)
                    have hwI87 := WM_f hWI87
                    first | (revert hrsx1; intro hrsx1) | have hrsx1 := WM_rowSize hW (k := Int32.toNatClampNeg x1) (by rw [tn_eq]; omega) | skip
                    first | (revert hrsx2; intro hrsx2) | have hrsx2 := WM_rowSize hW (k := Int32.toNatClampNeg x2) (by rw [tn_eq]; omega) | skip
                    have q13 := i32_lo v88
                    exact hK _ _ _ hWI87 (Fr.tr Fr.rf hFI87 (by intro a k h; omega)) (by first | exact Or.inr (Or.inr (Or.inr (Or.inl ⟨by omega, by omega, by omega, by omega, by omega, rfl⟩))) | exact Or.inl ⟨by omega, by omega, rfl⟩ | exact Or.inr (Or.inl ⟨by omega, by omega⟩) | exact Or.inr (Or.inr (Or.inl ⟨by omega, by omega, by omega, rfl⟩)) | exact Or.inr (Or.inr (Or.inr (Or.inr (Or.inl ⟨by omega, by omega, by omega, by omega, rfl⟩)))) | exact Or.inr (Or.inr (Or.inr (Or.inr (Or.inr (Or.inl ⟨by omega, by omega, by omega, by omega, by omega, ⟨fun q _ => cp_end (by omega) (by omega) (hJ.1 q), hJ.2⟩⟩))))) | exact Or.inr (Or.inr (Or.inr (Or.inr (Or.inr (Or.inr (⟨by omega, by omega, by omega, by omega, by omega, rfl⟩)))))) | (by_cases hA : ((0 ≤ (I0 (t + 1) (Int32.toNatClampNeg x1)).toInt ∧ (I0 (t + 1) (Int32.toNatClampNeg x1)).toInt ≤ 2) ∧ 0 ≤ (I0 (t + 1) (Int32.toNatClampNeg x2)).toInt ∧ (I0 (t + 1) (Int32.toNatClampNeg x2)).toInt ≤ 2) <;> first | (have hs9 := hsu hA; exact Or.inr (Or.inr (Or.inr (Or.inr (Or.inr (Or.inl ⟨hs9.1, hs9.2.1, hs9.2.2.1, hs9.2.2.2, rfl, fun q _ => cp_end (by omega) (by omega) (hJ.1 q), hJ.2.2⟩)))))) | exact Or.inr (Or.inl ⟨by omega, hA⟩)))
              · skip
                have hc73 : ¬ ((I (t + 2) (Int32.toNatClampNeg x1))).toInt = ((I (t + 2) (Int32.toNatClampNeg x2))).toInt := fun z => hc73 (Int32.toInt_inj.mp z)
                first | (revert hrsx1; intro hrsx1) | have hrsx1 := WM_rowSize hW (k := Int32.toNatClampNeg x1) (by rw [tn_eq]; omega) | skip
                first | (revert hrsx2; intro hrsx2) | have hrsx2 := WM_rowSize hW (k := Int32.toNatClampNeg x2) (by rw [tn_eq]; omega) | skip
                have q12 : (-3 : Int32).toInt = -3 := rfl
                refine sfX12_refuse ht (by decide) hW (by omega) (fun v90 I89 hWI89 hFI89 hp101 => ?_)
                have hwI89 := WM_f hWI89
                first | (revert hrsx1; intro hrsx1) | have hrsx1 := WM_rowSize hW (k := Int32.toNatClampNeg x1) (by rw [tn_eq]; omega) | skip
                first | (revert hrsx2; intro hrsx2) | have hrsx2 := WM_rowSize hW (k := Int32.toNatClampNeg x2) (by rw [tn_eq]; omega) | skip
                have q13 := i32_lo v90
                exact hK _ _ _ hWI89 (Fr.tr Fr.rf hFI89 (by intro a k h; omega)) (by first | exact Or.inr (Or.inr (Or.inl ⟨by omega, by omega, by omega, rfl⟩)) | exact Or.inr (Or.inr (Or.inr (Or.inr (Or.inl ⟨by omega, by omega, by omega, by omega, rfl⟩)))) | exact Or.inl ⟨by omega, by omega, rfl⟩ | exact Or.inr (Or.inl ⟨by omega, by omega⟩) | exact Or.inr (Or.inr (Or.inr (Or.inl ⟨by omega, by omega, by omega, by omega, by omega, rfl⟩))) | exact Or.inr (Or.inr (Or.inr (Or.inr (Or.inr (Or.inl ⟨by omega, by omega, by omega, by omega, by omega, ⟨fun q _ => cp_end (by omega) (by omega) (hJ.1 q), hJ.2⟩⟩))))) | exact Or.inr (Or.inr (Or.inr (Or.inr (Or.inr (Or.inr (⟨by omega, by omega, by omega, by omega, by omega, rfl⟩)))))) | (by_cases hA : ((0 ≤ (I0 (t + 1) (Int32.toNatClampNeg x1)).toInt ∧ (I0 (t + 1) (Int32.toNatClampNeg x1)).toInt ≤ 2) ∧ 0 ≤ (I0 (t + 1) (Int32.toNatClampNeg x2)).toInt ∧ (I0 (t + 1) (Int32.toNatClampNeg x2)).toInt ≤ 2) <;> first | (have hs9 := hsu hA; exact Or.inr (Or.inr (Or.inr (Or.inr (Or.inr (Or.inl ⟨hs9.1, hs9.2.1, hs9.2.2.1, hs9.2.2.2, rfl, fun q _ => cp_end (by omega) (by omega) (hJ.1 q), hJ.2.2⟩)))))) | exact Or.inr (Or.inl ⟨by omega, hA⟩)))
    · skip
      have q9 := i32_lo v6
      have hc7 := Int32.toInt_inj.mpr hc7
      first | (revert hrsx1; intro hrsx1) | have hrsx1 := WM_rowSize hW (k := Int32.toNatClampNeg x1) (by rw [tn_eq]; omega) | skip
      first | (revert hrsx2; intro hrsx2) | have hrsx2 := WM_rowSize hW (k := Int32.toNatClampNeg x2) (by rw [tn_eq]; omega) | skip
      have q10 : (-2 : Int32).toInt = -2 := rfl
      refine sfX12_refuse ht (by decide) hW (by omega) (fun v92 I91 hWI91 hFI91 hp102 => ?_)
      have hwI91 := WM_f hWI91
      first | (revert hrsx1; intro hrsx1) | have hrsx1 := WM_rowSize hW (k := Int32.toNatClampNeg x1) (by rw [tn_eq]; omega) | skip
      first | (revert hrsx2; intro hrsx2) | have hrsx2 := WM_rowSize hW (k := Int32.toNatClampNeg x2) (by rw [tn_eq]; omega) | skip
      have q11 := i32_lo v92
      exact hK _ _ _ hWI91 (Fr.tr Fr.rf hFI91 (by intro a k h; omega)) (by first | exact Or.inl ⟨by omega, by omega, rfl⟩ | exact Or.inr (Or.inr (Or.inr (Or.inr (Or.inr (Or.inr (⟨by omega, by omega, by omega, by omega, by omega, rfl⟩)))))) | exact Or.inr (Or.inl ⟨by omega, by omega⟩) | exact Or.inr (Or.inr (Or.inl ⟨by omega, by omega, by omega, rfl⟩)) | exact Or.inr (Or.inr (Or.inr (Or.inl ⟨by omega, by omega, by omega, by omega, by omega, rfl⟩))) | exact Or.inr (Or.inr (Or.inr (Or.inr (Or.inl ⟨by omega, by omega, by omega, by omega, rfl⟩)))) | exact Or.inr (Or.inr (Or.inr (Or.inr (Or.inr (Or.inl ⟨by omega, by omega, by omega, by omega, by omega, ⟨fun q _ => cp_end (by omega) (by omega) (hJ.1 q), hJ.2⟩⟩))))) | (by_cases hA : ((0 ≤ (I0 (t + 1) (Int32.toNatClampNeg x1)).toInt ∧ (I0 (t + 1) (Int32.toNatClampNeg x1)).toInt ≤ 2) ∧ 0 ≤ (I0 (t + 1) (Int32.toNatClampNeg x2)).toInt ∧ (I0 (t + 1) (Int32.toNatClampNeg x2)).toInt ≤ 2) <;> first | (have hs9 := hsu hA; exact Or.inr (Or.inr (Or.inr (Or.inr (Or.inr (Or.inl ⟨hs9.1, hs9.2.1, hs9.2.2.1, hs9.2.2.2, rfl, fun q _ => cp_end (by omega) (by omega) (hJ.1 q), hJ.2.2⟩)))))) | exact Or.inr (Or.inl ⟨by omega, hA⟩)))
