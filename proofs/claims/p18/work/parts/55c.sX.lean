theorem sfX11_whyNotRidden {G : jdG} {n : Nat} {Z : jdL} {J : jdJ} {K : Int32 → jdI → jdJ → Prop}  {I : jdI} {x1 : Int32} {x2 : Int32} (hX : zX Z)  (hW : WX I)  (hK : ∀ (v : Int32) (I2 : jdI), WX I2 → Fr (fun a k => 13 ≤ a ∧ a ≤ 24) I I2 → ((v.toInt = 0 ∧ (0 ≤ x1.toInt ∧ x1.toInt < 8) ∧ 0 ≤ x2.toInt ∧ x2.toInt ≤ 7) ∨ ¬ v.toInt = 0) → K v I2 J) : Cl G mX11_whyNotRidden (n + 9) 0 0 [.ref (gb G + 0), .int x1, .int x2] Z I J (qi Z K) := by
  refine eX11_whyNotRidden hX ?_
  have hwI := WX_f hW
  have q1 := i32_lo x1
  have q2 := i32_lo x2
  refine sfX11_whyNotTold hX hW  (fun v2  hp1 => ?_)
  refine ⟨fun hc2 => ?_, fun hc3 => ?_⟩
  · skip
    have q3 := i32_lo v2
    have q4 : (0 : Int32).toInt = 0 := rfl
    have hc2 := Int32.toInt_inj.mpr hc2
    refine sfX11_firstWrong hX hW (by omega) (by omega) (fun v4 I3 hWI3 hFI3 => ?_)
    have hwI3 := WX_f hWI3
    refine ⟨fun hc5 => ?_, fun hc6 => ?_⟩
    · skip
      have q5 := i32_lo v4
      have q6 : (-1 : Int32).toInt = -1 := rfl
      have hc5 := Int32.toInt_inj.mpr hc5
      exact hK _ _ hWI3 (Fr.tr Fr.rf hFI3 (by intro a k h; omega)) (by omega)
    · skip
      have q5 := i32_lo v4
      have q6 : (-1 : Int32).toInt = -1 := rfl
      have hc6 : ¬ (v4).toInt = ((-1) : Int32).toInt := fun z => hc6 (Int32.toInt_inj.mp z)
      have q7 : (-5 : Int32).toInt = -5 := rfl
      exact hK _ _ hWI3 (Fr.tr Fr.rf hFI3 (by intro a k h; omega)) (by omega)
  · skip
    have q3 := i32_lo v2
    have q4 : (0 : Int32).toInt = 0 := rfl
    have hc3 : ¬ (v2).toInt = (0 : Int32).toInt := fun z => hc3 (Int32.toInt_inj.mp z)
    exact hK _ _ hW Fr.rf (by omega)
theorem sfX11_set {G : jdG} {n : Nat} {Z : jdL} {J : jdJ} {K : Int32 → jdI → jdJ → Prop}  {I : jdI} {x1 : Int32} {x2 : Int32} {y3 : Int64} (hX : zX Z)  (hW : WX I)  (hK : ∀ (v : Int32) (I2 : jdI) (J2 : jdJ), WX I2 → Fr (fun a k => a = 28) I I2 → (((¬ (0 ≤ x1.toInt ∧ x1.toInt < 8) ∧ v.toInt = -2) ∨ ((0 ≤ x1.toInt ∧ x1.toInt < 8) ∧ (I (29 + 2 * (Int32.toNatClampNeg x1)) 1).toInt = -1 ∧ mk Z (Int32.toNatClampNeg x1) = 0 ∧ v.toInt = -4) ∨ ((0 ≤ x1.toInt ∧ x1.toInt < 8) ∧ (I (29 + 2 * (Int32.toNatClampNeg x1)) 1).toInt = -1 ∧ 1 ≤ mk Z (Int32.toNatClampNeg x1) ∧ v.toInt = -3) ∨ (((0 ≤ x1.toInt ∧ x1.toInt < 8) ∧ ¬ (I (29 + 2 * (Int32.toNatClampNeg x1)) 1).toInt = -1 ∧ 0 ≤ x2.toInt ∧ x2.toInt < (I (29 + 2 * (Int32.toNatClampNeg x1)) 2).toInt) ∧ v.toInt = 1) ∨ ((0 ≤ x1.toInt ∧ x1.toInt < 8) ∧ ¬ (I (29 + 2 * (Int32.toNatClampNeg x1)) 1).toInt = -1 ∧ ¬ (0 ≤ x2.toInt ∧ x2.toInt < (I (29 + 2 * (Int32.toNatClampNeg x1)) 2).toInt) ∧ v.toInt = -2)) ∧ (((0 ≤ x1.toInt ∧ x1.toInt < 8) ∧ ¬ (I (29 + 2 * (Int32.toNatClampNeg x1)) 1).toInt = -1 ∧ 0 ≤ x2.toInt ∧ x2.toInt < (I (29 + 2 * (Int32.toNatClampNeg x1)) 2).toInt) → (0 ≤ (I (29 + 2 * (Int32.toNatClampNeg x1)) 1).toInt ∧ (I (29 + 2 * (Int32.toNatClampNeg x1)) 1).toInt ≤ 4 → J2 = uJ J ((29 + 2 * (Int32.toNatClampNeg x1)) + 1) (Int32.toNatClampNeg x2) (cutf (I (29 + 2 * (Int32.toNatClampNeg x1)) 1).toInt y3))) ∧ (¬ ((0 ≤ x1.toInt ∧ x1.toInt < 8) ∧ ¬ (I (29 + 2 * (Int32.toNatClampNeg x1)) 1).toInt = -1 ∧ 0 ≤ x2.toInt ∧ x2.toInt < (I (29 + 2 * (Int32.toNatClampNeg x1)) 2).toInt) → J2 = J)) → K v I2 J2) : Cl G mX11_set (n + 2) 0 0 [.ref (gb G + 0), .int x1, .int x2, .long y3] Z I J (qi Z K) := by
  refine eX11_set hX ?_
  have hwI := WX_f hW
  have q1 := i32_lo x1
  refine sfX11_holdsRow hX hW  (fun v2  hp1 => ?_)
  refine ⟨fun hc2 => ?_, fun hc3 => ?_⟩
  · skip
    have q2 := i32_lo v2
    have q3 : (0 : Int32).toInt = 0 := rfl
    have hc2 : ¬ (v2).toInt = (0 : Int32).toInt := fun z => hc2 (Int32.toInt_inj.mp z)
    refine ⟨fun hc4 => ?_, fun hc5 => ?_⟩
    · skip
      have q4 := i32_lo x2
      have hc4 := Int32.lt_iff_toInt_lt.mp hc4
      have q5 : (-2 : Int32).toInt = -2 := rfl
      refine sfX11_refuse hX hW  (fun v4 I3 hWI3 hFI3 hp6 => ?_)
      have hwI3 := WX_f hWI3
      have hvr := congrArg Int32.toInt hp6
      have q6 := i32_lo v4
      exact hK _ _ _ hWI3 (Fr.tr Fr.rf hFI3 (by intro a k h; omega)) ⟨by omega, fun q => by first | (exfalso; omega) | exact (fun q9 => hput ⟨by omega, by omega, by omega, by omega⟩), fun q => by first | rfl | (exfalso; omega)⟩
    · skip
      have q4 := i32_lo x2
      have hc5 := mt Int32.lt_iff_toInt_lt.mpr hc5
      refine ⟨vp_of (by omega) (by omega), ?_⟩
      refine ⟨fun hc7 => ?_, fun hc8 => ?_⟩
      · skip
        have hc7 := Int32.lt_iff_toInt_lt.mp hc7
        refine ⟨vp_of (by omega) (by omega), ?_⟩
        refine sfX6_put (zX_shelf hX (by simp only [tn_eq]; omega)) (by simp only [tn_eq]; omega) hW  (fun J7  hp9 => ?_)
        have hput := hp9
        have q5 : (1 : Int32).toInt = 1 := rfl
        exact hK _ _ _ hW Fr.rf ⟨by omega, fun q => by first | (exfalso; omega) | exact (fun q9 => hput ⟨by omega, by omega, by omega, by omega⟩), fun q => by first | rfl | (exfalso; omega)⟩
      · skip
        have hc8 := mt Int32.lt_iff_toInt_lt.mpr hc8
        have q5 : (-2 : Int32).toInt = -2 := rfl
        refine sfX11_refuse hX hW  (fun v10 I9 hWI9 hFI9 hp10 => ?_)
        have hwI9 := WX_f hWI9
        have hvr := congrArg Int32.toInt hp10
        have q6 := i32_lo v10
        exact hK _ _ _ hWI9 (Fr.tr Fr.rf hFI9 (by intro a k h; omega)) ⟨by omega, fun q => by first | (exfalso; omega) | exact (fun q9 => hput ⟨by omega, by omega, by omega, by omega⟩), fun q => by first | rfl | (exfalso; omega)⟩
  · skip
    have q2 := i32_lo v2
    have q3 : (0 : Int32).toInt = 0 := rfl
    have hc3 := Int32.toInt_inj.mpr hc3
    refine sfX11_whyNoRow hX hW  (fun v12  hp11 => ?_)
    have q4 := i32_lo v12
    refine sfX11_refuse hX hW  (fun v14 I13 hWI13 hFI13 hp12 => ?_)
    have hwI13 := WX_f hWI13
    have hvr := congrArg Int32.toInt hp12
    have q5 := i32_lo v14
    exact hK _ _ _ hWI13 (Fr.tr Fr.rf hFI13 (by intro a k h; omega)) ⟨by omega, fun q => by first | (exfalso; omega) | exact (fun q9 => hput ⟨by omega, by omega, by omega, by omega⟩), fun q => by first | rfl | (exfalso; omega)⟩
theorem sfX11_copy {G : jdG} {n : Nat} {Z : jdL} {J : jdJ} {K : Int32 → jdI → jdJ → Prop}  {I : jdI} {x1 : Int32} {x2 : Int32} {x3 : Int32} {x4 : Int32} {x5 : Int32} (hX : zX Z)  (hW : WX I)  (hK : ∀ (v : Int32) (I2 : jdI) (J2 : jdJ), WX I2 → Fr (fun a k => a = 28) I I2 → ((¬ ((0 ≤ x1.toInt ∧ x1.toInt < 8) ∧ (0 ≤ x2.toInt ∧ x2.toInt < 8)) ∧ v.toInt = -2 ∧ J2 = J) ∨ (((0 ≤ x1.toInt ∧ x1.toInt < 8) ∧ (0 ≤ x2.toInt ∧ x2.toInt < 8)) ∧ (1 ≤ mk Z (Int32.toNatClampNeg x1) ∨ 1 ≤ mk Z (Int32.toNatClampNeg x2)) ∧ v.toInt = -3 ∧ J2 = J) ∨ (((0 ≤ x1.toInt ∧ x1.toInt < 8) ∧ (0 ≤ x2.toInt ∧ x2.toInt < 8)) ∧ (mk Z (Int32.toNatClampNeg x1) = 0 ∧ mk Z (Int32.toNatClampNeg x2) = 0) ∧ ((I (29 + 2 * (Int32.toNatClampNeg x1)) 1).toInt = -1 ∨ (I (29 + 2 * (Int32.toNatClampNeg x2)) 1).toInt = -1) ∧ v.toInt = -4 ∧ J2 = J) ∨ (((0 ≤ x1.toInt ∧ x1.toInt < 8) ∧ (0 ≤ x2.toInt ∧ x2.toInt < 8)) ∧ (mk Z (Int32.toNatClampNeg x1) = 0 ∧ mk Z (Int32.toNatClampNeg x2) = 0) ∧ ¬ (I (29 + 2 * (Int32.toNatClampNeg x1)) 1).toInt = -1 ∧ ¬ (I (29 + 2 * (Int32.toNatClampNeg x2)) 1).toInt = -1 ∧ ¬ (I (29 + 2 * (Int32.toNatClampNeg x1)) 1).toInt = (I (29 + 2 * (Int32.toNatClampNeg x2)) 1).toInt ∧ v.toInt = -3 ∧ J2 = J) ∨ (((0 ≤ x1.toInt ∧ x1.toInt < 8) ∧ (0 ≤ x2.toInt ∧ x2.toInt < 8)) ∧ (mk Z (Int32.toNatClampNeg x1) = 0 ∧ mk Z (Int32.toNatClampNeg x2) = 0) ∧ ¬ (I (29 + 2 * (Int32.toNatClampNeg x1)) 1).toInt = -1 ∧ ¬ (I (29 + 2 * (Int32.toNatClampNeg x2)) 1).toInt = -1 ∧ (I (29 + 2 * (Int32.toNatClampNeg x1)) 1).toInt = (I (29 + 2 * (Int32.toNatClampNeg x2)) 1).toInt ∧ (0 ≤ x3.toInt ∧ 0 ≤ x4.toInt ∧ 0 ≤ x5.toInt ∧ x5.toInt ≤ (I (29 + 2 * (Int32.toNatClampNeg x1)) 2).toInt - x3.toInt ∧ x5.toInt ≤ (I (29 + 2 * (Int32.toNatClampNeg x2)) 2).toInt - x4.toInt) ∧ v.toInt = x5.toInt ∧ J2 = cJ J ((29 + 2 * (Int32.toNatClampNeg x1)) + 1) ((29 + 2 * (Int32.toNatClampNeg x2)) + 1) (Int32.toNatClampNeg x3) (Int32.toNatClampNeg x4) (Int32.toNatClampNeg x5)) ∨ (((0 ≤ x1.toInt ∧ x1.toInt < 8) ∧ (0 ≤ x2.toInt ∧ x2.toInt < 8)) ∧ (mk Z (Int32.toNatClampNeg x1) = 0 ∧ mk Z (Int32.toNatClampNeg x2) = 0) ∧ ¬ (I (29 + 2 * (Int32.toNatClampNeg x1)) 1).toInt = -1 ∧ ¬ (I (29 + 2 * (Int32.toNatClampNeg x2)) 1).toInt = -1 ∧ (I (29 + 2 * (Int32.toNatClampNeg x1)) 1).toInt = (I (29 + 2 * (Int32.toNatClampNeg x2)) 1).toInt ∧ ¬ (0 ≤ x3.toInt ∧ 0 ≤ x4.toInt ∧ 0 ≤ x5.toInt ∧ x5.toInt ≤ (I (29 + 2 * (Int32.toNatClampNeg x1)) 2).toInt - x3.toInt ∧ x5.toInt ≤ (I (29 + 2 * (Int32.toNatClampNeg x2)) 2).toInt - x4.toInt) ∧ v.toInt = -2 ∧ J2 = J)) → K v I2 J2) : Cl G mX11_copy (n + 1) 0 0 [.ref (gb G + 0), .int x1, .int x2, .int x3, .int x4, .int x5] Z I J (qi Z K) := by
  refine eX11_copy hX ?_
  have hwI := WX_f hW
  have q1 := i32_lo x1
  refine sfX11_isShelf  hW  (fun v2  hp1 => ?_)
  first | (revert hsx1; intro hsx1) | have hsx1 := WX_shx hW (x := x1) (by omega) (by omega) | skip
  first | (revert hsx2; intro hsx2) | have hsx2 := WX_shx hW (x := x2) (by omega) (by omega) | skip
  refine ⟨fun hc2 => ?_, fun hc3 => ?_⟩
  · skip
    have q2 := i32_lo v2
    have q3 : (0 : Int32).toInt = 0 := rfl
    have hc2 := Int32.toInt_inj.mpr hc2
    first | (revert hsx1; intro hsx1) | have hsx1 := WX_shx hW (x := x1) (by omega) (by omega) | skip
    first | (revert hsx2; intro hsx2) | have hsx2 := WX_shx hW (x := x2) (by omega) (by omega) | skip
    have q4 : (-2 : Int32).toInt = -2 := rfl
    refine sfX11_refuse hX hW  (fun v4 I3 hWI3 hFI3 hp4 => ?_)
    have hwI3 := WX_f hWI3
    have hvr := congrArg Int32.toInt hp4
    first | (revert hsx1; intro hsx1) | have hsx1 := WX_shx hW (x := x1) (by omega) (by omega) | skip
    first | (revert hsx2; intro hsx2) | have hsx2 := WX_shx hW (x := x2) (by omega) (by omega) | skip
    have q5 := i32_lo v4
    exact hK _ _ _ hWI3 (Fr.tr Fr.rf hFI3 (by intro a k h; omega)) (by first | exact Or.inl ⟨by omega, by omega, rfl⟩ | exact Or.inr (Or.inr (Or.inr (Or.inr (Or.inr (⟨by omega, by omega, by omega, by omega, by omega, by omega, by omega, rfl⟩))))) | exact Or.inr (Or.inl ⟨by omega, by omega, by omega, rfl⟩) | exact Or.inr (Or.inr (Or.inl ⟨by omega, by omega, by omega, by omega, rfl⟩)) | exact Or.inr (Or.inr (Or.inr (Or.inl ⟨by omega, by omega, by omega, by omega, by omega, by omega, rfl⟩))) | exact Or.inr (Or.inr (Or.inr (Or.inr (Or.inl ⟨by omega, by omega, by omega, by omega, by omega, by omega, by omega, rfl⟩)))))
  · skip
    have q2 := i32_lo v2
    have q3 : (0 : Int32).toInt = 0 := rfl
    have hc3 : ¬ (v2).toInt = (0 : Int32).toInt := fun z => hc3 (Int32.toInt_inj.mp z)
    first | (revert hsx1; intro hsx1) | have hsx1 := WX_shx hW (x := x1) (by omega) (by omega) | skip
    first | (revert hsx2; intro hsx2) | have hsx2 := WX_shx hW (x := x2) (by omega) (by omega) | skip
    have q4 := i32_lo x2
    refine sfX11_isShelf  hW  (fun v6  hp5 => ?_)
    first | (revert hsx1; intro hsx1) | have hsx1 := WX_shx hW (x := x1) (by omega) (by omega) | skip
    first | (revert hsx2; intro hsx2) | have hsx2 := WX_shx hW (x := x2) (by omega) (by omega) | skip
    refine ⟨fun hc6 => ?_, fun hc7 => ?_⟩
    · skip
      have q5 := i32_lo v6
      have hc6 : ¬ (v6).toInt = (0 : Int32).toInt := fun z => hc6 (Int32.toInt_inj.mp z)
      first | (revert hsx1; intro hsx1) | have hsx1 := WX_shx hW (x := x1) (by omega) (by omega) | skip
      first | (revert hsx2; intro hsx2) | have hsx2 := WX_shx hW (x := x2) (by omega) (by omega) | skip
      refine ⟨vp_of (by omega) (by omega), ?_⟩
      refine ⟨vp_of (by omega) (by omega), ?_⟩
      refine sfX6_isRow (zX_shelf hX (by simp only [tn_eq]; omega)) (by simp only [tn_eq]; omega) hW  (fun v10  hp8 => ?_)
      first | (revert hsx1; intro hsx1) | have hsx1 := WX_shx hW (x := x1) (by omega) (by omega) | skip
      first | (revert hsx2; intro hsx2) | have hsx2 := WX_shx hW (x := x2) (by omega) (by omega) | skip
      refine ⟨fun hc9 => ?_, fun hc10 => ?_⟩
      · skip
        have q6 := i32_lo v10
        have hc9 := Int32.toInt_inj.mpr hc9
        first | (revert hsx1; intro hsx1) | have hsx1 := WX_shx hW (x := x1) (by omega) (by omega) | skip
        first | (revert hsx2; intro hsx2) | have hsx2 := WX_shx hW (x := x2) (by omega) (by omega) | skip
        refine ⟨fun hc11 => ?_, ?_⟩
        · skip
          have hzhc11 := mk_none hc11
          first | (revert hsx1; intro hsx1) | have hsx1 := WX_shx hW (x := x1) (by omega) (by omega) | skip
          first | (revert hsx2; intro hsx2) | have hsx2 := WX_shx hW (x := x2) (by omega) (by omega) | skip
          refine ⟨fun hc13 => ?_, ?_⟩
          · skip
            have hzhc13 := mk_none hc13
            first | (revert hsx1; intro hsx1) | have hsx1 := WX_shx hW (x := x1) (by omega) (by omega) | skip
            first | (revert hsx2; intro hsx2) | have hsx2 := WX_shx hW (x := x2) (by omega) (by omega) | skip
            have q7 : (-4 : Int32).toInt = -4 := rfl
            refine sfX11_refuse hX hW  (fun v16 I15 hWI15 hFI15 hp15 => ?_)
            have hwI15 := WX_f hWI15
            have hvr := congrArg Int32.toInt hp15
            first | (revert hsx1; intro hsx1) | have hsx1 := WX_shx hW (x := x1) (by omega) (by omega) | skip
            first | (revert hsx2; intro hsx2) | have hsx2 := WX_shx hW (x := x2) (by omega) (by omega) | skip
            have q8 := i32_lo v16
            exact hK _ _ _ hWI15 (Fr.tr Fr.rf hFI15 (by intro a k h; omega)) (by first | exact Or.inr (Or.inr (Or.inl ⟨by omega, by omega, by omega, by omega, rfl⟩)) | exact Or.inl ⟨by omega, by omega, rfl⟩ | exact Or.inr (Or.inl ⟨by omega, by omega, by omega, rfl⟩) | exact Or.inr (Or.inr (Or.inr (Or.inl ⟨by omega, by omega, by omega, by omega, by omega, by omega, rfl⟩))) | exact Or.inr (Or.inr (Or.inr (Or.inr (Or.inl ⟨by omega, by omega, by omega, by omega, by omega, by omega, by omega, rfl⟩)))) | exact Or.inr (Or.inr (Or.inr (Or.inr (Or.inr (⟨by omega, by omega, by omega, by omega, by omega, by omega, by omega, rfl⟩))))))
          · skip
            intro w14 hc16
            have hzhc16 := mk_some hc16
            have hrhc16 := ckI_r (Z.1 w14)
            have q7 : (-3 : Int32).toInt = -3 := rfl
            refine sfX11_refuse hX hW  (fun v18 I17 hWI17 hFI17 hp17 => ?_)
            have hwI17 := WX_f hWI17
            have hvr := congrArg Int32.toInt hp17
            first | (revert hsx1; intro hsx1) | have hsx1 := WX_shx hW (x := x1) (by omega) (by omega) | skip
            first | (revert hsx2; intro hsx2) | have hsx2 := WX_shx hW (x := x2) (by omega) (by omega) | skip
            have q8 := i32_lo v18
            exact hK _ _ _ hWI17 (Fr.tr Fr.rf hFI17 (by intro a k h; omega)) (by first | exact Or.inr (Or.inl ⟨by omega, by omega, by omega, rfl⟩) | exact Or.inr (Or.inr (Or.inr (Or.inl ⟨by omega, by omega, by omega, by omega, by omega, by omega, rfl⟩))) | exact Or.inl ⟨by omega, by omega, rfl⟩ | exact Or.inr (Or.inr (Or.inl ⟨by omega, by omega, by omega, by omega, rfl⟩)) | exact Or.inr (Or.inr (Or.inr (Or.inr (Or.inl ⟨by omega, by omega, by omega, by omega, by omega, by omega, by omega, rfl⟩)))) | exact Or.inr (Or.inr (Or.inr (Or.inr (Or.inr (⟨by omega, by omega, by omega, by omega, by omega, by omega, by omega, rfl⟩))))))
        · skip
          intro w12 hc18
          have hzhc18 := mk_some hc18
          have hrhc18 := ckI_r (Z.1 w12)
          have q7 : (-3 : Int32).toInt = -3 := rfl
          refine sfX11_refuse hX hW  (fun v20 I19 hWI19 hFI19 hp19 => ?_)
          have hwI19 := WX_f hWI19
          have hvr := congrArg Int32.toInt hp19
          first | (revert hsx1; intro hsx1) | have hsx1 := WX_shx hW (x := x1) (by omega) (by omega) | skip
          first | (revert hsx2; intro hsx2) | have hsx2 := WX_shx hW (x := x2) (by omega) (by omega) | skip
          have q8 := i32_lo v20
          exact hK _ _ _ hWI19 (Fr.tr Fr.rf hFI19 (by intro a k h; omega)) (by first | exact Or.inr (Or.inl ⟨by omega, by omega, by omega, rfl⟩) | exact Or.inr (Or.inr (Or.inr (Or.inl ⟨by omega, by omega, by omega, by omega, by omega, by omega, rfl⟩))) | exact Or.inl ⟨by omega, by omega, rfl⟩ | exact Or.inr (Or.inr (Or.inl ⟨by omega, by omega, by omega, by omega, rfl⟩)) | exact Or.inr (Or.inr (Or.inr (Or.inr (Or.inl ⟨by omega, by omega, by omega, by omega, by omega, by omega, by omega, rfl⟩)))) | exact Or.inr (Or.inr (Or.inr (Or.inr (Or.inr (⟨by omega, by omega, by omega, by omega, by omega, by omega, by omega, rfl⟩))))))
      · skip
        have q6 := i32_lo v10
        have hc10 : ¬ (v10).toInt = (0 : Int32).toInt := fun z => hc10 (Int32.toInt_inj.mp z)
        first | (revert hsx1; intro hsx1) | have hsx1 := WX_shx hW (x := x1) (by omega) (by omega) | skip
        first | (revert hsx2; intro hsx2) | have hsx2 := WX_shx hW (x := x2) (by omega) (by omega) | skip
        refine sfX6_isRow (zX_shelf hX (by simp only [tn_eq]; omega)) (by simp only [tn_eq]; omega) hW  (fun v22  hp20 => ?_)
        first | (revert hsx1; intro hsx1) | have hsx1 := WX_shx hW (x := x1) (by omega) (by omega) | skip
        first | (revert hsx2; intro hsx2) | have hsx2 := WX_shx hW (x := x2) (by omega) (by omega) | skip
        refine ⟨fun hc21 => ?_, fun hc22 => ?_⟩
        · skip
          have q7 := i32_lo v22
          have hc21 := Int32.toInt_inj.mpr hc21
          first | (revert hsx1; intro hsx1) | have hsx1 := WX_shx hW (x := x1) (by omega) (by omega) | skip
          first | (revert hsx2; intro hsx2) | have hsx2 := WX_shx hW (x := x2) (by omega) (by omega) | skip
          refine ⟨fun hc23 => ?_, ?_⟩
          · skip
            have hzhc23 := mk_none hc23
            first | (revert hsx1; intro hsx1) | have hsx1 := WX_shx hW (x := x1) (by omega) (by omega) | skip
            first | (revert hsx2; intro hsx2) | have hsx2 := WX_shx hW (x := x2) (by omega) (by omega) | skip
            refine ⟨fun hc25 => ?_, ?_⟩
            · skip
              have hzhc25 := mk_none hc25
              first | (revert hsx1; intro hsx1) | have hsx1 := WX_shx hW (x := x1) (by omega) (by omega) | skip
              first | (revert hsx2; intro hsx2) | have hsx2 := WX_shx hW (x := x2) (by omega) (by omega) | skip
              have q8 : (-4 : Int32).toInt = -4 := rfl
              refine sfX11_refuse hX hW  (fun v28 I27 hWI27 hFI27 hp27 => ?_)
              have hwI27 := WX_f hWI27
              have hvr := congrArg Int32.toInt hp27
              first | (revert hsx1; intro hsx1) | have hsx1 := WX_shx hW (x := x1) (by omega) (by omega) | skip
              first | (revert hsx2; intro hsx2) | have hsx2 := WX_shx hW (x := x2) (by omega) (by omega) | skip
              have q9 := i32_lo v28
              exact hK _ _ _ hWI27 (Fr.tr Fr.rf hFI27 (by intro a k h; omega)) (by first | exact Or.inr (Or.inr (Or.inl ⟨by omega, by omega, by omega, by omega, rfl⟩)) | exact Or.inl ⟨by omega, by omega, rfl⟩ | exact Or.inr (Or.inl ⟨by omega, by omega, by omega, rfl⟩) | exact Or.inr (Or.inr (Or.inr (Or.inl ⟨by omega, by omega, by omega, by omega, by omega, by omega, rfl⟩))) | exact Or.inr (Or.inr (Or.inr (Or.inr (Or.inl ⟨by omega, by omega, by omega, by omega, by omega, by omega, by omega, rfl⟩)))) | exact Or.inr (Or.inr (Or.inr (Or.inr (Or.inr (⟨by omega, by omega, by omega, by omega, by omega, by omega, by omega, rfl⟩))))))
            · skip
              intro w26 hc28
              have hzhc28 := mk_some hc28
              have hrhc28 := ckI_r (Z.1 w26)
              have q8 : (-3 : Int32).toInt = -3 := rfl
              refine sfX11_refuse hX hW  (fun v30 I29 hWI29 hFI29 hp29 => ?_)
              have hwI29 := WX_f hWI29
              have hvr := congrArg Int32.toInt hp29
              first | (revert hsx1; intro hsx1) | have hsx1 := WX_shx hW (x := x1) (by omega) (by omega) | skip
              first | (revert hsx2; intro hsx2) | have hsx2 := WX_shx hW (x := x2) (by omega) (by omega) | skip
              have q9 := i32_lo v30
              exact hK _ _ _ hWI29 (Fr.tr Fr.rf hFI29 (by intro a k h; omega)) (by first | exact Or.inr (Or.inl ⟨by omega, by omega, by omega, rfl⟩) | exact Or.inr (Or.inr (Or.inr (Or.inl ⟨by omega, by omega, by omega, by omega, by omega, by omega, rfl⟩))) | exact Or.inl ⟨by omega, by omega, rfl⟩ | exact Or.inr (Or.inr (Or.inl ⟨by omega, by omega, by omega, by omega, rfl⟩)) | exact Or.inr (Or.inr (Or.inr (Or.inr (Or.inl ⟨by omega, by omega, by omega, by omega, by omega, by omega, by omega, rfl⟩)))) | exact Or.inr (Or.inr (Or.inr (Or.inr (Or.inr (⟨by omega, by omega, by omega, by omega, by omega, by omega, by omega, rfl⟩))))))
          · skip
            intro w24 hc30
            have hzhc30 := mk_some hc30
            have hrhc30 := ckI_r (Z.1 w24)
            have q8 : (-3 : Int32).toInt = -3 := rfl
            refine sfX11_refuse hX hW  (fun v32 I31 hWI31 hFI31 hp31 => ?_)
            have hwI31 := WX_f hWI31
            have hvr := congrArg Int32.toInt hp31
            first | (revert hsx1; intro hsx1) | have hsx1 := WX_shx hW (x := x1) (by omega) (by omega) | skip
            first | (revert hsx2; intro hsx2) | have hsx2 := WX_shx hW (x := x2) (by omega) (by omega) | skip
            have q9 := i32_lo v32
            exact hK _ _ _ hWI31 (Fr.tr Fr.rf hFI31 (by intro a k h; omega)) (by first | exact Or.inr (Or.inl ⟨by omega, by omega, by omega, rfl⟩) | exact Or.inr (Or.inr (Or.inr (Or.inl ⟨by omega, by omega, by omega, by omega, by omega, by omega, rfl⟩))) | exact Or.inl ⟨by omega, by omega, rfl⟩ | exact Or.inr (Or.inr (Or.inl ⟨by omega, by omega, by omega, by omega, rfl⟩)) | exact Or.inr (Or.inr (Or.inr (Or.inr (Or.inl ⟨by omega, by omega, by omega, by omega, by omega, by omega, by omega, rfl⟩)))) | exact Or.inr (Or.inr (Or.inr (Or.inr (Or.inr (⟨by omega, by omega, by omega, by omega, by omega, by omega, by omega, rfl⟩))))))
        · skip
          have q7 := i32_lo v22
          have hc22 : ¬ (v22).toInt = (0 : Int32).toInt := fun z => hc22 (Int32.toInt_inj.mp z)
          first | (revert hsx1; intro hsx1) | have hsx1 := WX_shx hW (x := x1) (by omega) (by omega) | skip
          first | (revert hsx2; intro hsx2) | have hsx2 := WX_shx hW (x := x2) (by omega) (by omega) | skip
          refine ⟨fun hc32 => ?_, ?_⟩
          · skip
            have hzhc32 := mk_none hc32
            first | (revert hsx1; intro hsx1) | have hsx1 := WX_shx hW (x := x1) (by omega) (by omega) | skip
            first | (revert hsx2; intro hsx2) | have hsx2 := WX_shx hW (x := x2) (by omega) (by omega) | skip
            refine ⟨fun hc34 => ?_, ?_⟩
            · skip
              have hzhc34 := mk_none hc34
              first | (revert hsx1; intro hsx1) | have hsx1 := WX_shx hW (x := x1) (by omega) (by omega) | skip
              first | (revert hsx2; intro hsx2) | have hsx2 := WX_shx hW (x := x2) (by omega) (by omega) | skip
              refine ⟨fun hc36 => ?_, fun hc37 => ?_⟩
              · skip
                have hc36 := Int32.toInt_inj.mpr hc36
                first | (revert hsx1; intro hsx1) | have hsx1 := WX_shx hW (x := x1) (by omega) (by omega) | skip
                first | (revert hsx2; intro hsx2) | have hsx2 := WX_shx hW (x := x2) (by omega) (by omega) | skip
                refine ⟨fun hc38 => ?_, fun hc39 => ?_⟩
                · skip
                  have q8 := i32_lo x3
                  have hc38 := Int32.lt_iff_toInt_lt.mp hc38
                  first | (revert hsx1; intro hsx1) | have hsx1 := WX_shx hW (x := x1) (by omega) (by omega) | skip
                  first | (revert hsx2; intro hsx2) | have hsx2 := WX_shx hW (x := x2) (by omega) (by omega) | skip
                  have q9 : (-2 : Int32).toInt = -2 := rfl
                  refine sfX11_refuse hX hW  (fun v38 I37 hWI37 hFI37 hp40 => ?_)
                  have hwI37 := WX_f hWI37
                  have hvr := congrArg Int32.toInt hp40
                  first | (revert hsx1; intro hsx1) | have hsx1 := WX_shx hW (x := x1) (by omega) (by omega) | skip
                  first | (revert hsx2; intro hsx2) | have hsx2 := WX_shx hW (x := x2) (by omega) (by omega) | skip
                  have q10 := i32_lo v38
                  exact hK _ _ _ hWI37 (Fr.tr Fr.rf hFI37 (by intro a k h; omega)) (by first | exact Or.inr (Or.inr (Or.inr (Or.inr (Or.inr (⟨by omega, by omega, by omega, by omega, by omega, by omega, by omega, rfl⟩))))) | exact Or.inl ⟨by omega, by omega, rfl⟩ | exact Or.inr (Or.inl ⟨by omega, by omega, by omega, rfl⟩) | exact Or.inr (Or.inr (Or.inl ⟨by omega, by omega, by omega, by omega, rfl⟩)) | exact Or.inr (Or.inr (Or.inr (Or.inl ⟨by omega, by omega, by omega, by omega, by omega, by omega, rfl⟩))) | exact Or.inr (Or.inr (Or.inr (Or.inr (Or.inl ⟨by omega, by omega, by omega, by omega, by omega, by omega, by omega, rfl⟩)))))
                · skip
                  have q8 := i32_lo x3
                  have hc39 := mt Int32.lt_iff_toInt_lt.mpr hc39
                  first | (revert hsx1; intro hsx1) | have hsx1 := WX_shx hW (x := x1) (by omega) (by omega) | skip
                  first | (revert hsx2; intro hsx2) | have hsx2 := WX_shx hW (x := x2) (by omega) (by omega) | skip
                  refine ⟨fun hc41 => ?_, fun hc42 => ?_⟩
                  · skip
                    have q9 := i32_lo x4
                    have hc41 := Int32.lt_iff_toInt_lt.mp hc41
                    first | (revert hsx1; intro hsx1) | have hsx1 := WX_shx hW (x := x1) (by omega) (by omega) | skip
                    first | (revert hsx2; intro hsx2) | have hsx2 := WX_shx hW (x := x2) (by omega) (by omega) | skip
                    have q10 : (-2 : Int32).toInt = -2 := rfl
                    refine sfX11_refuse hX hW  (fun v40 I39 hWI39 hFI39 hp43 => ?_)
                    have hwI39 := WX_f hWI39
                    have hvr := congrArg Int32.toInt hp43
                    first | (revert hsx1; intro hsx1) | have hsx1 := WX_shx hW (x := x1) (by omega) (by omega) | skip
                    first | (revert hsx2; intro hsx2) | have hsx2 := WX_shx hW (x := x2) (by omega) (by omega) | skip
                    have q11 := i32_lo v40
                    exact hK _ _ _ hWI39 (Fr.tr Fr.rf hFI39 (by intro a k h; omega)) (by first | exact Or.inr (Or.inr (Or.inr (Or.inr (Or.inr (⟨by omega, by omega, by omega, by omega, by omega, by omega, by omega, rfl⟩))))) | exact Or.inl ⟨by omega, by omega, rfl⟩ | exact Or.inr (Or.inl ⟨by omega, by omega, by omega, rfl⟩) | exact Or.inr (Or.inr (Or.inl ⟨by omega, by omega, by omega, by omega, rfl⟩)) | exact Or.inr (Or.inr (Or.inr (Or.inl ⟨by omega, by omega, by omega, by omega, by omega, by omega, rfl⟩))) | exact Or.inr (Or.inr (Or.inr (Or.inr (Or.inl ⟨by omega, by omega, by omega, by omega, by omega, by omega, by omega, rfl⟩)))))
                  · skip
                    have q9 := i32_lo x4
                    have hc42 := mt Int32.lt_iff_toInt_lt.mpr hc42
                    first | (revert hsx1; intro hsx1) | have hsx1 := WX_shx hW (x := x1) (by omega) (by omega) | skip
                    first | (revert hsx2; intro hsx2) | have hsx2 := WX_shx hW (x := x2) (by omega) (by omega) | skip
                    refine ⟨fun hc44 => ?_, fun hc45 => ?_⟩
                    · skip
                      have q10 := i32_lo x5
                      have hc44 := Int32.lt_iff_toInt_lt.mp hc44
                      first | (revert hsx1; intro hsx1) | have hsx1 := WX_shx hW (x := x1) (by omega) (by omega) | skip
                      first | (revert hsx2; intro hsx2) | have hsx2 := WX_shx hW (x := x2) (by omega) (by omega) | skip
                      have q11 : (-2 : Int32).toInt = -2 := rfl
                      refine sfX11_refuse hX hW  (fun v42 I41 hWI41 hFI41 hp46 => ?_)
                      have hwI41 := WX_f hWI41
                      have hvr := congrArg Int32.toInt hp46
                      first | (revert hsx1; intro hsx1) | have hsx1 := WX_shx hW (x := x1) (by omega) (by omega) | skip
                      first | (revert hsx2; intro hsx2) | have hsx2 := WX_shx hW (x := x2) (by omega) (by omega) | skip
                      have q12 := i32_lo v42
                      exact hK _ _ _ hWI41 (Fr.tr Fr.rf hFI41 (by intro a k h; omega)) (by first | exact Or.inr (Or.inr (Or.inr (Or.inr (Or.inr (⟨by omega, by omega, by omega, by omega, by omega, by omega, by omega, rfl⟩))))) | exact Or.inl ⟨by omega, by omega, rfl⟩ | exact Or.inr (Or.inl ⟨by omega, by omega, by omega, rfl⟩) | exact Or.inr (Or.inr (Or.inl ⟨by omega, by omega, by omega, by omega, rfl⟩)) | exact Or.inr (Or.inr (Or.inr (Or.inl ⟨by omega, by omega, by omega, by omega, by omega, by omega, rfl⟩))) | exact Or.inr (Or.inr (Or.inr (Or.inr (Or.inl ⟨by omega, by omega, by omega, by omega, by omega, by omega, by omega, rfl⟩)))))
                    · skip
                      have q10 := i32_lo x5
                      have hc45 := mt Int32.lt_iff_toInt_lt.mpr hc45
                      first | (revert hsx1; intro hsx1) | have hsx1 := WX_shx hW (x := x1) (by omega) (by omega) | skip
                      first | (revert hsx2; intro hsx2) | have hsx2 := WX_shx hW (x := x2) (by omega) (by omega) | skip
                      refine ⟨fun hc47 => ?_, fun hc48 => ?_⟩
                      · skip
                        have q11 := i32_subI (I (29 + 2 * (Int32.toNatClampNeg x1)) 2) x3
                        have hc47 := Int32.lt_iff_toInt_lt.mp hc47
                        first | (revert hsx1; intro hsx1) | have hsx1 := WX_shx hW (x := x1) (by omega) (by omega) | skip
                        first | (revert hsx2; intro hsx2) | have hsx2 := WX_shx hW (x := x2) (by omega) (by omega) | skip
                        have q12 : (-2 : Int32).toInt = -2 := rfl
                        refine sfX11_refuse hX hW  (fun v44 I43 hWI43 hFI43 hp49 => ?_)
                        have hwI43 := WX_f hWI43
                        have hvr := congrArg Int32.toInt hp49
                        first | (revert hsx1; intro hsx1) | have hsx1 := WX_shx hW (x := x1) (by omega) (by omega) | skip
                        first | (revert hsx2; intro hsx2) | have hsx2 := WX_shx hW (x := x2) (by omega) (by omega) | skip
                        have q13 := i32_lo v44
                        exact hK _ _ _ hWI43 (Fr.tr Fr.rf hFI43 (by intro a k h; omega)) (by first | exact Or.inr (Or.inr (Or.inr (Or.inr (Or.inr (⟨by omega, by omega, by omega, by omega, by omega, by omega, by omega, rfl⟩))))) | exact Or.inl ⟨by omega, by omega, rfl⟩ | exact Or.inr (Or.inl ⟨by omega, by omega, by omega, rfl⟩) | exact Or.inr (Or.inr (Or.inl ⟨by omega, by omega, by omega, by omega, rfl⟩)) | exact Or.inr (Or.inr (Or.inr (Or.inl ⟨by omega, by omega, by omega, by omega, by omega, by omega, rfl⟩))) | exact Or.inr (Or.inr (Or.inr (Or.inr (Or.inl ⟨by omega, by omega, by omega, by omega, by omega, by omega, by omega, rfl⟩)))))
                      · skip
                        have q11 := i32_subI (I (29 + 2 * (Int32.toNatClampNeg x1)) 2) x3
                        have hc48 := mt Int32.lt_iff_toInt_lt.mpr hc48
                        first | (revert hsx1; intro hsx1) | have hsx1 := WX_shx hW (x := x1) (by omega) (by omega) | skip
                        first | (revert hsx2; intro hsx2) | have hsx2 := WX_shx hW (x := x2) (by omega) (by omega) | skip
                        refine ⟨fun hc50 => ?_, fun hc51 => ?_⟩
                        · skip
                          have q12 := i32_subI (I (29 + 2 * (Int32.toNatClampNeg x2)) 2) x4
                          have hc50 := Int32.le_iff_toInt_le.mp hc50
                          first | (revert hsx1; intro hsx1) | have hsx1 := WX_shx hW (x := x1) (by omega) (by omega) | skip
                          first | (revert hsx2; intro hsx2) | have hsx2 := WX_shx hW (x := x2) (by omega) (by omega) | skip
                          refine ⟨by rw [Int32.lt_iff_toInt_lt]; omega, ?_⟩
                          refine ⟨by rw [Int32.lt_iff_toInt_lt]; omega, ?_⟩
                          refine ⟨by rw [Int32.lt_iff_toInt_lt]; omega, ?_⟩
                          refine ⟨by simp only [tn_eq]; omega, ?_⟩
                          refine ⟨by simp only [tn_eq]; omega, ?_⟩
                          exact hK _ _ _ hW Fr.rf (by first | exact Or.inr (Or.inr (Or.inr (Or.inr (Or.inl ⟨by omega, by omega, by omega, by omega, by omega, by omega, by omega, rfl⟩)))) | exact Or.inl ⟨by omega, by omega, rfl⟩ | exact Or.inr (Or.inl ⟨by omega, by omega, by omega, rfl⟩) | exact Or.inr (Or.inr (Or.inl ⟨by omega, by omega, by omega, by omega, rfl⟩)) | exact Or.inr (Or.inr (Or.inr (Or.inl ⟨by omega, by omega, by omega, by omega, by omega, by omega, rfl⟩))) | exact Or.inr (Or.inr (Or.inr (Or.inr (Or.inr (⟨by omega, by omega, by omega, by omega, by omega, by omega, by omega, rfl⟩))))))
                        · skip
                          have q12 := i32_subI (I (29 + 2 * (Int32.toNatClampNeg x2)) 2) x4
                          have hc51 := mt Int32.le_iff_toInt_le.mpr hc51
                          first | (revert hsx1; intro hsx1) | have hsx1 := WX_shx hW (x := x1) (by omega) (by omega) | skip
                          first | (revert hsx2; intro hsx2) | have hsx2 := WX_shx hW (x := x2) (by omega) (by omega) | skip
                          have q13 : (-2 : Int32).toInt = -2 := rfl
                          refine sfX11_refuse hX hW  (fun v51 I50 hWI50 hFI50 hp52 => ?_)
                          have hwI50 := WX_f hWI50
                          have hvr := congrArg Int32.toInt hp52
                          first | (revert hsx1; intro hsx1) | have hsx1 := WX_shx hW (x := x1) (by omega) (by omega) | skip
                          first | (revert hsx2; intro hsx2) | have hsx2 := WX_shx hW (x := x2) (by omega) (by omega) | skip
                          have q14 := i32_lo v51
                          exact hK _ _ _ hWI50 (Fr.tr Fr.rf hFI50 (by intro a k h; omega)) (by first | exact Or.inr (Or.inr (Or.inr (Or.inr (Or.inr (⟨by omega, by omega, by omega, by omega, by omega, by omega, by omega, rfl⟩))))) | exact Or.inl ⟨by omega, by omega, rfl⟩ | exact Or.inr (Or.inl ⟨by omega, by omega, by omega, rfl⟩) | exact Or.inr (Or.inr (Or.inl ⟨by omega, by omega, by omega, by omega, rfl⟩)) | exact Or.inr (Or.inr (Or.inr (Or.inl ⟨by omega, by omega, by omega, by omega, by omega, by omega, rfl⟩))) | exact Or.inr (Or.inr (Or.inr (Or.inr (Or.inl ⟨by omega, by omega, by omega, by omega, by omega, by omega, by omega, rfl⟩)))))
              · skip
                have hc37 : ¬ ((I (29 + 2 * (Int32.toNatClampNeg x1)) 1)).toInt = ((I (29 + 2 * (Int32.toNatClampNeg x2)) 1)).toInt := fun z => hc37 (Int32.toInt_inj.mp z)
                first | (revert hsx1; intro hsx1) | have hsx1 := WX_shx hW (x := x1) (by omega) (by omega) | skip
                first | (revert hsx2; intro hsx2) | have hsx2 := WX_shx hW (x := x2) (by omega) (by omega) | skip
                have q8 : (-3 : Int32).toInt = -3 := rfl
                refine sfX11_refuse hX hW  (fun v53 I52 hWI52 hFI52 hp53 => ?_)
                have hwI52 := WX_f hWI52
                have hvr := congrArg Int32.toInt hp53
                first | (revert hsx1; intro hsx1) | have hsx1 := WX_shx hW (x := x1) (by omega) (by omega) | skip
                first | (revert hsx2; intro hsx2) | have hsx2 := WX_shx hW (x := x2) (by omega) (by omega) | skip
                have q9 := i32_lo v53
                exact hK _ _ _ hWI52 (Fr.tr Fr.rf hFI52 (by intro a k h; omega)) (by first | exact Or.inr (Or.inl ⟨by omega, by omega, by omega, rfl⟩) | exact Or.inr (Or.inr (Or.inr (Or.inl ⟨by omega, by omega, by omega, by omega, by omega, by omega, rfl⟩))) | exact Or.inl ⟨by omega, by omega, rfl⟩ | exact Or.inr (Or.inr (Or.inl ⟨by omega, by omega, by omega, by omega, rfl⟩)) | exact Or.inr (Or.inr (Or.inr (Or.inr (Or.inl ⟨by omega, by omega, by omega, by omega, by omega, by omega, by omega, rfl⟩)))) | exact Or.inr (Or.inr (Or.inr (Or.inr (Or.inr (⟨by omega, by omega, by omega, by omega, by omega, by omega, by omega, rfl⟩))))))
            · skip
              intro w36 hc54
              have hzhc54 := mk_some hc54
              have hrhc54 := ckI_r (Z.1 w36)
              have q8 : (-3 : Int32).toInt = -3 := rfl
              refine sfX11_refuse hX hW  (fun v55 I54 hWI54 hFI54 hp55 => ?_)
              have hwI54 := WX_f hWI54
              have hvr := congrArg Int32.toInt hp55
              first | (revert hsx1; intro hsx1) | have hsx1 := WX_shx hW (x := x1) (by omega) (by omega) | skip
              first | (revert hsx2; intro hsx2) | have hsx2 := WX_shx hW (x := x2) (by omega) (by omega) | skip
              have q9 := i32_lo v55
              exact hK _ _ _ hWI54 (Fr.tr Fr.rf hFI54 (by intro a k h; omega)) (by first | exact Or.inr (Or.inl ⟨by omega, by omega, by omega, rfl⟩) | exact Or.inr (Or.inr (Or.inr (Or.inl ⟨by omega, by omega, by omega, by omega, by omega, by omega, rfl⟩))) | exact Or.inl ⟨by omega, by omega, rfl⟩ | exact Or.inr (Or.inr (Or.inl ⟨by omega, by omega, by omega, by omega, rfl⟩)) | exact Or.inr (Or.inr (Or.inr (Or.inr (Or.inl ⟨by omega, by omega, by omega, by omega, by omega, by omega, by omega, rfl⟩)))) | exact Or.inr (Or.inr (Or.inr (Or.inr (Or.inr (⟨by omega, by omega, by omega, by omega, by omega, by omega, by omega, rfl⟩))))))
          · skip
            intro w34 hc56
            have hzhc56 := mk_some hc56
            have hrhc56 := ckI_r (Z.1 w34)
            have q8 : (-3 : Int32).toInt = -3 := rfl
            refine sfX11_refuse hX hW  (fun v57 I56 hWI56 hFI56 hp57 => ?_)
            have hwI56 := WX_f hWI56
            have hvr := congrArg Int32.toInt hp57
            first | (revert hsx1; intro hsx1) | have hsx1 := WX_shx hW (x := x1) (by omega) (by omega) | skip
            first | (revert hsx2; intro hsx2) | have hsx2 := WX_shx hW (x := x2) (by omega) (by omega) | skip
            have q9 := i32_lo v57
            exact hK _ _ _ hWI56 (Fr.tr Fr.rf hFI56 (by intro a k h; omega)) (by first | exact Or.inr (Or.inl ⟨by omega, by omega, by omega, rfl⟩) | exact Or.inr (Or.inr (Or.inr (Or.inl ⟨by omega, by omega, by omega, by omega, by omega, by omega, rfl⟩))) | exact Or.inl ⟨by omega, by omega, rfl⟩ | exact Or.inr (Or.inr (Or.inl ⟨by omega, by omega, by omega, by omega, rfl⟩)) | exact Or.inr (Or.inr (Or.inr (Or.inr (Or.inl ⟨by omega, by omega, by omega, by omega, by omega, by omega, by omega, rfl⟩)))) | exact Or.inr (Or.inr (Or.inr (Or.inr (Or.inr (⟨by omega, by omega, by omega, by omega, by omega, by omega, by omega, rfl⟩))))))
    · skip
      have q5 := i32_lo v6
      have hc7 := Int32.toInt_inj.mpr hc7
      first | (revert hsx1; intro hsx1) | have hsx1 := WX_shx hW (x := x1) (by omega) (by omega) | skip
      first | (revert hsx2; intro hsx2) | have hsx2 := WX_shx hW (x := x2) (by omega) (by omega) | skip
      have q6 : (-2 : Int32).toInt = -2 := rfl
      refine sfX11_refuse hX hW  (fun v59 I58 hWI58 hFI58 hp58 => ?_)
      have hwI58 := WX_f hWI58
      have hvr := congrArg Int32.toInt hp58
      first | (revert hsx1; intro hsx1) | have hsx1 := WX_shx hW (x := x1) (by omega) (by omega) | skip
      first | (revert hsx2; intro hsx2) | have hsx2 := WX_shx hW (x := x2) (by omega) (by omega) | skip
      have q7 := i32_lo v59
      exact hK _ _ _ hWI58 (Fr.tr Fr.rf hFI58 (by intro a k h; omega)) (by first | exact Or.inl ⟨by omega, by omega, rfl⟩ | exact Or.inr (Or.inr (Or.inr (Or.inr (Or.inr (⟨by omega, by omega, by omega, by omega, by omega, by omega, by omega, rfl⟩))))) | exact Or.inr (Or.inl ⟨by omega, by omega, by omega, rfl⟩) | exact Or.inr (Or.inr (Or.inl ⟨by omega, by omega, by omega, by omega, rfl⟩)) | exact Or.inr (Or.inr (Or.inr (Or.inl ⟨by omega, by omega, by omega, by omega, by omega, by omega, rfl⟩))) | exact Or.inr (Or.inr (Or.inr (Or.inr (Or.inl ⟨by omega, by omega, by omega, by omega, by omega, by omega, by omega, rfl⟩)))))
