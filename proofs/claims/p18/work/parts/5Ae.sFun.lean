theorem fsfX5_fail {G : jdG} {n : Nat} {Z : jdL} {J : jdJ} {K : Int32 → jdI → jdJ → Prop}  {I : jdI}  (ht : zScribe Z 25)  (hW : WX I)  (hK : ∀ (v : Int32) (I2 : jdI), WX I2 → Fr (fun a k => a = 25) I I2 → (v.toInt = 0 ∧ (I2 25 5).toInt = (I 25 3).toInt ∧ (I2 25 1).toInt = (I 25 1).toInt) → K v I2 J) : Cl G mX5_fail n 0 0 [.ref (gb G + 25)] Z I J (qi Z K) := by
  refine eX5_fail ht ?_
  have hwI := WX_f hW
  have q1 : (0 : Int32).toInt = 0 := rfl
  have hr1 : (((uI I 25 5 (I 25 3))) 25 5).toInt = ((I 25 3)).toInt := congrArg Int32.toInt (uI_ss _ _ _ _)
  have hr2 : (((uI I 25 5 (I 25 3))) 25 3).toInt = ((I 25 3)).toInt := congrArg Int32.toInt (uI_sk (by decide) rfl)
  have hr3 : (((uI I 25 5 (I 25 3))) 25 1).toInt = ((I 25 1)).toInt := congrArg Int32.toInt (uI_sk (by decide) rfl)
  exact hK _ _ (WX_uI hW (by first | exact okXo (by decide) | (unfold okX; refine ⟨?_, ?_, ?_, ?_, ?_, ?_, ?_, ?_, ?_, ?_⟩ <;> intro h <;> omega))) (Fr_uI Fr.rf (by omega)) (by omega)
theorem gX5_readNumber_48 {G : jdG} {n : Nat} {Z : jdL} {J : jdJ} {rc rs : Nat} {K : Int32 → jdI → jdJ → Prop}  {I0 : jdI} {x1 : Int32} {x2 : Int32} {x3 : Int32} (ht : zScribe Z 25)  (hx1 : 0 ≤ x1.toInt ∧ x2.toInt ≤ 99) (hK : ∀ (v : Int32) (I2 : jdI), WX I2 → Fr (fun a k => a = 25) I0 I2 → (((((I0 25 2).toInt = 2 ∧ x1.toInt ≤ vl (I0 (25 + 1)) (I0 25 3).toInt (I0 25 4).toInt ∧ vl (I0 (25 + 1)) (I0 25 3).toInt (I0 25 4).toInt ≤ x2.toInt) ∧ v.toInt = vl (I0 (25 + 1)) (I0 25 3).toInt (I0 25 4).toInt ∧ (x3.toInt = 0 ∨ ((x3 >>> (v &&& 31)) &&& 1).toInt = 0) ∧ TK (I0 (25 + 1)) (I0 25 1).toInt (I0 25 4).toInt (I2 25 2).toInt (I2 25 3).toInt (I2 25 4).toInt ∧ (I2 25 5).toInt = (I0 25 5).toInt) ∨ (v.toInt = -1 ∧ (I2 25 5).toInt = (I0 25 3).toInt ∧ (¬ ((I0 25 2).toInt = 2 ∧ x1.toInt ≤ vl (I0 (25 + 1)) (I0 25 3).toInt (I0 25 4).toInt ∧ vl (I0 (25 + 1)) (I0 25 3).toInt (I0 25 4).toInt ≤ x2.toInt) ∨ (¬ x3.toInt = 0 ∧ ∀ w : Int32, w.toInt = vl (I0 (25 + 1)) (I0 25 3).toInt (I0 25 4).toInt → ¬ ((x3 >>> (w &&& 31)) &&& 1).toInt = 0)))) ∧ (I2 25 1).toInt = (I0 25 1).toInt) → K v I2 J) : ∀ m : Nat, ∀ (I : jdI) (x4 : Int32) (x5 : Int32), WX I → Fr (fun a k => a = 25) I0 I → (I = I0) → ((I 25 3).toInt ≤ x5.toInt ∧ x5.toInt ≤ (I 25 4).toInt ∧ (I 25 4).toInt - (I 25 3).toInt ≤ 2 ∧ (I 25 2).toInt = 2) → (TKp (I (25 + 1)) (I 25 1).toInt (I 25 2).toInt (I 25 3).toInt (I 25 4).toInt) → (0 ≤ x1.toInt ∧ x2.toInt ≤ 99) → (vq (I (25 + 1)) (I 25 3).toInt x5.toInt x4.toInt) → 250 - x5.toInt < (m : Int) → Jd G mX5_readNumber (jdFm G (qi Z K)) (n + 2) rc rs 48 [(0, .ref (gb G + 25)), (1, .int x1), (2, .int x2), (3, .int x3), (4, .int x4), (5, .int x5)] [] Z I J := by
  intro m
  induction m with
  | zero =>
    intro I x4 x5 hW hF hII hx5 hq hx1 hv hm
    have hwI := WX_f hW
    omega
  | succ m ih =>
    intro I x4 x5 hW hF hII hx5 hq hx1 hv hm
    have hwI := WX_f hW
    refine rX5_readNumber_48 ht ?_
    subst hII
    have hqf := tkp_f hq
    have hvr := vl_big (T := I (25 + 1)) (s := (I 25 3).toInt) (f := (I 25 4).toInt)
    have hv4 := vq_r hv
    have hd := tkp_d hq
    have hvl : (I 25 4).toInt ≤ x5.toInt → x4.toInt = vl (I (25 + 1)) (I 25 3).toInt (I 25 4).toInt := fun h => vl_of hv (by omega) (by omega)
    have hd5 : ¬ (I 25 4).toInt ≤ x5.toInt → 48 ≤ (I (25 + 1) (Int32.toNatClampNeg x5)).toInt ∧ (I (25 + 1) (Int32.toNatClampNeg x5)).toInt ≤ 57 := fun h => hd (by omega) _ (by rw [tn_eq]; omega) (by rw [tn_eq]; omega)
    have hd3 := hd (by omega) (I 25 3).toInt.toNat (by omega) (by omega)
    refine ⟨fun hc1 => ?_, fun hc2 => ?_⟩
    · skip
      have q1 := i32_lo (I 25 4)
      have q2 := i32_lo x5
      have hc1 := Int32.le_iff_toInt_le.mp hc1
      refine ⟨fun hc3 => ?_, fun hc4 => ?_⟩
      · skip
        have q3 := i32_lo x4
        have q4 := i32_lo x1
        have hc3 := Int32.lt_iff_toInt_lt.mp hc3
        refine fsfX5_fail ht hW  (fun v2 I1 hWI1 hFI1 hp5 => ?_)
        have hwI1 := WX_f hWI1
        have q5 : (-1 : Int32).toInt = -1 := rfl
        exact hK _ _ hWI1 (Fr.tr hF hFI1 (by intro a k h; omega)) (by first | exact ⟨Or.inl ⟨⟨by omega, by omega, by omega⟩, by omega, by first | exact Or.inl (by omega) | exact Or.inr (by omega), htk.1, htk.2.2⟩, htk.2.1⟩ | exact ⟨Or.inr ⟨by omega, by omega, by first | exact Or.inl (by omega) | exact Or.inr ⟨by omega, fun w9 hw9 => by rw [Int32.toInt_inj.mp (show w9.toInt = x4.toInt by omega)]; omega⟩⟩, by omega⟩)
      · skip
        have q3 := i32_lo x4
        have q4 := i32_lo x1
        have hc4 := mt Int32.lt_iff_toInt_lt.mpr hc4
        refine ⟨fun hc6 => ?_, fun hc7 => ?_⟩
        · skip
          have q5 := i32_lo x2
          have hc6 := Int32.lt_iff_toInt_lt.mp hc6
          refine fsfX5_fail ht hW  (fun v4 I3 hWI3 hFI3 hp8 => ?_)
          have hwI3 := WX_f hWI3
          have q6 : (-1 : Int32).toInt = -1 := rfl
          exact hK _ _ hWI3 (Fr.tr hF hFI3 (by intro a k h; omega)) (by first | exact ⟨Or.inl ⟨⟨by omega, by omega, by omega⟩, by omega, by first | exact Or.inl (by omega) | exact Or.inr (by omega), htk.1, htk.2.2⟩, htk.2.1⟩ | exact ⟨Or.inr ⟨by omega, by omega, by first | exact Or.inl (by omega) | exact Or.inr ⟨by omega, fun w9 hw9 => by rw [Int32.toInt_inj.mp (show w9.toInt = x4.toInt by omega)]; omega⟩⟩, by omega⟩)
        · skip
          have q5 := i32_lo x2
          have hc7 := mt Int32.lt_iff_toInt_lt.mpr hc7
          refine ⟨fun hc9 => ?_, fun hc10 => ?_⟩
          · skip
            have q6 := i32_lo x3
            have q7 : (0 : Int32).toInt = 0 := rfl
            have hc9 := Int32.toInt_inj.mpr hc9
            refine fsfX5_advance ht hW (by omega) (fun I5 hWI5 hFI5 hp11 => ?_)
            have hwI5 := WX_f hWI5
            have htk := hp11
            exact hK _ _ hWI5 (Fr.tr hF hFI5 (by intro a k h; omega)) (by first | exact ⟨Or.inl ⟨⟨by omega, by omega, by omega⟩, by omega, by first | exact Or.inl (by omega) | exact Or.inr (by omega), htk.1, htk.2.2⟩, htk.2.1⟩ | exact ⟨Or.inr ⟨by omega, by omega, by first | exact Or.inl (by omega) | exact Or.inr ⟨by omega, fun w9 hw9 => by rw [Int32.toInt_inj.mp (show w9.toInt = x4.toInt by omega)]; omega⟩⟩, by omega⟩)
          · skip
            have q6 := i32_lo x3
            have q7 : (0 : Int32).toInt = 0 := rfl
            have hc10 : ¬ (x3).toInt = (0 : Int32).toInt := fun z => hc10 (Int32.toInt_inj.mp z)
            refine ⟨fun hc12 => ?_, fun hc13 => ?_⟩
            · skip
              have q8 : (31 : Int32).toInt = 31 := rfl
              have q9 : (1 : Int32).toInt = 1 := rfl
              have hc12 := Int32.toInt_inj.mpr hc12
              refine fsfX5_advance ht hW (by omega) (fun I7 hWI7 hFI7 hp14 => ?_)
              have hwI7 := WX_f hWI7
              have htk := hp14
              exact hK _ _ hWI7 (Fr.tr hF hFI7 (by intro a k h; omega)) (by first | exact ⟨Or.inl ⟨⟨by omega, by omega, by omega⟩, by omega, by first | exact Or.inl (by omega) | exact Or.inr (by omega), htk.1, htk.2.2⟩, htk.2.1⟩ | exact ⟨Or.inr ⟨by omega, by omega, by first | exact Or.inl (by omega) | exact Or.inr ⟨by omega, fun w9 hw9 => by rw [Int32.toInt_inj.mp (show w9.toInt = x4.toInt by omega)]; omega⟩⟩, by omega⟩)
            · skip
              have q8 : (31 : Int32).toInt = 31 := rfl
              have q9 : (1 : Int32).toInt = 1 := rfl
              have hc13 : ¬ (((x3 >>> (x4 &&& 31)) &&& 1)).toInt = (0 : Int32).toInt := fun z => hc13 (Int32.toInt_inj.mp z)
              refine fsfX5_fail ht hW  (fun v10 I9 hWI9 hFI9 hp15 => ?_)
              have hwI9 := WX_f hWI9
              have q10 : (-1 : Int32).toInt = -1 := rfl
              exact hK _ _ hWI9 (Fr.tr hF hFI9 (by intro a k h; omega)) (by first | exact ⟨Or.inl ⟨⟨by omega, by omega, by omega⟩, by omega, by first | exact Or.inl (by omega) | exact Or.inr (by omega), htk.1, htk.2.2⟩, htk.2.1⟩ | exact ⟨Or.inr ⟨by omega, by omega, by first | exact Or.inl (by omega) | exact Or.inr ⟨by omega, fun w9 hw9 => by rw [Int32.toInt_inj.mp (show w9.toInt = x4.toInt by omega)]; omega⟩⟩, by omega⟩)
    · skip
      have q1 := i32_lo (I 25 4)
      have q2 := i32_lo x5
      have hc2 := mt Int32.le_iff_toInt_le.mpr hc2
      refine ⟨vp_of (by omega) (by omega), ?_⟩
      have q3 : (10 : Int32).toInt = 10 := rfl
      have q4 := i32_lo x4
      have q5 := i32_cmul 10 x4 10 rfl (by omega) (by omega)
      have q6 := i32_add (10 * x4) (I (25 + 1) (Int32.toNatClampNeg x5)) (by omega) (by omega)
      have q7 : (48 : Int32).toInt = 48 := rfl
      have q8 := i32_sub ((10 * x4) + (I (25 + 1) (Int32.toNatClampNeg x5))) 48 (by omega) (by omega)
      have q9 : (1 : Int32).toInt = 1 := rfl
      have q10 := i32_add x5 1 (by omega) (by omega)
      exact ih _ (((10 * x4) + (I (25 + 1) (Int32.toNatClampNeg x5))) - 48) (x5 + 1) hW hF rfl (by omega) (by assumption) (by omega) (by first | exact Or.inl ⟨by omega, by omega⟩ | exact vq_s (x := I (25 + 1) (Int32.toNatClampNeg x5)) hv rfl (by omega) rfl (by omega) (by omega) (by omega)) (by omega)
theorem fsfX5_readNumber {G : jdG} {n : Nat} {Z : jdL} {J : jdJ} {K : Int32 → jdI → jdJ → Prop}  {I : jdI} {x1 : Int32} {x2 : Int32} {x3 : Int32} (ht : zScribe Z 25)  (hW : WX I) (hq : TKp (I (25 + 1)) (I 25 1).toInt (I 25 2).toInt (I 25 3).toInt (I 25 4).toInt) (hx1 : 0 ≤ x1.toInt ∧ x2.toInt ≤ 99) (hK : ∀ (v : Int32) (I2 : jdI), WX I2 → Fr (fun a k => a = 25) I I2 → (((((I 25 2).toInt = 2 ∧ x1.toInt ≤ vl (I (25 + 1)) (I 25 3).toInt (I 25 4).toInt ∧ vl (I (25 + 1)) (I 25 3).toInt (I 25 4).toInt ≤ x2.toInt) ∧ v.toInt = vl (I (25 + 1)) (I 25 3).toInt (I 25 4).toInt ∧ (x3.toInt = 0 ∨ ((x3 >>> (v &&& 31)) &&& 1).toInt = 0) ∧ TK (I (25 + 1)) (I 25 1).toInt (I 25 4).toInt (I2 25 2).toInt (I2 25 3).toInt (I2 25 4).toInt ∧ (I2 25 5).toInt = (I 25 5).toInt) ∨ (v.toInt = -1 ∧ (I2 25 5).toInt = (I 25 3).toInt ∧ (¬ ((I 25 2).toInt = 2 ∧ x1.toInt ≤ vl (I (25 + 1)) (I 25 3).toInt (I 25 4).toInt ∧ vl (I (25 + 1)) (I 25 3).toInt (I 25 4).toInt ≤ x2.toInt) ∨ (¬ x3.toInt = 0 ∧ ∀ w : Int32, w.toInt = vl (I (25 + 1)) (I 25 3).toInt (I 25 4).toInt → ¬ ((x3 >>> (w &&& 31)) &&& 1).toInt = 0)))) ∧ (I2 25 1).toInt = (I 25 1).toInt) → K v I2 J) : Cl G mX5_readNumber (n + 2) 0 0 [.ref (gb G + 25), .int x1, .int x2, .int x3] Z I J (qi Z K) := by
  refine eX5_readNumber ht ?_
  have hwI := WX_f hW
  have hqf := tkp_f hq
  have hvr := vl_big (T := I (25 + 1)) (s := (I 25 3).toInt) (f := (I 25 4).toInt)
  refine ⟨fun hc1 => ?_, fun hc2 => ?_⟩
  · skip
    have q1 := i32_lo (I 25 2)
    have q2 : (2 : Int32).toInt = 2 := rfl
    have hc1 : ¬ ((I 25 2)).toInt = (2 : Int32).toInt := fun z => hc1 (Int32.toInt_inj.mp z)
    refine fsfX5_fail ht hW  (fun v2 I1 hWI1 hFI1 hp3 => ?_)
    have hwI1 := WX_f hWI1
    have q3 : (-1 : Int32).toInt = -1 := rfl
    exact hK _ _ hWI1 (Fr.tr Fr.rf hFI1 (by intro a k h; omega)) (by first | exact ⟨Or.inl ⟨⟨by omega, by omega, by omega⟩, by omega, by first | exact Or.inl (by omega) | exact Or.inr (by omega), htk.1, htk.2.2⟩, htk.2.1⟩ | exact ⟨Or.inr ⟨by omega, by omega, by first | exact Or.inl (by omega) | exact Or.inr ⟨by omega, fun w9 hw9 => by rw [Int32.toInt_inj.mp (show w9.toInt = x4.toInt by omega)]; omega⟩⟩, by omega⟩)
  · skip
    have q1 := i32_lo (I 25 2)
    have q2 : (2 : Int32).toInt = 2 := rfl
    have hc2 := Int32.toInt_inj.mpr hc2
    refine ⟨fun hc4 => ?_, fun hc5 => ?_⟩
    · skip
      have q3 := i32_lo (I 25 4)
      have q4 := i32_lo (I 25 3)
      have q5 := i32_subI (I 25 4) (I 25 3)
      have hc4 := Int32.lt_iff_toInt_lt.mp hc4
      refine fsfX5_fail ht hW  (fun v4 I3 hWI3 hFI3 hp6 => ?_)
      have hwI3 := WX_f hWI3
      have q6 : (-1 : Int32).toInt = -1 := rfl
      exact hK _ _ hWI3 (Fr.tr Fr.rf hFI3 (by intro a k h; omega)) (by first | exact ⟨Or.inl ⟨⟨by omega, by omega, by omega⟩, by omega, by first | exact Or.inl (by omega) | exact Or.inr (by omega), htk.1, htk.2.2⟩, htk.2.1⟩ | exact ⟨Or.inr ⟨by omega, by omega, by first | exact Or.inl (by omega) | exact Or.inr ⟨by omega, fun w9 hw9 => by rw [Int32.toInt_inj.mp (show w9.toInt = x4.toInt by omega)]; omega⟩⟩, by omega⟩)
    · skip
      have q3 := i32_lo (I 25 4)
      have q4 := i32_lo (I 25 3)
      have q5 := i32_subI (I 25 4) (I 25 3)
      have hc5 := mt Int32.lt_iff_toInt_lt.mpr hc5
      refine ⟨fun hc7 => ?_, fun hc8 => ?_⟩
      · skip
        have q6 := i32_lo (I 25 1)
        have hc7 := Int32.le_iff_toInt_le.mp hc7
        have q7 : (0 : Int32).toInt = 0 := rfl
        exact gX5_readNumber_48 ht  hx1 hK  ((250 - (I 25 3).toInt).toNat + 1) _ 0 (I 25 3) hW Fr.rf rfl (by omega) (by assumption) (by omega) (by first | exact Or.inl ⟨by omega, by omega⟩ | exact vq_s (x := I (25 + 1) (Int32.toNatClampNeg x5)) hv rfl (by omega) rfl (by omega) (by omega) (by omega)) (by omega)
      · skip
        have q6 := i32_lo (I 25 1)
        have hc8 := mt Int32.le_iff_toInt_le.mpr hc8
        refine fsfX5_fail ht hW  (fun v6 I5 hWI5 hFI5 hp9 => ?_)
        have hwI5 := WX_f hWI5
        have q7 : (-1 : Int32).toInt = -1 := rfl
        exact hK _ _ hWI5 (Fr.tr Fr.rf hFI5 (by intro a k h; omega)) (by first | exact ⟨Or.inl ⟨⟨by omega, by omega, by omega⟩, by omega, by first | exact Or.inl (by omega) | exact Or.inr (by omega), htk.1, htk.2.2⟩, htk.2.1⟩ | exact ⟨Or.inr ⟨by omega, by omega, by first | exact Or.inl (by omega) | exact Or.inr ⟨by omega, fun w9 hw9 => by rw [Int32.toInt_inj.mp (show w9.toInt = x4.toInt by omega)]; omega⟩⟩, by omega⟩)
theorem fsfX12_wrong {G : jdG} {n : Nat} {Z : jdL} {J : jdJ} {K : Int32 → jdI → jdJ → Prop}  {I : jdI} {t : Nat} (ht : zModel Z t)  (hW : WM 7 t I)  (hK : ∀ (v : Int32) (I2 : jdI), WM 7 t I2 → Fr (fun a k => a = t ∧ k = 26) I I2 → (v.toInt = 0 ∧ (I2 t 26).toInt = (I t 24).toInt) → K v I2 J) : Cl G mX12_wrong n 0 0 [.ref (gb G + t)] Z I J (qi Z K) := by
  refine eX12_wrong ht ?_
  have hwI := WM_f hW
  have q1 : (0 : Int32).toInt = 0 := rfl
  have hr1 : (((uI I t 26 (I t 24))) t 26).toInt = ((I t 24)).toInt := congrArg Int32.toInt (uI_ss _ _ _ _)
  have hr2 : (((uI I t 26 (I t 24))) t 24).toInt = ((I t 24)).toInt := congrArg Int32.toInt (uI_sk (by decide) rfl)
  exact hK _ _ (WM_uI hW (by first | exact okMo (by decide) (by decide) (by decide) (by decide) (by decide) | exact okMf (by decide) (by decide) (by decide) (by decide) (by decide) (by decide) (by decide) (by decide) | exact okM30 (by omega) | exact okM42 (by omega) | exact okM33 (by omega) | exact okM10 (by omega) | exact okM8 (by omega) | exact okM22 (by omega) | exact okM24 (by omega) | exact okM14 (by omega) | exact okMa31 (by omega) | exact okMa35 (by omega) | exact okMa36 (by omega) | exact okMa3 (by omega) | exact okMr (by omega) | (unfold okM; refine ⟨?_, ?_, ?_, ?_, ?_, ?_, ?_, ?_, ?_, ?_, ?_, ?_⟩ <;> intro h <;> omega))) (Fr_uI Fr.rf (by omega)) (by omega)
theorem fsfX12_number {G : jdG} {n : Nat} {Z : jdL} {J : jdJ} {K : Int32 → jdI → jdJ → Prop}  {I : jdI} {t : Nat} {x1 : Int32} {x2 : Int32} {x3 : Int32} (ht : zModel Z t)  (hW : WM 7 t I) (hq : TKp (I (t + 16)) (I t 8).toInt (I t 23).toInt (I t 24).toInt (I t 22).toInt) (hfg : ((I t 23).toInt = 2 → (I t 25).toInt = vl (I (t + 16)) (I t 24).toInt (I t 22).toInt)) (hx1 : x1.toInt = 0 ∨ x1.toInt = 1) (hx3 : 0 ≤ x2.toInt ∧ x3.toInt ≤ 99) (hK : ∀ (v : Int32) (I2 : jdI), WM 7 t I2 → Fr (fun a k => (a = t ∧ 22 ≤ k ∧ k ≤ 26) ∨ a = t + 29) I I2 → ((((I t 23).toInt = 2 ∧ x2.toInt ≤ vl (I (t + 16)) (I t 24).toInt (I t 22).toInt ∧ vl (I (t + 16)) (I t 24).toInt (I t 22).toInt ≤ x3.toInt) ∧ v.toInt = 1 ∧ TK (I (t + 16)) (I t 8).toInt (I t 22).toInt (I2 t 23).toInt (I2 t 24).toInt (I2 t 22).toInt ∧ ((I2 t 23).toInt = 2 → (I2 t 25).toInt = vl (I (t + 16)) (I2 t 24).toInt (I2 t 22).toInt) ∧ (I2 t 26).toInt = (I t 26).toInt ∧ (x1.toInt = 0 → (I2 (t + 29) 0).toInt = vl (I (t + 16)) (I t 24).toInt (I t 22).toInt ∧ (I2 (t + 29) 1).toInt = (I (t + 29) 1).toInt) ∧ (x1.toInt = 1 → (I2 (t + 29) 1).toInt = vl (I (t + 16)) (I t 24).toInt (I t 22).toInt ∧ (I2 (t + 29) 0).toInt = (I (t + 29) 0).toInt)) ∨ (¬ ((I t 23).toInt = 2 ∧ x2.toInt ≤ vl (I (t + 16)) (I t 24).toInt (I t 22).toInt ∧ vl (I (t + 16)) (I t 24).toInt (I t 22).toInt ≤ x3.toInt) ∧ v.toInt = 0 ∧ (I2 t 26).toInt = (I t 24).toInt)) → K v I2 J) : Cl G mX12_number (n + 2) 0 0 [.ref (gb G + t), .int x1, .int x2, .int x3] Z I J (qi Z K) := by
  refine eX12_number ht ?_
  have hwI := WM_f hW
  have hqf := tkp_f hq
  have hE8 : (uI I (t + 29) (Int32.toNatClampNeg x1) (I t 25)) t = I t := uI_n _ _ _ (by omega)
  have hE9 : (uI I (t + 29) (Int32.toNatClampNeg x1) (I t 25)) (t + 16) = I (t + 16) := uI_n _ _ _ (by omega)
  have hEa : ((uI I (t + 29) (Int32.toNatClampNeg x1) (I t 25)) t 22).toInt = (I t 22).toInt := by rw [hE8]
  have hEb : ((uI I (t + 29) (Int32.toNatClampNeg x1) (I t 25)) t 8).toInt = (I t 8).toInt := by rw [hE8]
  refine ⟨fun hc1 => ?_, fun hc2 => ?_⟩
  · skip
    have q1 := i32_lo (I t 23)
    have q2 : (2 : Int32).toInt = 2 := rfl
    have hc1 : ¬ ((I t 23)).toInt = (2 : Int32).toInt := fun z => hc1 (Int32.toInt_inj.mp z)
    refine fsfX12_wrong ht hW  (fun v2 I1 hWI1 hFI1 hp3 => ?_)
    have hwI1 := WM_f hWI1
    have q3 := i32_lo v2
    refine ⟨narrow_b (by omega), ?_⟩
    exact hK _ _ hWI1 (Fr.tr Fr.rf hFI1 (by intro a k h; omega)) (by first | exact Or.inr ⟨by omega, by omega, by omega⟩ | exact Or.inl ⟨⟨by omega, by omega, by omega⟩, by omega, hlk.1, fun q => vl_of (hlk.2 q) rfl ((tkp_f hlk.1.2.2.1).2 (by omega)).2, by omega, fun q => by have := hta q; omega, fun q => by have := htb q; omega⟩)
  · skip
    have q1 := i32_lo (I t 23)
    have q2 : (2 : Int32).toInt = 2 := rfl
    have hc2 := Int32.toInt_inj.mpr hc2
    have q3 := i32_lo (I t 25)
    have q4 : (Int32.toInt64 (I t 25)).toInt = ((I t 25)).toInt := Int32.toInt_toInt64 _
    have q5 := i32_lo x2
    have q6 : (Int32.toInt64 x2).toInt = (x2).toInt := Int32.toInt_toInt64 _
    have q7 := i32_lo x3
    have q8 : (Int32.toInt64 x3).toInt = (x3).toInt := Int32.toInt_toInt64 _
    refine sfX12_in  trivial  (fun v4  hp4 => ?_)
    refine ⟨fun hc5 => ?_, fun hc6 => ?_⟩
    · skip
      have q9 := i32_lo v4
      have q10 : (0 : Int32).toInt = 0 := rfl
      have hc5 : ¬ (v4).toInt = (0 : Int32).toInt := fun z => hc5 (Int32.toInt_inj.mp z)
      have q11 := i32_lo x1
      refine ⟨vp_of (by omega) (by omega), ?_⟩
      have hr8 : (((uI I (t + 29) (Int32.toNatClampNeg x1) (I t 25))) t 22).toInt = ((I t 22)).toInt := congrArg Int32.toInt (uI_ne (by omega) rfl)
      have hr9 : (((uI I (t + 29) (Int32.toNatClampNeg x1) (I t 25))) t 8).toInt = ((I t 8)).toInt := congrArg Int32.toInt (uI_ne (by omega) rfl)
      refine fsfX12_look ht (WM_uI hW (by first | exact okMo (by decide) (by decide) (by decide) (by decide) (by decide) | exact okMf (by decide) (by decide) (by decide) (by decide) (by decide) (by decide) (by decide) (by decide) | exact okM30 (by omega) | exact okM42 (by omega) | exact okM33 (by omega) | exact okM10 (by omega) | exact okM8 (by omega) | exact okM22 (by omega) | exact okM24 (by omega) | exact okM14 (by omega) | exact okMa31 (by omega) | exact okMa35 (by omega) | exact okMa36 (by omega) | exact okMa3 (by omega) | exact okMr (by omega) | (unfold okM; refine ⟨?_, ?_, ?_, ?_, ?_, ?_, ?_, ?_, ?_, ?_, ?_, ?_⟩ <;> intro h <;> omega))) (by omega) (fun I6 hWI6 hFI6 hp7 => ?_)
      have hwI6 := WM_f hWI6
      have hlk := hp7
      rw [hE8, hE9] at hlk
      have hn1 := tn_eq x1
      have ht0 := hFI6 (t + 29) 0 (by omega)
      have ht1 := hFI6 (t + 29) 1 (by omega)
      have h26 := congrArg Int32.toInt (hFI6 t 26 (by omega))
      rw [hE8] at h26
      have hta : x1.toInt = 0 → (I6 (t + 29) 0).toInt = (I t 25).toInt ∧ (I6 (t + 29) 1).toInt = (I (t + 29) 1).toInt := fun h => ⟨by rw [ht0, uI_ap, if_pos ⟨rfl, by omega⟩], by rw [ht1, uI_ap, if_neg (by omega)]⟩
      have htb : x1.toInt = 1 → (I6 (t + 29) 1).toInt = (I t 25).toInt ∧ (I6 (t + 29) 0).toInt = (I (t + 29) 0).toInt := fun h => ⟨by rw [ht1, uI_ap, if_pos ⟨rfl, by omega⟩], by rw [ht0, uI_ap, if_neg (by omega)]⟩
      have q12 : (1 : Int32).toInt = 1 := rfl
      exact hK _ _ hWI6 (Fr.tr (Fr_uI Fr.rf (by omega)) hFI6 (by intro a k h; omega)) (by first | exact Or.inr ⟨by omega, by omega, by omega⟩ | exact Or.inl ⟨⟨by omega, by omega, by omega⟩, by omega, hlk.1, fun q => vl_of (hlk.2 q) rfl ((tkp_f hlk.1.2.2.1).2 (by omega)).2, by omega, fun q => by have := hta q; omega, fun q => by have := htb q; omega⟩)
    · skip
      have q9 := i32_lo v4
      have q10 : (0 : Int32).toInt = 0 := rfl
      have hc6 := Int32.toInt_inj.mpr hc6
      refine fsfX12_wrong ht hW  (fun v9 I8 hWI8 hFI8 hp10 => ?_)
      have hwI8 := WM_f hWI8
      have q11 := i32_lo v9
      refine ⟨narrow_b (by omega), ?_⟩
      exact hK _ _ hWI8 (Fr.tr Fr.rf hFI8 (by intro a k h; omega)) (by first | exact Or.inr ⟨by omega, by omega, by omega⟩ | exact Or.inl ⟨⟨by omega, by omega, by omega⟩, by omega, hlk.1, fun q => vl_of (hlk.2 q) rfl ((tkp_f hlk.1.2.2.1).2 (by omega)).2, by omega, fun q => by have := hta q; omega, fun q => by have := htb q; omega⟩)
theorem gX5_isWord_28 {G : jdG} {n : Nat} {Z : jdL} {J : jdJ} {rc rs : Nat} {K : Int32 → jdI → jdJ → Prop}  {I : jdI} {sA : Nat → Nat} {sV : Nat → Nat} {u1 : Nat} (hG : gOK G sA sV) (ht : zScribe Z 25) (hsi : u1 < 14)  (hW : WX I) (hq : TKp (I (25 + 1)) (I 25 1).toInt (I 25 2).toInt (I 25 3).toInt (I 25 4).toInt) (hK : ∀ (v : Int32), ((v.toInt = 1 ∧ WD (I (25 + 1)) (I 25 2).toInt (I 25 3).toInt (I 25 4).toInt u1) ∨ (v.toInt = 0 ∧ ¬ WD (I (25 + 1)) (I 25 2).toInt (I 25 3).toInt (I 25 4).toInt u1)) → K v I J) : ∀ m : Nat, ∀ (x2 : Int32), (0 ≤ x2.toInt ∧ x2.toInt ≤ 7) → (TKp (I (25 + 1)) (I 25 1).toInt (I 25 2).toInt (I 25 3).toInt (I 25 4).toInt) → ((I 25 2).toInt = 1) → ((I 25 4).toInt - (I 25 3).toInt = (sl u1).toInt) → (∀ q : Nat, (q : Int) < x2.toInt → (I (25 + 1)) ((I 25 3).toInt.toNat + q) = sc u1 q) → (7) - x2.toInt < (m : Int) → Jd G mX5_isWord (jdFm G (qi Z K)) (n + 4) rc rs 28 [(0, .ref (gb G + 25)), (1, .ref (sA u1)), (2, .int x2)] [] Z I J := by
  intro m
  induction m with
  | zero =>
    intro x2 hx2 hq htk hln hk hm
    have hwI := WX_f hW
    omega
  | succ m ih =>
    intro x2 hx2 hq htk hln hk hm
    have hwI := WX_f hW
    refine rX5_isWord_28 hG ht hsi ?_
    have hqf := tkp_f hq
    have hsl := sl_r u1
    have hix : x2.toInt < (sl u1).toInt → ((I 25 3) + x2).toInt = (I 25 3).toInt + x2.toInt := fun h => i32_add _ _ (by omega) (by omega)
    refine sfJ0_length_8abf5 hG hsi   (fun v2  hp1 => ?_)
    have hl := hp1
    have hlt := congrArg Int32.toInt hp1
    have hsl := sl_r u1
    refine ⟨fun hc2 => ?_, fun hc3 => ?_⟩
    · skip
      have q1 := i32_lo v2
      have q2 := i32_lo x2
      have hc2 := Int32.le_iff_toInt_le.mp hc2
      have q3 : (1 : Int32).toInt = 1 := rfl
      exact hK _  (by first | exact Or.inl ⟨by omega, htk, hln, fun q hq9 => hk q (by omega)⟩ | (exfalso; omega) | exact Or.inr ⟨by omega, fun h => by have h9 := h.1; omega⟩ | exact Or.inr ⟨by omega, fun h => by have h9 := h.2.1; omega⟩ | exact Or.inr ⟨by omega, fun h => wd_no (p := Int32.toNatClampNeg ((I 25 3) + x2)) h hch ⟨by omega, by omega⟩ (by omega) (by simp only [tn_eq]; omega) (by assumption)⟩)
    · skip
      have q1 := i32_lo v2
      have q2 := i32_lo x2
      have hc3 := mt Int32.le_iff_toInt_le.mpr hc3
      refine ⟨fun hc4 => ?_, fun hc5 => ?_⟩
      · skip
        have q3 := i32_lo (I 25 1)
        have q4 := i32_lo (I 25 3)
        have q5 := i32_addI (I 25 3) x2
        have hc4 := Int32.le_iff_toInt_le.mp hc4
        have q6 : (1 : Int32).toInt = 1 := rfl
        exact hK _  (by first | exact Or.inl ⟨by omega, htk, hln, fun q hq9 => hk q (by omega)⟩ | (exfalso; omega) | exact Or.inr ⟨by omega, fun h => by have h9 := h.1; omega⟩ | exact Or.inr ⟨by omega, fun h => by have h9 := h.2.1; omega⟩ | exact Or.inr ⟨by omega, fun h => wd_no (p := Int32.toNatClampNeg ((I 25 3) + x2)) h hch ⟨by omega, by omega⟩ (by omega) (by simp only [tn_eq]; omega) (by assumption)⟩)
      · skip
        have q3 := i32_lo (I 25 1)
        have q4 := i32_lo (I 25 3)
        have q5 := i32_addI (I 25 3) x2
        have hc5 := mt Int32.le_iff_toInt_le.mpr hc5
        refine ⟨vp_of (by omega) (by omega), ?_⟩
        refine sfJ0_charAt_5068e hG hsi  (by rw [← hl]; omega) (fun v5  hp6 => ?_)
        have hch := hp6
        refine ⟨fun hc7 => ?_, fun hc8 => ?_⟩
        · skip
          have q6 := i32_lo v5
          have hc7 := Int32.toInt_inj.mpr hc7
          have q7 : (1 : Int32).toInt = 1 := rfl
          have q8 := i32_add x2 1 (by omega) (by omega)
          exact ih (x2 + 1) (by omega) (by assumption) (by omega) (by omega) (by first | exact (fun q hq9 => by exfalso; omega) | exact wd_s (p := Int32.toNatClampNeg ((I 25 3) + x2)) hk hch (by omega) (by omega) (by simp only [tn_eq]; omega) (Int32.toInt_inj.mp (by assumption)) (by omega)) (by omega)
        · skip
          have q6 := i32_lo v5
          have hc8 : ¬ ((I (25 + 1) (Int32.toNatClampNeg ((I 25 3) + x2)))).toInt = (v5).toInt := fun z => hc8 (Int32.toInt_inj.mp z)
          have q7 : (0 : Int32).toInt = 0 := rfl
          exact hK _  (by first | exact Or.inl ⟨by omega, htk, hln, fun q hq9 => hk q (by omega)⟩ | (exfalso; omega) | exact Or.inr ⟨by omega, fun h => by have h9 := h.1; omega⟩ | exact Or.inr ⟨by omega, fun h => by have h9 := h.2.1; omega⟩ | exact Or.inr ⟨by omega, fun h => wd_no (p := Int32.toNatClampNeg ((I 25 3) + x2)) h hch ⟨by omega, by omega⟩ (by omega) (by simp only [tn_eq]; omega) (by assumption)⟩)
theorem fsfX5_isWord {G : jdG} {n : Nat} {Z : jdL} {J : jdJ} {K : Int32 → jdI → jdJ → Prop}  {I : jdI} {sA : Nat → Nat} {sV : Nat → Nat} {u1 : Nat} (hG : gOK G sA sV) (ht : zScribe Z 25) (hsi : u1 < 14)  (hW : WX I) (hq : TKp (I (25 + 1)) (I 25 1).toInt (I 25 2).toInt (I 25 3).toInt (I 25 4).toInt) (hK : ∀ (v : Int32), ((v.toInt = 1 ∧ WD (I (25 + 1)) (I 25 2).toInt (I 25 3).toInt (I 25 4).toInt u1) ∨ (v.toInt = 0 ∧ ¬ WD (I (25 + 1)) (I 25 2).toInt (I 25 3).toInt (I 25 4).toInt u1)) → K v I J) : Cl G mX5_isWord (n + 4) 0 0 [.ref (gb G + 25), .ref (sA u1)] Z I J (qi Z K) := by
  refine eX5_isWord hG ht hsi ?_
  have hwI := WX_f hW
  have hqf := tkp_f hq
  have hsl := sl_r u1
  refine ⟨fun hc1 => ?_, fun hc2 => ?_⟩
  · skip
    have q1 := i32_lo (I 25 2)
    have q2 : (1 : Int32).toInt = 1 := rfl
    have hc1 : ¬ ((I 25 2)).toInt = (1 : Int32).toInt := fun z => hc1 (Int32.toInt_inj.mp z)
    have q3 : (0 : Int32).toInt = 0 := rfl
    exact hK _  (by first | exact Or.inl ⟨by omega, htk, hln, fun q hq9 => hk q (by omega)⟩ | (exfalso; omega) | exact Or.inr ⟨by omega, fun h => by have h9 := h.1; omega⟩ | exact Or.inr ⟨by omega, fun h => by have h9 := h.2.1; omega⟩ | exact Or.inr ⟨by omega, fun h => wd_no (p := Int32.toNatClampNeg ((I 25 3) + x2)) h hch ⟨by omega, by omega⟩ (by omega) (by simp only [tn_eq]; omega) (by assumption)⟩)
  · skip
    have q1 := i32_lo (I 25 2)
    have q2 : (1 : Int32).toInt = 1 := rfl
    have hc2 := Int32.toInt_inj.mpr hc2
    refine sfJ0_length_8abf5 hG hsi   (fun v2  hp3 => ?_)
    have hl := hp3
    have hlt := congrArg Int32.toInt hp3
    have hsl := sl_r u1
    refine ⟨fun hc4 => ?_, fun hc5 => ?_⟩
    · skip
      have q3 := i32_lo (I 25 4)
      have q4 := i32_lo (I 25 3)
      have q5 := i32_subI (I 25 4) (I 25 3)
      have q6 := i32_lo v2
      have hc4 := Int32.toInt_inj.mpr hc4
      have q7 : (0 : Int32).toInt = 0 := rfl
      exact gX5_isWord_28 hG ht hsi  hW hq hK  (((7) - (0 : Int32).toInt).toNat + 1) 0 (by omega) (by assumption) (by omega) (by omega) (by first | exact (fun q hq9 => by exfalso; omega) | exact wd_s (p := Int32.toNatClampNeg ((I 25 3) + x2)) hk hch (by omega) (by omega) (by simp only [tn_eq]; omega) (Int32.toInt_inj.mp (by assumption)) (by omega)) (by omega)
    · skip
      have q3 := i32_lo (I 25 4)
      have q4 := i32_lo (I 25 3)
      have q5 := i32_subI (I 25 4) (I 25 3)
      have q6 := i32_lo v2
      have hc5 : ¬ (((I 25 4) - (I 25 3))).toInt = (v2).toInt := fun z => hc5 (Int32.toInt_inj.mp z)
      have q7 : (0 : Int32).toInt = 0 := rfl
      exact hK _  (by first | exact Or.inl ⟨by omega, htk, hln, fun q hq9 => hk q (by omega)⟩ | (exfalso; omega) | exact Or.inr ⟨by omega, fun h => by have h9 := h.1; omega⟩ | exact Or.inr ⟨by omega, fun h => by have h9 := h.2.1; omega⟩ | exact Or.inr ⟨by omega, fun h => wd_no (p := Int32.toNatClampNeg ((I 25 3) + x2)) h hch ⟨by omega, by omega⟩ (by omega) (by simp only [tn_eq]; omega) (by assumption)⟩)
theorem gX12_isWord_28 {G : jdG} {n : Nat} {Z : jdL} {J : jdJ} {rc rs : Nat} {K : Int32 → jdI → jdJ → Prop}  {I : jdI} {sA : Nat → Nat} {sV : Nat → Nat} {t : Nat} {u1 : Nat} (hG : gOK G sA sV) (ht : zModel Z t) (hsi : u1 < 14)  (hW : WM 7 t I) (hq : TKp (I (t + 16)) (I t 8).toInt (I t 23).toInt (I t 24).toInt (I t 22).toInt) (hK : ∀ (v : Int32), ((v.toInt = 1 ∧ WD (I (t + 16)) (I t 23).toInt (I t 24).toInt (I t 22).toInt u1) ∨ (v.toInt = 0 ∧ ¬ WD (I (t + 16)) (I t 23).toInt (I t 24).toInt (I t 22).toInt u1)) → K v I J) : ∀ m : Nat, ∀ (x2 : Int32), (0 ≤ x2.toInt ∧ x2.toInt ≤ 7) → (TKp (I (t + 16)) (I t 8).toInt (I t 23).toInt (I t 24).toInt (I t 22).toInt) → ((I t 23).toInt = 1) → ((I t 22).toInt - (I t 24).toInt = (sl u1).toInt) → (∀ q : Nat, (q : Int) < x2.toInt → (I (t + 16)) ((I t 24).toInt.toNat + q) = sc u1 q) → (7) - x2.toInt < (m : Int) → Jd G mX12_isWord (jdFm G (qi Z K)) (n + 4) rc rs 28 [(0, .ref (gb G + t)), (1, .ref (sA u1)), (2, .int x2)] [] Z I J := by
  intro m
  induction m with
  | zero =>
    intro x2 hx2 hq htk hln hk hm
    have hwI := WM_f hW
    omega
  | succ m ih =>
    intro x2 hx2 hq htk hln hk hm
    have hwI := WM_f hW
    refine rX12_isWord_28 hG ht hsi ?_
    have hqf := tkp_f hq
    have hsl := sl_r u1
    have hix : x2.toInt < (sl u1).toInt → ((I t 24) + x2).toInt = (I t 24).toInt + x2.toInt := fun h => i32_add _ _ (by omega) (by omega)
    refine sfJ0_length_8abf5 hG hsi   (fun v2  hp1 => ?_)
    have hl := hp1
    have hlt := congrArg Int32.toInt hp1
    have hsl := sl_r u1
    refine ⟨fun hc2 => ?_, fun hc3 => ?_⟩
    · skip
      have q1 := i32_lo v2
      have q2 := i32_lo x2
      have hc2 := Int32.le_iff_toInt_le.mp hc2
      have q3 : (1 : Int32).toInt = 1 := rfl
      exact hK _  (by first | exact Or.inl ⟨by omega, htk, hln, fun q hq9 => hk q (by omega)⟩ | (exfalso; omega) | exact Or.inr ⟨by omega, fun h => by have h9 := h.1; omega⟩ | exact Or.inr ⟨by omega, fun h => by have h9 := h.2.1; omega⟩ | exact Or.inr ⟨by omega, fun h => wd_no (p := Int32.toNatClampNeg ((I t 24) + x2)) h hch ⟨by omega, by omega⟩ (by omega) (by simp only [tn_eq]; omega) (by assumption)⟩)
    · skip
      have q1 := i32_lo v2
      have q2 := i32_lo x2
      have hc3 := mt Int32.le_iff_toInt_le.mpr hc3
      have q3 := i32_lo (I t 24)
      have q4 := i32_add (I t 24) x2 (by omega) (by omega)
      refine ⟨vp_of (by omega) (by omega), ?_⟩
      refine sfJ0_charAt_5068e hG hsi  (by rw [← hl]; omega) (fun v5  hp4 => ?_)
      have hch := hp4
      refine ⟨fun hc5 => ?_, fun hc6 => ?_⟩
      · skip
        have q5 := i32_lo v5
        have hc5 := Int32.toInt_inj.mpr hc5
        have q6 : (1 : Int32).toInt = 1 := rfl
        have q7 := i32_add x2 1 (by omega) (by omega)
        exact ih (x2 + 1) (by omega) (by assumption) (by omega) (by omega) (by first | exact (fun q hq9 => by exfalso; omega) | exact wd_s (p := Int32.toNatClampNeg ((I t 24) + x2)) hk hch (by omega) (by omega) (by simp only [tn_eq]; omega) (Int32.toInt_inj.mp (by assumption)) (by omega)) (by omega)
      · skip
        have q5 := i32_lo v5
        have hc6 : ¬ ((I (t + 16) (Int32.toNatClampNeg ((I t 24) + x2)))).toInt = (v5).toInt := fun z => hc6 (Int32.toInt_inj.mp z)
        have q6 : (0 : Int32).toInt = 0 := rfl
        exact hK _  (by first | exact Or.inl ⟨by omega, htk, hln, fun q hq9 => hk q (by omega)⟩ | (exfalso; omega) | exact Or.inr ⟨by omega, fun h => by have h9 := h.1; omega⟩ | exact Or.inr ⟨by omega, fun h => by have h9 := h.2.1; omega⟩ | exact Or.inr ⟨by omega, fun h => wd_no (p := Int32.toNatClampNeg ((I t 24) + x2)) h hch ⟨by omega, by omega⟩ (by omega) (by simp only [tn_eq]; omega) (by assumption)⟩)
theorem fsfX12_isWord {G : jdG} {n : Nat} {Z : jdL} {J : jdJ} {K : Int32 → jdI → jdJ → Prop}  {I : jdI} {sA : Nat → Nat} {sV : Nat → Nat} {t : Nat} {u1 : Nat} (hG : gOK G sA sV) (ht : zModel Z t) (hsi : u1 < 14)  (hW : WM 7 t I) (hq : TKp (I (t + 16)) (I t 8).toInt (I t 23).toInt (I t 24).toInt (I t 22).toInt) (hK : ∀ (v : Int32), ((v.toInt = 1 ∧ WD (I (t + 16)) (I t 23).toInt (I t 24).toInt (I t 22).toInt u1) ∨ (v.toInt = 0 ∧ ¬ WD (I (t + 16)) (I t 23).toInt (I t 24).toInt (I t 22).toInt u1)) → K v I J) : Cl G mX12_isWord (n + 4) 0 0 [.ref (gb G + t), .ref (sA u1)] Z I J (qi Z K) := by
  refine eX12_isWord hG ht hsi ?_
  have hwI := WM_f hW
  have hqf := tkp_f hq
  have hsl := sl_r u1
  refine ⟨fun hc1 => ?_, fun hc2 => ?_⟩
  · skip
    have q1 := i32_lo (I t 23)
    have q2 : (1 : Int32).toInt = 1 := rfl
    have hc1 : ¬ ((I t 23)).toInt = (1 : Int32).toInt := fun z => hc1 (Int32.toInt_inj.mp z)
    have q3 : (0 : Int32).toInt = 0 := rfl
    exact hK _  (by first | exact Or.inl ⟨by omega, htk, hln, fun q hq9 => hk q (by omega)⟩ | (exfalso; omega) | exact Or.inr ⟨by omega, fun h => by have h9 := h.1; omega⟩ | exact Or.inr ⟨by omega, fun h => by have h9 := h.2.1; omega⟩ | exact Or.inr ⟨by omega, fun h => wd_no (p := Int32.toNatClampNeg ((I t 24) + x2)) h hch ⟨by omega, by omega⟩ (by omega) (by simp only [tn_eq]; omega) (by assumption)⟩)
  · skip
    have q1 := i32_lo (I t 23)
    have q2 : (1 : Int32).toInt = 1 := rfl
    have hc2 := Int32.toInt_inj.mpr hc2
    refine sfJ0_length_8abf5 hG hsi   (fun v2  hp3 => ?_)
    have hl := hp3
    have hlt := congrArg Int32.toInt hp3
    have hsl := sl_r u1
    refine ⟨fun hc4 => ?_, fun hc5 => ?_⟩
    · skip
      have q3 := i32_lo (I t 22)
      have q4 := i32_lo (I t 24)
      have q5 := i32_subI (I t 22) (I t 24)
      have q6 := i32_lo v2
      have hc4 := Int32.toInt_inj.mpr hc4
      have q7 : (0 : Int32).toInt = 0 := rfl
      exact gX12_isWord_28 hG ht hsi  hW hq hK  (((7) - (0 : Int32).toInt).toNat + 1) 0 (by omega) (by assumption) (by omega) (by omega) (by first | exact (fun q hq9 => by exfalso; omega) | exact wd_s (p := Int32.toNatClampNeg ((I t 24) + x2)) hk hch (by omega) (by omega) (by simp only [tn_eq]; omega) (Int32.toInt_inj.mp (by assumption)) (by omega)) (by omega)
    · skip
      have q3 := i32_lo (I t 22)
      have q4 := i32_lo (I t 24)
      have q5 := i32_subI (I t 22) (I t 24)
      have q6 := i32_lo v2
      have hc5 : ¬ (((I t 22) - (I t 24))).toInt = (v2).toInt := fun z => hc5 (Int32.toInt_inj.mp z)
      have q7 : (0 : Int32).toInt = 0 := rfl
      exact hK _  (by first | exact Or.inl ⟨by omega, htk, hln, fun q hq9 => hk q (by omega)⟩ | (exfalso; omega) | exact Or.inr ⟨by omega, fun h => by have h9 := h.1; omega⟩ | exact Or.inr ⟨by omega, fun h => by have h9 := h.2.1; omega⟩ | exact Or.inr ⟨by omega, fun h => wd_no (p := Int32.toNatClampNeg ((I t 24) + x2)) h hch ⟨by omega, by omega⟩ (by omega) (by simp only [tn_eq]; omega) (by assumption)⟩)

