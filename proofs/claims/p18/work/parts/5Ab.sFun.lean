theorem fsfX5_advance {G : jdG} {n : Nat} {Z : jdL} {J : jdJ} {K : jdI → jdJ → Prop}  {I : jdI}  (ht : zScribe Z 25)  (hW : WX I) (hen : (I 25 4).toInt ≤ (I 25 1).toInt) (hK : ∀ (I2 : jdI), WX I2 → Fr (fun a k => a = 25) I I2 → (TK (I (25 + 1)) (I 25 1).toInt (I 25 4).toInt (I2 25 2).toInt (I2 25 3).toInt (I2 25 4).toInt ∧ (I2 25 1).toInt = (I 25 1).toInt ∧ (I2 25 5).toInt = (I 25 5).toInt) → K I2 J) : Cl G mX5_advance (n + 1) 0 0 [.ref (gb G + 25)] Z I J (qv Z K) := by
  refine eX5_advance ht ?_
  have hwI := WX_f hW
  have q1 := i32_lo (I 25 4)
  have hr1 : (((uI I 25 3 (I 25 4))) 25 3).toInt = ((I 25 4)).toInt := congrArg Int32.toInt (uI_ss _ _ _ _)
  have hr2 : (((uI I 25 3 (I 25 4))) 25 1).toInt = ((I 25 1)).toInt := congrArg Int32.toInt (uI_sk (by decide) rfl)
  have hr3 : (((uI I 25 3 (I 25 4))) 25 5).toInt = ((I 25 5)).toInt := congrArg Int32.toInt (uI_sk (by decide) rfl)
  exact gX5_advance_8 ht   hK  ((250 - ((uI I 25 3 (I 25 4)) 25 3).toInt).toNat + 1) _ (WX_uI hW (by first | exact okXo (by decide) | (unfold okX; refine ⟨?_, ?_, ?_, ?_, ?_, ?_, ?_, ?_, ?_, ?_⟩ <;> intro h <;> omega))) (Fr_uI Fr.rf (by omega)) (by omega) (by first | exact spx_0 (by omega) | exact spx_s hsp (show (I0 (25 + 1) (I 25 3).toInt.toNat).toInt = 32 by have hz8 := congrArg Int32.toInt (hF (25 + 1) (Int32.toNatClampNeg (I 25 3)) (by omega)); have hz9 : (I0 (25 + 1) (I 25 3).toInt.toNat).toInt = (I0 (25 + 1) (Int32.toNatClampNeg (I 25 3))).toInt := rfl; omega) (by omega) (by omega)) (by omega)
theorem gX12_look_149 {G : jdG} {n : Nat} {Z : jdL} {J : jdJ} {rc rs : Nat} {K : jdI → jdJ → Prop}  {I0 : jdI} {t : Nat} (ht : zModel Z t)   (hK : ∀ (I2 : jdI), WM 7 t I2 → Fr (fun a k => a = t ∧ 22 ≤ k ∧ k ≤ 25) I0 I2 → (TK (I0 (t + 16)) (I0 t 8).toInt (I0 t 22).toInt (I2 t 23).toInt (I2 t 24).toInt (I2 t 22).toInt ∧ ((I2 t 23).toInt = 2 → vq (I0 (t + 16)) (I2 t 24).toInt (I2 t 22).toInt (I2 t 25).toInt)) → K I2 J) : ∀ m : Nat, ∀ (I : jdI) , WM 7 t I → Fr (fun a k => a = t ∧ 22 ≤ k ∧ k ≤ 25) I0 I → ((I0 t 22).toInt ≤ (I t 24).toInt ∧ (I t 24).toInt ≤ (I t 22).toInt ∧ (I t 22).toInt ≤ (I t 8).toInt) → ((I t 23).toInt = 2) → (SPx (I0 (t + 16)) (I0 t 22).toInt (I t 24).toInt) → (TKr (I0 (t + 16)) (I0 t 8).toInt (I t 23).toInt (I t 24).toInt (I t 22).toInt) → (vq (I0 (t + 16)) (I t 24).toInt (I t 22).toInt (I t 25).toInt) → 250 - (I t 22).toInt < (m : Int) → Jd G mX12_look (jdFm G (qv Z K)) (n + 1) rc rs 149 [(0, .ref (gb G + t))] [] Z I J := by
  intro m
  induction m with
  | zero =>
    intro I hW hF hat htk hsp hq hv hm
    have hwI := WM_f hW
    omega
  | succ m ih =>
    intro I hW hF hat htk hsp hq hv hm
    have hwI := WM_f hW
    refine rX12_look_149 ht ?_
    have hs8 := congrArg Int32.toInt (hF t 8 (by omega))
    have hz := hF (t + 16) (Int32.toNatClampNeg (I t 22)) (by omega)
    have hzi := congrArg Int32.toInt hz
    have hzt := congrArg tokOf hz
    have ht1 := tok_1 (I (t + 16) (Int32.toNatClampNeg (I t 22)))
    have ht2 := tok_2 (I (t + 16) (Int32.toNatClampNeg (I t 22)))
    have ht3 := tok_3 (I (t + 16) (Int32.toNatClampNeg (I t 22)))
    have htr := tokOf_r (I (t + 16) (Int32.toNatClampNeg (I t 22)))
    have hv4 := vq_r hv
    have hts := tok_2 (I0 (t + 16) (I t 24).toInt.toNat)
    have hqs := hq.2.2.1
    refine ⟨fun hc1 => ?_, fun hc2 => ?_⟩
    · skip
      have q1 := i32_lo (I t 8)
      have q2 := i32_lo (I t 22)
      have hc1 := Int32.le_iff_toInt_le.mp hc1
      exact hK _ hW hF (by first | exact ⟨tk_e0 hsp (by omega) (by omega) (by omega) (by omega), fun q9 => by exfalso; omega⟩ | exact ⟨tk_e1 (a := (I t 22).toInt) (x := I (t + 16) (Int32.toNatClampNeg (I t 22))) hsp (by omega) hz.symm rfl (by omega) (by omega) (by omega) (by omega) (by omega) (by omega), fun q9 => by exfalso; omega⟩ | exact ⟨tk_e2 hsp hq (by omega) (by omega) (fun l9 => by show ¬ tokOf (I0 (t + 16) (Int32.toNatClampNeg (I t 22))) = _; omega) (by omega) (by omega), fun q9 => by first | exact hv | (exfalso; omega)⟩)
    · skip
      have q1 := i32_lo (I t 8)
      have q2 := i32_lo (I t 22)
      have hc2 := mt Int32.le_iff_toInt_le.mpr hc2
      refine ⟨vp_of (by omega) (by omega), ?_⟩
      refine sfX12_isDigit  trivial  (fun v3  hp3 => ?_)
      refine ⟨fun hc4 => ?_, fun hc5 => ?_⟩
      · skip
        have q3 := i32_lo v3
        have q4 : (0 : Int32).toInt = 0 := rfl
        have hc4 := Int32.toInt_inj.mpr hc4
        exact hK _ hW hF (by first | exact ⟨tk_e0 hsp (by omega) (by omega) (by omega) (by omega), fun q9 => by exfalso; omega⟩ | exact ⟨tk_e1 (a := (I t 22).toInt) (x := I (t + 16) (Int32.toNatClampNeg (I t 22))) hsp (by omega) hz.symm rfl (by omega) (by omega) (by omega) (by omega) (by omega) (by omega), fun q9 => by exfalso; omega⟩ | exact ⟨tk_e2 hsp hq (by omega) (by omega) (fun l9 => by show ¬ tokOf (I0 (t + 16) (Int32.toNatClampNeg (I t 22))) = _; omega) (by omega) (by omega), fun q9 => by first | exact hv | (exfalso; omega)⟩)
      · skip
        have q3 := i32_lo v3
        have q4 : (0 : Int32).toInt = 0 := rfl
        have hc5 : ¬ (v3).toInt = (0 : Int32).toInt := fun z => hc5 (Int32.toInt_inj.mp z)
        refine ⟨fun hc6 => ?_, fun hc7 => ?_⟩
        · skip
          have q5 : (2 : Int32).toInt = 2 := rfl
          have q6 := i32_lo (I t 24)
          have q7 := i32_subI (I t 22) (I t 24)
          have hc6 := Int32.le_iff_toInt_le.mp hc6
          have q8 : (1 : Int32).toInt = 1 := rfl
          have q9 := i32_add (I t 22) 1 (by omega) (by omega)
          have hr8 : (((uI (uI I t 25 100000) t 22 ((I t 22) + 1))) t 22).toInt = (((I t 22) + 1)).toInt := congrArg Int32.toInt (uI_ss _ _ _ _)
          have hr9 : (((uI (uI I t 25 100000) t 22 ((I t 22) + 1))) t 24).toInt = ((I t 24)).toInt := congrArg Int32.toInt (uI_sk (by decide) (uI_sk (by decide) rfl))
          have hr10 : (((uI (uI I t 25 100000) t 22 ((I t 22) + 1))) t 8).toInt = ((I t 8)).toInt := congrArg Int32.toInt (uI_sk (by decide) (uI_sk (by decide) rfl))
          have hr11 : (((uI (uI I t 25 100000) t 22 ((I t 22) + 1))) t 23).toInt = ((I t 23)).toInt := congrArg Int32.toInt (uI_sk (by decide) (uI_sk (by decide) rfl))
          have hr12 : (((uI (uI I t 25 100000) t 22 ((I t 22) + 1))) t 25).toInt = ((100000 : Int32)).toInt := congrArg Int32.toInt (uI_sk (by decide) (uI_ss _ _ _ _))
          have q10 : (100000 : Int32).toInt = 100000 := rfl
          exact ih _ (WM_uI (WM_uI hW (by first | exact okMo (by decide) (by decide) (by decide) (by decide) (by decide) | exact okMf (by decide) (by decide) (by decide) (by decide) (by decide) (by decide) (by decide) (by decide) | exact okM30 (by omega) | exact okM42 (by omega) | exact okM33 (by omega) | exact okM10 (by omega) | exact okM8 (by omega) | exact okM22 (by omega) | exact okM24 (by omega) | exact okM14 (by omega) | exact okMa31 (by omega) | exact okMa35 (by omega) | exact okMa36 (by omega) | exact okMa3 (by omega) | exact okMr (by omega) | (unfold okM; refine ⟨?_, ?_, ?_, ?_, ?_, ?_, ?_, ?_, ?_, ?_, ?_, ?_⟩ <;> intro h <;> omega))) (by first | exact okMo (by decide) (by decide) (by decide) (by decide) (by decide) | exact okMf (by decide) (by decide) (by decide) (by decide) (by decide) (by decide) (by decide) (by decide) | exact okM30 (by omega) | exact okM42 (by omega) | exact okM33 (by omega) | exact okM10 (by omega) | exact okM8 (by omega) | exact okM22 (by omega) | exact okM24 (by omega) | exact okM14 (by omega) | exact okMa31 (by omega) | exact okMa35 (by omega) | exact okMa36 (by omega) | exact okMa3 (by omega) | exact okMr (by omega) | (unfold okM; refine ⟨?_, ?_, ?_, ?_, ?_, ?_, ?_, ?_, ?_, ?_, ?_, ?_⟩ <;> intro h <;> omega))) (Fr_uI (Fr_uI hF (by omega)) (by omega)) (by omega) (by omega) (spx_c hsp (by omega)) (by first | exact tkr_0 (a := (I t 22).toInt) (x := I (t + 16) (Int32.toNatClampNeg (I t 22))) hz.symm rfl (by omega) (by omega) (by omega) (by omega) (by omega) (by omega) | exact tkr_s (x := I (t + 16) (Int32.toNatClampNeg (I t 22))) hq hz.symm (by omega) (by omega) (by omega) (by omega) (by omega) (by omega)) (by first | exact Or.inl ⟨by omega, by omega⟩ | exact vq_s (x := I (t + 16) (Int32.toNatClampNeg (I t 22))) hv hz.symm (by omega) (by omega) (by omega) (by omega) (by omega)) (by omega)
        · skip
          have q5 : (2 : Int32).toInt = 2 := rfl
          have q6 := i32_lo (I t 24)
          have q7 := i32_subI (I t 22) (I t 24)
          have hc7 := mt Int32.le_iff_toInt_le.mpr hc7
          refine ⟨vp_of (by omega) (by omega), ?_⟩
          have q8 : (1 : Int32).toInt = 1 := rfl
          have q9 := i32_add (I t 22) 1 (by omega) (by omega)
          have hr13 : (((uI (uI I t 25 ((((I t 25) * 10) + (I (t + 16) (Int32.toNatClampNeg (I t 22)))) - 48)) t 22 ((I t 22) + 1))) t 22).toInt = (((I t 22) + 1)).toInt := congrArg Int32.toInt (uI_ss _ _ _ _)
          have hr14 : (((uI (uI I t 25 ((((I t 25) * 10) + (I (t + 16) (Int32.toNatClampNeg (I t 22)))) - 48)) t 22 ((I t 22) + 1))) t 24).toInt = ((I t 24)).toInt := congrArg Int32.toInt (uI_sk (by decide) (uI_sk (by decide) rfl))
          have hr15 : (((uI (uI I t 25 ((((I t 25) * 10) + (I (t + 16) (Int32.toNatClampNeg (I t 22)))) - 48)) t 22 ((I t 22) + 1))) t 8).toInt = ((I t 8)).toInt := congrArg Int32.toInt (uI_sk (by decide) (uI_sk (by decide) rfl))
          have hr16 : (((uI (uI I t 25 ((((I t 25) * 10) + (I (t + 16) (Int32.toNatClampNeg (I t 22)))) - 48)) t 22 ((I t 22) + 1))) t 23).toInt = ((I t 23)).toInt := congrArg Int32.toInt (uI_sk (by decide) (uI_sk (by decide) rfl))
          have hr17 : (((uI (uI I t 25 ((((I t 25) * 10) + (I (t + 16) (Int32.toNatClampNeg (I t 22)))) - 48)) t 22 ((I t 22) + 1))) t 25).toInt = (((((I t 25) * 10) + (I (t + 16) (Int32.toNatClampNeg (I t 22)))) - 48)).toInt := congrArg Int32.toInt (uI_sk (by decide) (uI_ss _ _ _ _))
          have q10 := i32_lo (I t 25)
          have q11 : (10 : Int32).toInt = 10 := rfl
          have q12 := i32_mulc (I t 25) 10 10 rfl (by omega) (by omega)
          have q13 := i32_add ((I t 25) * 10) (I (t + 16) (Int32.toNatClampNeg (I t 22))) (by omega) (by omega)
          have q14 : (48 : Int32).toInt = 48 := rfl
          have q15 := i32_sub (((I t 25) * 10) + (I (t + 16) (Int32.toNatClampNeg (I t 22)))) 48 (by omega) (by omega)
          exact ih _ (WM_uI (WM_uI hW (by first | exact okMo (by decide) (by decide) (by decide) (by decide) (by decide) | exact okMf (by decide) (by decide) (by decide) (by decide) (by decide) (by decide) (by decide) (by decide) | exact okM30 (by omega) | exact okM42 (by omega) | exact okM33 (by omega) | exact okM10 (by omega) | exact okM8 (by omega) | exact okM22 (by omega) | exact okM24 (by omega) | exact okM14 (by omega) | exact okMa31 (by omega) | exact okMa35 (by omega) | exact okMa36 (by omega) | exact okMa3 (by omega) | exact okMr (by omega) | (unfold okM; refine ⟨?_, ?_, ?_, ?_, ?_, ?_, ?_, ?_, ?_, ?_, ?_, ?_⟩ <;> intro h <;> omega))) (by first | exact okMo (by decide) (by decide) (by decide) (by decide) (by decide) | exact okMf (by decide) (by decide) (by decide) (by decide) (by decide) (by decide) (by decide) (by decide) | exact okM30 (by omega) | exact okM42 (by omega) | exact okM33 (by omega) | exact okM10 (by omega) | exact okM8 (by omega) | exact okM22 (by omega) | exact okM24 (by omega) | exact okM14 (by omega) | exact okMa31 (by omega) | exact okMa35 (by omega) | exact okMa36 (by omega) | exact okMa3 (by omega) | exact okMr (by omega) | (unfold okM; refine ⟨?_, ?_, ?_, ?_, ?_, ?_, ?_, ?_, ?_, ?_, ?_, ?_⟩ <;> intro h <;> omega))) (Fr_uI (Fr_uI hF (by omega)) (by omega)) (by omega) (by omega) (spx_c hsp (by omega)) (by first | exact tkr_0 (a := (I t 22).toInt) (x := I (t + 16) (Int32.toNatClampNeg (I t 22))) hz.symm rfl (by omega) (by omega) (by omega) (by omega) (by omega) (by omega) | exact tkr_s (x := I (t + 16) (Int32.toNatClampNeg (I t 22))) hq hz.symm (by omega) (by omega) (by omega) (by omega) (by omega) (by omega)) (by first | exact Or.inl ⟨by omega, by omega⟩ | exact vq_s (x := I (t + 16) (Int32.toNatClampNeg (I t 22))) hv hz.symm (by omega) (by omega) (by omega) (by omega) (by omega)) (by omega)
theorem gX12_look_90 {G : jdG} {n : Nat} {Z : jdL} {J : jdJ} {rc rs : Nat} {K : jdI → jdJ → Prop}  {I0 : jdI} {t : Nat} (ht : zModel Z t)   (hK : ∀ (I2 : jdI), WM 7 t I2 → Fr (fun a k => a = t ∧ 22 ≤ k ∧ k ≤ 25) I0 I2 → (TK (I0 (t + 16)) (I0 t 8).toInt (I0 t 22).toInt (I2 t 23).toInt (I2 t 24).toInt (I2 t 22).toInt ∧ ((I2 t 23).toInt = 2 → vq (I0 (t + 16)) (I2 t 24).toInt (I2 t 22).toInt (I2 t 25).toInt)) → K I2 J) : ∀ m : Nat, ∀ (I : jdI) , WM 7 t I → Fr (fun a k => a = t ∧ 22 ≤ k ∧ k ≤ 25) I0 I → ((I0 t 22).toInt ≤ (I t 24).toInt ∧ (I t 24).toInt ≤ (I t 22).toInt ∧ (I t 22).toInt ≤ (I t 8).toInt) → ((I t 23).toInt = 1) → (SPx (I0 (t + 16)) (I0 t 22).toInt (I t 24).toInt) → (TKr (I0 (t + 16)) (I0 t 8).toInt (I t 23).toInt (I t 24).toInt (I t 22).toInt) → 250 - (I t 22).toInt < (m : Int) → Jd G mX12_look (jdFm G (qv Z K)) (n + 1) rc rs 90 [(0, .ref (gb G + t))] [] Z I J := by
  intro m
  induction m with
  | zero =>
    intro I hW hF hat htk hsp hq hm
    have hwI := WM_f hW
    omega
  | succ m ih =>
    intro I hW hF hat htk hsp hq hm
    have hwI := WM_f hW
    refine rX12_look_90 ht ?_
    have hs8 := congrArg Int32.toInt (hF t 8 (by omega))
    have hz := hF (t + 16) (Int32.toNatClampNeg (I t 22)) (by omega)
    have hzi := congrArg Int32.toInt hz
    have hzt := congrArg tokOf hz
    have ht1 := tok_1 (I (t + 16) (Int32.toNatClampNeg (I t 22)))
    have ht2 := tok_2 (I (t + 16) (Int32.toNatClampNeg (I t 22)))
    have ht3 := tok_3 (I (t + 16) (Int32.toNatClampNeg (I t 22)))
    have htr := tokOf_r (I (t + 16) (Int32.toNatClampNeg (I t 22)))
    refine ⟨fun hc1 => ?_, fun hc2 => ?_⟩
    · skip
      have q1 := i32_lo (I t 8)
      have q2 := i32_lo (I t 22)
      have hc1 := Int32.le_iff_toInt_le.mp hc1
      exact hK _ hW hF (by first | exact ⟨tk_e0 hsp (by omega) (by omega) (by omega) (by omega), fun q9 => by exfalso; omega⟩ | exact ⟨tk_e1 (a := (I t 22).toInt) (x := I (t + 16) (Int32.toNatClampNeg (I t 22))) hsp (by omega) hz.symm rfl (by omega) (by omega) (by omega) (by omega) (by omega) (by omega), fun q9 => by exfalso; omega⟩ | exact ⟨tk_e2 hsp hq (by omega) (by omega) (fun l9 => by show ¬ tokOf (I0 (t + 16) (Int32.toNatClampNeg (I t 22))) = _; omega) (by omega) (by omega), fun q9 => by first | exact hv | (exfalso; omega)⟩)
    · skip
      have q1 := i32_lo (I t 8)
      have q2 := i32_lo (I t 22)
      have hc2 := mt Int32.le_iff_toInt_le.mpr hc2
      refine ⟨vp_of (by omega) (by omega), ?_⟩
      refine sfX12_isLetter  trivial  (fun v3  hp3 => ?_)
      refine ⟨fun hc4 => ?_, fun hc5 => ?_⟩
      · skip
        have q3 := i32_lo v3
        have q4 : (0 : Int32).toInt = 0 := rfl
        have hc4 := Int32.toInt_inj.mpr hc4
        exact hK _ hW hF (by first | exact ⟨tk_e0 hsp (by omega) (by omega) (by omega) (by omega), fun q9 => by exfalso; omega⟩ | exact ⟨tk_e1 (a := (I t 22).toInt) (x := I (t + 16) (Int32.toNatClampNeg (I t 22))) hsp (by omega) hz.symm rfl (by omega) (by omega) (by omega) (by omega) (by omega) (by omega), fun q9 => by exfalso; omega⟩ | exact ⟨tk_e2 hsp hq (by omega) (by omega) (fun l9 => by show ¬ tokOf (I0 (t + 16) (Int32.toNatClampNeg (I t 22))) = _; omega) (by omega) (by omega), fun q9 => by first | exact hv | (exfalso; omega)⟩)
      · skip
        have q3 := i32_lo v3
        have q4 : (0 : Int32).toInt = 0 := rfl
        have hc5 : ¬ (v3).toInt = (0 : Int32).toInt := fun z => hc5 (Int32.toInt_inj.mp z)
        have q5 : (1 : Int32).toInt = 1 := rfl
        have q6 := i32_add (I t 22) 1 (by omega) (by omega)
        have hr6 : (((uI I t 22 ((I t 22) + 1))) t 22).toInt = (((I t 22) + 1)).toInt := congrArg Int32.toInt (uI_ss _ _ _ _)
        have hr7 : (((uI I t 22 ((I t 22) + 1))) t 24).toInt = ((I t 24)).toInt := congrArg Int32.toInt (uI_sk (by decide) rfl)
        have hr8 : (((uI I t 22 ((I t 22) + 1))) t 8).toInt = ((I t 8)).toInt := congrArg Int32.toInt (uI_sk (by decide) rfl)
        have hr9 : (((uI I t 22 ((I t 22) + 1))) t 23).toInt = ((I t 23)).toInt := congrArg Int32.toInt (uI_sk (by decide) rfl)
        exact ih _ (WM_uI hW (by first | exact okMo (by decide) (by decide) (by decide) (by decide) (by decide) | exact okMf (by decide) (by decide) (by decide) (by decide) (by decide) (by decide) (by decide) (by decide) | exact okM30 (by omega) | exact okM42 (by omega) | exact okM33 (by omega) | exact okM10 (by omega) | exact okM8 (by omega) | exact okM22 (by omega) | exact okM24 (by omega) | exact okM14 (by omega) | exact okMa31 (by omega) | exact okMa35 (by omega) | exact okMa36 (by omega) | exact okMa3 (by omega) | exact okMr (by omega) | (unfold okM; refine ⟨?_, ?_, ?_, ?_, ?_, ?_, ?_, ?_, ?_, ?_, ?_, ?_⟩ <;> intro h <;> omega))) (Fr_uI hF (by omega)) (by omega) (by omega) (spx_c hsp (by omega)) (by first | exact tkr_0 (a := (I t 22).toInt) (x := I (t + 16) (Int32.toNatClampNeg (I t 22))) hz.symm rfl (by omega) (by omega) (by omega) (by omega) (by omega) (by omega) | exact tkr_s (x := I (t + 16) (Int32.toNatClampNeg (I t 22))) hq hz.symm (by omega) (by omega) (by omega) (by omega) (by omega) (by omega)) (by omega)
theorem gX12_look_0 {G : jdG} {n : Nat} {Z : jdL} {J : jdJ} {rc rs : Nat} {K : jdI → jdJ → Prop}  {I0 : jdI} {t : Nat} (ht : zModel Z t)   (hK : ∀ (I2 : jdI), WM 7 t I2 → Fr (fun a k => a = t ∧ 22 ≤ k ∧ k ≤ 25) I0 I2 → (TK (I0 (t + 16)) (I0 t 8).toInt (I0 t 22).toInt (I2 t 23).toInt (I2 t 24).toInt (I2 t 22).toInt ∧ ((I2 t 23).toInt = 2 → vq (I0 (t + 16)) (I2 t 24).toInt (I2 t 22).toInt (I2 t 25).toInt)) → K I2 J) : ∀ m : Nat, ∀ (I : jdI) , WM 7 t I → Fr (fun a k => a = t ∧ 22 ≤ k ∧ k ≤ 25) I0 I → ((I0 t 22).toInt ≤ (I t 22).toInt ∧ (I t 22).toInt ≤ (I t 8).toInt) → (SPx (I0 (t + 16)) (I0 t 22).toInt (I t 22).toInt) → 250 - (I t 22).toInt < (m : Int) → Jd G mX12_look (jdFm G (qv Z K)) (n + 1) rc rs 0 [(0, .ref (gb G + t))] [] Z I J := by
  intro m
  induction m with
  | zero =>
    intro I hW hF hat hsp hm
    have hwI := WM_f hW
    omega
  | succ m ih =>
    intro I hW hF hat hsp hm
    have hwI := WM_f hW
    refine rX12_look_0 ht ?_
    have hs8 := congrArg Int32.toInt (hF t 8 (by omega))
    have hz := hF (t + 16) (Int32.toNatClampNeg (I t 22)) (by omega)
    have hzi := congrArg Int32.toInt hz
    have hzt := congrArg tokOf hz
    have ht1 := tok_1 (I (t + 16) (Int32.toNatClampNeg (I t 22)))
    have ht2 := tok_2 (I (t + 16) (Int32.toNatClampNeg (I t 22)))
    have ht3 := tok_3 (I (t + 16) (Int32.toNatClampNeg (I t 22)))
    have htr := tokOf_r (I (t + 16) (Int32.toNatClampNeg (I t 22)))
    have hE1 : (uI (uI I t 24 (I t 22)) t 25 0) t 22 = I t 22 := by rw [uI_ap, if_neg (by omega), uI_ap, if_neg (by omega)]
    have hE2 : (uI (uI I t 24 (I t 22)) t 25 0) (t + 16) = I (t + 16) := by rw [uI_n _ _ _ (by omega), uI_n _ _ _ (by omega)]
    have hE3 : ((uI (uI I t 24 (I t 22)) t 25 0) (t + 16) (Int32.toNatClampNeg ((uI (uI I t 24 (I t 22)) t 25 0) t 22))).toInt = (I (t + 16) (Int32.toNatClampNeg (I t 22))).toInt := by rw [hE2, hE1]
    refine ⟨fun hc1 => ?_, fun hc2 => ?_⟩
    · skip
      have q1 := i32_lo (I t 8)
      have q2 := i32_lo (I t 22)
      have hc1 := Int32.le_iff_toInt_le.mp hc1
      refine ⟨fun hc3 => ?_, fun hc4 => ?_⟩
      · skip
        have hc3 : ¬ ((I t 22)).toInt = ((I t 8)).toInt := fun z => hc3 (Int32.toInt_inj.mp z)
        refine ⟨vp_of (by omega) (by omega), ?_⟩
        refine sfX12_isLetter  trivial  (fun v3  hp5 => ?_)
        refine ⟨fun hc6 => ?_, fun hc7 => ?_⟩
        · skip
          have q3 := i32_lo v3
          have q4 : (0 : Int32).toInt = 0 := rfl
          have hc6 := Int32.toInt_inj.mpr hc6
          have hr8 : (((uI (uI I t 24 (I t 22)) t 25 0)) t 22).toInt = ((I t 22)).toInt := congrArg Int32.toInt (uI_sk (by decide) (uI_sk (by decide) rfl))
          refine ⟨vp_of (by omega) (by omega), ?_⟩
          have hr9 : (((uI (uI I t 24 (I t 22)) t 25 0)) (t + 16) (Int32.toNatClampNeg ((uI (uI I t 24 (I t 22)) t 25 0) t 22))).toInt = ((I (t + 16) (Int32.toNatClampNeg ((uI (uI I t 24 (I t 22)) t 25 0) t 22)))).toInt := congrArg Int32.toInt (uI_ne (by omega) (uI_ne (by omega) rfl))
          refine sfX12_isDigit  trivial  (fun v6  hp10 => ?_)
          refine ⟨fun hc11 => ?_, fun hc12 => ?_⟩
          · skip
            have q5 := i32_lo v6
            have hc11 := Int32.toInt_inj.mpr hc11
            refine ⟨vp_of (by omega) (by omega), ?_⟩
            refine ⟨fun hc13 => ?_, fun hc14 => ?_⟩
            · skip
              have q6 : (59 : Int32).toInt = 59 := rfl
              have hc13 : ¬ (((uI (uI I t 24 (I t 22)) t 25 0) (t + 16) (Int32.toNatClampNeg ((uI (uI I t 24 (I t 22)) t 25 0) t 22)))).toInt = (59 : Int32).toInt := fun z => hc13 (Int32.toInt_inj.mp z)
              have q7 : (1 : Int32).toInt = 1 := rfl
              have q8 := i32_add ((uI (uI I t 24 (I t 22)) t 25 0) t 22) 1 (by omega) (by omega)
              have hr15 : (((uI (uI (uI (uI I t 24 (I t 22)) t 25 0) t 23 4) t 22 (((uI (uI I t 24 (I t 22)) t 25 0) t 22) + 1))) t 8).toInt = ((I t 8)).toInt := congrArg Int32.toInt (uI_sk (by decide) (uI_sk (by decide) (uI_sk (by decide) (uI_sk (by decide) rfl))))
              have hr16 : (((uI (uI (uI (uI I t 24 (I t 22)) t 25 0) t 23 4) t 22 (((uI (uI I t 24 (I t 22)) t 25 0) t 22) + 1))) t 22).toInt = ((((uI (uI I t 24 (I t 22)) t 25 0) t 22) + 1)).toInt := congrArg Int32.toInt (uI_ss _ _ _ _)
              have hr17 : (((uI (uI (uI (uI I t 24 (I t 22)) t 25 0) t 23 4) t 22 (((uI (uI I t 24 (I t 22)) t 25 0) t 22) + 1))) t 23).toInt = ((4 : Int32)).toInt := congrArg Int32.toInt (uI_sk (by decide) (uI_ss _ _ _ _))
              have q9 : (4 : Int32).toInt = 4 := rfl
              have hr18 : (((uI (uI (uI (uI I t 24 (I t 22)) t 25 0) t 23 4) t 22 (((uI (uI I t 24 (I t 22)) t 25 0) t 22) + 1))) t 24).toInt = ((I t 22)).toInt := congrArg Int32.toInt (uI_sk (by decide) (uI_sk (by decide) (uI_sk (by decide) (uI_ss _ _ _ _))))
              have hr19 : (((uI (uI (uI (uI I t 24 (I t 22)) t 25 0) t 23 4) t 22 (((uI (uI I t 24 (I t 22)) t 25 0) t 22) + 1))) t 25).toInt = ((0 : Int32)).toInt := congrArg Int32.toInt (uI_sk (by decide) (uI_sk (by decide) (uI_ss _ _ _ _)))
              exact hK _ (WM_uI (WM_uI (WM_uI (WM_uI hW (by first | exact okMo (by decide) (by decide) (by decide) (by decide) (by decide) | exact okMf (by decide) (by decide) (by decide) (by decide) (by decide) (by decide) (by decide) (by decide) | exact okM30 (by omega) | exact okM42 (by omega) | exact okM33 (by omega) | exact okM10 (by omega) | exact okM8 (by omega) | exact okM22 (by omega) | exact okM24 (by omega) | exact okM14 (by omega) | exact okMa31 (by omega) | exact okMa35 (by omega) | exact okMa36 (by omega) | exact okMa3 (by omega) | exact okMr (by omega) | (unfold okM; refine ⟨?_, ?_, ?_, ?_, ?_, ?_, ?_, ?_, ?_, ?_, ?_, ?_⟩ <;> intro h <;> omega))) (by first | exact okMo (by decide) (by decide) (by decide) (by decide) (by decide) | exact okMf (by decide) (by decide) (by decide) (by decide) (by decide) (by decide) (by decide) (by decide) | exact okM30 (by omega) | exact okM42 (by omega) | exact okM33 (by omega) | exact okM10 (by omega) | exact okM8 (by omega) | exact okM22 (by omega) | exact okM24 (by omega) | exact okM14 (by omega) | exact okMa31 (by omega) | exact okMa35 (by omega) | exact okMa36 (by omega) | exact okMa3 (by omega) | exact okMr (by omega) | (unfold okM; refine ⟨?_, ?_, ?_, ?_, ?_, ?_, ?_, ?_, ?_, ?_, ?_, ?_⟩ <;> intro h <;> omega))) (by first | exact okMo (by decide) (by decide) (by decide) (by decide) (by decide) | exact okMf (by decide) (by decide) (by decide) (by decide) (by decide) (by decide) (by decide) (by decide) | exact okM30 (by omega) | exact okM42 (by omega) | exact okM33 (by omega) | exact okM10 (by omega) | exact okM8 (by omega) | exact okM22 (by omega) | exact okM24 (by omega) | exact okM14 (by omega) | exact okMa31 (by omega) | exact okMa35 (by omega) | exact okMa36 (by omega) | exact okMa3 (by omega) | exact okMr (by omega) | (unfold okM; refine ⟨?_, ?_, ?_, ?_, ?_, ?_, ?_, ?_, ?_, ?_, ?_, ?_⟩ <;> intro h <;> omega))) (by first | exact okMo (by decide) (by decide) (by decide) (by decide) (by decide) | exact okMf (by decide) (by decide) (by decide) (by decide) (by decide) (by decide) (by decide) (by decide) | exact okM30 (by omega) | exact okM42 (by omega) | exact okM33 (by omega) | exact okM10 (by omega) | exact okM8 (by omega) | exact okM22 (by omega) | exact okM24 (by omega) | exact okM14 (by omega) | exact okMa31 (by omega) | exact okMa35 (by omega) | exact okMa36 (by omega) | exact okMa3 (by omega) | exact okMr (by omega) | (unfold okM; refine ⟨?_, ?_, ?_, ?_, ?_, ?_, ?_, ?_, ?_, ?_, ?_, ?_⟩ <;> intro h <;> omega))) (Fr_uI (Fr_uI (Fr_uI (Fr_uI hF (by omega)) (by omega)) (by omega)) (by omega)) (by first | exact ⟨tk_e0 hsp (by omega) (by omega) (by omega) (by omega), fun q9 => by exfalso; omega⟩ | exact ⟨tk_e1 (a := (I t 22).toInt) (x := I (t + 16) (Int32.toNatClampNeg (I t 22))) hsp (by omega) hz.symm rfl (by omega) (by omega) (by omega) (by omega) (by omega) (by omega), fun q9 => by exfalso; omega⟩ | exact ⟨tk_e2 hsp hq (by omega) (by omega) (fun l9 => by show ¬ tokOf (I0 (t + 16) (Int32.toNatClampNeg (I t 22))) = _; omega) (by omega) (by omega), fun q9 => by first | exact hv | (exfalso; omega)⟩)
            · skip
              have q6 : (59 : Int32).toInt = 59 := rfl
              have hc14 := Int32.toInt_inj.mpr hc14
              have q7 : (1 : Int32).toInt = 1 := rfl
              have q8 := i32_add ((uI (uI I t 24 (I t 22)) t 25 0) t 22) 1 (by omega) (by omega)
              have hr20 : (((uI (uI (uI (uI I t 24 (I t 22)) t 25 0) t 23 3) t 22 (((uI (uI I t 24 (I t 22)) t 25 0) t 22) + 1))) t 8).toInt = ((I t 8)).toInt := congrArg Int32.toInt (uI_sk (by decide) (uI_sk (by decide) (uI_sk (by decide) (uI_sk (by decide) rfl))))
              have hr21 : (((uI (uI (uI (uI I t 24 (I t 22)) t 25 0) t 23 3) t 22 (((uI (uI I t 24 (I t 22)) t 25 0) t 22) + 1))) t 22).toInt = ((((uI (uI I t 24 (I t 22)) t 25 0) t 22) + 1)).toInt := congrArg Int32.toInt (uI_ss _ _ _ _)
              have hr22 : (((uI (uI (uI (uI I t 24 (I t 22)) t 25 0) t 23 3) t 22 (((uI (uI I t 24 (I t 22)) t 25 0) t 22) + 1))) t 23).toInt = ((3 : Int32)).toInt := congrArg Int32.toInt (uI_sk (by decide) (uI_ss _ _ _ _))
              have q9 : (3 : Int32).toInt = 3 := rfl
              have hr23 : (((uI (uI (uI (uI I t 24 (I t 22)) t 25 0) t 23 3) t 22 (((uI (uI I t 24 (I t 22)) t 25 0) t 22) + 1))) t 24).toInt = ((I t 22)).toInt := congrArg Int32.toInt (uI_sk (by decide) (uI_sk (by decide) (uI_sk (by decide) (uI_ss _ _ _ _))))
              have hr24 : (((uI (uI (uI (uI I t 24 (I t 22)) t 25 0) t 23 3) t 22 (((uI (uI I t 24 (I t 22)) t 25 0) t 22) + 1))) t 25).toInt = ((0 : Int32)).toInt := congrArg Int32.toInt (uI_sk (by decide) (uI_sk (by decide) (uI_ss _ _ _ _)))
              exact hK _ (WM_uI (WM_uI (WM_uI (WM_uI hW (by first | exact okMo (by decide) (by decide) (by decide) (by decide) (by decide) | exact okMf (by decide) (by decide) (by decide) (by decide) (by decide) (by decide) (by decide) (by decide) | exact okM30 (by omega) | exact okM42 (by omega) | exact okM33 (by omega) | exact okM10 (by omega) | exact okM8 (by omega) | exact okM22 (by omega) | exact okM24 (by omega) | exact okM14 (by omega) | exact okMa31 (by omega) | exact okMa35 (by omega) | exact okMa36 (by omega) | exact okMa3 (by omega) | exact okMr (by omega) | (unfold okM; refine ⟨?_, ?_, ?_, ?_, ?_, ?_, ?_, ?_, ?_, ?_, ?_, ?_⟩ <;> intro h <;> omega))) (by first | exact okMo (by decide) (by decide) (by decide) (by decide) (by decide) | exact okMf (by decide) (by decide) (by decide) (by decide) (by decide) (by decide) (by decide) (by decide) | exact okM30 (by omega) | exact okM42 (by omega) | exact okM33 (by omega) | exact okM10 (by omega) | exact okM8 (by omega) | exact okM22 (by omega) | exact okM24 (by omega) | exact okM14 (by omega) | exact okMa31 (by omega) | exact okMa35 (by omega) | exact okMa36 (by omega) | exact okMa3 (by omega) | exact okMr (by omega) | (unfold okM; refine ⟨?_, ?_, ?_, ?_, ?_, ?_, ?_, ?_, ?_, ?_, ?_, ?_⟩ <;> intro h <;> omega))) (by first | exact okMo (by decide) (by decide) (by decide) (by decide) (by decide) | exact okMf (by decide) (by decide) (by decide) (by decide) (by decide) (by decide) (by decide) (by decide) | exact okM30 (by omega) | exact okM42 (by omega) | exact okM33 (by omega) | exact okM10 (by omega) | exact okM8 (by omega) | exact okM22 (by omega) | exact okM24 (by omega) | exact okM14 (by omega) | exact okMa31 (by omega) | exact okMa35 (by omega) | exact okMa36 (by omega) | exact okMa3 (by omega) | exact okMr (by omega) | (unfold okM; refine ⟨?_, ?_, ?_, ?_, ?_, ?_, ?_, ?_, ?_, ?_, ?_, ?_⟩ <;> intro h <;> omega))) (by first | exact okMo (by decide) (by decide) (by decide) (by decide) (by decide) | exact okMf (by decide) (by decide) (by decide) (by decide) (by decide) (by decide) (by decide) (by decide) | exact okM30 (by omega) | exact okM42 (by omega) | exact okM33 (by omega) | exact okM10 (by omega) | exact okM8 (by omega) | exact okM22 (by omega) | exact okM24 (by omega) | exact okM14 (by omega) | exact okMa31 (by omega) | exact okMa35 (by omega) | exact okMa36 (by omega) | exact okMa3 (by omega) | exact okMr (by omega) | (unfold okM; refine ⟨?_, ?_, ?_, ?_, ?_, ?_, ?_, ?_, ?_, ?_, ?_, ?_⟩ <;> intro h <;> omega))) (Fr_uI (Fr_uI (Fr_uI (Fr_uI hF (by omega)) (by omega)) (by omega)) (by omega)) (by first | exact ⟨tk_e0 hsp (by omega) (by omega) (by omega) (by omega), fun q9 => by exfalso; omega⟩ | exact ⟨tk_e1 (a := (I t 22).toInt) (x := I (t + 16) (Int32.toNatClampNeg (I t 22))) hsp (by omega) hz.symm rfl (by omega) (by omega) (by omega) (by omega) (by omega) (by omega), fun q9 => by exfalso; omega⟩ | exact ⟨tk_e2 hsp hq (by omega) (by omega) (fun l9 => by show ¬ tokOf (I0 (t + 16) (Int32.toNatClampNeg (I t 22))) = _; omega) (by omega) (by omega), fun q9 => by first | exact hv | (exfalso; omega)⟩)
          · skip
            have q5 := i32_lo v6
            have hc12 : ¬ (v6).toInt = (0 : Int32).toInt := fun z => hc12 (Int32.toInt_inj.mp z)
            have hr25 : (((uI (uI (uI I t 24 (I t 22)) t 25 0) t 23 2)) t 22).toInt = ((I t 22)).toInt := congrArg Int32.toInt (uI_sk (by decide) (uI_sk (by decide) (uI_sk (by decide) rfl)))
            have hr26 : (((uI (uI (uI I t 24 (I t 22)) t 25 0) t 23 2)) t 24).toInt = ((I t 22)).toInt := congrArg Int32.toInt (uI_sk (by decide) (uI_sk (by decide) (uI_ss _ _ _ _)))
            have hr27 : (((uI (uI (uI I t 24 (I t 22)) t 25 0) t 23 2)) t 8).toInt = ((I t 8)).toInt := congrArg Int32.toInt (uI_sk (by decide) (uI_sk (by decide) (uI_sk (by decide) rfl)))
            have hr28 : (((uI (uI (uI I t 24 (I t 22)) t 25 0) t 23 2)) t 23).toInt = ((2 : Int32)).toInt := congrArg Int32.toInt (uI_ss _ _ _ _)
            have q6 : (2 : Int32).toInt = 2 := rfl
            have hr29 : (((uI (uI (uI I t 24 (I t 22)) t 25 0) t 23 2)) t 25).toInt = ((0 : Int32)).toInt := congrArg Int32.toInt (uI_sk (by decide) (uI_ss _ _ _ _))
            exact gX12_look_149 ht   hK  ((250 - ((uI (uI (uI I t 24 (I t 22)) t 25 0) t 23 2) t 22).toInt).toNat + 1) _ (WM_uI (WM_uI (WM_uI hW (by first | exact okMo (by decide) (by decide) (by decide) (by decide) (by decide) | exact okMf (by decide) (by decide) (by decide) (by decide) (by decide) (by decide) (by decide) (by decide) | exact okM30 (by omega) | exact okM42 (by omega) | exact okM33 (by omega) | exact okM10 (by omega) | exact okM8 (by omega) | exact okM22 (by omega) | exact okM24 (by omega) | exact okM14 (by omega) | exact okMa31 (by omega) | exact okMa35 (by omega) | exact okMa36 (by omega) | exact okMa3 (by omega) | exact okMr (by omega) | (unfold okM; refine ⟨?_, ?_, ?_, ?_, ?_, ?_, ?_, ?_, ?_, ?_, ?_, ?_⟩ <;> intro h <;> omega))) (by first | exact okMo (by decide) (by decide) (by decide) (by decide) (by decide) | exact okMf (by decide) (by decide) (by decide) (by decide) (by decide) (by decide) (by decide) (by decide) | exact okM30 (by omega) | exact okM42 (by omega) | exact okM33 (by omega) | exact okM10 (by omega) | exact okM8 (by omega) | exact okM22 (by omega) | exact okM24 (by omega) | exact okM14 (by omega) | exact okMa31 (by omega) | exact okMa35 (by omega) | exact okMa36 (by omega) | exact okMa3 (by omega) | exact okMr (by omega) | (unfold okM; refine ⟨?_, ?_, ?_, ?_, ?_, ?_, ?_, ?_, ?_, ?_, ?_, ?_⟩ <;> intro h <;> omega))) (by first | exact okMo (by decide) (by decide) (by decide) (by decide) (by decide) | exact okMf (by decide) (by decide) (by decide) (by decide) (by decide) (by decide) (by decide) (by decide) | exact okM30 (by omega) | exact okM42 (by omega) | exact okM33 (by omega) | exact okM10 (by omega) | exact okM8 (by omega) | exact okM22 (by omega) | exact okM24 (by omega) | exact okM14 (by omega) | exact okMa31 (by omega) | exact okMa35 (by omega) | exact okMa36 (by omega) | exact okMa3 (by omega) | exact okMr (by omega) | (unfold okM; refine ⟨?_, ?_, ?_, ?_, ?_, ?_, ?_, ?_, ?_, ?_, ?_, ?_⟩ <;> intro h <;> omega))) (Fr_uI (Fr_uI (Fr_uI hF (by omega)) (by omega)) (by omega)) (by omega) (by omega) (spx_c hsp (by omega)) (by first | exact tkr_0 (a := (I t 22).toInt) (x := I (t + 16) (Int32.toNatClampNeg (I t 22))) hz.symm rfl (by omega) (by omega) (by omega) (by omega) (by omega) (by omega) | exact tkr_s (x := I (t + 16) (Int32.toNatClampNeg (I t 22))) hq hz.symm (by omega) (by omega) (by omega) (by omega) (by omega) (by omega)) (by first | exact Or.inl ⟨by omega, by omega⟩ | exact vq_s (x := I (t + 16) (Int32.toNatClampNeg (I t 22))) hv hz.symm (by omega) (by omega) (by omega) (by omega) (by omega)) (by omega)
        · skip
          have q3 := i32_lo v3
          have q4 : (0 : Int32).toInt = 0 := rfl
          have hc7 : ¬ (v3).toInt = (0 : Int32).toInt := fun z => hc7 (Int32.toInt_inj.mp z)
          have hr30 : (((uI (uI (uI I t 24 (I t 22)) t 25 0) t 23 1)) t 22).toInt = ((I t 22)).toInt := congrArg Int32.toInt (uI_sk (by decide) (uI_sk (by decide) (uI_sk (by decide) rfl)))
          have hr31 : (((uI (uI (uI I t 24 (I t 22)) t 25 0) t 23 1)) t 24).toInt = ((I t 22)).toInt := congrArg Int32.toInt (uI_sk (by decide) (uI_sk (by decide) (uI_ss _ _ _ _)))
          have hr32 : (((uI (uI (uI I t 24 (I t 22)) t 25 0) t 23 1)) t 8).toInt = ((I t 8)).toInt := congrArg Int32.toInt (uI_sk (by decide) (uI_sk (by decide) (uI_sk (by decide) rfl)))
          have hr33 : (((uI (uI (uI I t 24 (I t 22)) t 25 0) t 23 1)) t 23).toInt = ((1 : Int32)).toInt := congrArg Int32.toInt (uI_ss _ _ _ _)
          have q5 : (1 : Int32).toInt = 1 := rfl
          exact gX12_look_90 ht   hK  ((250 - ((uI (uI (uI I t 24 (I t 22)) t 25 0) t 23 1) t 22).toInt).toNat + 1) _ (WM_uI (WM_uI (WM_uI hW (by first | exact okMo (by decide) (by decide) (by decide) (by decide) (by decide) | exact okMf (by decide) (by decide) (by decide) (by decide) (by decide) (by decide) (by decide) (by decide) | exact okM30 (by omega) | exact okM42 (by omega) | exact okM33 (by omega) | exact okM10 (by omega) | exact okM8 (by omega) | exact okM22 (by omega) | exact okM24 (by omega) | exact okM14 (by omega) | exact okMa31 (by omega) | exact okMa35 (by omega) | exact okMa36 (by omega) | exact okMa3 (by omega) | exact okMr (by omega) | (unfold okM; refine ⟨?_, ?_, ?_, ?_, ?_, ?_, ?_, ?_, ?_, ?_, ?_, ?_⟩ <;> intro h <;> omega))) (by first | exact okMo (by decide) (by decide) (by decide) (by decide) (by decide) | exact okMf (by decide) (by decide) (by decide) (by decide) (by decide) (by decide) (by decide) (by decide) | exact okM30 (by omega) | exact okM42 (by omega) | exact okM33 (by omega) | exact okM10 (by omega) | exact okM8 (by omega) | exact okM22 (by omega) | exact okM24 (by omega) | exact okM14 (by omega) | exact okMa31 (by omega) | exact okMa35 (by omega) | exact okMa36 (by omega) | exact okMa3 (by omega) | exact okMr (by omega) | (unfold okM; refine ⟨?_, ?_, ?_, ?_, ?_, ?_, ?_, ?_, ?_, ?_, ?_, ?_⟩ <;> intro h <;> omega))) (by first | exact okMo (by decide) (by decide) (by decide) (by decide) (by decide) | exact okMf (by decide) (by decide) (by decide) (by decide) (by decide) (by decide) (by decide) (by decide) | exact okM30 (by omega) | exact okM42 (by omega) | exact okM33 (by omega) | exact okM10 (by omega) | exact okM8 (by omega) | exact okM22 (by omega) | exact okM24 (by omega) | exact okM14 (by omega) | exact okMa31 (by omega) | exact okMa35 (by omega) | exact okMa36 (by omega) | exact okMa3 (by omega) | exact okMr (by omega) | (unfold okM; refine ⟨?_, ?_, ?_, ?_, ?_, ?_, ?_, ?_, ?_, ?_, ?_, ?_⟩ <;> intro h <;> omega))) (Fr_uI (Fr_uI (Fr_uI hF (by omega)) (by omega)) (by omega)) (by omega) (by omega) (spx_c hsp (by omega)) (by first | exact tkr_0 (a := (I t 22).toInt) (x := I (t + 16) (Int32.toNatClampNeg (I t 22))) hz.symm rfl (by omega) (by omega) (by omega) (by omega) (by omega) (by omega) | exact tkr_s (x := I (t + 16) (Int32.toNatClampNeg (I t 22))) hq hz.symm (by omega) (by omega) (by omega) (by omega) (by omega) (by omega)) (by omega)
      · skip
        have hc4 := Int32.toInt_inj.mpr hc4
        have hr34 : (((uI (uI (uI I t 24 (I t 22)) t 25 0) t 23 0)) t 8).toInt = ((I t 8)).toInt := congrArg Int32.toInt (uI_sk (by decide) (uI_sk (by decide) (uI_sk (by decide) rfl)))
        have hr35 : (((uI (uI (uI I t 24 (I t 22)) t 25 0) t 23 0)) t 22).toInt = ((I t 22)).toInt := congrArg Int32.toInt (uI_sk (by decide) (uI_sk (by decide) (uI_sk (by decide) rfl)))
        have hr36 : (((uI (uI (uI I t 24 (I t 22)) t 25 0) t 23 0)) t 23).toInt = ((0 : Int32)).toInt := congrArg Int32.toInt (uI_ss _ _ _ _)
        have q3 : (0 : Int32).toInt = 0 := rfl
        have hr37 : (((uI (uI (uI I t 24 (I t 22)) t 25 0) t 23 0)) t 24).toInt = ((I t 22)).toInt := congrArg Int32.toInt (uI_sk (by decide) (uI_sk (by decide) (uI_ss _ _ _ _)))
        have hr38 : (((uI (uI (uI I t 24 (I t 22)) t 25 0) t 23 0)) t 25).toInt = ((0 : Int32)).toInt := congrArg Int32.toInt (uI_sk (by decide) (uI_ss _ _ _ _))
        exact hK _ (WM_uI (WM_uI (WM_uI hW (by first | exact okMo (by decide) (by decide) (by decide) (by decide) (by decide) | exact okMf (by decide) (by decide) (by decide) (by decide) (by decide) (by decide) (by decide) (by decide) | exact okM30 (by omega) | exact okM42 (by omega) | exact okM33 (by omega) | exact okM10 (by omega) | exact okM8 (by omega) | exact okM22 (by omega) | exact okM24 (by omega) | exact okM14 (by omega) | exact okMa31 (by omega) | exact okMa35 (by omega) | exact okMa36 (by omega) | exact okMa3 (by omega) | exact okMr (by omega) | (unfold okM; refine ⟨?_, ?_, ?_, ?_, ?_, ?_, ?_, ?_, ?_, ?_, ?_, ?_⟩ <;> intro h <;> omega))) (by first | exact okMo (by decide) (by decide) (by decide) (by decide) (by decide) | exact okMf (by decide) (by decide) (by decide) (by decide) (by decide) (by decide) (by decide) (by decide) | exact okM30 (by omega) | exact okM42 (by omega) | exact okM33 (by omega) | exact okM10 (by omega) | exact okM8 (by omega) | exact okM22 (by omega) | exact okM24 (by omega) | exact okM14 (by omega) | exact okMa31 (by omega) | exact okMa35 (by omega) | exact okMa36 (by omega) | exact okMa3 (by omega) | exact okMr (by omega) | (unfold okM; refine ⟨?_, ?_, ?_, ?_, ?_, ?_, ?_, ?_, ?_, ?_, ?_, ?_⟩ <;> intro h <;> omega))) (by first | exact okMo (by decide) (by decide) (by decide) (by decide) (by decide) | exact okMf (by decide) (by decide) (by decide) (by decide) (by decide) (by decide) (by decide) (by decide) | exact okM30 (by omega) | exact okM42 (by omega) | exact okM33 (by omega) | exact okM10 (by omega) | exact okM8 (by omega) | exact okM22 (by omega) | exact okM24 (by omega) | exact okM14 (by omega) | exact okMa31 (by omega) | exact okMa35 (by omega) | exact okMa36 (by omega) | exact okMa3 (by omega) | exact okMr (by omega) | (unfold okM; refine ⟨?_, ?_, ?_, ?_, ?_, ?_, ?_, ?_, ?_, ?_, ?_, ?_⟩ <;> intro h <;> omega))) (Fr_uI (Fr_uI (Fr_uI hF (by omega)) (by omega)) (by omega)) (by first | exact ⟨tk_e0 hsp (by omega) (by omega) (by omega) (by omega), fun q9 => by exfalso; omega⟩ | exact ⟨tk_e1 (a := (I t 22).toInt) (x := I (t + 16) (Int32.toNatClampNeg (I t 22))) hsp (by omega) hz.symm rfl (by omega) (by omega) (by omega) (by omega) (by omega) (by omega), fun q9 => by exfalso; omega⟩ | exact ⟨tk_e2 hsp hq (by omega) (by omega) (fun l9 => by show ¬ tokOf (I0 (t + 16) (Int32.toNatClampNeg (I t 22))) = _; omega) (by omega) (by omega), fun q9 => by first | exact hv | (exfalso; omega)⟩)
    · skip
      have q1 := i32_lo (I t 8)
      have q2 := i32_lo (I t 22)
      have hc2 := mt Int32.le_iff_toInt_le.mpr hc2
      refine ⟨vp_of (by omega) (by omega), ?_⟩
      refine ⟨fun hc39 => ?_, fun hc40 => ?_⟩
      · skip
        have q3 : (32 : Int32).toInt = 32 := rfl
        have hc39 : ¬ ((I (t + 16) (Int32.toNatClampNeg (I t 22)))).toInt = (32 : Int32).toInt := fun z => hc39 (Int32.toInt_inj.mp z)
        refine ⟨fun hc41 => ?_, fun hc42 => ?_⟩
        · skip
          have hc41 : ¬ ((I t 22)).toInt = ((I t 8)).toInt := fun z => hc41 (Int32.toInt_inj.mp z)
          refine ⟨vp_of (by omega) (by omega), ?_⟩
          refine sfX12_isLetter  trivial  (fun v11  hp43 => ?_)
          refine ⟨fun hc44 => ?_, fun hc45 => ?_⟩
          · skip
            have q4 := i32_lo v11
            have q5 : (0 : Int32).toInt = 0 := rfl
            have hc44 := Int32.toInt_inj.mpr hc44
            have hr46 : (((uI (uI I t 24 (I t 22)) t 25 0)) t 22).toInt = ((I t 22)).toInt := congrArg Int32.toInt (uI_sk (by decide) (uI_sk (by decide) rfl))
            refine ⟨vp_of (by omega) (by omega), ?_⟩
            have hr47 : (((uI (uI I t 24 (I t 22)) t 25 0)) (t + 16) (Int32.toNatClampNeg ((uI (uI I t 24 (I t 22)) t 25 0) t 22))).toInt = ((I (t + 16) (Int32.toNatClampNeg ((uI (uI I t 24 (I t 22)) t 25 0) t 22)))).toInt := congrArg Int32.toInt (uI_ne (by omega) (uI_ne (by omega) rfl))
            refine sfX12_isDigit  trivial  (fun v14  hp48 => ?_)
            refine ⟨fun hc49 => ?_, fun hc50 => ?_⟩
            · skip
              have q6 := i32_lo v14
              have hc49 := Int32.toInt_inj.mpr hc49
              refine ⟨vp_of (by omega) (by omega), ?_⟩
              refine ⟨fun hc51 => ?_, fun hc52 => ?_⟩
              · skip
                have q7 : (59 : Int32).toInt = 59 := rfl
                have hc51 : ¬ (((uI (uI I t 24 (I t 22)) t 25 0) (t + 16) (Int32.toNatClampNeg ((uI (uI I t 24 (I t 22)) t 25 0) t 22)))).toInt = (59 : Int32).toInt := fun z => hc51 (Int32.toInt_inj.mp z)
                have q8 : (1 : Int32).toInt = 1 := rfl
                have q9 := i32_add ((uI (uI I t 24 (I t 22)) t 25 0) t 22) 1 (by omega) (by omega)
                have hr53 : (((uI (uI (uI (uI I t 24 (I t 22)) t 25 0) t 23 4) t 22 (((uI (uI I t 24 (I t 22)) t 25 0) t 22) + 1))) t 8).toInt = ((I t 8)).toInt := congrArg Int32.toInt (uI_sk (by decide) (uI_sk (by decide) (uI_sk (by decide) (uI_sk (by decide) rfl))))
                have hr54 : (((uI (uI (uI (uI I t 24 (I t 22)) t 25 0) t 23 4) t 22 (((uI (uI I t 24 (I t 22)) t 25 0) t 22) + 1))) t 22).toInt = ((((uI (uI I t 24 (I t 22)) t 25 0) t 22) + 1)).toInt := congrArg Int32.toInt (uI_ss _ _ _ _)
                have hr55 : (((uI (uI (uI (uI I t 24 (I t 22)) t 25 0) t 23 4) t 22 (((uI (uI I t 24 (I t 22)) t 25 0) t 22) + 1))) t 23).toInt = ((4 : Int32)).toInt := congrArg Int32.toInt (uI_sk (by decide) (uI_ss _ _ _ _))
                have q10 : (4 : Int32).toInt = 4 := rfl
                have hr56 : (((uI (uI (uI (uI I t 24 (I t 22)) t 25 0) t 23 4) t 22 (((uI (uI I t 24 (I t 22)) t 25 0) t 22) + 1))) t 24).toInt = ((I t 22)).toInt := congrArg Int32.toInt (uI_sk (by decide) (uI_sk (by decide) (uI_sk (by decide) (uI_ss _ _ _ _))))
                have hr57 : (((uI (uI (uI (uI I t 24 (I t 22)) t 25 0) t 23 4) t 22 (((uI (uI I t 24 (I t 22)) t 25 0) t 22) + 1))) t 25).toInt = ((0 : Int32)).toInt := congrArg Int32.toInt (uI_sk (by decide) (uI_sk (by decide) (uI_ss _ _ _ _)))
                exact hK _ (WM_uI (WM_uI (WM_uI (WM_uI hW (by first | exact okMo (by decide) (by decide) (by decide) (by decide) (by decide) | exact okMf (by decide) (by decide) (by decide) (by decide) (by decide) (by decide) (by decide) (by decide) | exact okM30 (by omega) | exact okM42 (by omega) | exact okM33 (by omega) | exact okM10 (by omega) | exact okM8 (by omega) | exact okM22 (by omega) | exact okM24 (by omega) | exact okM14 (by omega) | exact okMa31 (by omega) | exact okMa35 (by omega) | exact okMa36 (by omega) | exact okMa3 (by omega) | exact okMr (by omega) | (unfold okM; refine ⟨?_, ?_, ?_, ?_, ?_, ?_, ?_, ?_, ?_, ?_, ?_, ?_⟩ <;> intro h <;> omega))) (by first | exact okMo (by decide) (by decide) (by decide) (by decide) (by decide) | exact okMf (by decide) (by decide) (by decide) (by decide) (by decide) (by decide) (by decide) (by decide) | exact okM30 (by omega) | exact okM42 (by omega) | exact okM33 (by omega) | exact okM10 (by omega) | exact okM8 (by omega) | exact okM22 (by omega) | exact okM24 (by omega) | exact okM14 (by omega) | exact okMa31 (by omega) | exact okMa35 (by omega) | exact okMa36 (by omega) | exact okMa3 (by omega) | exact okMr (by omega) | (unfold okM; refine ⟨?_, ?_, ?_, ?_, ?_, ?_, ?_, ?_, ?_, ?_, ?_, ?_⟩ <;> intro h <;> omega))) (by first | exact okMo (by decide) (by decide) (by decide) (by decide) (by decide) | exact okMf (by decide) (by decide) (by decide) (by decide) (by decide) (by decide) (by decide) (by decide) | exact okM30 (by omega) | exact okM42 (by omega) | exact okM33 (by omega) | exact okM10 (by omega) | exact okM8 (by omega) | exact okM22 (by omega) | exact okM24 (by omega) | exact okM14 (by omega) | exact okMa31 (by omega) | exact okMa35 (by omega) | exact okMa36 (by omega) | exact okMa3 (by omega) | exact okMr (by omega) | (unfold okM; refine ⟨?_, ?_, ?_, ?_, ?_, ?_, ?_, ?_, ?_, ?_, ?_, ?_⟩ <;> intro h <;> omega))) (by first | exact okMo (by decide) (by decide) (by decide) (by decide) (by decide) | exact okMf (by decide) (by decide) (by decide) (by decide) (by decide) (by decide) (by decide) (by decide) | exact okM30 (by omega) | exact okM42 (by omega) | exact okM33 (by omega) | exact okM10 (by omega) | exact okM8 (by omega) | exact okM22 (by omega) | exact okM24 (by omega) | exact okM14 (by omega) | exact okMa31 (by omega) | exact okMa35 (by omega) | exact okMa36 (by omega) | exact okMa3 (by omega) | exact okMr (by omega) | (unfold okM; refine ⟨?_, ?_, ?_, ?_, ?_, ?_, ?_, ?_, ?_, ?_, ?_, ?_⟩ <;> intro h <;> omega))) (Fr_uI (Fr_uI (Fr_uI (Fr_uI hF (by omega)) (by omega)) (by omega)) (by omega)) (by first | exact ⟨tk_e0 hsp (by omega) (by omega) (by omega) (by omega), fun q9 => by exfalso; omega⟩ | exact ⟨tk_e1 (a := (I t 22).toInt) (x := I (t + 16) (Int32.toNatClampNeg (I t 22))) hsp (by omega) hz.symm rfl (by omega) (by omega) (by omega) (by omega) (by omega) (by omega), fun q9 => by exfalso; omega⟩ | exact ⟨tk_e2 hsp hq (by omega) (by omega) (fun l9 => by show ¬ tokOf (I0 (t + 16) (Int32.toNatClampNeg (I t 22))) = _; omega) (by omega) (by omega), fun q9 => by first | exact hv | (exfalso; omega)⟩)
              · skip
                have q7 : (59 : Int32).toInt = 59 := rfl
                have hc52 := Int32.toInt_inj.mpr hc52
                have q8 : (1 : Int32).toInt = 1 := rfl
                have q9 := i32_add ((uI (uI I t 24 (I t 22)) t 25 0) t 22) 1 (by omega) (by omega)
                have hr58 : (((uI (uI (uI (uI I t 24 (I t 22)) t 25 0) t 23 3) t 22 (((uI (uI I t 24 (I t 22)) t 25 0) t 22) + 1))) t 8).toInt = ((I t 8)).toInt := congrArg Int32.toInt (uI_sk (by decide) (uI_sk (by decide) (uI_sk (by decide) (uI_sk (by decide) rfl))))
                have hr59 : (((uI (uI (uI (uI I t 24 (I t 22)) t 25 0) t 23 3) t 22 (((uI (uI I t 24 (I t 22)) t 25 0) t 22) + 1))) t 22).toInt = ((((uI (uI I t 24 (I t 22)) t 25 0) t 22) + 1)).toInt := congrArg Int32.toInt (uI_ss _ _ _ _)
                have hr60 : (((uI (uI (uI (uI I t 24 (I t 22)) t 25 0) t 23 3) t 22 (((uI (uI I t 24 (I t 22)) t 25 0) t 22) + 1))) t 23).toInt = ((3 : Int32)).toInt := congrArg Int32.toInt (uI_sk (by decide) (uI_ss _ _ _ _))
                have q10 : (3 : Int32).toInt = 3 := rfl
                have hr61 : (((uI (uI (uI (uI I t 24 (I t 22)) t 25 0) t 23 3) t 22 (((uI (uI I t 24 (I t 22)) t 25 0) t 22) + 1))) t 24).toInt = ((I t 22)).toInt := congrArg Int32.toInt (uI_sk (by decide) (uI_sk (by decide) (uI_sk (by decide) (uI_ss _ _ _ _))))
                have hr62 : (((uI (uI (uI (uI I t 24 (I t 22)) t 25 0) t 23 3) t 22 (((uI (uI I t 24 (I t 22)) t 25 0) t 22) + 1))) t 25).toInt = ((0 : Int32)).toInt := congrArg Int32.toInt (uI_sk (by decide) (uI_sk (by decide) (uI_ss _ _ _ _)))
                exact hK _ (WM_uI (WM_uI (WM_uI (WM_uI hW (by first | exact okMo (by decide) (by decide) (by decide) (by decide) (by decide) | exact okMf (by decide) (by decide) (by decide) (by decide) (by decide) (by decide) (by decide) (by decide) | exact okM30 (by omega) | exact okM42 (by omega) | exact okM33 (by omega) | exact okM10 (by omega) | exact okM8 (by omega) | exact okM22 (by omega) | exact okM24 (by omega) | exact okM14 (by omega) | exact okMa31 (by omega) | exact okMa35 (by omega) | exact okMa36 (by omega) | exact okMa3 (by omega) | exact okMr (by omega) | (unfold okM; refine ⟨?_, ?_, ?_, ?_, ?_, ?_, ?_, ?_, ?_, ?_, ?_, ?_⟩ <;> intro h <;> omega))) (by first | exact okMo (by decide) (by decide) (by decide) (by decide) (by decide) | exact okMf (by decide) (by decide) (by decide) (by decide) (by decide) (by decide) (by decide) (by decide) | exact okM30 (by omega) | exact okM42 (by omega) | exact okM33 (by omega) | exact okM10 (by omega) | exact okM8 (by omega) | exact okM22 (by omega) | exact okM24 (by omega) | exact okM14 (by omega) | exact okMa31 (by omega) | exact okMa35 (by omega) | exact okMa36 (by omega) | exact okMa3 (by omega) | exact okMr (by omega) | (unfold okM; refine ⟨?_, ?_, ?_, ?_, ?_, ?_, ?_, ?_, ?_, ?_, ?_, ?_⟩ <;> intro h <;> omega))) (by first | exact okMo (by decide) (by decide) (by decide) (by decide) (by decide) | exact okMf (by decide) (by decide) (by decide) (by decide) (by decide) (by decide) (by decide) (by decide) | exact okM30 (by omega) | exact okM42 (by omega) | exact okM33 (by omega) | exact okM10 (by omega) | exact okM8 (by omega) | exact okM22 (by omega) | exact okM24 (by omega) | exact okM14 (by omega) | exact okMa31 (by omega) | exact okMa35 (by omega) | exact okMa36 (by omega) | exact okMa3 (by omega) | exact okMr (by omega) | (unfold okM; refine ⟨?_, ?_, ?_, ?_, ?_, ?_, ?_, ?_, ?_, ?_, ?_, ?_⟩ <;> intro h <;> omega))) (by first | exact okMo (by decide) (by decide) (by decide) (by decide) (by decide) | exact okMf (by decide) (by decide) (by decide) (by decide) (by decide) (by decide) (by decide) (by decide) | exact okM30 (by omega) | exact okM42 (by omega) | exact okM33 (by omega) | exact okM10 (by omega) | exact okM8 (by omega) | exact okM22 (by omega) | exact okM24 (by omega) | exact okM14 (by omega) | exact okMa31 (by omega) | exact okMa35 (by omega) | exact okMa36 (by omega) | exact okMa3 (by omega) | exact okMr (by omega) | (unfold okM; refine ⟨?_, ?_, ?_, ?_, ?_, ?_, ?_, ?_, ?_, ?_, ?_, ?_⟩ <;> intro h <;> omega))) (Fr_uI (Fr_uI (Fr_uI (Fr_uI hF (by omega)) (by omega)) (by omega)) (by omega)) (by first | exact ⟨tk_e0 hsp (by omega) (by omega) (by omega) (by omega), fun q9 => by exfalso; omega⟩ | exact ⟨tk_e1 (a := (I t 22).toInt) (x := I (t + 16) (Int32.toNatClampNeg (I t 22))) hsp (by omega) hz.symm rfl (by omega) (by omega) (by omega) (by omega) (by omega) (by omega), fun q9 => by exfalso; omega⟩ | exact ⟨tk_e2 hsp hq (by omega) (by omega) (fun l9 => by show ¬ tokOf (I0 (t + 16) (Int32.toNatClampNeg (I t 22))) = _; omega) (by omega) (by omega), fun q9 => by first | exact hv | (exfalso; omega)⟩)
            · skip
              have q6 := i32_lo v14
              have hc50 : ¬ (v14).toInt = (0 : Int32).toInt := fun z => hc50 (Int32.toInt_inj.mp z)
              have hr63 : (((uI (uI (uI I t 24 (I t 22)) t 25 0) t 23 2)) t 22).toInt = ((I t 22)).toInt := congrArg Int32.toInt (uI_sk (by decide) (uI_sk (by decide) (uI_sk (by decide) rfl)))
              have hr64 : (((uI (uI (uI I t 24 (I t 22)) t 25 0) t 23 2)) t 24).toInt = ((I t 22)).toInt := congrArg Int32.toInt (uI_sk (by decide) (uI_sk (by decide) (uI_ss _ _ _ _)))
              have hr65 : (((uI (uI (uI I t 24 (I t 22)) t 25 0) t 23 2)) t 8).toInt = ((I t 8)).toInt := congrArg Int32.toInt (uI_sk (by decide) (uI_sk (by decide) (uI_sk (by decide) rfl)))
              have hr66 : (((uI (uI (uI I t 24 (I t 22)) t 25 0) t 23 2)) t 23).toInt = ((2 : Int32)).toInt := congrArg Int32.toInt (uI_ss _ _ _ _)
              have q7 : (2 : Int32).toInt = 2 := rfl
              have hr67 : (((uI (uI (uI I t 24 (I t 22)) t 25 0) t 23 2)) t 25).toInt = ((0 : Int32)).toInt := congrArg Int32.toInt (uI_sk (by decide) (uI_ss _ _ _ _))
              exact gX12_look_149 ht   hK  ((250 - ((uI (uI (uI I t 24 (I t 22)) t 25 0) t 23 2) t 22).toInt).toNat + 1) _ (WM_uI (WM_uI (WM_uI hW (by first | exact okMo (by decide) (by decide) (by decide) (by decide) (by decide) | exact okMf (by decide) (by decide) (by decide) (by decide) (by decide) (by decide) (by decide) (by decide) | exact okM30 (by omega) | exact okM42 (by omega) | exact okM33 (by omega) | exact okM10 (by omega) | exact okM8 (by omega) | exact okM22 (by omega) | exact okM24 (by omega) | exact okM14 (by omega) | exact okMa31 (by omega) | exact okMa35 (by omega) | exact okMa36 (by omega) | exact okMa3 (by omega) | exact okMr (by omega) | (unfold okM; refine ⟨?_, ?_, ?_, ?_, ?_, ?_, ?_, ?_, ?_, ?_, ?_, ?_⟩ <;> intro h <;> omega))) (by first | exact okMo (by decide) (by decide) (by decide) (by decide) (by decide) | exact okMf (by decide) (by decide) (by decide) (by decide) (by decide) (by decide) (by decide) (by decide) | exact okM30 (by omega) | exact okM42 (by omega) | exact okM33 (by omega) | exact okM10 (by omega) | exact okM8 (by omega) | exact okM22 (by omega) | exact okM24 (by omega) | exact okM14 (by omega) | exact okMa31 (by omega) | exact okMa35 (by omega) | exact okMa36 (by omega) | exact okMa3 (by omega) | exact okMr (by omega) | (unfold okM; refine ⟨?_, ?_, ?_, ?_, ?_, ?_, ?_, ?_, ?_, ?_, ?_, ?_⟩ <;> intro h <;> omega))) (by first | exact okMo (by decide) (by decide) (by decide) (by decide) (by decide) | exact okMf (by decide) (by decide) (by decide) (by decide) (by decide) (by decide) (by decide) (by decide) | exact okM30 (by omega) | exact okM42 (by omega) | exact okM33 (by omega) | exact okM10 (by omega) | exact okM8 (by omega) | exact okM22 (by omega) | exact okM24 (by omega) | exact okM14 (by omega) | exact okMa31 (by omega) | exact okMa35 (by omega) | exact okMa36 (by omega) | exact okMa3 (by omega) | exact okMr (by omega) | (unfold okM; refine ⟨?_, ?_, ?_, ?_, ?_, ?_, ?_, ?_, ?_, ?_, ?_, ?_⟩ <;> intro h <;> omega))) (Fr_uI (Fr_uI (Fr_uI hF (by omega)) (by omega)) (by omega)) (by omega) (by omega) (spx_c hsp (by omega)) (by first | exact tkr_0 (a := (I t 22).toInt) (x := I (t + 16) (Int32.toNatClampNeg (I t 22))) hz.symm rfl (by omega) (by omega) (by omega) (by omega) (by omega) (by omega) | exact tkr_s (x := I (t + 16) (Int32.toNatClampNeg (I t 22))) hq hz.symm (by omega) (by omega) (by omega) (by omega) (by omega) (by omega)) (by first | exact Or.inl ⟨by omega, by omega⟩ | exact vq_s (x := I (t + 16) (Int32.toNatClampNeg (I t 22))) hv hz.symm (by omega) (by omega) (by omega) (by omega) (by omega)) (by omega)
          · skip
            have q4 := i32_lo v11
            have q5 : (0 : Int32).toInt = 0 := rfl
            have hc45 : ¬ (v11).toInt = (0 : Int32).toInt := fun z => hc45 (Int32.toInt_inj.mp z)
            have hr68 : (((uI (uI (uI I t 24 (I t 22)) t 25 0) t 23 1)) t 22).toInt = ((I t 22)).toInt := congrArg Int32.toInt (uI_sk (by decide) (uI_sk (by decide) (uI_sk (by decide) rfl)))
            have hr69 : (((uI (uI (uI I t 24 (I t 22)) t 25 0) t 23 1)) t 24).toInt = ((I t 22)).toInt := congrArg Int32.toInt (uI_sk (by decide) (uI_sk (by decide) (uI_ss _ _ _ _)))
            have hr70 : (((uI (uI (uI I t 24 (I t 22)) t 25 0) t 23 1)) t 8).toInt = ((I t 8)).toInt := congrArg Int32.toInt (uI_sk (by decide) (uI_sk (by decide) (uI_sk (by decide) rfl)))
            have hr71 : (((uI (uI (uI I t 24 (I t 22)) t 25 0) t 23 1)) t 23).toInt = ((1 : Int32)).toInt := congrArg Int32.toInt (uI_ss _ _ _ _)
            have q6 : (1 : Int32).toInt = 1 := rfl
            exact gX12_look_90 ht   hK  ((250 - ((uI (uI (uI I t 24 (I t 22)) t 25 0) t 23 1) t 22).toInt).toNat + 1) _ (WM_uI (WM_uI (WM_uI hW (by first | exact okMo (by decide) (by decide) (by decide) (by decide) (by decide) | exact okMf (by decide) (by decide) (by decide) (by decide) (by decide) (by decide) (by decide) (by decide) | exact okM30 (by omega) | exact okM42 (by omega) | exact okM33 (by omega) | exact okM10 (by omega) | exact okM8 (by omega) | exact okM22 (by omega) | exact okM24 (by omega) | exact okM14 (by omega) | exact okMa31 (by omega) | exact okMa35 (by omega) | exact okMa36 (by omega) | exact okMa3 (by omega) | exact okMr (by omega) | (unfold okM; refine ⟨?_, ?_, ?_, ?_, ?_, ?_, ?_, ?_, ?_, ?_, ?_, ?_⟩ <;> intro h <;> omega))) (by first | exact okMo (by decide) (by decide) (by decide) (by decide) (by decide) | exact okMf (by decide) (by decide) (by decide) (by decide) (by decide) (by decide) (by decide) (by decide) | exact okM30 (by omega) | exact okM42 (by omega) | exact okM33 (by omega) | exact okM10 (by omega) | exact okM8 (by omega) | exact okM22 (by omega) | exact okM24 (by omega) | exact okM14 (by omega) | exact okMa31 (by omega) | exact okMa35 (by omega) | exact okMa36 (by omega) | exact okMa3 (by omega) | exact okMr (by omega) | (unfold okM; refine ⟨?_, ?_, ?_, ?_, ?_, ?_, ?_, ?_, ?_, ?_, ?_, ?_⟩ <;> intro h <;> omega))) (by first | exact okMo (by decide) (by decide) (by decide) (by decide) (by decide) | exact okMf (by decide) (by decide) (by decide) (by decide) (by decide) (by decide) (by decide) (by decide) | exact okM30 (by omega) | exact okM42 (by omega) | exact okM33 (by omega) | exact okM10 (by omega) | exact okM8 (by omega) | exact okM22 (by omega) | exact okM24 (by omega) | exact okM14 (by omega) | exact okMa31 (by omega) | exact okMa35 (by omega) | exact okMa36 (by omega) | exact okMa3 (by omega) | exact okMr (by omega) | (unfold okM; refine ⟨?_, ?_, ?_, ?_, ?_, ?_, ?_, ?_, ?_, ?_, ?_, ?_⟩ <;> intro h <;> omega))) (Fr_uI (Fr_uI (Fr_uI hF (by omega)) (by omega)) (by omega)) (by omega) (by omega) (spx_c hsp (by omega)) (by first | exact tkr_0 (a := (I t 22).toInt) (x := I (t + 16) (Int32.toNatClampNeg (I t 22))) hz.symm rfl (by omega) (by omega) (by omega) (by omega) (by omega) (by omega) | exact tkr_s (x := I (t + 16) (Int32.toNatClampNeg (I t 22))) hq hz.symm (by omega) (by omega) (by omega) (by omega) (by omega) (by omega)) (by omega)
        · skip
          have hc42 := Int32.toInt_inj.mpr hc42
          have hr72 : (((uI (uI (uI I t 24 (I t 22)) t 25 0) t 23 0)) t 8).toInt = ((I t 8)).toInt := congrArg Int32.toInt (uI_sk (by decide) (uI_sk (by decide) (uI_sk (by decide) rfl)))
          have hr73 : (((uI (uI (uI I t 24 (I t 22)) t 25 0) t 23 0)) t 22).toInt = ((I t 22)).toInt := congrArg Int32.toInt (uI_sk (by decide) (uI_sk (by decide) (uI_sk (by decide) rfl)))
          have hr74 : (((uI (uI (uI I t 24 (I t 22)) t 25 0) t 23 0)) t 23).toInt = ((0 : Int32)).toInt := congrArg Int32.toInt (uI_ss _ _ _ _)
          have q4 : (0 : Int32).toInt = 0 := rfl
          have hr75 : (((uI (uI (uI I t 24 (I t 22)) t 25 0) t 23 0)) t 24).toInt = ((I t 22)).toInt := congrArg Int32.toInt (uI_sk (by decide) (uI_sk (by decide) (uI_ss _ _ _ _)))
          have hr76 : (((uI (uI (uI I t 24 (I t 22)) t 25 0) t 23 0)) t 25).toInt = ((0 : Int32)).toInt := congrArg Int32.toInt (uI_sk (by decide) (uI_ss _ _ _ _))
          exact hK _ (WM_uI (WM_uI (WM_uI hW (by first | exact okMo (by decide) (by decide) (by decide) (by decide) (by decide) | exact okMf (by decide) (by decide) (by decide) (by decide) (by decide) (by decide) (by decide) (by decide) | exact okM30 (by omega) | exact okM42 (by omega) | exact okM33 (by omega) | exact okM10 (by omega) | exact okM8 (by omega) | exact okM22 (by omega) | exact okM24 (by omega) | exact okM14 (by omega) | exact okMa31 (by omega) | exact okMa35 (by omega) | exact okMa36 (by omega) | exact okMa3 (by omega) | exact okMr (by omega) | (unfold okM; refine ⟨?_, ?_, ?_, ?_, ?_, ?_, ?_, ?_, ?_, ?_, ?_, ?_⟩ <;> intro h <;> omega))) (by first | exact okMo (by decide) (by decide) (by decide) (by decide) (by decide) | exact okMf (by decide) (by decide) (by decide) (by decide) (by decide) (by decide) (by decide) (by decide) | exact okM30 (by omega) | exact okM42 (by omega) | exact okM33 (by omega) | exact okM10 (by omega) | exact okM8 (by omega) | exact okM22 (by omega) | exact okM24 (by omega) | exact okM14 (by omega) | exact okMa31 (by omega) | exact okMa35 (by omega) | exact okMa36 (by omega) | exact okMa3 (by omega) | exact okMr (by omega) | (unfold okM; refine ⟨?_, ?_, ?_, ?_, ?_, ?_, ?_, ?_, ?_, ?_, ?_, ?_⟩ <;> intro h <;> omega))) (by first | exact okMo (by decide) (by decide) (by decide) (by decide) (by decide) | exact okMf (by decide) (by decide) (by decide) (by decide) (by decide) (by decide) (by decide) (by decide) | exact okM30 (by omega) | exact okM42 (by omega) | exact okM33 (by omega) | exact okM10 (by omega) | exact okM8 (by omega) | exact okM22 (by omega) | exact okM24 (by omega) | exact okM14 (by omega) | exact okMa31 (by omega) | exact okMa35 (by omega) | exact okMa36 (by omega) | exact okMa3 (by omega) | exact okMr (by omega) | (unfold okM; refine ⟨?_, ?_, ?_, ?_, ?_, ?_, ?_, ?_, ?_, ?_, ?_, ?_⟩ <;> intro h <;> omega))) (Fr_uI (Fr_uI (Fr_uI hF (by omega)) (by omega)) (by omega)) (by first | exact ⟨tk_e0 hsp (by omega) (by omega) (by omega) (by omega), fun q9 => by exfalso; omega⟩ | exact ⟨tk_e1 (a := (I t 22).toInt) (x := I (t + 16) (Int32.toNatClampNeg (I t 22))) hsp (by omega) hz.symm rfl (by omega) (by omega) (by omega) (by omega) (by omega) (by omega), fun q9 => by exfalso; omega⟩ | exact ⟨tk_e2 hsp hq (by omega) (by omega) (fun l9 => by show ¬ tokOf (I0 (t + 16) (Int32.toNatClampNeg (I t 22))) = _; omega) (by omega) (by omega), fun q9 => by first | exact hv | (exfalso; omega)⟩)
      · skip
        have q3 : (32 : Int32).toInt = 32 := rfl
        have hc40 := Int32.toInt_inj.mpr hc40
        have q4 : (1 : Int32).toInt = 1 := rfl
        have q5 := i32_add (I t 22) 1 (by omega) (by omega)
        have hr77 : (((uI I t 22 ((I t 22) + 1))) t 22).toInt = (((I t 22) + 1)).toInt := congrArg Int32.toInt (uI_ss _ _ _ _)
        have hr78 : (((uI I t 22 ((I t 22) + 1))) t 8).toInt = ((I t 8)).toInt := congrArg Int32.toInt (uI_sk (by decide) rfl)
        exact ih _ (WM_uI hW (by first | exact okMo (by decide) (by decide) (by decide) (by decide) (by decide) | exact okMf (by decide) (by decide) (by decide) (by decide) (by decide) (by decide) (by decide) (by decide) | exact okM30 (by omega) | exact okM42 (by omega) | exact okM33 (by omega) | exact okM10 (by omega) | exact okM8 (by omega) | exact okM22 (by omega) | exact okM24 (by omega) | exact okM14 (by omega) | exact okMa31 (by omega) | exact okMa35 (by omega) | exact okMa36 (by omega) | exact okMa3 (by omega) | exact okMr (by omega) | (unfold okM; refine ⟨?_, ?_, ?_, ?_, ?_, ?_, ?_, ?_, ?_, ?_, ?_, ?_⟩ <;> intro h <;> omega))) (Fr_uI hF (by omega)) (by omega) (by first | exact spx_0 (by omega) | exact spx_s hsp (show (_ : Int) = 32 from (by first | exact (congrArg Int32.toInt hz.symm).trans (by omega) | omega)) (by omega) (by omega)) (by omega)
