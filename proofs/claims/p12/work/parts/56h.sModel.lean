theorem sfX12_wrong {G : jdG} {n : Nat} {Z : jdL} {J : jdJ} {K : Int32 → jdI → jdJ → Prop}  {I : jdI} {t : Nat} (ht : zModel Z t)  (hW : WM 7 t I)  (hK : ∀ (v : Int32) (I2 : jdI), WM 7 t I2 → Fr (fun a k => a = t ∧ k = 26) I I2 → (v.toInt = 0) → K v I2 J) : Cl G mX12_wrong n 0 0 [.ref (gb G + t)] Z I J (qi Z K) := by
  refine eX12_wrong ht ?_
  have hwI := WM_f hW
  exact hK _ _ (WM_uI hW (by first | exact okMo (by decide) (by decide) (by decide) (by decide) (by decide) | exact okMf (by decide) (by decide) (by decide) (by decide) (by decide) (by decide) (by decide) (by decide) | exact okM30 (by omega) | exact okM42 (by omega) | exact okM33 (by omega) | exact okM10 (by omega) | exact okM8 (by omega) | exact okM22 (by omega) | exact okM24 (by omega) | exact okM14 (by omega) | exact okMa31 (by omega) | exact okMa35 (by omega) | exact okMa36 (by omega) | exact okMa3 (by omega) | exact okMr (by omega) | (unfold okM; refine ⟨?_, ?_, ?_, ?_, ?_, ?_, ?_, ?_, ?_, ?_, ?_, ?_⟩ <;> intro h <;> omega))) (Fr_uI Fr.rf (by omega)) rfl
theorem lX12_isWord_28 {G : jdG} {n : Nat} {Z : jdL} {J : jdJ} {rc rs : Nat} {K : Int32 → jdI → jdJ → Prop}  {I : jdI} {sA : Nat → Nat} {sV : Nat → Nat} {t : Nat} {u1 : Nat} (hG : gOK G sA sV) (ht : zModel Z t) (hsi : u1 < 14)  (hW : WM 7 t I)  (hK : ∀ (v : Int32), (v.toInt = 0 ∨ (v.toInt = 1 ∧ (I t 23).toInt = 1)) → K v I J) : ∀ m : Nat, ∀ (x2 : Int32), (0 ≤ x2.toInt ∧ x2.toInt ≤ 7) → ((I t 23).toInt = 1) → ((I t 22).toInt - (I t 24).toInt = (sl u1).toInt) → (7) - x2.toInt < (m : Int) → Jd G mX12_isWord (jdFm G (qi Z K)) (n + 4) rc rs 28 [(0, .ref (gb G + t)), (1, .ref (sA u1)), (2, .int x2)] [] Z I J := by
  intro m
  induction m with
  | zero =>
    intro x2 hx2 htk hln hm
    have hwI := WM_f hW
    omega
  | succ m ih =>
    intro x2 hx2 htk hln hm
    have hwI := WM_f hW
    refine rX12_isWord_28 hG ht hsi ?_
    have hsl := sl_r u1
    refine sfJ0_length_8abf5 hG hsi   (fun v2  hp1 => ?_)
    have hl := hp1
    have hlt := congrArg Int32.toInt hp1
    have hsl := sl_r u1
    refine ⟨fun hc2 => ?_, fun hc3 => ?_⟩
    · skip
      have q1 := i32_lo v2
      have q2 := i32_lo x2
      have hc2 := Int32.le_iff_toInt_le.mp hc2
      have q3 : (1 : Int32).toInt = 1 := rfl
      exact hK _  (by omega)
    · skip
      have q1 := i32_lo v2
      have q2 := i32_lo x2
      have hc3 := mt Int32.le_iff_toInt_le.mpr hc3
      have q3 := i32_lo (I t 24)
      have q4 := i32_add (I t 24) x2 (by omega) (by omega)
      refine ⟨vp_of (by omega) (by omega), ?_⟩
      refine sfJ0_charAt_5068e hG hsi  (by rw [← hl]; omega) (fun v5  hp4 => ?_)
      refine ⟨fun hc5 => ?_, fun hc6 => ?_⟩
      · skip
        have q5 := i32_lo v5
        have hc5 := Int32.toInt_inj.mpr hc5
        have q6 : (1 : Int32).toInt = 1 := rfl
        have q7 := i32_add x2 1 (by omega) (by omega)
        exact ih (x2 + 1) (by omega) (by omega) (by omega) (by omega)
      · skip
        have q5 := i32_lo v5
        have hc6 : ¬ ((I (t + 16) (Int32.toNatClampNeg ((I t 24) + x2)))).toInt = (v5).toInt := fun z => hc6 (Int32.toInt_inj.mp z)
        have q6 : (0 : Int32).toInt = 0 := rfl
        exact hK _  (by omega)
theorem sfX12_isWord {G : jdG} {n : Nat} {Z : jdL} {J : jdJ} {K : Int32 → jdI → jdJ → Prop}  {I : jdI} {sA : Nat → Nat} {sV : Nat → Nat} {t : Nat} {u1 : Nat} (hG : gOK G sA sV) (ht : zModel Z t) (hsi : u1 < 14)  (hW : WM 7 t I)  (hK : ∀ (v : Int32), (v.toInt = 0 ∨ (v.toInt = 1 ∧ (I t 23).toInt = 1)) → K v I J) : Cl G mX12_isWord (n + 4) 0 0 [.ref (gb G + t), .ref (sA u1)] Z I J (qi Z K) := by
  refine eX12_isWord hG ht hsi ?_
  have hwI := WM_f hW
  refine ⟨fun hc1 => ?_, fun hc2 => ?_⟩
  · skip
    have q1 := i32_lo (I t 23)
    have q2 : (1 : Int32).toInt = 1 := rfl
    have hc1 : ¬ ((I t 23)).toInt = (1 : Int32).toInt := fun z => hc1 (Int32.toInt_inj.mp z)
    have q3 : (0 : Int32).toInt = 0 := rfl
    exact hK _  (by omega)
  · skip
    have q1 := i32_lo (I t 23)
    have q2 : (1 : Int32).toInt = 1 := rfl
    have hc2 := Int32.toInt_inj.mpr hc2
    refine sfJ0_length_8abf5 hG hsi   (fun v2  hp3 => ?_)
    have hl := hp3
    have hlt := congrArg Int32.toInt hp3
    have hsl := sl_r u1
    refine ⟨fun hc4 => ?_, fun hc5 => ?_⟩
    · skip
      have q3 := i32_lo (I t 22)
      have q4 := i32_lo (I t 24)
      have q5 := i32_subI (I t 22) (I t 24)
      have q6 := i32_lo v2
      have hc4 := Int32.toInt_inj.mpr hc4
      have q7 : (0 : Int32).toInt = 0 := rfl
      exact lX12_isWord_28 hG ht hsi  hW  hK  (((7) - (0 : Int32).toInt).toNat + 1) 0 (by omega) (by omega) (by omega) (by omega)
    · skip
      have q3 := i32_lo (I t 22)
      have q4 := i32_lo (I t 24)
      have q5 := i32_subI (I t 22) (I t 24)
      have q6 := i32_lo v2
      have hc5 : ¬ (((I t 22) - (I t 24))).toInt = (v2).toInt := fun z => hc5 (Int32.toInt_inj.mp z)
      have q7 : (0 : Int32).toInt = 0 := rfl
      exact hK _  (by omega)
theorem sfX12_number {G : jdG} {n : Nat} {Z : jdL} {J : jdJ} {K : Int32 → jdI → jdJ → Prop}  {I : jdI} {t : Nat} {x1 : Int32} {x2 : Int32} {x3 : Int32} (ht : zModel Z t)  (hW : WM 7 t I) (hat : (I t 22).toInt ≤ (I t 8).toInt) (hx1 : x1.toInt = 0 ∨ x1.toInt = 1) (hK : ∀ (v : Int32) (I2 : jdI), WM 7 t I2 → Fr (fun a k => (a = t ∧ 22 ≤ k ∧ k ≤ 26) ∨ a = t + 29) I I2 → ((v.toInt = 0 ∨ v.toInt = 1) ∧ (I t 22).toInt ≤ (I2 t 22).toInt ∧ (I2 t 22).toInt ≤ (I2 t 8).toInt ∧ (v.toInt = 1 → ((I2 t 23).toInt = 3 → (I t 22).toInt < (I2 t 22).toInt) ∧ x2.toInt ≤ (I t 25).toInt ∧ (I t 25).toInt ≤ x3.toInt ∧ (x1.toInt = 0 → (I2 (t + 29) 0).toInt = (I t 25).toInt) ∧ (x1.toInt = 1 → (I2 (t + 29) 1).toInt = (I t 25).toInt ∧ (I2 (t + 29) 0).toInt = (I (t + 29) 0).toInt))) → K v I2 J) : Cl G mX12_number (n + 2) 0 0 [.ref (gb G + t), .int x1, .int x2, .int x3] Z I J (qi Z K) := by
  refine eX12_number ht ?_
  have hwI := WM_f hW
  refine ⟨fun hc1 => ?_, fun hc2 => ?_⟩
  · skip
    have q1 := i32_lo (I t 23)
    have q2 : (2 : Int32).toInt = 2 := rfl
    have hc1 : ¬ ((I t 23)).toInt = (2 : Int32).toInt := fun z => hc1 (Int32.toInt_inj.mp z)
    refine sfX12_wrong ht hW  (fun v2 I1 hWI1 hFI1 hp3 => ?_)
    have hwI1 := WM_f hWI1
    first | have hk4 : (I1 t 8).toInt = (I t 8).toInt := (by rw [hFI1 t 8 (by omega)]) | skip
    first | have hk5 : (I1 t 10).toInt = (I t 10).toInt := (by rw [hFI1 t 10 (by omega)]) | skip
    first | have hk6 : (I1 t 14).toInt = (I t 14).toInt := (by rw [hFI1 t 14 (by omega)]) | skip
    first | have hk7 : (I1 t 22).toInt = (I t 22).toInt := (by rw [hFI1 t 22 (by omega)]) | skip
    first | have hk8 : (I1 t 23).toInt = (I t 23).toInt := (by rw [hFI1 t 23 (by omega)]) | skip
    have q3 := i32_lo v2
    refine ⟨narrow_b (by omega), ?_⟩
    exact hK _ _ hWI1 (Fr.tr Fr.rf hFI1 (by intro a k h; omega)) (by omega)
  · skip
    have q1 := i32_lo (I t 23)
    have q2 : (2 : Int32).toInt = 2 := rfl
    have hc2 := Int32.toInt_inj.mpr hc2
    have q3 := i32_lo (I t 25)
    have q4 : (Int32.toInt64 (I t 25)).toInt = ((I t 25)).toInt := Int32.toInt_toInt64 _
    have q5 := i32_lo x2
    have q6 : (Int32.toInt64 x2).toInt = (x2).toInt := Int32.toInt_toInt64 _
    have q7 := i32_lo x3
    have q8 : (Int32.toInt64 x3).toInt = (x3).toInt := Int32.toInt_toInt64 _
    refine sfX12_in  trivial  (fun v4  hp9 => ?_)
    refine ⟨fun hc10 => ?_, fun hc11 => ?_⟩
    · skip
      have q9 := i32_lo v4
      have q10 : (0 : Int32).toInt = 0 := rfl
      have hc10 : ¬ (v4).toInt = (0 : Int32).toInt := fun z => hc10 (Int32.toInt_inj.mp z)
      have q11 := i32_lo x1
      refine ⟨vp_of (by omega) (by omega), ?_⟩
      have hr13 : (((uI I (t + 29) (Int32.toNatClampNeg x1) (I t 25))) t 22).toInt = ((I t 22)).toInt := congrArg Int32.toInt (uI_ne (by omega) rfl)
      have hr14 : (((uI I (t + 29) (Int32.toNatClampNeg x1) (I t 25))) t 8).toInt = ((I t 8)).toInt := congrArg Int32.toInt (uI_ne (by omega) rfl)
      refine sfX12_look ht (WM_uI hW (by first | exact okMo (by decide) (by decide) (by decide) (by decide) (by decide) | exact okMf (by decide) (by decide) (by decide) (by decide) (by decide) (by decide) (by decide) (by decide) | exact okM30 (by omega) | exact okM42 (by omega) | exact okM33 (by omega) | exact okM10 (by omega) | exact okM8 (by omega) | exact okM22 (by omega) | exact okM24 (by omega) | exact okM14 (by omega) | exact okMa31 (by omega) | exact okMa35 (by omega) | exact okMa36 (by omega) | exact okMa3 (by omega) | exact okMr (by omega) | (unfold okM; refine ⟨?_, ?_, ?_, ?_, ?_, ?_, ?_, ?_, ?_, ?_, ?_, ?_⟩ <;> intro h <;> omega))) (by omega) (fun I6 hWI6 hFI6 hp12 => ?_)
      have hwI6 := WM_f hWI6
      first | have hk15 : (I6 t 8).toInt = ((uI I (t + 29) (Int32.toNatClampNeg x1) (I t 25)) t 8).toInt := (by rw [hFI6 t 8 (by omega)]) | skip
      first | have hk16 : (I6 t 10).toInt = ((uI I (t + 29) (Int32.toNatClampNeg x1) (I t 25)) t 10).toInt := (by rw [hFI6 t 10 (by omega)]) | skip
      have hr17 : (((uI I (t + 29) (Int32.toNatClampNeg x1) (I t 25))) t 10).toInt = ((I t 10)).toInt := congrArg Int32.toInt (uI_ne (by omega) rfl)
      first | have hk18 : (I6 t 14).toInt = ((uI I (t + 29) (Int32.toNatClampNeg x1) (I t 25)) t 14).toInt := (by rw [hFI6 t 14 (by omega)]) | skip
      have hr19 : (((uI I (t + 29) (Int32.toNatClampNeg x1) (I t 25))) t 14).toInt = ((I t 14)).toInt := congrArg Int32.toInt (uI_ne (by omega) rfl)
      first | have hk20 : (I6 t 22).toInt = ((uI I (t + 29) (Int32.toNatClampNeg x1) (I t 25)) t 22).toInt := (by rw [hFI6 t 22 (by omega)]) | skip
      first | have hk21 : (I6 t 23).toInt = ((uI I (t + 29) (Int32.toNatClampNeg x1) (I t 25)) t 23).toInt := (by rw [hFI6 t 23 (by omega)]) | skip
      have hr22 : (((uI I (t + 29) (Int32.toNatClampNeg x1) (I t 25))) t 23).toInt = ((I t 23)).toInt := congrArg Int32.toInt (uI_ne (by omega) rfl)
      have hn1 := tn_eq x1
      have ht0 := hFI6 (t + 29) 0 (by omega)
      have ht1 := hFI6 (t + 29) 1 (by omega)
      have hta : x1.toInt = 0 → (I6 (t + 29) 0).toInt = (I t 25).toInt := fun h => by rw [ht0, uI_ap, if_pos ⟨rfl, by omega⟩]
      have htb : x1.toInt = 1 → (I6 (t + 29) 1).toInt = (I t 25).toInt := fun h => by rw [ht1, uI_ap, if_pos ⟨rfl, by omega⟩]
      have htc : x1.toInt = 1 → (I6 (t + 29) 0).toInt = (I (t + 29) 0).toInt := fun h => by rw [ht0, uI_ap, if_neg (by omega)]
      have q12 : (1 : Int32).toInt = 1 := rfl
      exact hK _ _ hWI6 (Fr.tr (Fr_uI Fr.rf (by omega)) hFI6 (by intro a k h; omega)) (by omega)
    · skip
      have q9 := i32_lo v4
      have q10 : (0 : Int32).toInt = 0 := rfl
      have hc11 := Int32.toInt_inj.mpr hc11
      refine sfX12_wrong ht hW  (fun v9 I8 hWI8 hFI8 hp23 => ?_)
      have hwI8 := WM_f hWI8
      first | have hk24 : (I8 t 8).toInt = (I t 8).toInt := (by rw [hFI8 t 8 (by omega)]) | skip
      first | have hk25 : (I8 t 10).toInt = (I t 10).toInt := (by rw [hFI8 t 10 (by omega)]) | skip
      first | have hk26 : (I8 t 14).toInt = (I t 14).toInt := (by rw [hFI8 t 14 (by omega)]) | skip
      first | have hk27 : (I8 t 22).toInt = (I t 22).toInt := (by rw [hFI8 t 22 (by omega)]) | skip
      first | have hk28 : (I8 t 23).toInt = (I t 23).toInt := (by rw [hFI8 t 23 (by omega)]) | skip
      have q11 := i32_lo v9
      refine ⟨narrow_b (by omega), ?_⟩
      exact hK _ _ hWI8 (Fr.tr Fr.rf hFI8 (by intro a k h; omega)) (by omega)
theorem sfX12_tells {G : jdG} {n : Nat} {Z : jdL} {J : jdJ} {K : Int32 → jdI → jdJ → Prop}  {I : jdI} {t : Nat} {x1 : Int32} {x2 : Int32} (ht : zModel Z t)  (hW : WM 7 t I) (hat : (I t 22).toInt ≤ (I t 8).toInt) (hK : ∀ (v : Int32) (I2 : jdI), WM 7 t I2 → Fr (fun a k => (a = t ∧ 22 ≤ k ∧ k ≤ 26) ∨ a = t + 29) I I2 → ((v.toInt = 0 ∨ v.toInt = 1) ∧ (I t 22).toInt ≤ (I2 t 22).toInt ∧ (I2 t 22).toInt ≤ (I2 t 8).toInt ∧ (v.toInt = 1 → ((I2 t 23).toInt = 3 → (I t 22).toInt < (I2 t 22).toInt) ∧ x1.toInt ≤ (I2 (t + 29) 0).toInt ∧ (I2 (t + 29) 0).toInt ≤ x2.toInt)) → K v I2 J) : Cl G mX12_tells (n + 3) 0 0 [.ref (gb G + t), .int x1, .int x2] Z I J (qi Z K) := by
  refine eX12_tells ht ?_
  have hwI := WM_f hW
  refine sfX12_look ht hW (by omega) (fun I1 hWI1 hFI1 hp1 => ?_)
  have hwI1 := WM_f hWI1
  first | have hk2 : (I1 t 8).toInt = (I t 8).toInt := (by rw [hFI1 t 8 (by omega)]) | skip
  first | have hk3 : (I1 t 10).toInt = (I t 10).toInt := (by rw [hFI1 t 10 (by omega)]) | skip
  first | have hk4 : (I1 t 14).toInt = (I t 14).toInt := (by rw [hFI1 t 14 (by omega)]) | skip
  first | have hk5 : (I1 t 22).toInt = (I t 22).toInt := (by rw [hFI1 t 22 (by omega)]) | skip
  first | have hk6 : (I1 t 23).toInt = (I t 23).toInt := (by rw [hFI1 t 23 (by omega)]) | skip
  have q1 : (0 : Int32).toInt = 0 := rfl
  have q2 := i32_lo x1
  have q3 := i32_lo x2
  refine sfX12_number ht hWI1 (by omega) (by omega) (fun v4 I3 hWI3 hFI3 hp7 => ?_)
  have hwI3 := WM_f hWI3
  first | have hk8 : (I3 t 8).toInt = (I1 t 8).toInt := (by rw [hFI3 t 8 (by omega)]) | skip
  first | have hk9 : (I3 t 10).toInt = (I1 t 10).toInt := (by rw [hFI3 t 10 (by omega)]) | skip
  first | have hk10 : (I3 t 14).toInt = (I1 t 14).toInt := (by rw [hFI3 t 14 (by omega)]) | skip
  first | have hk11 : (I3 t 22).toInt = (I1 t 22).toInt := (by rw [hFI3 t 22 (by omega)]) | skip
  first | have hk12 : (I3 t 23).toInt = (I1 t 23).toInt := (by rw [hFI3 t 23 (by omega)]) | skip
  have q4 := i32_lo v4
  refine ⟨narrow_b (by omega), ?_⟩
  exact hK _ _ hWI3 (Fr.tr (Fr.tr Fr.rf hFI1 (by intro a k h; omega)) hFI3 (by intro a k h; omega)) (by omega)
theorem sfX12_twoTold {G : jdG} {n : Nat} {Z : jdL} {J : jdJ} {K : Int32 → jdI → jdJ → Prop}  {I : jdI} {t : Nat} (ht : zModel Z t)  (hW : WM 7 t I) (hat : (I t 22).toInt ≤ (I t 8).toInt) (hK : ∀ (v : Int32) (I2 : jdI), WM 7 t I2 → Fr (fun a k => (a = t ∧ 22 ≤ k ∧ k ≤ 26) ∨ a = t + 29) I I2 → ((v.toInt = 0 ∨ v.toInt = 1) ∧ (I t 22).toInt ≤ (I2 t 22).toInt ∧ (I2 t 22).toInt ≤ (I2 t 8).toInt ∧ (v.toInt = 1 → ((I2 t 23).toInt = 3 → (I t 22).toInt < (I2 t 22).toInt) ∧ (0 ≤ (I2 (t + 29) 0).toInt ∧ (I2 (t + 29) 0).toInt < (I t 10).toInt) ∧ 0 ≤ (I2 (t + 29) 1).toInt ∧ (I2 (t + 29) 1).toInt < (I t 10).toInt)) → K v I2 J) : Cl G mX12_twoTold (n + 4) 0 0 [.ref (gb G + t)] Z I J (qi Z K) := by
  refine eX12_twoTold ht ?_
  have hwI := WM_f hW
  have q1 : (0 : Int32).toInt = 0 := rfl
  have q2 := i32_lo (I t 10)
  have q3 : (1 : Int32).toInt = 1 := rfl
  have q4 := i32_sub (I t 10) 1 (by omega) (by omega)
  refine sfX12_tells ht hW (by omega) (fun v2 I1 hWI1 hFI1 hp1 => ?_)
  have hwI1 := WM_f hWI1
  first | have hk2 : (I1 t 8).toInt = (I t 8).toInt := (by rw [hFI1 t 8 (by omega)]) | skip
  first | have hk3 : (I1 t 10).toInt = (I t 10).toInt := (by rw [hFI1 t 10 (by omega)]) | skip
  first | have hk4 : (I1 t 14).toInt = (I t 14).toInt := (by rw [hFI1 t 14 (by omega)]) | skip
  first | have hk5 : (I1 t 22).toInt = (I t 22).toInt := (by rw [hFI1 t 22 (by omega)]) | skip
  first | have hk6 : (I1 t 23).toInt = (I t 23).toInt := (by rw [hFI1 t 23 (by omega)]) | skip
  refine ⟨fun hc7 => ?_, fun hc8 => ?_⟩
  · skip
    have q5 := i32_lo v2
    have hc7 : ¬ (v2).toInt = (0 : Int32).toInt := fun z => hc7 (Int32.toInt_inj.mp z)
    refine ⟨fun hc9 => ?_, fun hc10 => ?_⟩
    · skip
      have q6 := i32_lo (I1 t 23)
      have q7 : (2 : Int32).toInt = 2 := rfl
      have hc9 : ¬ ((I1 t 23)).toInt = (2 : Int32).toInt := fun z => hc9 (Int32.toInt_inj.mp z)
      have q8 := i32_lo (I1 t 10)
      have q9 := i32_sub (I1 t 10) 1 (by omega) (by omega)
      refine sfX12_number ht hWI1 (by omega) (by omega) (fun v4 I3 hWI3 hFI3 hp11 => ?_)
      have hwI3 := WM_f hWI3
      first | have hk12 : (I3 t 8).toInt = (I1 t 8).toInt := (by rw [hFI3 t 8 (by omega)]) | skip
      first | have hk13 : (I3 t 10).toInt = (I1 t 10).toInt := (by rw [hFI3 t 10 (by omega)]) | skip
      first | have hk14 : (I3 t 14).toInt = (I1 t 14).toInt := (by rw [hFI3 t 14 (by omega)]) | skip
      first | have hk15 : (I3 t 22).toInt = (I1 t 22).toInt := (by rw [hFI3 t 22 (by omega)]) | skip
      first | have hk16 : (I3 t 23).toInt = (I1 t 23).toInt := (by rw [hFI3 t 23 (by omega)]) | skip
      have q10 := i32_lo v4
      refine ⟨narrow_b (by omega), ?_⟩
      exact hK _ _ hWI3 (Fr.tr (Fr.tr Fr.rf hFI1 (by intro a k h; omega)) hFI3 (by intro a k h; omega)) (by omega)
    · skip
      have q6 := i32_lo (I1 t 23)
      have q7 : (2 : Int32).toInt = 2 := rfl
      have hc10 := Int32.toInt_inj.mpr hc10
      refine ⟨fun hc17 => ?_, fun hc18 => ?_⟩
      · skip
        have q8 := i32_lo (I1 t 25)
        have hc17 : ¬ ((I1 t 25)).toInt = ((I1 (t + 29) 0)).toInt := fun z => hc17 (Int32.toInt_inj.mp z)
        have q9 := i32_lo (I1 t 10)
        have q10 := i32_sub (I1 t 10) 1 (by omega) (by omega)
        refine sfX12_number ht hWI1 (by omega) (by omega) (fun v6 I5 hWI5 hFI5 hp19 => ?_)
        have hwI5 := WM_f hWI5
        first | have hk20 : (I5 t 8).toInt = (I1 t 8).toInt := (by rw [hFI5 t 8 (by omega)]) | skip
        first | have hk21 : (I5 t 10).toInt = (I1 t 10).toInt := (by rw [hFI5 t 10 (by omega)]) | skip
        first | have hk22 : (I5 t 14).toInt = (I1 t 14).toInt := (by rw [hFI5 t 14 (by omega)]) | skip
        first | have hk23 : (I5 t 22).toInt = (I1 t 22).toInt := (by rw [hFI5 t 22 (by omega)]) | skip
        first | have hk24 : (I5 t 23).toInt = (I1 t 23).toInt := (by rw [hFI5 t 23 (by omega)]) | skip
        have q11 := i32_lo v6
        refine ⟨narrow_b (by omega), ?_⟩
        exact hK _ _ hWI5 (Fr.tr (Fr.tr Fr.rf hFI1 (by intro a k h; omega)) hFI5 (by intro a k h; omega)) (by omega)
      · skip
        have q8 := i32_lo (I1 t 25)
        have hc18 := Int32.toInt_inj.mpr hc18
        refine sfX12_wrong ht hWI1  (fun v8 I7 hWI7 hFI7 hp25 => ?_)
        have hwI7 := WM_f hWI7
        first | have hk26 : (I7 t 8).toInt = (I1 t 8).toInt := (by rw [hFI7 t 8 (by omega)]) | skip
        first | have hk27 : (I7 t 10).toInt = (I1 t 10).toInt := (by rw [hFI7 t 10 (by omega)]) | skip
        first | have hk28 : (I7 t 14).toInt = (I1 t 14).toInt := (by rw [hFI7 t 14 (by omega)]) | skip
        first | have hk29 : (I7 t 22).toInt = (I1 t 22).toInt := (by rw [hFI7 t 22 (by omega)]) | skip
        first | have hk30 : (I7 t 23).toInt = (I1 t 23).toInt := (by rw [hFI7 t 23 (by omega)]) | skip
        have q9 := i32_lo v8
        refine ⟨narrow_b (by omega), ?_⟩
        exact hK _ _ hWI7 (Fr.tr (Fr.tr Fr.rf hFI1 (by intro a k h; omega)) hFI7 (by intro a k h; omega)) (by omega)
  · skip
    have q5 := i32_lo v2
    have hc8 := Int32.toInt_inj.mpr hc8
    exact hK _ _ hWI1 (Fr.tr Fr.rf hFI1 (by intro a k h; omega)) (by omega)
theorem sfX12_knowTold {G : jdG} {n : Nat} {Z : jdL} {J : jdJ} {K : Int32 → jdI → jdJ → Prop}  {I : jdI} {sA : Nat → Nat} {sV : Nat → Nat} {t : Nat} (hG : gOK G sA sV) (ht : zModel Z t)  (hW : WM 7 t I) (hat : (I t 22).toInt ≤ (I t 8).toInt) (hK : ∀ (v : Int32) (I2 : jdI), WM 7 t I2 → Fr (fun a k => (a = t ∧ 22 ≤ k ∧ k ≤ 26) ∨ a = t + 29 ∨ (t + 21 ≤ a ∧ a ≤ t + 28)) I I2 → ((v.toInt = 0 ∨ v.toInt = 1) ∧ (I t 22).toInt ≤ (I2 t 22).toInt ∧ (I2 t 22).toInt ≤ (I2 t 8).toInt ∧ (v.toInt = 1 → (I2 t 23).toInt = 3 → (I t 22).toInt < (I2 t 22).toInt)) → K v I2 J) : Cl G mX12_knowTold (n + 5) 0 0 [.ref (gb G + t)] Z I J (qi Z K) := by
  refine eX12_knowTold hG ht ?_
  have hwI := WM_f hW
  refine sfX12_twoTold ht hW (by omega) (fun v2 I1 hWI1 hFI1 hp1 => ?_)
  have hwI1 := WM_f hWI1
  first | have hk2 : (I1 t 8).toInt = (I t 8).toInt := (by rw [hFI1 t 8 (by omega)]) | skip
  first | have hk3 : (I1 t 10).toInt = (I t 10).toInt := (by rw [hFI1 t 10 (by omega)]) | skip
  first | have hk4 : (I1 t 14).toInt = (I t 14).toInt := (by rw [hFI1 t 14 (by omega)]) | skip
  first | have hk5 : (I1 t 22).toInt = (I t 22).toInt := (by rw [hFI1 t 22 (by omega)]) | skip
  first | have hk6 : (I1 t 23).toInt = (I t 23).toInt := (by rw [hFI1 t 23 (by omega)]) | skip
  refine ⟨fun hc7 => ?_, fun hc8 => ?_⟩
  · skip
    have q1 := i32_lo v2
    have q2 : (0 : Int32).toInt = 0 := rfl
    have hc7 : ¬ (v2).toInt = (0 : Int32).toInt := fun z => hc7 (Int32.toInt_inj.mp z)
    refine sfX12_isWord hG ht (by decide) hWI1  (fun v4  hp9 => ?_)
    refine ⟨fun hc10 => ?_, fun hc11 => ?_⟩
    · skip
      have q3 := i32_lo v4
      have hc10 := Int32.toInt_inj.mpr hc10
      refine sfX12_knows ht (by decide) hWI1 (by omega) (by omega) (fun I5 hWI5 hFI5 => ?_)
      have hwI5 := WM_f hWI5
      first | have hk13 : (I5 t 8).toInt = (I1 t 8).toInt := (by rw [hFI5 t 8 (by omega)]) | skip
      first | have hk14 : (I5 t 10).toInt = (I1 t 10).toInt := (by rw [hFI5 t 10 (by omega)]) | skip
      first | have hk15 : (I5 t 14).toInt = (I1 t 14).toInt := (by rw [hFI5 t 14 (by omega)]) | skip
      first | have hk16 : (I5 t 22).toInt = (I1 t 22).toInt := (by rw [hFI5 t 22 (by omega)]) | skip
      first | have hk17 : (I5 t 23).toInt = (I1 t 23).toInt := (by rw [hFI5 t 23 (by omega)]) | skip
      have q4 : (1 : Int32).toInt = 1 := rfl
      exact hK _ _ hWI5 (Fr.tr (Fr.tr Fr.rf hFI1 (by intro a k h; omega)) hFI5 (by intro a k h; omega)) (by omega)
    · skip
      have q3 := i32_lo v4
      have hc11 : ¬ (v4).toInt = (0 : Int32).toInt := fun z => hc11 (Int32.toInt_inj.mp z)
      have q4 : (99 : Int32).toInt = 99 := rfl
      refine sfX12_tells ht hWI1 (by omega) (fun v8 I7 hWI7 hFI7 hp18 => ?_)
      have hwI7 := WM_f hWI7
      first | have hk19 : (I7 t 8).toInt = (I1 t 8).toInt := (by rw [hFI7 t 8 (by omega)]) | skip
      first | have hk20 : (I7 t 10).toInt = (I1 t 10).toInt := (by rw [hFI7 t 10 (by omega)]) | skip
      first | have hk21 : (I7 t 14).toInt = (I1 t 14).toInt := (by rw [hFI7 t 14 (by omega)]) | skip
      first | have hk22 : (I7 t 22).toInt = (I1 t 22).toInt := (by rw [hFI7 t 22 (by omega)]) | skip
      first | have hk23 : (I7 t 23).toInt = (I1 t 23).toInt := (by rw [hFI7 t 23 (by omega)]) | skip
      refine ⟨fun hc24 => ?_, fun hc25 => ?_⟩
      · skip
        have q5 := i32_lo v8
        have hc24 : ¬ (v8).toInt = (0 : Int32).toInt := fun z => hc24 (Int32.toInt_inj.mp z)
        refine sfX12_knows ht (by decide) hWI7 (by omega) (by omega) (fun I9 hWI9 hFI9 => ?_)
        have hwI9 := WM_f hWI9
        first | have hk27 : (I9 t 8).toInt = (I7 t 8).toInt := (by rw [hFI9 t 8 (by omega)]) | skip
        first | have hk28 : (I9 t 10).toInt = (I7 t 10).toInt := (by rw [hFI9 t 10 (by omega)]) | skip
        first | have hk29 : (I9 t 14).toInt = (I7 t 14).toInt := (by rw [hFI9 t 14 (by omega)]) | skip
        first | have hk30 : (I9 t 22).toInt = (I7 t 22).toInt := (by rw [hFI9 t 22 (by omega)]) | skip
        first | have hk31 : (I9 t 23).toInt = (I7 t 23).toInt := (by rw [hFI9 t 23 (by omega)]) | skip
        have q6 : (1 : Int32).toInt = 1 := rfl
        exact hK _ _ hWI9 (Fr.tr (Fr.tr (Fr.tr Fr.rf hFI1 (by intro a k h; omega)) hFI7 (by intro a k h; omega)) hFI9 (by intro a k h; omega)) (by omega)
      · skip
        have q5 := i32_lo v8
        have hc25 := Int32.toInt_inj.mpr hc25
        exact hK _ _ hWI7 (Fr.tr (Fr.tr Fr.rf hFI1 (by intro a k h; omega)) hFI7 (by intro a k h; omega)) (by omega)
  · skip
    have q1 := i32_lo v2
    have q2 : (0 : Int32).toInt = 0 := rfl
    have hc8 := Int32.toInt_inj.mpr hc8
    exact hK _ _ hWI1 (Fr.tr Fr.rf hFI1 (by intro a k h; omega)) (by omega)

