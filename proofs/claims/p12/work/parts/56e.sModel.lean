theorem sfX12_person {G : jdG} {n : Nat} {Z : jdL} {J : jdJ} {K : Int32 → jdI → jdJ → Prop}  {I : jdI} {t : Nat} {x1 : Int32} {x2 : Int32} (ht : zModel Z t)  (hW : WM 7 t I)  (hK : ∀ (v : Int32) (I2 : jdI), WM 7 t I2 → Fr (fun a k => (a = t ∧ k = 10) ∨ a = t + 18 ∨ a = t + 19 ∨ (t + 21 ≤ a ∧ a ≤ t + 28) ∨ a = t + 17) I I2 → K v I2 J) : Cl G mX12_person (n + 1) 0 0 [.ref (gb G + t), .int x1, .int x2] Z I J (qi Z K) := by
  refine eX12_person ht ?_
  have hwI := WM_f hW
  have q1 := i32_lo x1
  have q2 : (Int32.toInt64 x1).toInt = (x1).toInt := Int32.toInt_toInt64 _
  have q3 : (0 : Int64).toInt = 0 := rfl
  have q4 : (23 : Int64).toInt = 23 := rfl
  refine sfX12_in  trivial  (fun v2  hp1 => ?_)
  refine ⟨fun hc2 => ?_, fun hc3 => ?_⟩
  · skip
    have q5 := i32_lo v2
    have q6 : (0 : Int32).toInt = 0 := rfl
    have hc2 := Int32.toInt_inj.mpr hc2
    have q7 : (-2 : Int32).toInt = -2 := rfl
    refine sfX12_refuse ht (by decide) hW (by omega) (fun v4 I3 hWI3 hFI3 hp4 => ?_)
    have hwI3 := WM_f hWI3
    exact hK _ _ hWI3 (Fr.tr Fr.rf hFI3 (by intro a k h; omega))
  · skip
    have q5 := i32_lo v2
    have q6 : (0 : Int32).toInt = 0 := rfl
    have hc3 : ¬ (v2).toInt = (0 : Int32).toInt := fun z => hc3 (Int32.toInt_inj.mp z)
    have q7 := i32_lo x2
    have q8 : (Int32.toInt64 x2).toInt = (x2).toInt := Int32.toInt_toInt64 _
    have q9 : (9 : Int64).toInt = 9 := rfl
    refine sfX12_in  trivial  (fun v6  hp5 => ?_)
    refine ⟨fun hc6 => ?_, fun hc7 => ?_⟩
    · skip
      have q10 := i32_lo v6
      have hc6 : ¬ (v6).toInt = (0 : Int32).toInt := fun z => hc6 (Int32.toInt_inj.mp z)
      refine ⟨fun hc8 => ?_, fun hc9 => ?_⟩
      · skip
        have q11 := i32_lo (I t 10)
        have q12 : (7 : Int32).toInt = 7 := rfl
        have hc8 : ¬ ((I t 10)).toInt = (7 : Int32).toInt := fun z => hc8 (Int32.toInt_inj.mp z)
        refine sfX12_addOne ht (by decide) hW (by omega) (fun I7 hWI7 hFI7 => ?_)
        have hwI7 := WM_f hWI7
        exact hK _ _ hWI7 (Fr.tr Fr.rf hFI7 (by intro a k h; omega))
      · skip
        have q11 := i32_lo (I t 10)
        have q12 : (7 : Int32).toInt = 7 := rfl
        have hc9 := Int32.toInt_inj.mpr hc9
        have q13 : (-6 : Int32).toInt = -6 := rfl
        refine sfX12_refuse ht (by decide) hW (by omega) (fun v10 I9 hWI9 hFI9 hp11 => ?_)
        have hwI9 := WM_f hWI9
        exact hK _ _ hWI9 (Fr.tr Fr.rf hFI9 (by intro a k h; omega))
    · skip
      have q10 := i32_lo v6
      have hc7 := Int32.toInt_inj.mpr hc7
      have q11 : (-2 : Int32).toInt = -2 := rfl
      refine sfX12_refuse ht (by decide) hW (by omega) (fun v12 I11 hWI11 hFI11 hp12 => ?_)
      have hwI11 := WM_f hWI11
      exact hK _ _ hWI11 (Fr.tr Fr.rf hFI11 (by intro a k h; omega))
theorem sfX12_change {G : jdG} {n : Nat} {Z : jdL} {J : jdJ} {K : Int32 → jdI → jdJ → Prop}  {I : jdI} {t : Nat} {x1 : Int32} {x2 : Int32} {x3 : Int32} (ht : zModel Z t)  (hW : WM 7 t I)  (hK : ∀ (v : Int32) (I2 : jdI), WM 7 t I2 → Fr (fun a k => a = t + 17 ∨ a = t + 18 ∨ a = t + 19) I I2 → K v I2 J) : Cl G mX12_change (n + 2) 0 0 [.ref (gb G + t), .int x1, .int x2, .int x3] Z I J (qi Z K) := by
  refine eX12_change ht ?_
  have hwI := WM_f hW
  have q1 := i32_lo x1
  refine sfX12_isOne ht hW  (fun v2  hp1 => ?_)
  refine ⟨fun hc2 => ?_, fun hc3 => ?_⟩
  · skip
    have q2 := i32_lo v2
    have q3 : (0 : Int32).toInt = 0 := rfl
    have hc2 := Int32.toInt_inj.mpr hc2
    have q4 : (-2 : Int32).toInt = -2 := rfl
    refine sfX12_refuse ht (by decide) hW (by omega) (fun v4 I3 hWI3 hFI3 hp4 => ?_)
    have hwI3 := WM_f hWI3
    exact hK _ _ hWI3 (Fr.tr Fr.rf hFI3 (by intro a k h; omega))
  · skip
    have q2 := i32_lo v2
    have q3 : (0 : Int32).toInt = 0 := rfl
    have hc3 : ¬ (v2).toInt = (0 : Int32).toInt := fun z => hc3 (Int32.toInt_inj.mp z)
    have q4 := i32_lo x2
    have q5 : (Int32.toInt64 x2).toInt = (x2).toInt := Int32.toInt_toInt64 _
    have q6 : (0 : Int64).toInt = 0 := rfl
    have q7 : (1 : Int64).toInt = 1 := rfl
    refine sfX12_in  trivial  (fun v6  hp5 => ?_)
    refine ⟨fun hc6 => ?_, fun hc7 => ?_⟩
    · skip
      have q8 := i32_lo v6
      have hc6 := Int32.toInt_inj.mpr hc6
      have q9 : (-2 : Int32).toInt = -2 := rfl
      refine sfX12_refuse ht (by decide) hW (by omega) (fun v8 I7 hWI7 hFI7 hp8 => ?_)
      have hwI7 := WM_f hWI7
      exact hK _ _ hWI7 (Fr.tr Fr.rf hFI7 (by intro a k h; omega))
    · skip
      have q8 := i32_lo v6
      have hc7 : ¬ (v6).toInt = (0 : Int32).toInt := fun z => hc7 (Int32.toInt_inj.mp z)
      refine ⟨fun hc9 => ?_, fun hc10 => ?_⟩
      · skip
        have hc9 : ¬ (x2).toInt = (0 : Int32).toInt := fun z => hc9 (Int32.toInt_inj.mp z)
        have q9 := i32_lo x3
        have q10 : (Int32.toInt64 x3).toInt = (x3).toInt := Int32.toInt_toInt64 _
        have q11 : (9 : Int64).toInt = 9 := rfl
        refine sfX12_in  trivial  (fun v10  hp11 => ?_)
        refine ⟨fun hc12 => ?_, fun hc13 => ?_⟩
        · skip
          have q12 := i32_lo v10
          have hc12 : ¬ (v10).toInt = (0 : Int32).toInt := fun z => hc12 (Int32.toInt_inj.mp z)
          refine ⟨fun hc14 => ?_, fun hc15 => ?_⟩
          · skip
            have hc14 : ¬ (x2).toInt = (0 : Int32).toInt := fun z => hc14 (Int32.toInt_inj.mp z)
            refine ⟨vp_of (by omega) (by omega), ?_⟩
            refine ⟨fun hc16 => ?_, fun hc17 => ?_⟩
            · skip
              have hc16 : ¬ (x2).toInt = (0 : Int32).toInt := fun z => hc16 (Int32.toInt_inj.mp z)
              refine ⟨vp_of (by omega) (by omega), ?_⟩
              exact hK _ _ (WM_uI hW (by first | exact okMo (by decide) (by decide) (by decide) (by decide) (by decide) | exact okMf (by decide) (by decide) (by decide) (by decide) (by decide) (by decide) (by decide) (by decide) | exact okM30 (by omega) | exact okM42 (by omega) | exact okM33 (by omega) | exact okM10 (by omega) | exact okM8 (by omega) | exact okM22 (by omega) | exact okM24 (by omega) | exact okM14 (by omega) | exact okMa31 (by omega) | exact okMa35 (by omega) | exact okMa36 (by omega) | exact okMa3 (by omega) | exact okMr (by omega) | (unfold okM; refine ⟨?_, ?_, ?_, ?_, ?_, ?_, ?_, ?_, ?_, ?_, ?_, ?_⟩ <;> intro h <;> omega))) (Fr_uI Fr.rf (by omega))
            · skip
              have hc17 := Int32.toInt_inj.mpr hc17
              refine ⟨vp_of (by omega) (by omega), ?_⟩
              exact hK _ _ (WM_uI hW (by first | exact okMo (by decide) (by decide) (by decide) (by decide) (by decide) | exact okMf (by decide) (by decide) (by decide) (by decide) (by decide) (by decide) (by decide) (by decide) | exact okM30 (by omega) | exact okM42 (by omega) | exact okM33 (by omega) | exact okM10 (by omega) | exact okM8 (by omega) | exact okM22 (by omega) | exact okM24 (by omega) | exact okM14 (by omega) | exact okMa31 (by omega) | exact okMa35 (by omega) | exact okMa36 (by omega) | exact okMa3 (by omega) | exact okMr (by omega) | (unfold okM; refine ⟨?_, ?_, ?_, ?_, ?_, ?_, ?_, ?_, ?_, ?_, ?_, ?_⟩ <;> intro h <;> omega))) (Fr_uI Fr.rf (by omega))
          · skip
            have hc15 := Int32.toInt_inj.mpr hc15
            refine ⟨vp_of (by omega) (by omega), ?_⟩
            refine ⟨fun hc18 => ?_, fun hc19 => ?_⟩
            · skip
              have hc18 : ¬ (x2).toInt = (0 : Int32).toInt := fun z => hc18 (Int32.toInt_inj.mp z)
              refine ⟨vp_of (by omega) (by omega), ?_⟩
              exact hK _ _ (WM_uI hW (by first | exact okMo (by decide) (by decide) (by decide) (by decide) (by decide) | exact okMf (by decide) (by decide) (by decide) (by decide) (by decide) (by decide) (by decide) (by decide) | exact okM30 (by omega) | exact okM42 (by omega) | exact okM33 (by omega) | exact okM10 (by omega) | exact okM8 (by omega) | exact okM22 (by omega) | exact okM24 (by omega) | exact okM14 (by omega) | exact okMa31 (by omega) | exact okMa35 (by omega) | exact okMa36 (by omega) | exact okMa3 (by omega) | exact okMr (by omega) | (unfold okM; refine ⟨?_, ?_, ?_, ?_, ?_, ?_, ?_, ?_, ?_, ?_, ?_, ?_⟩ <;> intro h <;> omega))) (Fr_uI Fr.rf (by omega))
            · skip
              have hc19 := Int32.toInt_inj.mpr hc19
              refine ⟨vp_of (by omega) (by omega), ?_⟩
              exact hK _ _ (WM_uI hW (by first | exact okMo (by decide) (by decide) (by decide) (by decide) (by decide) | exact okMf (by decide) (by decide) (by decide) (by decide) (by decide) (by decide) (by decide) (by decide) | exact okM30 (by omega) | exact okM42 (by omega) | exact okM33 (by omega) | exact okM10 (by omega) | exact okM8 (by omega) | exact okM22 (by omega) | exact okM24 (by omega) | exact okM14 (by omega) | exact okMa31 (by omega) | exact okMa35 (by omega) | exact okMa36 (by omega) | exact okMa3 (by omega) | exact okMr (by omega) | (unfold okM; refine ⟨?_, ?_, ?_, ?_, ?_, ?_, ?_, ?_, ?_, ?_, ?_, ?_⟩ <;> intro h <;> omega))) (Fr_uI Fr.rf (by omega))
        · skip
          have q12 := i32_lo v10
          have hc13 := Int32.toInt_inj.mpr hc13
          have q13 : (-2 : Int32).toInt = -2 := rfl
          refine sfX12_refuse ht (by decide) hW (by omega) (fun v18 I17 hWI17 hFI17 hp20 => ?_)
          have hwI17 := WM_f hWI17
          exact hK _ _ hWI17 (Fr.tr Fr.rf hFI17 (by intro a k h; omega))
      · skip
        have hc10 := Int32.toInt_inj.mpr hc10
        have q9 := i32_lo x3
        have q10 : (Int32.toInt64 x3).toInt = (x3).toInt := Int32.toInt_toInt64 _
        have q11 : (23 : Int64).toInt = 23 := rfl
        refine sfX12_in  trivial  (fun v20  hp21 => ?_)
        refine ⟨fun hc22 => ?_, fun hc23 => ?_⟩
        · skip
          have q12 := i32_lo v20
          have hc22 : ¬ (v20).toInt = (0 : Int32).toInt := fun z => hc22 (Int32.toInt_inj.mp z)
          refine ⟨fun hc24 => ?_, fun hc25 => ?_⟩
          · skip
            have hc24 : ¬ (x2).toInt = (0 : Int32).toInt := fun z => hc24 (Int32.toInt_inj.mp z)
            refine ⟨vp_of (by omega) (by omega), ?_⟩
            refine ⟨fun hc26 => ?_, fun hc27 => ?_⟩
            · skip
              have hc26 : ¬ (x2).toInt = (0 : Int32).toInt := fun z => hc26 (Int32.toInt_inj.mp z)
              refine ⟨vp_of (by omega) (by omega), ?_⟩
              exact hK _ _ (WM_uI hW (by first | exact okMo (by decide) (by decide) (by decide) (by decide) (by decide) | exact okMf (by decide) (by decide) (by decide) (by decide) (by decide) (by decide) (by decide) (by decide) | exact okM30 (by omega) | exact okM42 (by omega) | exact okM33 (by omega) | exact okM10 (by omega) | exact okM8 (by omega) | exact okM22 (by omega) | exact okM24 (by omega) | exact okM14 (by omega) | exact okMa31 (by omega) | exact okMa35 (by omega) | exact okMa36 (by omega) | exact okMa3 (by omega) | exact okMr (by omega) | (unfold okM; refine ⟨?_, ?_, ?_, ?_, ?_, ?_, ?_, ?_, ?_, ?_, ?_, ?_⟩ <;> intro h <;> omega))) (Fr_uI Fr.rf (by omega))
            · skip
              have hc27 := Int32.toInt_inj.mpr hc27
              refine ⟨vp_of (by omega) (by omega), ?_⟩
              exact hK _ _ (WM_uI hW (by first | exact okMo (by decide) (by decide) (by decide) (by decide) (by decide) | exact okMf (by decide) (by decide) (by decide) (by decide) (by decide) (by decide) (by decide) (by decide) | exact okM30 (by omega) | exact okM42 (by omega) | exact okM33 (by omega) | exact okM10 (by omega) | exact okM8 (by omega) | exact okM22 (by omega) | exact okM24 (by omega) | exact okM14 (by omega) | exact okMa31 (by omega) | exact okMa35 (by omega) | exact okMa36 (by omega) | exact okMa3 (by omega) | exact okMr (by omega) | (unfold okM; refine ⟨?_, ?_, ?_, ?_, ?_, ?_, ?_, ?_, ?_, ?_, ?_, ?_⟩ <;> intro h <;> omega))) (Fr_uI Fr.rf (by omega))
          · skip
            have hc25 := Int32.toInt_inj.mpr hc25
            refine ⟨vp_of (by omega) (by omega), ?_⟩
            refine ⟨fun hc28 => ?_, fun hc29 => ?_⟩
            · skip
              have hc28 : ¬ (x2).toInt = (0 : Int32).toInt := fun z => hc28 (Int32.toInt_inj.mp z)
              refine ⟨vp_of (by omega) (by omega), ?_⟩
              exact hK _ _ (WM_uI hW (by first | exact okMo (by decide) (by decide) (by decide) (by decide) (by decide) | exact okMf (by decide) (by decide) (by decide) (by decide) (by decide) (by decide) (by decide) (by decide) | exact okM30 (by omega) | exact okM42 (by omega) | exact okM33 (by omega) | exact okM10 (by omega) | exact okM8 (by omega) | exact okM22 (by omega) | exact okM24 (by omega) | exact okM14 (by omega) | exact okMa31 (by omega) | exact okMa35 (by omega) | exact okMa36 (by omega) | exact okMa3 (by omega) | exact okMr (by omega) | (unfold okM; refine ⟨?_, ?_, ?_, ?_, ?_, ?_, ?_, ?_, ?_, ?_, ?_, ?_⟩ <;> intro h <;> omega))) (Fr_uI Fr.rf (by omega))
            · skip
              have hc29 := Int32.toInt_inj.mpr hc29
              refine ⟨vp_of (by omega) (by omega), ?_⟩
              exact hK _ _ (WM_uI hW (by first | exact okMo (by decide) (by decide) (by decide) (by decide) (by decide) | exact okMf (by decide) (by decide) (by decide) (by decide) (by decide) (by decide) (by decide) (by decide) | exact okM30 (by omega) | exact okM42 (by omega) | exact okM33 (by omega) | exact okM10 (by omega) | exact okM8 (by omega) | exact okM22 (by omega) | exact okM24 (by omega) | exact okM14 (by omega) | exact okMa31 (by omega) | exact okMa35 (by omega) | exact okMa36 (by omega) | exact okMa3 (by omega) | exact okMr (by omega) | (unfold okM; refine ⟨?_, ?_, ?_, ?_, ?_, ?_, ?_, ?_, ?_, ?_, ?_, ?_⟩ <;> intro h <;> omega))) (Fr_uI Fr.rf (by omega))
        · skip
          have q12 := i32_lo v20
          have hc23 := Int32.toInt_inj.mpr hc23
          have q13 : (-2 : Int32).toInt = -2 := rfl
          refine sfX12_refuse ht (by decide) hW (by omega) (fun v28 I27 hWI27 hFI27 hp30 => ?_)
          have hwI27 := WM_f hWI27
          exact hK _ _ hWI27 (Fr.tr Fr.rf hFI27 (by intro a k h; omega))
theorem sfX12_knows {G : jdG} {n : Nat} {Z : jdL} {J : jdJ} {K : jdI → jdJ → Prop} {c : Int} {I : jdI} {t : Nat} {x1 : Int32} {x2 : Int32} {x3 : Int32} (ht : zModel Z t)  (hc : c ≤ 8) (hW : WM c t I) (hx1 : 0 ≤ x1.toInt ∧ x1.toInt ≤ 7) (hx2 : 0 ≤ x2.toInt ∧ x2.toInt ≤ 7) (hK : ∀ (I2 : jdI), WM c t I2 → Fr (fun a k => t + 21 ≤ a ∧ a ≤ t + 28) I I2 → K I2 J) : Cl G mX12_knows n 0 0 [.ref (gb G + t), .int x1, .int x2, .int x3] Z I J (qv Z K) := by
  refine eX12_knows ht ?_
  have hwI := WM_f hW
  have q1 := i32_lo x1
  refine ⟨vp_of (by omega) (by omega), ?_⟩
  have q2 := i32_lo x2
  refine ⟨vp_of (by omega) (by omega), ?_⟩
  refine ⟨vp_of (by omega) (by omega), ?_⟩
  refine ⟨vp_of (by omega) (by omega), ?_⟩
  have q3 := tn_eq x2
  have q4 := tn_eq x1
  exact hK _ (WM_uI (WM_uI hW (by first | exact okMo (by decide) (by decide) (by decide) (by decide) (by decide) | exact okMf (by decide) (by decide) (by decide) (by decide) (by decide) (by decide) (by decide) (by decide) | exact okM30 (by omega) | exact okM42 (by omega) | exact okM33 (by omega) | exact okM10 (by omega) | exact okM8 (by omega) | exact okM22 (by omega) | exact okM24 (by omega) | exact okM14 (by omega) | exact okMa31 (by omega) | exact okMa35 (by omega) | exact okMa36 (by omega) | exact okMa3 (by omega) | exact okMr (by omega) | (unfold okM; refine ⟨?_, ?_, ?_, ?_, ?_, ?_, ?_, ?_, ?_, ?_, ?_, ?_⟩ <;> intro h <;> omega))) (by first | exact okMo (by decide) (by decide) (by decide) (by decide) (by decide) | exact okMf (by decide) (by decide) (by decide) (by decide) (by decide) (by decide) (by decide) (by decide) | exact okM30 (by omega) | exact okM42 (by omega) | exact okM33 (by omega) | exact okM10 (by omega) | exact okM8 (by omega) | exact okM22 (by omega) | exact okM24 (by omega) | exact okM14 (by omega) | exact okMa31 (by omega) | exact okMa35 (by omega) | exact okMa36 (by omega) | exact okMa3 (by omega) | exact okMr (by omega) | (unfold okM; refine ⟨?_, ?_, ?_, ?_, ?_, ?_, ?_, ?_, ?_, ?_, ?_, ?_⟩ <;> intro h <;> omega))) (Fr_uI (Fr_uI Fr.rf (by omega)) (by omega))
theorem sfX12_areTwo {G : jdG} {n : Nat} {Z : jdL} {J : jdJ} {K : Int32 → jdI → jdJ → Prop}  {I : jdI} {t : Nat} {x1 : Int32} {x2 : Int32} (ht : zModel Z t)  (hW : WM 7 t I)  (hK : ∀ (v : Int32), ((v.toInt = 1 ∧ (0 ≤ x1.toInt ∧ x1.toInt < (I t 10).toInt) ∧ (0 ≤ x2.toInt ∧ x2.toInt < (I t 10).toInt) ∧ ¬ x1.toInt = x2.toInt) ∨ (v.toInt = 0 ∧ ¬ ((0 ≤ x1.toInt ∧ x1.toInt < (I t 10).toInt) ∧ (0 ≤ x2.toInt ∧ x2.toInt < (I t 10).toInt) ∧ ¬ x1.toInt = x2.toInt))) → K v I J) : Cl G mX12_areTwo (n + 2) 0 0 [.ref (gb G + t), .int x1, .int x2] Z I J (qi Z K) := by
  refine eX12_areTwo ht ?_
  have hwI := WM_f hW
  have q1 := i32_lo x1
  refine sfX12_isOne ht hW  (fun v2  hp1 => ?_)
  refine ⟨fun hc2 => ?_, fun hc3 => ?_⟩
  · skip
    have q2 := i32_lo v2
    have q3 : (0 : Int32).toInt = 0 := rfl
    have hc2 := Int32.toInt_inj.mpr hc2
    exact hK _  (by omega)
  · skip
    have q2 := i32_lo v2
    have q3 : (0 : Int32).toInt = 0 := rfl
    have hc3 : ¬ (v2).toInt = (0 : Int32).toInt := fun z => hc3 (Int32.toInt_inj.mp z)
    have q4 := i32_lo x2
    refine sfX12_isOne ht hW  (fun v4  hp4 => ?_)
    refine ⟨fun hc5 => ?_, fun hc6 => ?_⟩
    · skip
      have q5 := i32_lo v4
      have hc5 := Int32.toInt_inj.mpr hc5
      exact hK _  (by omega)
    · skip
      have q5 := i32_lo v4
      have hc6 : ¬ (v4).toInt = (0 : Int32).toInt := fun z => hc6 (Int32.toInt_inj.mp z)
      refine ⟨fun hc7 => ?_, fun hc8 => ?_⟩
      · skip
        have hc7 := Int32.toInt_inj.mpr hc7
        exact hK _  (by omega)
      · skip
        have hc8 : ¬ (x1).toInt = (x2).toInt := fun z => hc8 (Int32.toInt_inj.mp z)
        have q6 : (1 : Int32).toInt = 1 := rfl
        exact hK _  (by omega)
theorem sfX12_know {G : jdG} {n : Nat} {Z : jdL} {J : jdJ} {K : Int32 → jdI → jdJ → Prop}  {I : jdI} {t : Nat} {x1 : Int32} {x2 : Int32} {x3 : Int32} (ht : zModel Z t)  (hW : WM 7 t I)  (hK : ∀ (v : Int32) (I2 : jdI), WM 7 t I2 → Fr (fun a k => t + 21 ≤ a ∧ a ≤ t + 28 ∨ a = t + 17) I I2 → K v I2 J) : Cl G mX12_know (n + 3) 0 0 [.ref (gb G + t), .int x1, .int x2, .int x3] Z I J (qi Z K) := by
  refine eX12_know ht ?_
  have hwI := WM_f hW
  have q1 := i32_lo x1
  have q2 := i32_lo x2
  refine sfX12_areTwo ht hW  (fun v2  hp1 => ?_)
  refine ⟨fun hc2 => ?_, fun hc3 => ?_⟩
  · skip
    have q3 := i32_lo v2
    have q4 : (0 : Int32).toInt = 0 := rfl
    have hc2 := Int32.toInt_inj.mpr hc2
    have q5 : (-2 : Int32).toInt = -2 := rfl
    refine sfX12_refuse ht (by decide) hW (by omega) (fun v4 I3 hWI3 hFI3 hp4 => ?_)
    have hwI3 := WM_f hWI3
    exact hK _ _ hWI3 (Fr.tr Fr.rf hFI3 (by intro a k h; omega))
  · skip
    have q3 := i32_lo v2
    have q4 : (0 : Int32).toInt = 0 := rfl
    have hc3 : ¬ (v2).toInt = (0 : Int32).toInt := fun z => hc3 (Int32.toInt_inj.mp z)
    have q5 := i32_lo x3
    have q6 : (Int32.toInt64 x3).toInt = (x3).toInt := Int32.toInt_toInt64 _
    have q7 : (-1 : Int64).toInt = -1 := rfl
    have q8 : (99 : Int64).toInt = 99 := rfl
    refine sfX12_in  trivial  (fun v6  hp5 => ?_)
    refine ⟨fun hc6 => ?_, fun hc7 => ?_⟩
    · skip
      have q9 := i32_lo v6
      have hc6 : ¬ (v6).toInt = (0 : Int32).toInt := fun z => hc6 (Int32.toInt_inj.mp z)
      refine ⟨vp_of (by omega) (by omega), ?_⟩
      refine ⟨vp_of (by omega) (by omega), ?_⟩
      refine sfX12_knows ht (by decide) hW (by omega) (by omega) (fun I9 hWI9 hFI9 => ?_)
      have hwI9 := WM_f hWI9
      exact hK _ _ hWI9 (Fr.tr Fr.rf hFI9 (by intro a k h; omega))
    · skip
      have q9 := i32_lo v6
      have hc7 := Int32.toInt_inj.mpr hc7
      have q10 : (-2 : Int32).toInt = -2 := rfl
      refine sfX12_refuse ht (by decide) hW (by omega) (fun v12 I11 hWI11 hFI11 hp9 => ?_)
      have hwI11 := WM_f hWI11
      exact hK _ _ hWI11 (Fr.tr Fr.rf hFI11 (by intro a k h; omega))
theorem sfX12_ask {G : jdG} {n : Nat} {Z : jdL} {J : jdJ} {K : Int32 → jdI → jdJ → Prop}  {I : jdI} {t : Nat} {x1 : Int32} {x2 : Int32} (ht : zModel Z t)  (hW : WM 7 t I)  (hK : ∀ (v : Int32) (I2 : jdI), WM 7 t I2 → Fr (fun a k => (a = t ∧ (k = 14 ∨ k = 15)) ∨ a = t + 17) I I2 → K v I2 J) : Cl G mX12_ask (n + 1) 0 0 [.ref (gb G + t), .int x1, .int x2] Z I J (qi Z K) := by
  refine eX12_ask ht ?_
  have hwI := WM_f hW
  have q1 := i32_lo x1
  have q2 : (Int32.toInt64 x1).toInt = (x1).toInt := Int32.toInt_toInt64 _
  have q3 : (0 : Int64).toInt = 0 := rfl
  have q4 : (1 : Int64).toInt = 1 := rfl
  refine sfX12_in  trivial  (fun v2  hp1 => ?_)
  refine ⟨fun hc2 => ?_, fun hc3 => ?_⟩
  · skip
    have q5 := i32_lo v2
    have q6 : (0 : Int32).toInt = 0 := rfl
    have hc2 := Int32.toInt_inj.mpr hc2
    have q7 : (-2 : Int32).toInt = -2 := rfl
    refine sfX12_refuse ht (by decide) hW (by omega) (fun v4 I3 hWI3 hFI3 hp4 => ?_)
    have hwI3 := WM_f hWI3
    exact hK _ _ hWI3 (Fr.tr Fr.rf hFI3 (by intro a k h; omega))
  · skip
    have q5 := i32_lo v2
    have q6 : (0 : Int32).toInt = 0 := rfl
    have hc3 : ¬ (v2).toInt = (0 : Int32).toInt := fun z => hc3 (Int32.toInt_inj.mp z)
    refine ⟨fun hc5 => ?_, fun hc6 => ?_⟩
    · skip
      have hc5 : ¬ (x1).toInt = (0 : Int32).toInt := fun z => hc5 (Int32.toInt_inj.mp z)
      refine ⟨fun hc7 => ?_, fun hc8 => ?_⟩
      · skip
        have hc7 : ¬ (x1).toInt = (0 : Int32).toInt := fun z => hc7 (Int32.toInt_inj.mp z)
        have q7 := i32_lo x2
        have q8 : (Int32.toInt64 x2).toInt = (x2).toInt := Int32.toInt_toInt64 _
        have q9 : (99 : Int64).toInt = 99 := rfl
        refine sfX12_in  trivial  (fun v6  hp9 => ?_)
        refine ⟨fun hc10 => ?_, fun hc11 => ?_⟩
        · skip
          have q10 := i32_lo v6
          have hc10 : ¬ (v6).toInt = (0 : Int32).toInt := fun z => hc10 (Int32.toInt_inj.mp z)
          refine ⟨fun hc12 => ?_, fun hc13 => ?_⟩
          · skip
            have hc12 : ¬ (x1).toInt = (0 : Int32).toInt := fun z => hc12 (Int32.toInt_inj.mp z)
            refine ⟨fun hc14 => ?_, fun hc15 => ?_⟩
            · skip
              have hc14 : ¬ (x1).toInt = (0 : Int32).toInt := fun z => hc14 (Int32.toInt_inj.mp z)
              exact hK _ _ (WM_uI hW (by first | exact okMo (by decide) (by decide) (by decide) (by decide) (by decide) | exact okMf (by decide) (by decide) (by decide) (by decide) (by decide) (by decide) (by decide) (by decide) | exact okM30 (by omega) | exact okM42 (by omega) | exact okM33 (by omega) | exact okM10 (by omega) | exact okM8 (by omega) | exact okM22 (by omega) | exact okM24 (by omega) | exact okM14 (by omega) | exact okMa31 (by omega) | exact okMa35 (by omega) | exact okMa36 (by omega) | exact okMa3 (by omega) | exact okMr (by omega) | (unfold okM; refine ⟨?_, ?_, ?_, ?_, ?_, ?_, ?_, ?_, ?_, ?_, ?_, ?_⟩ <;> intro h <;> omega))) (Fr_uI Fr.rf (by omega))
            · skip
              have hc15 := Int32.toInt_inj.mpr hc15
              exact hK _ _ (WM_uI hW (by first | exact okMo (by decide) (by decide) (by decide) (by decide) (by decide) | exact okMf (by decide) (by decide) (by decide) (by decide) (by decide) (by decide) (by decide) (by decide) | exact okM30 (by omega) | exact okM42 (by omega) | exact okM33 (by omega) | exact okM10 (by omega) | exact okM8 (by omega) | exact okM22 (by omega) | exact okM24 (by omega) | exact okM14 (by omega) | exact okMa31 (by omega) | exact okMa35 (by omega) | exact okMa36 (by omega) | exact okMa3 (by omega) | exact okMr (by omega) | (unfold okM; refine ⟨?_, ?_, ?_, ?_, ?_, ?_, ?_, ?_, ?_, ?_, ?_, ?_⟩ <;> intro h <;> omega))) (Fr_uI Fr.rf (by omega))
          · skip
            have hc13 := Int32.toInt_inj.mpr hc13
            refine ⟨fun hc16 => ?_, fun hc17 => ?_⟩
            · skip
              have hc16 : ¬ (x1).toInt = (0 : Int32).toInt := fun z => hc16 (Int32.toInt_inj.mp z)
              exact hK _ _ (WM_uI hW (by first | exact okMo (by decide) (by decide) (by decide) (by decide) (by decide) | exact okMf (by decide) (by decide) (by decide) (by decide) (by decide) (by decide) (by decide) (by decide) | exact okM30 (by omega) | exact okM42 (by omega) | exact okM33 (by omega) | exact okM10 (by omega) | exact okM8 (by omega) | exact okM22 (by omega) | exact okM24 (by omega) | exact okM14 (by omega) | exact okMa31 (by omega) | exact okMa35 (by omega) | exact okMa36 (by omega) | exact okMa3 (by omega) | exact okMr (by omega) | (unfold okM; refine ⟨?_, ?_, ?_, ?_, ?_, ?_, ?_, ?_, ?_, ?_, ?_, ?_⟩ <;> intro h <;> omega))) (Fr_uI Fr.rf (by omega))
            · skip
              have hc17 := Int32.toInt_inj.mpr hc17
              exact hK _ _ (WM_uI hW (by first | exact okMo (by decide) (by decide) (by decide) (by decide) (by decide) | exact okMf (by decide) (by decide) (by decide) (by decide) (by decide) (by decide) (by decide) (by decide) | exact okM30 (by omega) | exact okM42 (by omega) | exact okM33 (by omega) | exact okM10 (by omega) | exact okM8 (by omega) | exact okM22 (by omega) | exact okM24 (by omega) | exact okM14 (by omega) | exact okMa31 (by omega) | exact okMa35 (by omega) | exact okMa36 (by omega) | exact okMa3 (by omega) | exact okMr (by omega) | (unfold okM; refine ⟨?_, ?_, ?_, ?_, ?_, ?_, ?_, ?_, ?_, ?_, ?_, ?_⟩ <;> intro h <;> omega))) (Fr_uI Fr.rf (by omega))
        · skip
          have q10 := i32_lo v6
          have hc11 := Int32.toInt_inj.mpr hc11
          have q11 : (-2 : Int32).toInt = -2 := rfl
          refine sfX12_refuse ht (by decide) hW (by omega) (fun v8 I7 hWI7 hFI7 hp18 => ?_)
          have hwI7 := WM_f hWI7
          exact hK _ _ hWI7 (Fr.tr Fr.rf hFI7 (by intro a k h; omega))
      · skip
        have hc8 := Int32.toInt_inj.mpr hc8
        have q7 := i32_lo x2
        have q8 : (Int32.toInt64 x2).toInt = (x2).toInt := Int32.toInt_toInt64 _
        have q9 : (4 : Int64).toInt = 4 := rfl
        refine sfX12_in  trivial  (fun v10  hp19 => ?_)
        refine ⟨fun hc20 => ?_, fun hc21 => ?_⟩
        · skip
          have q10 := i32_lo v10
          have hc20 : ¬ (v10).toInt = (0 : Int32).toInt := fun z => hc20 (Int32.toInt_inj.mp z)
          refine ⟨fun hc22 => ?_, fun hc23 => ?_⟩
          · skip
            have hc22 : ¬ (x1).toInt = (0 : Int32).toInt := fun z => hc22 (Int32.toInt_inj.mp z)
            refine ⟨fun hc24 => ?_, fun hc25 => ?_⟩
            · skip
              have hc24 : ¬ (x1).toInt = (0 : Int32).toInt := fun z => hc24 (Int32.toInt_inj.mp z)
              exact hK _ _ (WM_uI hW (by first | exact okMo (by decide) (by decide) (by decide) (by decide) (by decide) | exact okMf (by decide) (by decide) (by decide) (by decide) (by decide) (by decide) (by decide) (by decide) | exact okM30 (by omega) | exact okM42 (by omega) | exact okM33 (by omega) | exact okM10 (by omega) | exact okM8 (by omega) | exact okM22 (by omega) | exact okM24 (by omega) | exact okM14 (by omega) | exact okMa31 (by omega) | exact okMa35 (by omega) | exact okMa36 (by omega) | exact okMa3 (by omega) | exact okMr (by omega) | (unfold okM; refine ⟨?_, ?_, ?_, ?_, ?_, ?_, ?_, ?_, ?_, ?_, ?_, ?_⟩ <;> intro h <;> omega))) (Fr_uI Fr.rf (by omega))
            · skip
              have hc25 := Int32.toInt_inj.mpr hc25
              exact hK _ _ (WM_uI hW (by first | exact okMo (by decide) (by decide) (by decide) (by decide) (by decide) | exact okMf (by decide) (by decide) (by decide) (by decide) (by decide) (by decide) (by decide) (by decide) | exact okM30 (by omega) | exact okM42 (by omega) | exact okM33 (by omega) | exact okM10 (by omega) | exact okM8 (by omega) | exact okM22 (by omega) | exact okM24 (by omega) | exact okM14 (by omega) | exact okMa31 (by omega) | exact okMa35 (by omega) | exact okMa36 (by omega) | exact okMa3 (by omega) | exact okMr (by omega) | (unfold okM; refine ⟨?_, ?_, ?_, ?_, ?_, ?_, ?_, ?_, ?_, ?_, ?_, ?_⟩ <;> intro h <;> omega))) (Fr_uI Fr.rf (by omega))
          · skip
            have hc23 := Int32.toInt_inj.mpr hc23
            refine ⟨fun hc26 => ?_, fun hc27 => ?_⟩
            · skip
              have hc26 : ¬ (x1).toInt = (0 : Int32).toInt := fun z => hc26 (Int32.toInt_inj.mp z)
              exact hK _ _ (WM_uI hW (by first | exact okMo (by decide) (by decide) (by decide) (by decide) (by decide) | exact okMf (by decide) (by decide) (by decide) (by decide) (by decide) (by decide) (by decide) (by decide) | exact okM30 (by omega) | exact okM42 (by omega) | exact okM33 (by omega) | exact okM10 (by omega) | exact okM8 (by omega) | exact okM22 (by omega) | exact okM24 (by omega) | exact okM14 (by omega) | exact okMa31 (by omega) | exact okMa35 (by omega) | exact okMa36 (by omega) | exact okMa3 (by omega) | exact okMr (by omega) | (unfold okM; refine ⟨?_, ?_, ?_, ?_, ?_, ?_, ?_, ?_, ?_, ?_, ?_, ?_⟩ <;> intro h <;> omega))) (Fr_uI Fr.rf (by omega))
            · skip
              have hc27 := Int32.toInt_inj.mpr hc27
              exact hK _ _ (WM_uI hW (by first | exact okMo (by decide) (by decide) (by decide) (by decide) (by decide) | exact okMf (by decide) (by decide) (by decide) (by decide) (by decide) (by decide) (by decide) (by decide) | exact okM30 (by omega) | exact okM42 (by omega) | exact okM33 (by omega) | exact okM10 (by omega) | exact okM8 (by omega) | exact okM22 (by omega) | exact okM24 (by omega) | exact okM14 (by omega) | exact okMa31 (by omega) | exact okMa35 (by omega) | exact okMa36 (by omega) | exact okMa3 (by omega) | exact okMr (by omega) | (unfold okM; refine ⟨?_, ?_, ?_, ?_, ?_, ?_, ?_, ?_, ?_, ?_, ?_, ?_⟩ <;> intro h <;> omega))) (Fr_uI Fr.rf (by omega))
        · skip
          have q10 := i32_lo v10
          have hc21 := Int32.toInt_inj.mpr hc21
          have q11 : (-2 : Int32).toInt = -2 := rfl
          refine sfX12_refuse ht (by decide) hW (by omega) (fun v12 I11 hWI11 hFI11 hp28 => ?_)
          have hwI11 := WM_f hWI11
          exact hK _ _ hWI11 (Fr.tr Fr.rf hFI11 (by intro a k h; omega))
    · skip
      have hc6 := Int32.toInt_inj.mpr hc6
      refine ⟨fun hc29 => ?_, fun hc30 => ?_⟩
      · skip
        have hc29 : ¬ (x1).toInt = (0 : Int32).toInt := fun z => hc29 (Int32.toInt_inj.mp z)
        have q7 := i32_lo x2
        have q8 : (Int32.toInt64 x2).toInt = (x2).toInt := Int32.toInt_toInt64 _
        have q9 : (2 : Int64).toInt = 2 := rfl
        have q10 : (99 : Int64).toInt = 99 := rfl
        refine sfX12_in  trivial  (fun v14  hp31 => ?_)
        refine ⟨fun hc32 => ?_, fun hc33 => ?_⟩
        · skip
          have q11 := i32_lo v14
          have hc32 : ¬ (v14).toInt = (0 : Int32).toInt := fun z => hc32 (Int32.toInt_inj.mp z)
          refine ⟨fun hc34 => ?_, fun hc35 => ?_⟩
          · skip
            have hc34 : ¬ (x1).toInt = (0 : Int32).toInt := fun z => hc34 (Int32.toInt_inj.mp z)
            refine ⟨fun hc36 => ?_, fun hc37 => ?_⟩
            · skip
              have hc36 : ¬ (x1).toInt = (0 : Int32).toInt := fun z => hc36 (Int32.toInt_inj.mp z)
              exact hK _ _ (WM_uI hW (by first | exact okMo (by decide) (by decide) (by decide) (by decide) (by decide) | exact okMf (by decide) (by decide) (by decide) (by decide) (by decide) (by decide) (by decide) (by decide) | exact okM30 (by omega) | exact okM42 (by omega) | exact okM33 (by omega) | exact okM10 (by omega) | exact okM8 (by omega) | exact okM22 (by omega) | exact okM24 (by omega) | exact okM14 (by omega) | exact okMa31 (by omega) | exact okMa35 (by omega) | exact okMa36 (by omega) | exact okMa3 (by omega) | exact okMr (by omega) | (unfold okM; refine ⟨?_, ?_, ?_, ?_, ?_, ?_, ?_, ?_, ?_, ?_, ?_, ?_⟩ <;> intro h <;> omega))) (Fr_uI Fr.rf (by omega))
            · skip
              have hc37 := Int32.toInt_inj.mpr hc37
              exact hK _ _ (WM_uI hW (by first | exact okMo (by decide) (by decide) (by decide) (by decide) (by decide) | exact okMf (by decide) (by decide) (by decide) (by decide) (by decide) (by decide) (by decide) (by decide) | exact okM30 (by omega) | exact okM42 (by omega) | exact okM33 (by omega) | exact okM10 (by omega) | exact okM8 (by omega) | exact okM22 (by omega) | exact okM24 (by omega) | exact okM14 (by omega) | exact okMa31 (by omega) | exact okMa35 (by omega) | exact okMa36 (by omega) | exact okMa3 (by omega) | exact okMr (by omega) | (unfold okM; refine ⟨?_, ?_, ?_, ?_, ?_, ?_, ?_, ?_, ?_, ?_, ?_, ?_⟩ <;> intro h <;> omega))) (Fr_uI Fr.rf (by omega))
          · skip
            have hc35 := Int32.toInt_inj.mpr hc35
            refine ⟨fun hc38 => ?_, fun hc39 => ?_⟩
            · skip
              have hc38 : ¬ (x1).toInt = (0 : Int32).toInt := fun z => hc38 (Int32.toInt_inj.mp z)
              exact hK _ _ (WM_uI hW (by first | exact okMo (by decide) (by decide) (by decide) (by decide) (by decide) | exact okMf (by decide) (by decide) (by decide) (by decide) (by decide) (by decide) (by decide) (by decide) | exact okM30 (by omega) | exact okM42 (by omega) | exact okM33 (by omega) | exact okM10 (by omega) | exact okM8 (by omega) | exact okM22 (by omega) | exact okM24 (by omega) | exact okM14 (by omega) | exact okMa31 (by omega) | exact okMa35 (by omega) | exact okMa36 (by omega) | exact okMa3 (by omega) | exact okMr (by omega) | (unfold okM; refine ⟨?_, ?_, ?_, ?_, ?_, ?_, ?_, ?_, ?_, ?_, ?_, ?_⟩ <;> intro h <;> omega))) (Fr_uI Fr.rf (by omega))
            · skip
              have hc39 := Int32.toInt_inj.mpr hc39
              exact hK _ _ (WM_uI hW (by first | exact okMo (by decide) (by decide) (by decide) (by decide) (by decide) | exact okMf (by decide) (by decide) (by decide) (by decide) (by decide) (by decide) (by decide) (by decide) | exact okM30 (by omega) | exact okM42 (by omega) | exact okM33 (by omega) | exact okM10 (by omega) | exact okM8 (by omega) | exact okM22 (by omega) | exact okM24 (by omega) | exact okM14 (by omega) | exact okMa31 (by omega) | exact okMa35 (by omega) | exact okMa36 (by omega) | exact okMa3 (by omega) | exact okMr (by omega) | (unfold okM; refine ⟨?_, ?_, ?_, ?_, ?_, ?_, ?_, ?_, ?_, ?_, ?_, ?_⟩ <;> intro h <;> omega))) (Fr_uI Fr.rf (by omega))
        · skip
          have q11 := i32_lo v14
          have hc33 := Int32.toInt_inj.mpr hc33
          have q12 : (-2 : Int32).toInt = -2 := rfl
          refine sfX12_refuse ht (by decide) hW (by omega) (fun v16 I15 hWI15 hFI15 hp40 => ?_)
          have hwI15 := WM_f hWI15
          exact hK _ _ hWI15 (Fr.tr Fr.rf hFI15 (by intro a k h; omega))
      · skip
        have hc30 := Int32.toInt_inj.mpr hc30
        have q7 := i32_lo x2
        have q8 : (Int32.toInt64 x2).toInt = (x2).toInt := Int32.toInt_toInt64 _
        have q9 : (2 : Int64).toInt = 2 := rfl
        have q10 : (4 : Int64).toInt = 4 := rfl
        refine sfX12_in  trivial  (fun v18  hp41 => ?_)
        refine ⟨fun hc42 => ?_, fun hc43 => ?_⟩
        · skip
          have q11 := i32_lo v18
          have hc42 : ¬ (v18).toInt = (0 : Int32).toInt := fun z => hc42 (Int32.toInt_inj.mp z)
          refine ⟨fun hc44 => ?_, fun hc45 => ?_⟩
          · skip
            have hc44 : ¬ (x1).toInt = (0 : Int32).toInt := fun z => hc44 (Int32.toInt_inj.mp z)
            refine ⟨fun hc46 => ?_, fun hc47 => ?_⟩
            · skip
              have hc46 : ¬ (x1).toInt = (0 : Int32).toInt := fun z => hc46 (Int32.toInt_inj.mp z)
              exact hK _ _ (WM_uI hW (by first | exact okMo (by decide) (by decide) (by decide) (by decide) (by decide) | exact okMf (by decide) (by decide) (by decide) (by decide) (by decide) (by decide) (by decide) (by decide) | exact okM30 (by omega) | exact okM42 (by omega) | exact okM33 (by omega) | exact okM10 (by omega) | exact okM8 (by omega) | exact okM22 (by omega) | exact okM24 (by omega) | exact okM14 (by omega) | exact okMa31 (by omega) | exact okMa35 (by omega) | exact okMa36 (by omega) | exact okMa3 (by omega) | exact okMr (by omega) | (unfold okM; refine ⟨?_, ?_, ?_, ?_, ?_, ?_, ?_, ?_, ?_, ?_, ?_, ?_⟩ <;> intro h <;> omega))) (Fr_uI Fr.rf (by omega))
            · skip
              have hc47 := Int32.toInt_inj.mpr hc47
              exact hK _ _ (WM_uI hW (by first | exact okMo (by decide) (by decide) (by decide) (by decide) (by decide) | exact okMf (by decide) (by decide) (by decide) (by decide) (by decide) (by decide) (by decide) (by decide) | exact okM30 (by omega) | exact okM42 (by omega) | exact okM33 (by omega) | exact okM10 (by omega) | exact okM8 (by omega) | exact okM22 (by omega) | exact okM24 (by omega) | exact okM14 (by omega) | exact okMa31 (by omega) | exact okMa35 (by omega) | exact okMa36 (by omega) | exact okMa3 (by omega) | exact okMr (by omega) | (unfold okM; refine ⟨?_, ?_, ?_, ?_, ?_, ?_, ?_, ?_, ?_, ?_, ?_, ?_⟩ <;> intro h <;> omega))) (Fr_uI Fr.rf (by omega))
          · skip
            have hc45 := Int32.toInt_inj.mpr hc45
            refine ⟨fun hc48 => ?_, fun hc49 => ?_⟩
            · skip
              have hc48 : ¬ (x1).toInt = (0 : Int32).toInt := fun z => hc48 (Int32.toInt_inj.mp z)
              exact hK _ _ (WM_uI hW (by first | exact okMo (by decide) (by decide) (by decide) (by decide) (by decide) | exact okMf (by decide) (by decide) (by decide) (by decide) (by decide) (by decide) (by decide) (by decide) | exact okM30 (by omega) | exact okM42 (by omega) | exact okM33 (by omega) | exact okM10 (by omega) | exact okM8 (by omega) | exact okM22 (by omega) | exact okM24 (by omega) | exact okM14 (by omega) | exact okMa31 (by omega) | exact okMa35 (by omega) | exact okMa36 (by omega) | exact okMa3 (by omega) | exact okMr (by omega) | (unfold okM; refine ⟨?_, ?_, ?_, ?_, ?_, ?_, ?_, ?_, ?_, ?_, ?_, ?_⟩ <;> intro h <;> omega))) (Fr_uI Fr.rf (by omega))
            · skip
              have hc49 := Int32.toInt_inj.mpr hc49
              exact hK _ _ (WM_uI hW (by first | exact okMo (by decide) (by decide) (by decide) (by decide) (by decide) | exact okMf (by decide) (by decide) (by decide) (by decide) (by decide) (by decide) (by decide) (by decide) | exact okM30 (by omega) | exact okM42 (by omega) | exact okM33 (by omega) | exact okM10 (by omega) | exact okM8 (by omega) | exact okM22 (by omega) | exact okM24 (by omega) | exact okM14 (by omega) | exact okMa31 (by omega) | exact okMa35 (by omega) | exact okMa36 (by omega) | exact okMa3 (by omega) | exact okMr (by omega) | (unfold okM; refine ⟨?_, ?_, ?_, ?_, ?_, ?_, ?_, ?_, ?_, ?_, ?_, ?_⟩ <;> intro h <;> omega))) (Fr_uI Fr.rf (by omega))
        · skip
          have q11 := i32_lo v18
          have hc43 := Int32.toInt_inj.mpr hc43
          have q12 : (-2 : Int32).toInt = -2 := rfl
          refine sfX12_refuse ht (by decide) hW (by omega) (fun v20 I19 hWI19 hFI19 hp50 => ?_)
          have hwI19 := WM_f hWI19
          exact hK _ _ hWI19 (Fr.tr Fr.rf hFI19 (by intro a k h; omega))
