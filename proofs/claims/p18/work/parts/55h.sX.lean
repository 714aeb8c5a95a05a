theorem sfX11_knownOf {G : jdG} {n : Nat} {Z : jdL} {J : jdJ} {K : Int32 → jdI → jdJ → Prop}  {I : jdI} {x1 : Int32} {x2 : Int32} (hX : zX Z)  (hW : WX I)  (hK : ∀ (v : Int32) (I2 : jdI), WX I2 → Fr (fun a k => a = 28) I I2 → K v I2 J) : Cl G mX11_knownOf (n + 2) 0 0 [.ref (gb G + 0), .int x1, .int x2] Z I J (qi Z K) := by
  refine eX11_knownOf hX ?_
  have hwI := WX_f hW
  have q1 := i32_lo x1
  have q2 := i32_lo x2
  refine sfX9_hasTwo (zX_o0 hX) (by decide) hW  (fun v2  hp1 => ?_)
  refine ⟨fun hc2 => ?_, fun hc3 => ?_⟩
  · skip
    have q3 := i32_lo v2
    have q4 : (0 : Int32).toInt = 0 := rfl
    have hc2 := Int32.toInt_inj.mpr hc2
    have q5 : (-2 : Int32).toInt = -2 := rfl
    refine sfX11_refuse hX hW  (fun v4 I3 hWI3 hFI3 hp4 => ?_)
    have hwI3 := WX_f hWI3
    exact hK _ _ hWI3 (Fr.tr Fr.rf hFI3 (by intro a k h; omega))
  · skip
    have q3 := i32_lo v2
    have q4 : (0 : Int32).toInt = 0 := rfl
    have hc3 : ¬ (v2).toInt = (0 : Int32).toInt := fun z => hc3 (Int32.toInt_inj.mp z)
    refine sfX9_since (zX_o0 hX) (by decide) hW (by omega) (by omega) (fun v6  => ?_)
    exact hK _ _ hW Fr.rf
theorem sfX11_groups {G : jdG} {n : Nat} {Z : jdL} {J : jdJ} {K : Int32 → jdI → jdJ → Prop}  {I : jdI} {x1 : Int32} (hX : zX Z)  (hW : WX I)  (hK : ∀ (v : Int32) (I2 : jdI), WX I2 → Fr (fun a k => (13 ≤ a ∧ a ≤ 24) ∨ a = 28) I I2 → K v I2 J) : Cl G mX11_groups (n + 8) 0 0 [.ref (gb G + 0), .int x1] Z I J (qi Z K) := by
  refine eX11_groups hX ?_
  have hwI := WX_f hW
  have q1 := i32_lo x1
  refine sfX9_hasAll (zX_o0 hX) (by decide) hW  (fun v2  hp1 => ?_)
  refine ⟨fun hc2 => ?_, fun hc3 => ?_⟩
  · skip
    have q2 := i32_lo v2
    have q3 : (0 : Int32).toInt = 0 := rfl
    have hc2 : ¬ (v2).toInt = (0 : Int32).toInt := fun z => hc2 (Int32.toInt_inj.mp z)
    refine sfX8_load (zX_o3 hX) (zX_o0 hX) (by decide) hW  (fun I3 hWI3 hFI3 => ?_)
    have hwI3 := WX_f hWI3
    refine sfX8_countIn (zX_o3 hX) hWI3  (fun v6  => ?_)
    exact hK _ _ hWI3 (Fr.tr Fr.rf hFI3 (by intro a k h; omega))
  · skip
    have q2 := i32_lo v2
    have q3 : (0 : Int32).toInt = 0 := rfl
    have hc3 := Int32.toInt_inj.mpr hc3
    have q4 : (-2 : Int32).toInt = -2 := rfl
    refine sfX11_refuse hX hW  (fun v8 I7 hWI7 hFI7 hp6 => ?_)
    have hwI7 := WX_f hWI7
    exact hK _ _ hWI7 (Fr.tr Fr.rf hFI7 (by intro a k h; omega))
theorem sfX11_firstOf {G : jdG} {n : Nat} {Z : jdL} {J : jdJ} {K : Int32 → jdI → jdJ → Prop}  {I : jdI} {x1 : Int32} (hX : zX Z)  (hW : WX I)  (hK : ∀ (v : Int32) (I2 : jdI), WX I2 → Fr (fun a k => (13 ≤ a ∧ a ≤ 24) ∨ a = 28) I I2 → K v I2 J) : Cl G mX11_firstOf (n + 8) 0 0 [.ref (gb G + 0), .int x1] Z I J (qi Z K) := by
  refine eX11_firstOf hX ?_
  have hwI := WX_f hW
  have q1 := i32_lo x1
  refine sfX9_hasAll (zX_o0 hX) (by decide) hW  (fun v2  hp1 => ?_)
  refine ⟨fun hc2 => ?_, fun hc3 => ?_⟩
  · skip
    have q2 := i32_lo v2
    have q3 : (0 : Int32).toInt = 0 := rfl
    have hc2 : ¬ (v2).toInt = (0 : Int32).toInt := fun z => hc2 (Int32.toInt_inj.mp z)
    refine sfX8_load (zX_o3 hX) (zX_o0 hX) (by decide) hW  (fun I3 hWI3 hFI3 => ?_)
    have hwI3 := WX_f hWI3
    refine sfX8_firstIn (zX_o3 hX) hWI3  (fun v6  => ?_)
    exact hK _ _ hWI3 (Fr.tr Fr.rf hFI3 (by intro a k h; omega))
  · skip
    have q2 := i32_lo v2
    have q3 : (0 : Int32).toInt = 0 := rfl
    have hc3 := Int32.toInt_inj.mpr hc3
    have q4 : (-2 : Int32).toInt = -2 := rfl
    refine sfX11_refuse hX hW  (fun v8 I7 hWI7 hFI7 hp6 => ?_)
    have hwI7 := WX_f hWI7
    exact hK _ _ hWI7 (Fr.tr Fr.rf hFI7 (by intro a k h; omega))
theorem sfX11_most {G : jdG} {n : Nat} {Z : jdL} {J : jdJ} {K : Int32 → jdI → jdJ → Prop}  {I : jdI} {x1 : Int32} (hX : zX Z)  (hW : WX I)  (hK : ∀ (v : Int32) (I2 : jdI), WX I2 → Fr (fun a k => (13 ≤ a ∧ a ≤ 24) ∨ a = 28) I I2 → K v I2 J) : Cl G mX11_most (n + 8) 0 0 [.ref (gb G + 0), .int x1] Z I J (qi Z K) := by
  refine eX11_most hX ?_
  have hwI := WX_f hW
  have q1 := i32_lo x1
  refine sfX9_hasAll (zX_o0 hX) (by decide) hW  (fun v2  hp1 => ?_)
  refine ⟨fun hc2 => ?_, fun hc3 => ?_⟩
  · skip
    have q2 := i32_lo v2
    have q3 : (0 : Int32).toInt = 0 := rfl
    have hc2 : ¬ (v2).toInt = (0 : Int32).toInt := fun z => hc2 (Int32.toInt_inj.mp z)
    refine sfX8_load (zX_o3 hX) (zX_o0 hX) (by decide) hW  (fun I3 hWI3 hFI3 => ?_)
    have hwI3 := WX_f hWI3
    refine sfX8_mostFrom (zX_o3 hX) hWI3  (fun v6 I5 hWI5 hFI5 => ?_)
    have hwI5 := WX_f hWI5
    exact hK _ _ hWI5 (Fr.tr (Fr.tr Fr.rf hFI3 (by intro a k h; omega)) hFI5 (by intro a k h; omega))
  · skip
    have q2 := i32_lo v2
    have q3 : (0 : Int32).toInt = 0 := rfl
    have hc3 := Int32.toInt_inj.mpr hc3
    have q4 : (-2 : Int32).toInt = -2 := rfl
    refine sfX11_refuse hX hW  (fun v8 I7 hWI7 hFI7 hp6 => ?_)
    have hwI7 := WX_f hWI7
    exact hK _ _ hWI7 (Fr.tr Fr.rf hFI7 (by intro a k h; omega))
theorem sfX11_mostOf {G : jdG} {n : Nat} {Z : jdL} {J : jdJ} {K : Int32 → jdI → jdJ → Prop}  {I : jdI} {x1 : Int32} {x2 : Int32} (hX : zX Z)  (hW : WX I)  (hK : ∀ (v : Int32) (I2 : jdI), WX I2 → Fr (fun a k => (13 ≤ a ∧ a ≤ 24) ∨ a = 28) I I2 → K v I2 J) : Cl G mX11_mostOf (n + 8) 0 0 [.ref (gb G + 0), .int x1, .int x2] Z I J (qi Z K) := by
  refine eX11_mostOf hX ?_
  have hwI := WX_f hW
  have q1 := i32_lo x1
  refine sfX9_hasAll (zX_o0 hX) (by decide) hW  (fun v2  hp1 => ?_)
  refine ⟨fun hc2 => ?_, fun hc3 => ?_⟩
  · skip
    have q2 := i32_lo v2
    have q3 : (0 : Int32).toInt = 0 := rfl
    have hc2 := Int32.toInt_inj.mpr hc2
    have q4 : (-2 : Int32).toInt = -2 := rfl
    refine sfX11_refuse hX hW  (fun v4 I3 hWI3 hFI3 hp4 => ?_)
    have hwI3 := WX_f hWI3
    exact hK _ _ hWI3 (Fr.tr Fr.rf hFI3 (by intro a k h; omega))
  · skip
    have q2 := i32_lo v2
    have q3 : (0 : Int32).toInt = 0 := rfl
    have hc3 : ¬ (v2).toInt = (0 : Int32).toInt := fun z => hc3 (Int32.toInt_inj.mp z)
    refine ⟨fun hc5 => ?_, fun hc6 => ?_⟩
    · skip
      have q4 := i32_lo x2
      have hc5 := Int32.le_iff_toInt_le.mp hc5
      refine sfX8_load (zX_o3 hX) (zX_o0 hX) (by decide) hW  (fun I5 hWI5 hFI5 => ?_)
      have hwI5 := WX_f hWI5
      refine sfX8_mostFrom (zX_o3 hX) hWI5  (fun v8 I7 hWI7 hFI7 => ?_)
      have hwI7 := WX_f hWI7
      refine ⟨fun hc9 => ?_, fun hc10 => ?_⟩
      · skip
        have q5 := i32_lo v8
        have hc9 := Int32.lt_iff_toInt_lt.mp hc9
        refine sfX8_mostRow (zX_o3 hX) hWI7  (fun v10 I9 hWI9 hFI9 => ?_)
        have hwI9 := WX_f hWI9
        exact hK _ _ hWI9 (Fr.tr (Fr.tr (Fr.tr Fr.rf hFI5 (by intro a k h; omega)) hFI7 (by intro a k h; omega)) hFI9 (by intro a k h; omega))
      · skip
        have q5 := i32_lo v8
        have hc10 := mt Int32.lt_iff_toInt_lt.mpr hc10
        have q6 : (-5 : Int32).toInt = -5 := rfl
        refine sfX11_refuse hX hWI7  (fun v12 I11 hWI11 hFI11 hp12 => ?_)
        have hwI11 := WX_f hWI11
        exact hK _ _ hWI11 (Fr.tr (Fr.tr (Fr.tr Fr.rf hFI5 (by intro a k h; omega)) hFI7 (by intro a k h; omega)) hFI11 (by intro a k h; omega))
    · skip
      have q4 := i32_lo x2
      have hc6 := mt Int32.le_iff_toInt_le.mpr hc6
      have q5 : (-2 : Int32).toInt = -2 := rfl
      refine sfX11_refuse hX hW  (fun v14 I13 hWI13 hFI13 hp13 => ?_)
      have hwI13 := WX_f hWI13
      exact hK _ _ hWI13 (Fr.tr Fr.rf hFI13 (by intro a k h; omega))
theorem sfX11_sends {G : jdG} {n : Nat} {Z : jdL} {J : jdJ} {K : Int32 → jdI → jdJ → Prop}  {I : jdI} {x1 : Int32} {x2 : Int32} {x3 : Int32} (hX : zX Z) (hM : zMen Z)  (hW : WX I)  (hK : ∀ (v : Int32) (I2 : jdI), WX I2 → Fr (fun a k => (13 ≤ a ∧ a ≤ 24) ∨ a = 28) I I2 → K v I2 J) : Cl G mX11_sends (n + 8) 0 0 [.ref (gb G + 0), .int x1, .int x2, .int x3] Z I J (qi Z K) := by
  refine eX11_sends hX ?_
  have hwI := WX_f hW
  have q1 := i32_lo x2
  refine sfX9_hasAll (zX_o0 hX) (by decide) hW  (fun v2  hp1 => ?_)
  refine ⟨fun hc2 => ?_, fun hc3 => ?_⟩
  · skip
    have q2 := i32_lo v2
    have q3 : (0 : Int32).toInt = 0 := rfl
    have hc2 := Int32.toInt_inj.mpr hc2
    have q4 : (-2 : Int32).toInt = -2 := rfl
    refine sfX11_refuse hX hW  (fun v4 I3 hWI3 hFI3 hp4 => ?_)
    have hwI3 := WX_f hWI3
    exact hK _ _ hWI3 (Fr.tr Fr.rf hFI3 (by intro a k h; omega))
  · skip
    have q2 := i32_lo v2
    have q3 : (0 : Int32).toInt = 0 := rfl
    have hc3 : ¬ (v2).toInt = (0 : Int32).toInt := fun z => hc3 (Int32.toInt_inj.mp z)
    refine ⟨fun hc5 => ?_, fun hc6 => ?_⟩
    · skip
      have q4 := i32_lo x3
      have hc5 := Int32.lt_iff_toInt_lt.mp hc5
      have q5 : (-2 : Int32).toInt = -2 := rfl
      refine sfX11_refuse hX hW  (fun v6 I5 hWI5 hFI5 hp7 => ?_)
      have hwI5 := WX_f hWI5
      exact hK _ _ hWI5 (Fr.tr Fr.rf hFI5 (by intro a k h; omega))
    · skip
      have q4 := i32_lo x3
      have hc6 := mt Int32.lt_iff_toInt_lt.mpr hc6
      refine ⟨fun hc8 => ?_, fun hc9 => ?_⟩
      · skip
        have q5 : (7 : Int32).toInt = 7 := rfl
        have hc8 := Int32.le_iff_toInt_le.mp hc8
        refine sfX11_manIn hX hM hW (fun o hp10 => ?_)
        refine ⟨fun hc11 => ?_, ?_⟩
        · skip
          refine sfX11_whyNoMan hX hW  (fun v10  hp13 => ?_)
          have q6 := i32_lo v10
          refine sfX11_refuse hX hW  (fun v12 I11 hWI11 hFI11 hp14 => ?_)
          have hwI11 := WX_f hWI11
          exact hK _ _ hWI11 (Fr.tr Fr.rf hFI11 (by intro a k h; omega))
        · skip
          intro w8 hc15
          refine sfX8_load (zX_o3 hX) (zX_o0 hX) (by decide) hW  (fun I13 hWI13 hFI13 => ?_)
          have hwI13 := WX_f hWI13
          refine ⟨(hp10 _ hc15), ?_⟩
          refine sf_vpick (zX_o3 hX) hWI13 (fun v16 I15 hWI15 hFI15 => ?_)
          have hwI15 := WX_f hWI15
          exact hK _ _ hWI15 (Fr.tr (Fr.tr Fr.rf hFI13 (by intro a k h; omega)) hFI15 (by intro a k h; omega))
      · skip
        have q5 : (7 : Int32).toInt = 7 := rfl
        have hc9 := mt Int32.le_iff_toInt_le.mpr hc9
        have q6 : (-2 : Int32).toInt = -2 := rfl
        refine sfX11_refuse hX hW  (fun v19 I18 hWI18 hFI18 hp18 => ?_)
        have hwI18 := WX_f hWI18
        exact hK _ _ hWI18 (Fr.tr Fr.rf hFI18 (by intro a k h; omega))
