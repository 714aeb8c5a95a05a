theorem sfX11_ever {G : jdG} {n : Nat} {Z : jdL} {J : jdJ} {K : Int32 → jdI → jdJ → Prop}  {I : jdI} {x1 : Int32} (hX : zX Z)  (hW : WX I)  (hK : ∀ (v : Int32) (I2 : jdI), WX I2 → Fr (fun a k => (13 ≤ a ∧ a ≤ 24) ∨ a = 28) I I2 → K v I2 J) : Cl G mX11_ever (n + 31) 0 0 [.ref (gb G + 0), .int x1] Z I J (qi Z K) := by
  refine eX11_ever hX ?_
  have hwI := WX_f hW
  refine ⟨fun hc1 => ?_, fun hc2 => ?_⟩
  · skip
    have q1 := i32_lo x1
    have q2 : (0 : Int32).toInt = 0 := rfl
    have hc1 := Int32.toInt_inj.mpr hc1
    refine sfX8_load (zX_o3 hX) (zX_o0 hX) (by decide) hW  (fun I1 hWI1 hFI1 => ?_)
    have hwI1 := WX_f hWI1
    refine ⟨fun hc4 => ?_, fun hc5 => ?_⟩
    · skip
      have hc4 : ¬ (x1).toInt = (0 : Int32).toInt := fun z => hc4 (Int32.toInt_inj.mp z)
      refine sfX8_soonest (zX_o3 hX) hWI1  (fun v4 I3 hWI3 hFI3 => ?_)
      have hwI3 := WX_f hWI3
      exact hK _ _ hWI3 (Fr.tr (Fr.tr Fr.rf hFI1 (by intro a k h; omega)) hFI3 (by intro a k h; omega))
    · skip
      have hc5 := Int32.toInt_inj.mpr hc5
      refine sfX8_longest (zX_o3 hX) hWI1  (fun v6 I5 hWI5 hFI5 => ?_)
      have hwI5 := WX_f hWI5
      exact hK _ _ hWI5 (Fr.tr (Fr.tr Fr.rf hFI1 (by intro a k h; omega)) hFI5 (by intro a k h; omega))
  · skip
    have q1 := i32_lo x1
    have q2 : (0 : Int32).toInt = 0 := rfl
    have hc2 : ¬ (x1).toInt = (0 : Int32).toInt := fun z => hc2 (Int32.toInt_inj.mp z)
    refine ⟨fun hc8 => ?_, fun hc9 => ?_⟩
    · skip
      have q3 : (1 : Int32).toInt = 1 := rfl
      have hc8 := Int32.toInt_inj.mpr hc8
      refine sfX8_load (zX_o3 hX) (zX_o0 hX) (by decide) hW  (fun I7 hWI7 hFI7 => ?_)
      have hwI7 := WX_f hWI7
      refine ⟨fun hc11 => ?_, fun hc12 => ?_⟩
      · skip
        have hc11 : ¬ (x1).toInt = (0 : Int32).toInt := fun z => hc11 (Int32.toInt_inj.mp z)
        refine sfX8_soonest (zX_o3 hX) hWI7  (fun v10 I9 hWI9 hFI9 => ?_)
        have hwI9 := WX_f hWI9
        exact hK _ _ hWI9 (Fr.tr (Fr.tr Fr.rf hFI7 (by intro a k h; omega)) hFI9 (by intro a k h; omega))
      · skip
        have hc12 := Int32.toInt_inj.mpr hc12
        refine sfX8_longest (zX_o3 hX) hWI7  (fun v12 I11 hWI11 hFI11 => ?_)
        have hwI11 := WX_f hWI11
        exact hK _ _ hWI11 (Fr.tr (Fr.tr Fr.rf hFI7 (by intro a k h; omega)) hFI11 (by intro a k h; omega))
    · skip
      have q3 : (1 : Int32).toInt = 1 := rfl
      have hc9 : ¬ (x1).toInt = (1 : Int32).toInt := fun z => hc9 (Int32.toInt_inj.mp z)
      have q4 : (-2 : Int32).toInt = -2 := rfl
      refine sfX11_refuse hX hW  (fun v14 I13 hWI13 hFI13 hp15 => ?_)
      have hwI13 := WX_f hWI13
      exact hK _ _ hWI13 (Fr.tr Fr.rf hFI13 (by intro a k h; omega))
theorem sfX11_hire {G : jdG} {n : Nat} {Z : jdL} {J : jdJ} {K : Int32 → jdI → jdJ → Prop}  {I : jdI}  (hX : zX Z)  (hW : WX I)  (hK : ∀ (v : Int32) (I2 : jdI), WX I2 → Fr (fun a k => (13 ≤ a ∧ a ≤ 24) ∨ a = 28) I I2 → K v I2 J) : Cl G mX11_hire (n + 8) 0 0 [.ref (gb G + 0)] Z I J (qi Z K) := by
  refine eX11_hire hX ?_
  have hwI := WX_f hW
  refine sfX8_load (zX_o3 hX) (zX_o0 hX) (by decide) hW  (fun I1 hWI1 hFI1 => ?_)
  have hwI1 := WX_f hWI1
  refine sfX9_everybody (zX_o0 hX) (by decide) hWI1  (fun v4  hp2 => ?_)
  refine sfX8_mostFrom (zX_o3 hX) hWI1  (fun v6 I5 hWI5 hFI5 => ?_)
  have hwI5 := WX_f hWI5
  refine sfX8_addStranger (zX_o3 hX) hWI5  (fun I7 hWI7 hFI7 => ?_)
  have hwI7 := WX_f hWI7
  refine sfX9_everybody (zX_o0 hX) (by decide) hWI7  (fun v10  hp5 => ?_)
  refine sfX8_mostFrom (zX_o3 hX) hWI7  (fun v12 I11 hWI11 hFI11 => ?_)
  have hwI11 := WX_f hWI11
  exact hK _ _ hWI11 (Fr.tr (Fr.tr (Fr.tr (Fr.tr Fr.rf hFI1 (by intro a k h; omega)) hFI5 (by intro a k h; omega)) hFI7 (by intro a k h; omega)) hFI11 (by intro a k h; omega))
theorem sfX11_feast {G : jdG} {n : Nat} {Z : jdL} {J : jdJ} {K : Int32 → jdI → jdJ → Prop}  {I : jdI} {x1 : Int32} (hX : zX Z)  (hW : WX I)  (hK : ∀ (v : Int32) (I2 : jdI), WX I2 → Fr (fun a k => (13 ≤ a ∧ a ≤ 24) ∨ a = 28) I I2 → K v I2 J) : Cl G mX11_feast (n + 31) 0 0 [.ref (gb G + 0), .int x1] Z I J (qi Z K) := by
  refine eX11_feast hX ?_
  have hwI := WX_f hW
  have q1 := i32_lo x1
  refine sfX9_hasAll (zX_o0 hX) (by decide) hW  (fun v2  hp1 => ?_)
  refine ⟨fun hc2 => ?_, fun hc3 => ?_⟩
  · skip
    have q2 := i32_lo v2
    have q3 : (0 : Int32).toInt = 0 := rfl
    have hc2 : ¬ (v2).toInt = (0 : Int32).toInt := fun z => hc2 (Int32.toInt_inj.mp z)
    refine sfX8_load (zX_o3 hX) (zX_o0 hX) (by decide) hW  (fun I3 hWI3 hFI3 => ?_)
    have hwI3 := WX_f hWI3
    refine sfX8_longest (zX_o3 hX) hWI3  (fun v6 I5 hWI5 hFI5 => ?_)
    have hwI5 := WX_f hWI5
    refine sfX8_acquaint (zX_o3 hX) hWI5  (fun I7 hWI7 hFI7 => ?_)
    have hwI7 := WX_f hWI7
    refine sfX8_longest (zX_o3 hX) hWI7  (fun v10 I9 hWI9 hFI9 => ?_)
    have hwI9 := WX_f hWI9
    exact hK _ _ hWI9 (Fr.tr (Fr.tr (Fr.tr (Fr.tr Fr.rf hFI3 (by intro a k h; omega)) hFI5 (by intro a k h; omega)) hFI7 (by intro a k h; omega)) hFI9 (by intro a k h; omega))
  · skip
    have q2 := i32_lo v2
    have q3 : (0 : Int32).toInt = 0 := rfl
    have hc3 := Int32.toInt_inj.mpr hc3
    have q4 : (-2 : Int32).toInt = -2 := rfl
    refine sfX11_refuse hX hW  (fun v12 I11 hWI11 hFI11 hp8 => ?_)
    have hwI11 := WX_f hWI11
    exact hK _ _ hWI11 (Fr.tr Fr.rf hFI11 (by intro a k h; omega))
theorem sfX11_closes {G : jdG} {n : Nat} {Z : jdL} {J : jdJ} {K : Int32 → jdI → jdJ → Prop}  {I : jdI} {x1 : Int32} {x2 : Int32} (hX : zX Z)  (hW : WX I)  (hK : ∀ (v : Int32) (I2 : jdI), WX I2 → Fr (fun a k => (13 ≤ a ∧ a ≤ 24) ∨ a = 28) I I2 → K v I2 J) : Cl G mX11_closes (n + 8) 0 0 [.ref (gb G + 0), .int x1, .int x2] Z I J (qi Z K) := by
  refine eX11_closes hX ?_
  have hwI := WX_f hW
  have q1 := i32_lo x1
  have q2 := i32_lo x2
  refine sfX9_hasTwo (zX_o0 hX) (by decide) hW  (fun v2  hp1 => ?_)
  refine ⟨fun hc2 => ?_, fun hc3 => ?_⟩
  · skip
    have q3 := i32_lo v2
    have q4 : (0 : Int32).toInt = 0 := rfl
    have hc2 : ¬ (v2).toInt = (0 : Int32).toInt := fun z => hc2 (Int32.toInt_inj.mp z)
    refine sfX8_load (zX_o3 hX) (zX_o0 hX) (by decide) hW  (fun I3 hWI3 hFI3 => ?_)
    have hwI3 := WX_f hWI3
    refine sfX8_countWith (zX_o3 hX) hWI3  (fun v6  => ?_)
    exact hK _ _ hWI3 (Fr.tr Fr.rf hFI3 (by intro a k h; omega))
  · skip
    have q3 := i32_lo v2
    have q4 : (0 : Int32).toInt = 0 := rfl
    have hc3 := Int32.toInt_inj.mpr hc3
    have q5 : (-2 : Int32).toInt = -2 := rfl
    refine sfX11_refuse hX hW  (fun v8 I7 hWI7 hFI7 hp6 => ?_)
    have hwI7 := WX_f hWI7
    exact hK _ _ hWI7 (Fr.tr Fr.rf hFI7 (by intro a k h; omega))
theorem sfX11_worst {G : jdG} {n : Nat} {Z : jdL} {J : jdJ} {K : Int32 → jdI → jdJ → Prop}  {I : jdI}  (hX : zX Z)  (hW : WX I)  (hK : ∀ (v : Int32) (I2 : jdI), WX I2 → Fr (fun a k => (13 ≤ a ∧ a ≤ 24) ∨ a = 28) I I2 → K v I2 J) : Cl G mX11_worst (n + 8) 0 0 [.ref (gb G + 0)] Z I J (qi Z K) := by
  refine eX11_worst hX ?_
  have hwI := WX_f hW
  refine sfX8_load (zX_o3 hX) (zX_o0 hX) (by decide) hW  (fun I1 hWI1 hFI1 => ?_)
  have hwI1 := WX_f hWI1
  refine sfX8_closest (zX_o3 hX) hWI1  (fun v4  => ?_)
  refine ⟨fun hc3 => ?_, fun hc4 => ?_⟩
  · skip
    have q1 := i32_lo v4
    have q2 : (-1 : Int32).toInt = -1 := rfl
    have hc3 : ¬ (v4).toInt = ((-1) : Int32).toInt := fun z => hc3 (Int32.toInt_inj.mp z)
    exact hK _ _ hWI1 (Fr.tr Fr.rf hFI1 (by intro a k h; omega))
  · skip
    have q1 := i32_lo v4
    have q2 : (-1 : Int32).toInt = -1 := rfl
    have hc4 := Int32.toInt_inj.mpr hc4
    have q3 : (-5 : Int32).toInt = -5 := rfl
    refine sfX11_refuse hX hWI1  (fun v6 I5 hWI5 hFI5 hp5 => ?_)
    have hwI5 := WX_f hWI5
    exact hK _ _ hWI5 (Fr.tr (Fr.tr Fr.rf hFI1 (by intro a k h; omega)) hFI5 (by intro a k h; omega))
theorem sfX11_fits {G : jdG} {n : Nat} {Z : jdL} {J : jdJ} {K : Int32 → jdI → jdJ → Prop}  {I : jdI} {x1 : Int32} (hX : zX Z)  (hW : WX I)  (hK : ∀ (v : Int32) (I2 : jdI), WX I2 → Fr (fun a k => (13 ≤ a ∧ a ≤ 24) ∨ a = 28) I I2 → K v I2 J) : Cl G mX11_fits (n + 8) 0 0 [.ref (gb G + 0), .int x1] Z I J (qi Z K) := by
  refine eX11_fits hX ?_
  have hwI := WX_f hW
  have q1 := i32_lo x1
  refine sfX11_canBeSecret hX hW  (fun v2  hp1 => ?_)
  refine ⟨fun hc2 => ?_, fun hc3 => ?_⟩
  · skip
    have q2 := i32_lo v2
    have q3 : (0 : Int32).toInt = 0 := rfl
    have hc2 : ¬ (v2).toInt = (0 : Int32).toInt := fun z => hc2 (Int32.toInt_inj.mp z)
    refine sfX8_load (zX_o3 hX) (zX_o0 hX) (by decide) hW  (fun I3 hWI3 hFI3 => ?_)
    have hwI3 := WX_f hWI3
    refine sfX8_countWays (zX_o3 hX) hWI3  (fun v6 I5 hWI5 hFI5 => ?_)
    have hwI5 := WX_f hWI5
    exact hK _ _ hWI5 (Fr.tr (Fr.tr Fr.rf hFI3 (by intro a k h; omega)) hFI5 (by intro a k h; omega))
  · skip
    have q2 := i32_lo v2
    have q3 : (0 : Int32).toInt = 0 := rfl
    have hc3 := Int32.toInt_inj.mpr hc3
    have q4 : (-2 : Int32).toInt = -2 := rfl
    refine sfX11_refuse hX hW  (fun v8 I7 hWI7 hFI7 hp6 => ?_)
    have hwI7 := WX_f hWI7
    exact hK _ _ hWI7 (Fr.tr Fr.rf hFI7 (by intro a k h; omega))
theorem sfX11_sure {G : jdG} {n : Nat} {Z : jdL} {J : jdJ} {K : Int32 → jdI → jdJ → Prop}  {I : jdI} {x1 : Int32} (hX : zX Z)  (hW : WX I)  (hK : ∀ (v : Int32) (I2 : jdI), WX I2 → Fr (fun a k => (13 ≤ a ∧ a ≤ 24) ∨ a = 28) I I2 → K v I2 J) : Cl G mX11_sure (n + 8) 0 0 [.ref (gb G + 0), .int x1] Z I J (qi Z K) := by
  refine eX11_sure hX ?_
  have hwI := WX_f hW
  have q1 := i32_lo x1
  refine sfX11_canBeSecret hX hW  (fun v2  hp1 => ?_)
  refine ⟨fun hc2 => ?_, fun hc3 => ?_⟩
  · skip
    have q2 := i32_lo v2
    have q3 : (0 : Int32).toInt = 0 := rfl
    have hc2 : ¬ (v2).toInt = (0 : Int32).toInt := fun z => hc2 (Int32.toInt_inj.mp z)
    refine sfX8_load (zX_o3 hX) (zX_o0 hX) (by decide) hW  (fun I3 hWI3 hFI3 => ?_)
    have hwI3 := WX_f hWI3
    refine sfX8_surest (zX_o3 hX) hWI3  (fun v6 I5 hWI5 hFI5 => ?_)
    have hwI5 := WX_f hWI5
    refine ⟨fun hc6 => ?_, fun hc7 => ?_⟩
    · skip
      have q4 := i32_lo v6
      have q5 : (-1 : Int32).toInt = -1 := rfl
      have hc6 : ¬ (v6).toInt = ((-1) : Int32).toInt := fun z => hc6 (Int32.toInt_inj.mp z)
      exact hK _ _ hWI5 (Fr.tr (Fr.tr Fr.rf hFI3 (by intro a k h; omega)) hFI5 (by intro a k h; omega))
    · skip
      have q4 := i32_lo v6
      have q5 : (-1 : Int32).toInt = -1 := rfl
      have hc7 := Int32.toInt_inj.mpr hc7
      have q6 : (-5 : Int32).toInt = -5 := rfl
      refine sfX11_refuse hX hWI5  (fun v8 I7 hWI7 hFI7 hp8 => ?_)
      have hwI7 := WX_f hWI7
      exact hK _ _ hWI7 (Fr.tr (Fr.tr (Fr.tr Fr.rf hFI3 (by intro a k h; omega)) hFI5 (by intro a k h; omega)) hFI7 (by intro a k h; omega))
  · skip
    have q2 := i32_lo v2
    have q3 : (0 : Int32).toInt = 0 := rfl
    have hc3 := Int32.toInt_inj.mpr hc3
    have q4 : (-2 : Int32).toInt = -2 := rfl
    refine sfX11_refuse hX hW  (fun v10 I9 hWI9 hFI9 hp9 => ?_)
    have hwI9 := WX_f hWI9
    exact hK _ _ hWI9 (Fr.tr Fr.rf hFI9 (by intro a k h; omega))
