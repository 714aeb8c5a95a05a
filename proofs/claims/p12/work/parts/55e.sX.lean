theorem sfX11_feed {G : jdG} {n : Nat} {Z : jdL} {J : jdJ} {K : Int32 → jdI → jdJ → Prop}  {I : jdI} {x1 : Int32} (hX : zX Z)  (hW : WX I)  (hK : ∀ (v : Int32) (I2 : jdI), WX I2 → Fr (fun a k => (25 ≤ a ∧ a ≤ 26) ∨ a = 28) I I2 → (((0 ≤ x1.toInt ∧ x1.toInt ≤ 255) ∧ (I 25 1).toInt < 250 ∧ v.toInt = (I 25 1).toInt + 1 ∧ (I2 25 1).toInt = (I 25 1).toInt + 1) ∨ ((0 ≤ x1.toInt ∧ x1.toInt ≤ 255) ∧ (I 25 1).toInt = 250 ∧ v.toInt = -6 ∧ (I2 25 1).toInt = (I 25 1).toInt) ∨ (¬ (0 ≤ x1.toInt ∧ x1.toInt ≤ 255) ∧ v.toInt = -2 ∧ (I2 25 1).toInt = (I 25 1).toInt)) → K v I2 J) : Cl G mX11_feed (n + 1) 0 0 [.ref (gb G + 0), .int x1] Z I J (qi Z K) := by
  refine eX11_feed hX ?_
  have hwI := WX_f hW
  refine ⟨fun hc1 => ?_, fun hc2 => ?_⟩
  · skip
    have q1 := i32_lo x1
    have q2 : (0 : Int32).toInt = 0 := rfl
    have hc1 := Int32.lt_iff_toInt_lt.mp hc1
    have q3 : (-2 : Int32).toInt = -2 := rfl
    refine sfX11_refuse hX hW  (fun v2 I1 hWI1 hFI1 hp3 => ?_)
    have hwI1 := WX_f hWI1
    first | have hk4 : (I1 25 1).toInt = (I 25 1).toInt := (by rw [hFI1 25 1 (by omega)]) | skip
    have hvr := congrArg Int32.toInt hp3
    have q4 := i32_lo v2
    exact hK _ _ hWI1 (Fr.tr Fr.rf hFI1 (by intro a k h; omega)) (by omega)
  · skip
    have q1 := i32_lo x1
    have q2 : (0 : Int32).toInt = 0 := rfl
    have hc2 := mt Int32.lt_iff_toInt_lt.mpr hc2
    refine ⟨fun hc5 => ?_, fun hc6 => ?_⟩
    · skip
      have q3 : (255 : Int32).toInt = 255 := rfl
      have hc5 := Int32.le_iff_toInt_le.mp hc5
      refine sfX5_isFull (zX_o5 hX) hW  (fun v4  hp7 => ?_)
      refine ⟨fun hc8 => ?_, fun hc9 => ?_⟩
      · skip
        have q4 := i32_lo v4
        have hc8 := Int32.toInt_inj.mpr hc8
        refine sfX5_append (zX_o5 hX) hW  (fun I5 hWI5 hFI5 hp10 => ?_)
        have hwI5 := WX_f hWI5
        first | have hk11 : (I5 25 1).toInt = (I 25 1).toInt := (by rw [hFI5 25 1 (by omega)]) | skip
        have q5 := i32_lo (I5 25 1)
        exact hK _ _ hWI5 (Fr.tr Fr.rf hFI5 (by intro a k h; omega)) (by omega)
      · skip
        have q4 := i32_lo v4
        have hc9 : ¬ (v4).toInt = (0 : Int32).toInt := fun z => hc9 (Int32.toInt_inj.mp z)
        have q5 : (-6 : Int32).toInt = -6 := rfl
        refine sfX11_refuse hX hW  (fun v8 I7 hWI7 hFI7 hp12 => ?_)
        have hwI7 := WX_f hWI7
        first | have hk13 : (I7 25 1).toInt = (I 25 1).toInt := (by rw [hFI7 25 1 (by omega)]) | skip
        have hvr := congrArg Int32.toInt hp12
        have q6 := i32_lo v8
        exact hK _ _ hWI7 (Fr.tr Fr.rf hFI7 (by intro a k h; omega)) (by omega)
    · skip
      have q3 : (255 : Int32).toInt = 255 := rfl
      have hc6 := mt Int32.le_iff_toInt_le.mpr hc6
      have q4 : (-2 : Int32).toInt = -2 := rfl
      refine sfX11_refuse hX hW  (fun v10 I9 hWI9 hFI9 hp14 => ?_)
      have hwI9 := WX_f hWI9
      first | have hk15 : (I9 25 1).toInt = (I 25 1).toInt := (by rw [hFI9 25 1 (by omega)]) | skip
      have hvr := congrArg Int32.toInt hp14
      have q5 := i32_lo v10
      exact hK _ _ hWI9 (Fr.tr Fr.rf hFI9 (by intro a k h; omega)) (by omega)
theorem sfX11_wipe {G : jdG} {n : Nat} {Z : jdL} {J : jdJ} {K : Int32 → jdI → jdJ → Prop}  {I : jdI}  (hX : zX Z)  (hW : WX I)  (hK : ∀ (v : Int32) (I2 : jdI), WX I2 → Fr (fun a k => a = 25) I I2 → (v.toInt = (I 25 1).toInt ∧ (I2 25 1).toInt = 0) → K v I2 J) : Cl G mX11_wipe (n + 1) 0 0 [.ref (gb G + 0)] Z I J (qi Z K) := by
  refine eX11_wipe hX ?_
  have hwI := WX_f hW
  refine sfX5_clear (zX_o5 hX) hW  (fun I1 hWI1 hFI1 hp1 => ?_)
  have hwI1 := WX_f hWI1
  have q1 := i32_lo (I 25 1)
  exact hK _ _ hWI1 (Fr.tr Fr.rf hFI1 (by intro a k h; omega)) (by omega)
theorem sfX11_town {G : jdG} {n : Nat} {Z : jdL} {J : jdJ} {K : Int32 → jdI → jdJ → Prop}  {I : jdI} {sA : Nat → Nat} {sV : Nat → Nat} (hG : gOK G sA sV) (hX : zX Z)  (hW : WX I)  (hK : ∀ (v : Int32) (I2 : jdI), WX I2 → Fr (fun a k => (1 ≤ a ∧ a ≤ 4) ∨ (9 ≤ a ∧ a ≤ 12) ∨ (25 ≤ a ∧ a ≤ 26) ∨ a = 28) I I2 → ((I2 25 1).toInt = 0) → K v I2 J) : Cl G mX11_town (n + 8) 0 0 [.ref (gb G + 0)] Z I J (qi Z K) := by
  refine eX11_town hX ?_
  have hwI := WX_f hW
  refine sfX9_become (zX_o2 hX) (zX_o0 hX) (by decide) (by decide) hW  (fun I1 hWI1 hFI1 => ?_)
  have hwI1 := WX_f hWI1
  first | have hk2 : (I1 25 1).toInt = (I 25 1).toInt := (by rw [hFI1 25 1 (by omega)]) | skip
  refine sfX5_read hG (zX_o5 hX) (zX_o2 hX) (by decide) hWI1  (fun v4 I3 hWI3 hFI3 => ?_)
  have hwI3 := WX_f hWI3
  first | have hk4 : (I3 25 1).toInt = (I1 25 1).toInt := (by rw [hFI3 25 1 (by omega)]) | skip
  refine sfX5_clear (zX_o5 hX) hWI3  (fun I5 hWI5 hFI5 hp5 => ?_)
  have hwI5 := WX_f hWI5
  first | have hk6 : (I5 25 1).toInt = (I3 25 1).toInt := (by rw [hFI5 25 1 (by omega)]) | skip
  refine ⟨fun hc7 => ?_, fun hc8 => ?_⟩
  · skip
    have q1 := i32_lo v4
    have q2 : (-1 : Int32).toInt = -1 := rfl
    have hc7 : ¬ (v4).toInt = ((-1) : Int32).toInt := fun z => hc7 (Int32.toInt_inj.mp z)
    refine sfX9_become (zX_o0 hX) (zX_o2 hX) (by decide) (by decide) hWI5  (fun I7 hWI7 hFI7 => ?_)
    have hwI7 := WX_f hWI7
    first | have hk10 : (I7 25 1).toInt = (I5 25 1).toInt := (by rw [hFI7 25 1 (by omega)]) | skip
    exact hK _ _ hWI7 (Fr.tr (Fr.tr (Fr.tr (Fr.tr Fr.rf hFI1 (by intro a k h; omega)) hFI3 (by intro a k h; omega)) hFI5 (by intro a k h; omega)) hFI7 (by intro a k h; omega)) (by omega)
  · skip
    have q1 := i32_lo v4
    have q2 : (-1 : Int32).toInt = -1 := rfl
    have hc8 := Int32.toInt_inj.mpr hc8
    have q3 : (-2 : Int32).toInt = -2 := rfl
    refine sfX11_refuse hX hWI5  (fun v10 I9 hWI9 hFI9 hp11 => ?_)
    have hwI9 := WX_f hWI9
    first | have hk12 : (I9 25 1).toInt = (I5 25 1).toInt := (by rw [hFI9 25 1 (by omega)]) | skip
    exact hK _ _ hWI9 (Fr.tr (Fr.tr (Fr.tr (Fr.tr Fr.rf hFI1 (by intro a k h; omega)) hFI3 (by intro a k h; omega)) hFI5 (by intro a k h; omega)) hFI9 (by intro a k h; omega)) (by omega)
theorem sfX11_personOf {G : jdG} {n : Nat} {Z : jdL} {J : jdJ} {K : Int32 → jdI → jdJ → Prop}  {I : jdI} {x1 : Int32} {x2 : Int32} (hX : zX Z)  (hW : WX I)  (hK : ∀ (v : Int32) (I2 : jdI), WX I2 → Fr (fun a k => a = 28) I I2 → K v I2 J) : Cl G mX11_personOf (n + 2) 0 0 [.ref (gb G + 0), .int x1, .int x2] Z I J (qi Z K) := by
  refine eX11_personOf hX ?_
  have hwI := WX_f hW
  have q1 := i32_lo x1
  refine sfX9_has (zX_o0 hX) (by decide) hW  (fun v2  hp1 => ?_)
  refine ⟨fun hc2 => ?_, fun hc3 => ?_⟩
  · skip
    have q2 := i32_lo v2
    have q3 : (0 : Int32).toInt = 0 := rfl
    have hc2 : ¬ (v2).toInt = (0 : Int32).toInt := fun z => hc2 (Int32.toInt_inj.mp z)
    refine ⟨fun hc4 => ?_, fun hc5 => ?_, fun hc6 => ?_, fun hc7 => ?_, fun hc8 => ?_⟩
    · skip
      have q4 : (-2 : Int32).toInt = -2 := rfl
      refine sfX11_refuse hX hW  (fun v4 I3 hWI3 hFI3 hp9 => ?_)
      have hwI3 := WX_f hWI3
      exact hK _ _ hWI3 (Fr.tr Fr.rf hFI3 (by intro a k h; omega))
    · skip
      refine ⟨vp_of (by omega) (by omega), ?_⟩
      exact hK _ _ hW Fr.rf
    · skip
      refine ⟨vp_of (by omega) (by omega), ?_⟩
      exact hK _ _ hW Fr.rf
    · skip
      refine sfX9_strangersTo (zX_o0 hX) (by decide) hW (by omega) (fun v8  => ?_)
      exact hK _ _ hW Fr.rf
    · skip
      refine sfX9_strangersTo (zX_o0 hX) (by decide) hW (by omega) (fun v10  => ?_)
      refine sfJ6_bitCount_0f7a4  hW  (fun v12  hp12 => ?_)
      exact hK _ _ hW Fr.rf
  · skip
    have q2 := i32_lo v2
    have q3 : (0 : Int32).toInt = 0 := rfl
    have hc3 := Int32.toInt_inj.mpr hc3
    have q4 : (-2 : Int32).toInt = -2 := rfl
    refine sfX11_refuse hX hW  (fun v14 I13 hWI13 hFI13 hp13 => ?_)
    have hwI13 := WX_f hWI13
    exact hK _ _ hWI13 (Fr.tr Fr.rf hFI13 (by intro a k h; omega))
theorem sfX11_knownOf {G : jdG} {n : Nat} {Z : jdL} {J : jdJ} {K : Int32 → jdI → jdJ → Prop}  {I : jdI} {x1 : Int32} {x2 : Int32} (hX : zX Z)  (hW : WX I)  (hK : ∀ (v : Int32) (I2 : jdI), WX I2 → Fr (fun a k => a = 28) I I2 → K v I2 J) : Cl G mX11_knownOf (n + 2) 0 0 [.ref (gb G + 0), .int x1, .int x2] Z I J (qi Z K) := by
  refine eX11_knownOf hX ?_
  have hwI := WX_f hW
  have q1 := i32_lo x1
  have q2 := i32_lo x2
  refine sfX9_hasTwo (zX_o0 hX) (by decide) hW  (fun v2  hp1 => ?_)
  refine ⟨fun hc2 => ?_, fun hc3 => ?_⟩
  · skip
    have q3 := i32_lo v2
    have q4 : (0 : Int32).toInt = 0 := rfl
    have hc2 := Int32.toInt_inj.mpr hc2
    have q5 : (-2 : Int32).toInt = -2 := rfl
    refine sfX11_refuse hX hW  (fun v4 I3 hWI3 hFI3 hp4 => ?_)
    have hwI3 := WX_f hWI3
    exact hK _ _ hWI3 (Fr.tr Fr.rf hFI3 (by intro a k h; omega))
  · skip
    have q3 := i32_lo v2
    have q4 : (0 : Int32).toInt = 0 := rfl
    have hc3 : ¬ (v2).toInt = (0 : Int32).toInt := fun z => hc3 (Int32.toInt_inj.mp z)
    refine sfX9_since (zX_o0 hX) (by decide) hW (by omega) (by omega) (fun v6  => ?_)
    exact hK _ _ hW Fr.rf
theorem sfX11_isGroup {G : jdG} {n : Nat} {Z : jdL} {J : jdJ} {K : Int32 → jdI → jdJ → Prop}  {I : jdI} {x1 : Int32} (hX : zX Z)  (hW : WX I)  (hK : ∀ (v : Int32) (I2 : jdI), WX I2 → Fr (fun a k => (13 ≤ a ∧ a ≤ 24) ∨ a = 28) I I2 → K v I2 J) : Cl G mX11_isGroup (n + 8) 0 0 [.ref (gb G + 0), .int x1] Z I J (qi Z K) := by
  refine eX11_isGroup hX ?_
  have hwI := WX_f hW
  have q1 := i32_lo x1
  refine sfX9_hasAll (zX_o0 hX) (by decide) hW  (fun v2  hp1 => ?_)
  refine ⟨fun hc2 => ?_, fun hc3 => ?_⟩
  · skip
    have q2 := i32_lo v2
    have q3 : (0 : Int32).toInt = 0 := rfl
    have hc2 : ¬ (v2).toInt = (0 : Int32).toInt := fun z => hc2 (Int32.toInt_inj.mp z)
    refine sfX8_load (zX_o3 hX) (zX_o0 hX) (by decide) hW  (fun I3 hWI3 hFI3 => ?_)
    have hwI3 := WX_f hWI3
    refine sfX8_isOne (zX_o3 hX) hWI3  (fun v6  hp5 => ?_)
    refine ⟨fun hc6 => ?_, fun hc7 => ?_⟩
    · skip
      have q4 := i32_lo v6
      have hc6 := Int32.toInt_inj.mpr hc6
      exact hK _ _ hWI3 (Fr.tr Fr.rf hFI3 (by intro a k h; omega))
    · skip
      have q4 := i32_lo v6
      have hc7 : ¬ (v6).toInt = (0 : Int32).toInt := fun z => hc7 (Int32.toInt_inj.mp z)
      exact hK _ _ hWI3 (Fr.tr Fr.rf hFI3 (by intro a k h; omega))
  · skip
    have q2 := i32_lo v2
    have q3 : (0 : Int32).toInt = 0 := rfl
    have hc3 := Int32.toInt_inj.mpr hc3
    have q4 : (-2 : Int32).toInt = -2 := rfl
    refine sfX11_refuse hX hW  (fun v8 I7 hWI7 hFI7 hp8 => ?_)
    have hwI7 := WX_f hWI7
    exact hK _ _ hWI7 (Fr.tr Fr.rf hFI7 (by intro a k h; omega))
theorem sfX11_groups {G : jdG} {n : Nat} {Z : jdL} {J : jdJ} {K : Int32 → jdI → jdJ → Prop}  {I : jdI} {x1 : Int32} (hX : zX Z)  (hW : WX I)  (hK : ∀ (v : Int32) (I2 : jdI), WX I2 → Fr (fun a k => (13 ≤ a ∧ a ≤ 24) ∨ a = 28) I I2 → K v I2 J) : Cl G mX11_groups (n + 8) 0 0 [.ref (gb G + 0), .int x1] Z I J (qi Z K) := by
  refine eX11_groups hX ?_
  have hwI := WX_f hW
  have q1 := i32_lo x1
  refine sfX9_hasAll (zX_o0 hX) (by decide) hW  (fun v2  hp1 => ?_)
  refine ⟨fun hc2 => ?_, fun hc3 => ?_⟩
  · skip
    have q2 := i32_lo v2
    have q3 : (0 : Int32).toInt = 0 := rfl
    have hc2 : ¬ (v2).toInt = (0 : Int32).toInt := fun z => hc2 (Int32.toInt_inj.mp z)
    refine sfX8_load (zX_o3 hX) (zX_o0 hX) (by decide) hW  (fun I3 hWI3 hFI3 => ?_)
    have hwI3 := WX_f hWI3
    refine sfX8_countIn (zX_o3 hX) hWI3  (fun v6  => ?_)
    exact hK _ _ hWI3 (Fr.tr Fr.rf hFI3 (by intro a k h; omega))
  · skip
    have q2 := i32_lo v2
    have q3 : (0 : Int32).toInt = 0 := rfl
    have hc3 := Int32.toInt_inj.mpr hc3
    have q4 : (-2 : Int32).toInt = -2 := rfl
    refine sfX11_refuse hX hW  (fun v8 I7 hWI7 hFI7 hp6 => ?_)
    have hwI7 := WX_f hWI7
    exact hK _ _ hWI7 (Fr.tr Fr.rf hFI7 (by intro a k h; omega))
theorem sfX11_firstOf {G : jdG} {n : Nat} {Z : jdL} {J : jdJ} {K : Int32 → jdI → jdJ → Prop}  {I : jdI} {x1 : Int32} (hX : zX Z)  (hW : WX I)  (hK : ∀ (v : Int32) (I2 : jdI), WX I2 → Fr (fun a k => (13 ≤ a ∧ a ≤ 24) ∨ a = 28) I I2 → K v I2 J) : Cl G mX11_firstOf (n + 8) 0 0 [.ref (gb G + 0), .int x1] Z I J (qi Z K) := by
  refine eX11_firstOf hX ?_
  have hwI := WX_f hW
  have q1 := i32_lo x1
  refine sfX9_hasAll (zX_o0 hX) (by decide) hW  (fun v2  hp1 => ?_)
  refine ⟨fun hc2 => ?_, fun hc3 => ?_⟩
  · skip
    have q2 := i32_lo v2
    have q3 : (0 : Int32).toInt = 0 := rfl
    have hc2 : ¬ (v2).toInt = (0 : Int32).toInt := fun z => hc2 (Int32.toInt_inj.mp z)
    refine sfX8_load (zX_o3 hX) (zX_o0 hX) (by decide) hW  (fun I3 hWI3 hFI3 => ?_)
    have hwI3 := WX_f hWI3
    refine sfX8_firstIn (zX_o3 hX) hWI3  (fun v6  => ?_)
    exact hK _ _ hWI3 (Fr.tr Fr.rf hFI3 (by intro a k h; omega))
  · skip
    have q2 := i32_lo v2
    have q3 : (0 : Int32).toInt = 0 := rfl
    have hc3 := Int32.toInt_inj.mpr hc3
    have q4 : (-2 : Int32).toInt = -2 := rfl
    refine sfX11_refuse hX hW  (fun v8 I7 hWI7 hFI7 hp6 => ?_)
    have hwI7 := WX_f hWI7
    exact hK _ _ hWI7 (Fr.tr Fr.rf hFI7 (by intro a k h; omega))
theorem sfX11_most {G : jdG} {n : Nat} {Z : jdL} {J : jdJ} {K : Int32 → jdI → jdJ → Prop}  {I : jdI} {x1 : Int32} (hX : zX Z)  (hW : WX I)  (hK : ∀ (v : Int32) (I2 : jdI), WX I2 → Fr (fun a k => (13 ≤ a ∧ a ≤ 24) ∨ a = 28) I I2 → K v I2 J) : Cl G mX11_most (n + 8) 0 0 [.ref (gb G + 0), .int x1] Z I J (qi Z K) := by
  refine eX11_most hX ?_
  have hwI := WX_f hW
  have q1 := i32_lo x1
  refine sfX9_hasAll (zX_o0 hX) (by decide) hW  (fun v2  hp1 => ?_)
  refine ⟨fun hc2 => ?_, fun hc3 => ?_⟩
  · skip
    have q2 := i32_lo v2
    have q3 : (0 : Int32).toInt = 0 := rfl
    have hc2 : ¬ (v2).toInt = (0 : Int32).toInt := fun z => hc2 (Int32.toInt_inj.mp z)
    refine sfX8_load (zX_o3 hX) (zX_o0 hX) (by decide) hW  (fun I3 hWI3 hFI3 => ?_)
    have hwI3 := WX_f hWI3
    refine sfX8_mostFrom (zX_o3 hX) hWI3  (fun v6 I5 hWI5 hFI5 => ?_)
    have hwI5 := WX_f hWI5
    exact hK _ _ hWI5 (Fr.tr (Fr.tr Fr.rf hFI3 (by intro a k h; omega)) hFI5 (by intro a k h; omega))
  · skip
    have q2 := i32_lo v2
    have q3 : (0 : Int32).toInt = 0 := rfl
    have hc3 := Int32.toInt_inj.mpr hc3
    have q4 : (-2 : Int32).toInt = -2 := rfl
    refine sfX11_refuse hX hW  (fun v8 I7 hWI7 hFI7 hp6 => ?_)
    have hwI7 := WX_f hWI7
    exact hK _ _ hWI7 (Fr.tr Fr.rf hFI7 (by intro a k h; omega))
