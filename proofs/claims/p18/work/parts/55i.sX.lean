theorem sfX11_run {G : jdG} {n : Nat} {Z : jdL} {J : jdJ} {K : Int32 → jdI → jdJ → Prop}  {I : jdI} {x1 : Int32} (hX : zX Z) (hM : zMen Z)  (hW : WX I)  (hK : ∀ (v : Int32) (I2 : jdI), WX I2 → Fr (fun a k => (13 ≤ a ∧ a ≤ 24) ∨ a = 28) I I2 → K v I2 J) : Cl G mX11_run (n + 9) 0 0 [.ref (gb G + 0), .int x1] Z I J (qi Z K) := by
  refine eX11_run hX ?_
  have hwI := WX_f hW
  refine sfX11_manIn hX hM hW (fun o hp1 => ?_)
  refine ⟨fun hc2 => ?_, ?_⟩
  · skip
    refine sfX11_whyNoMan hX hW  (fun v4  hp4 => ?_)
    have q1 := i32_lo v4
    refine sfX11_refuse hX hW  (fun v6 I5 hWI5 hFI5 hp5 => ?_)
    have hwI5 := WX_f hWI5
    exact hK _ _ hWI5 (Fr.tr Fr.rf hFI5 (by intro a k h; omega))
  · skip
    intro w2 hc6
    refine sfX11_think hX (hp1 _ hc6) hW  (fun I7 hWI7 hFI7 => ?_)
    have hwI7 := WX_f hWI7
    exact hK _ _ hWI7 (Fr.tr Fr.rf hFI7 (by intro a k h; omega))
theorem sfX11_coach {G : jdG} {n : Nat} {Z : jdL} {J : jdJ} {K : Int32 → jdI → jdJ → Prop}  {I : jdI} {x1 : Int32} {x2 : Int32} (hX : zX Z) (hM : zMen Z)  (hW : WX I)  (hK : ∀ (v : Int32) (I2 : jdI), WX I2 → Fr (fun a k => (13 ≤ a ∧ a ≤ 24) ∨ a = 28) I I2 → K v I2 J) : Cl G mX11_coach (n + 9) 0 0 [.ref (gb G + 0), .int x1, .int x2] Z I J (qi Z K) := by
  refine eX11_coach hX ?_
  have hwI := WX_f hW
  refine ⟨fun hc1 => ?_, fun hc2 => ?_⟩
  · skip
    have q1 : (0 : Int32).toInt = 0 := rfl
    have q2 := i32_lo x2
    have hc1 := Int32.le_iff_toInt_le.mp hc1
    refine sfX11_manIn hX hM hW (fun o hp3 => ?_)
    refine ⟨fun hc4 => ?_, ?_⟩
    · skip
      refine sfX11_whyNoMan hX hW  (fun v4  hp6 => ?_)
      have q3 := i32_lo v4
      refine sfX11_refuse hX hW  (fun v6 I5 hWI5 hFI5 hp7 => ?_)
      have hwI5 := WX_f hWI5
      exact hK _ _ hWI5 (Fr.tr Fr.rf hFI5 (by intro a k h; omega))
    · skip
      intro w2 hc8
      refine sfX11_think hX (hp3 _ hc8) hW  (fun I7 hWI7 hFI7 => ?_)
      have hwI7 := WX_f hWI7
      refine ⟨fun hc10 => ?_, fun hc11 => ?_⟩
      · skip
        have q3 := i32_lo (I7 20 4)
        have hc10 := Int32.lt_iff_toInt_lt.mp hc10
        refine sfX3_coachAt (zX_o4 hX) hWI7  (fun v10  => ?_)
        exact hK _ _ hWI7 (Fr.tr Fr.rf hFI7 (by intro a k h; omega))
      · skip
        have q3 := i32_lo (I7 20 4)
        have hc11 := mt Int32.lt_iff_toInt_lt.mpr hc11
        have q4 : (-5 : Int32).toInt = -5 := rfl
        refine sfX11_refuse hX hWI7  (fun v12 I11 hWI11 hFI11 hp13 => ?_)
        have hwI11 := WX_f hWI11
        exact hK _ _ hWI11 (Fr.tr (Fr.tr Fr.rf hFI7 (by intro a k h; omega)) hFI11 (by intro a k h; omega))
  · skip
    have q1 : (0 : Int32).toInt = 0 := rfl
    have q2 := i32_lo x2
    have hc2 := mt Int32.le_iff_toInt_le.mpr hc2
    have q3 : (-2 : Int32).toInt = -2 := rfl
    refine sfX11_refuse hX hW  (fun v14 I13 hWI13 hFI13 hp14 => ?_)
    have hwI13 := WX_f hWI13
    exact hK _ _ hWI13 (Fr.tr Fr.rf hFI13 (by intro a k h; omega))
theorem sfX11_left {G : jdG} {n : Nat} {Z : jdL} {J : jdJ} {K : Int32 → jdI → jdJ → Prop}  {I : jdI} {x1 : Int32} (hX : zX Z) (hM : zMen Z)  (hW : WX I)  (hK : ∀ (v : Int32) (I2 : jdI), WX I2 → Fr (fun a k => (13 ≤ a ∧ a ≤ 24) ∨ a = 28) I I2 → K v I2 J) : Cl G mX11_left (n + 9) 0 0 [.ref (gb G + 0), .int x1] Z I J (qi Z K) := by
  refine eX11_left hX ?_
  have hwI := WX_f hW
  refine sfX11_manIn hX hM hW (fun o hp1 => ?_)
  refine ⟨fun hc2 => ?_, ?_⟩
  · skip
    refine sfX11_whyNoMan hX hW  (fun v4  hp4 => ?_)
    have q1 := i32_lo v4
    refine sfX11_refuse hX hW  (fun v6 I5 hWI5 hFI5 hp5 => ?_)
    have hwI5 := WX_f hWI5
    exact hK _ _ hWI5 (Fr.tr Fr.rf hFI5 (by intro a k h; omega))
  · skip
    intro w2 hc6
    refine sfX11_think hX (hp1 _ hc6) hW  (fun I7 hWI7 hFI7 => ?_)
    have hwI7 := WX_f hWI7
    exact hK _ _ hWI7 (Fr.tr Fr.rf hFI7 (by intro a k h; omega))
theorem sfX11_waits {G : jdG} {n : Nat} {Z : jdL} {J : jdJ} {K : Int32 → jdI → jdJ → Prop}  {I : jdI} {x1 : Int32} {x2 : Int32} (hX : zX Z) (hM : zMen Z)  (hW : WX I)  (hK : ∀ (v : Int32) (I2 : jdI), WX I2 → Fr (fun a k => (13 ≤ a ∧ a ≤ 24) ∨ a = 28) I I2 → K v I2 J) : Cl G mX11_waits (n + 9) 0 0 [.ref (gb G + 0), .int x1, .int x2] Z I J (qi Z K) := by
  refine eX11_waits hX ?_
  have hwI := WX_f hW
  refine ⟨fun hc1 => ?_, fun hc2 => ?_⟩
  · skip
    have q1 := i32_lo x2
    have q2 : (-1 : Int32).toInt = -1 := rfl
    have hc1 := Int32.toInt_inj.mpr hc1
    refine sfX11_manIn hX hM hW (fun o hp3 => ?_)
    refine ⟨fun hc4 => ?_, ?_⟩
    · skip
      refine sfX11_whyNoMan hX hW  (fun v4  hp6 => ?_)
      have q3 := i32_lo v4
      refine sfX11_refuse hX hW  (fun v6 I5 hWI5 hFI5 hp7 => ?_)
      have hwI5 := WX_f hWI5
      exact hK _ _ hWI5 (Fr.tr Fr.rf hFI5 (by intro a k h; omega))
    · skip
      intro w2 hc8
      refine sfX11_think hX (hp3 _ hc8) hW  (fun I7 hWI7 hFI7 => ?_)
      have hwI7 := WX_f hWI7
      refine ⟨fun hc10 => ?_, fun hc11 => ?_⟩
      · skip
        have hc10 : ¬ (x2).toInt = ((-1) : Int32).toInt := fun z => hc10 (Int32.toInt_inj.mp z)
        refine sfX3_waitingOf (zX_o4 hX) (zX_o0 hX) (by decide) hWI7 (by omega) (fun v10  => ?_)
        exact hK _ _ hWI7 (Fr.tr Fr.rf hFI7 (by intro a k h; omega))
      · skip
        have hc11 := Int32.toInt_inj.mpr hc11
        refine sfX3_waitingOfAll (zX_o4 hX) (zX_o0 hX) (by decide) hWI7  (fun v12  => ?_)
        exact hK _ _ hWI7 (Fr.tr Fr.rf hFI7 (by intro a k h; omega))
  · skip
    have q1 := i32_lo x2
    have q2 : (-1 : Int32).toInt = -1 := rfl
    have hc2 : ¬ (x2).toInt = ((-1) : Int32).toInt := fun z => hc2 (Int32.toInt_inj.mp z)
    refine sfX9_has (zX_o0 hX) (by decide) hW  (fun v14  hp14 => ?_)
    refine ⟨fun hc15 => ?_, fun hc16 => ?_⟩
    · skip
      have q3 := i32_lo v14
      have q4 : (0 : Int32).toInt = 0 := rfl
      have hc15 : ¬ (v14).toInt = (0 : Int32).toInt := fun z => hc15 (Int32.toInt_inj.mp z)
      refine sfX11_manIn hX hM hW (fun o hp17 => ?_)
      refine ⟨fun hc18 => ?_, ?_⟩
      · skip
        refine sfX11_whyNoMan hX hW  (fun v18  hp20 => ?_)
        have q5 := i32_lo v18
        refine sfX11_refuse hX hW  (fun v20 I19 hWI19 hFI19 hp21 => ?_)
        have hwI19 := WX_f hWI19
        exact hK _ _ hWI19 (Fr.tr Fr.rf hFI19 (by intro a k h; omega))
      · skip
        intro w16 hc22
        refine sfX11_think hX (hp17 _ hc22) hW  (fun I21 hWI21 hFI21 => ?_)
        have hwI21 := WX_f hWI21
        refine ⟨fun hc24 => ?_, fun hc25 => ?_⟩
        · skip
          have hc24 : ¬ (x2).toInt = ((-1) : Int32).toInt := fun z => hc24 (Int32.toInt_inj.mp z)
          refine sfX3_waitingOf (zX_o4 hX) (zX_o0 hX) (by decide) hWI21 (by omega) (fun v24  => ?_)
          exact hK _ _ hWI21 (Fr.tr Fr.rf hFI21 (by intro a k h; omega))
        · skip
          have hc25 := Int32.toInt_inj.mpr hc25
          refine sfX3_waitingOfAll (zX_o4 hX) (zX_o0 hX) (by decide) hWI21  (fun v26  => ?_)
          exact hK _ _ hWI21 (Fr.tr Fr.rf hFI21 (by intro a k h; omega))
    · skip
      have q3 := i32_lo v14
      have q4 : (0 : Int32).toInt = 0 := rfl
      have hc16 := Int32.toInt_inj.mpr hc16
      have q5 : (-2 : Int32).toInt = -2 := rfl
      refine sfX11_refuse hX hW  (fun v28 I27 hWI27 hFI27 hp28 => ?_)
      have hwI27 := WX_f hWI27
      exact hK _ _ hWI27 (Fr.tr Fr.rf hFI27 (by intro a k h; omega))
theorem sfX11_least {G : jdG} {n : Nat} {Z : jdL} {J : jdJ} {K : Int32 → jdI → jdJ → Prop}  {I : jdI} {x1 : Int32} (hX : zX Z)  (hW : WX I)  (hK : ∀ (v : Int32) (I2 : jdI), WX I2 → Fr (fun a k => (13 ≤ a ∧ a ≤ 24) ∨ a = 28) I I2 → K v I2 J) : Cl G mX11_least (n + 8) 0 0 [.ref (gb G + 0), .int x1] Z I J (qi Z K) := by
  refine eX11_least hX ?_
  have hwI := WX_f hW
  refine ⟨fun hc1 => ?_, fun hc2 => ?_⟩
  · skip
    have q1 := i32_lo x1
    have q2 : (0 : Int32).toInt = 0 := rfl
    have hc1 := Int32.toInt_inj.mpr hc1
    refine sfX8_load (zX_o3 hX) (zX_o0 hX) (by decide) hW  (fun I1 hWI1 hFI1 => ?_)
    have hwI1 := WX_f hWI1
    refine sfX3_findLeast (zX_o4 hX) (zX_o0 hX) (zX_o3 hX) (by decide) hWI1  (fun I3 hWI3 hFI3 => ?_)
    have hwI3 := WX_f hWI3
    refine ⟨fun hc5 => ?_, fun hc6 => ?_⟩
    · skip
      have hc5 : ¬ (x1).toInt = (0 : Int32).toInt := fun z => hc5 (Int32.toInt_inj.mp z)
      refine sfX3_leastCoaches (zX_o4 hX) hWI3  (fun v6  => ?_)
      exact hK _ _ hWI3 (Fr.tr (Fr.tr Fr.rf hFI1 (by intro a k h; omega)) hFI3 (by intro a k h; omega))
    · skip
      have hc6 := Int32.toInt_inj.mpr hc6
      refine sfX3_leastWaiting (zX_o4 hX) hWI3  (fun v8  => ?_)
      exact hK _ _ hWI3 (Fr.tr (Fr.tr Fr.rf hFI1 (by intro a k h; omega)) hFI3 (by intro a k h; omega))
  · skip
    have q1 := i32_lo x1
    have q2 : (0 : Int32).toInt = 0 := rfl
    have hc2 : ¬ (x1).toInt = (0 : Int32).toInt := fun z => hc2 (Int32.toInt_inj.mp z)
    refine ⟨fun hc9 => ?_, fun hc10 => ?_⟩
    · skip
      have q3 : (1 : Int32).toInt = 1 := rfl
      have hc9 := Int32.toInt_inj.mpr hc9
      refine sfX8_load (zX_o3 hX) (zX_o0 hX) (by decide) hW  (fun I9 hWI9 hFI9 => ?_)
      have hwI9 := WX_f hWI9
      refine sfX3_findLeast (zX_o4 hX) (zX_o0 hX) (zX_o3 hX) (by decide) hWI9  (fun I11 hWI11 hFI11 => ?_)
      have hwI11 := WX_f hWI11
      refine ⟨fun hc13 => ?_, fun hc14 => ?_⟩
      · skip
        have hc13 : ¬ (x1).toInt = (0 : Int32).toInt := fun z => hc13 (Int32.toInt_inj.mp z)
        refine sfX3_leastCoaches (zX_o4 hX) hWI11  (fun v14  => ?_)
        exact hK _ _ hWI11 (Fr.tr (Fr.tr Fr.rf hFI9 (by intro a k h; omega)) hFI11 (by intro a k h; omega))
      · skip
        have hc14 := Int32.toInt_inj.mpr hc14
        refine sfX3_leastWaiting (zX_o4 hX) hWI11  (fun v16  => ?_)
        exact hK _ _ hWI11 (Fr.tr (Fr.tr Fr.rf hFI9 (by intro a k h; omega)) hFI11 (by intro a k h; omega))
    · skip
      have q3 : (1 : Int32).toInt = 1 := rfl
      have hc10 : ¬ (x1).toInt = (1 : Int32).toInt := fun z => hc10 (Int32.toInt_inj.mp z)
      have q4 : (-2 : Int32).toInt = -2 := rfl
      refine sfX11_refuse hX hW  (fun v18 I17 hWI17 hFI17 hp17 => ?_)
      have hwI17 := WX_f hWI17
      exact hK _ _ hWI17 (Fr.tr Fr.rf hFI17 (by intro a k h; omega))
