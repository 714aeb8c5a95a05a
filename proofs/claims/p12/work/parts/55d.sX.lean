theorem sfX11_holds {G : jdG} {n : Nat} {Z : jdL} {J : jdJ} {K : Int32 → jdI → jdJ → Prop}  {I : jdI} {sA : Nat → Nat} {sV : Nat → Nat} {x1 : Int32} (hG : gOK G sA sV) (hX : zX Z) (hM : zMen Z)  (hW : WX I)  (hK : ∀ (v : Int32), ((¬ (0 ≤ x1.toInt ∧ x1.toInt < 8) ∧ v.toInt = -1) ∨ ((0 ≤ x1.toInt ∧ x1.toInt < 8) ∧ mk Z (Int32.toNatClampNeg x1) = 0 ∧ v.toInt = (I (29 + 2 * (Int32.toNatClampNeg x1)) 1).toInt) ∨ ((0 ≤ x1.toInt ∧ x1.toInt < 8) ∧ 1 ≤ mk Z (Int32.toNatClampNeg x1) ∧ v.toInt = 10 + mk Z (Int32.toNatClampNeg x1))) → K v I J) : Cl G mX11_holds (n + 1) 0 0 [.ref (gb G + 0), .int x1] Z I J (qi Z K) := by
  refine eX11_holds hG hX ?_
  have hwI := WX_f hW
  have q1 := i32_lo x1
  refine sfX11_isShelf  hW  (fun v2  hp1 => ?_)
  refine ⟨fun hc2 => ?_, fun hc3 => ?_⟩
  · skip
    have q2 := i32_lo v2
    have q3 : (0 : Int32).toInt = 0 := rfl
    have hc2 : ¬ (v2).toInt = (0 : Int32).toInt := fun z => hc2 (Int32.toInt_inj.mp z)
    refine ⟨vp_of (by omega) (by omega), ?_⟩
    refine ⟨fun hc4 => ?_, ?_⟩
    · skip
      have hzhc4 := mk_none hc4
      refine ⟨vp_of (by omega) (by omega), ?_⟩
      exact hK _  (by omega)
    · skip
      intro w5 hc6
      have hzhc6 := mk_some hc6
      have hrhc6 := ckI_r (Z.1 w5)
      refine ⟨(hM _ (by simp only [tn_eq]; omega) _ hc6), ?_⟩
      refine sf_vkind hG hW (fun v8 hp7 => ?_)
      have q4 : (10 : Int32).toInt = 10 := rfl
      have q5 := i32_lo v8
      have q6 := i32_add 10 v8 (by omega) (by omega)
      exact hK _  (by omega)
  · skip
    have q2 := i32_lo v2
    have q3 : (0 : Int32).toInt = 0 := rfl
    have hc3 := Int32.toInt_inj.mpr hc3
    have q4 : (-1 : Int32).toInt = -1 := rfl
    exact hK _  (by omega)
theorem sfX11_says {G : jdG} {n : Nat} {Z : jdL} {J : jdJ} {K : Int32 → jdI → jdJ → Prop}  {I : jdI} {sA : Nat → Nat} {sV : Nat → Nat} {x1 : Int32} {x2 : Int32} (hG : gOK G sA sV) (hX : zX Z) (hM : zMen Z)  (hW : WX I)  (hK : ∀ (v : Int32) (I2 : jdI), WX I2 → Fr (fun a k => (13 ≤ a ∧ a ≤ 24) ∨ a = 28) I I2 → K v I2 J) : Cl G mX11_says (n + 8) 0 0 [.ref (gb G + 0), .int x1, .int x2] Z I J (qi Z K) := by
  refine eX11_says hX ?_
  have hwI := WX_f hW
  have q1 := i32_lo x1
  refine sfX11_isShelf  hW  (fun v2  hp1 => ?_)
  refine ⟨fun hc2 => ?_, fun hc3 => ?_⟩
  · skip
    have q2 := i32_lo v2
    have q3 : (0 : Int32).toInt = 0 := rfl
    have hc2 := Int32.toInt_inj.mpr hc2
    have q4 : (-2 : Int32).toInt = -2 := rfl
    refine sfX11_refuse hX hW  (fun v4 I3 hWI3 hFI3 hp4 => ?_)
    have hwI3 := WX_f hWI3
    exact hK _ _ hWI3 (Fr.tr Fr.rf hFI3 (by intro a k h; omega))
  · skip
    have q2 := i32_lo v2
    have q3 : (0 : Int32).toInt = 0 := rfl
    have hc3 : ¬ (v2).toInt = (0 : Int32).toInt := fun z => hc3 (Int32.toInt_inj.mp z)
    refine ⟨fun hc5 => ?_, fun hc6 => ?_⟩
    · skip
      have q4 := i32_lo x2
      have hc5 := Int32.lt_iff_toInt_lt.mp hc5
      have q5 : (-2 : Int32).toInt = -2 := rfl
      refine sfX11_refuse hX hW  (fun v6 I5 hWI5 hFI5 hp7 => ?_)
      have hwI5 := WX_f hWI5
      exact hK _ _ hWI5 (Fr.tr Fr.rf hFI5 (by intro a k h; omega))
    · skip
      have q4 := i32_lo x2
      have hc6 := mt Int32.lt_iff_toInt_lt.mpr hc6
      refine ⟨fun hc8 => ?_, fun hc9 => ?_⟩
      · skip
        have q5 : (6 : Int32).toInt = 6 := rfl
        have hc8 := Int32.lt_iff_toInt_lt.mp hc8
        refine sfX11_manIn hX hM hW (fun o hp10 => ?_)
        refine ⟨fun hc11 => ?_, ?_⟩
        · skip
          refine sfX11_whyNoMan hX hW  (fun v10  hp13 => ?_)
          have q6 := i32_lo v10
          refine sfX11_refuse hX hW  (fun v12 I11 hWI11 hFI11 hp14 => ?_)
          have hwI11 := WX_f hWI11
          exact hK _ _ hWI11 (Fr.tr Fr.rf hFI11 (by intro a k h; omega))
        · skip
          intro w8 hc15
          refine ⟨(hp10 _ hc15), ?_⟩
          refine sf_visOf hG hW (fun v14 => ?_)
          refine ⟨fun hc17 => ?_, fun hc18 => ?_⟩
          · skip
            have q6 := i32_lo v14
            have hc17 : ¬ (v14).toInt = (0 : Int32).toInt := fun z => hc17 (Int32.toInt_inj.mp z)
            refine ⟨fun hc19 => ?_, fun hc20 => ?_⟩
            · skip
              have hc19 : ¬ (x2).toInt = (0 : Int32).toInt := fun z => hc19 (Int32.toInt_inj.mp z)
              refine sfX8_load (zX_o3 hX) (zX_o0 hX) (by decide) hW  (fun I16 hWI16 hFI16 => ?_)
              have hwI16 := WX_f hWI16
              refine sfX9_everybody (zX_o0 hX) (by decide) hWI16  (fun v19  hp22 => ?_)
              refine ⟨(hp10 _ hc15), ?_⟩
              refine sf_vpick (zX_o3 hX) hWI16 (fun v21 I20 hWI20 hFI20 => ?_)
              have hwI20 := WX_f hWI20
              exact hK _ _ hWI20 (Fr.tr (Fr.tr Fr.rf hFI16 (by intro a k h; omega)) hFI20 (by intro a k h; omega))
            · skip
              have hc20 := Int32.toInt_inj.mpr hc20
              refine ⟨(hp10 _ hc15), ?_⟩
              refine sf_vnumber (hp10 _ hc15) hW (fun v24 => ?_)
              exact hK _ _ hW Fr.rf
          · skip
            have q6 := i32_lo v14
            have hc18 := Int32.toInt_inj.mpr hc18
            have q7 : (-3 : Int32).toInt = -3 := rfl
            refine sfX11_refuse hX hW  (fun v27 I26 hWI26 hFI26 hp25 => ?_)
            have hwI26 := WX_f hWI26
            exact hK _ _ hWI26 (Fr.tr Fr.rf hFI26 (by intro a k h; omega))
      · skip
        have q5 : (6 : Int32).toInt = 6 := rfl
        have hc9 := mt Int32.lt_iff_toInt_lt.mpr hc9
        have q6 : (-2 : Int32).toInt = -2 := rfl
        refine sfX11_refuse hX hW  (fun v29 I28 hWI28 hFI28 hp26 => ?_)
        have hwI28 := WX_f hWI28
        exact hK _ _ hWI28 (Fr.tr Fr.rf hFI28 (by intro a k h; omega))
theorem sfX11_person {G : jdG} {n : Nat} {Z : jdL} {J : jdJ} {K : Int32 → jdI → jdJ → Prop}  {I : jdI} {x1 : Int32} {x2 : Int32} (hX : zX Z)  (hW : WX I)  (hK : ∀ (v : Int32) (I2 : jdI), WX I2 → Fr (fun a k => (1 ≤ a ∧ a ≤ 4) ∨ a = 28) I I2 → K v I2 J) : Cl G mX11_person (n + 2) 0 0 [.ref (gb G + 0), .int x1, .int x2] Z I J (qi Z K) := by
  refine eX11_person hX ?_
  have hwI := WX_f hW
  have q1 := i32_lo x1
  refine sfX11_isHour  hW  (fun v2  hp1 => ?_)
  refine ⟨fun hc2 => ?_, fun hc3 => ?_⟩
  · skip
    have q2 := i32_lo v2
    have q3 : (0 : Int32).toInt = 0 := rfl
    have hc2 := Int32.toInt_inj.mpr hc2
    have q4 : (-2 : Int32).toInt = -2 := rfl
    refine sfX11_refuse hX hW  (fun v4 I3 hWI3 hFI3 hp4 => ?_)
    have hwI3 := WX_f hWI3
    exact hK _ _ hWI3 (Fr.tr Fr.rf hFI3 (by intro a k h; omega))
  · skip
    have q2 := i32_lo v2
    have q3 : (0 : Int32).toInt = 0 := rfl
    have hc3 : ¬ (v2).toInt = (0 : Int32).toInt := fun z => hc3 (Int32.toInt_inj.mp z)
    have q4 := i32_lo x2
    refine sfX11_isCost  hW  (fun v6  hp5 => ?_)
    refine ⟨fun hc6 => ?_, fun hc7 => ?_⟩
    · skip
      have q5 := i32_lo v6
      have hc6 : ¬ (v6).toInt = (0 : Int32).toInt := fun z => hc6 (Int32.toInt_inj.mp z)
      refine ⟨fun hc8 => ?_, fun hc9 => ?_⟩
      · skip
        have q6 := i32_lo (I 1 3)
        have q7 : (7 : Int32).toInt = 7 := rfl
        have hc8 := Int32.lt_iff_toInt_lt.mp hc8
        refine sfX9_add (zX_o0 hX) (by decide) hW  (fun v8 I7 hWI7 hFI7 hp10 => ?_)
        have hwI7 := WX_f hWI7
        exact hK _ _ hWI7 (Fr.tr Fr.rf hFI7 (by intro a k h; omega))
      · skip
        have q6 := i32_lo (I 1 3)
        have q7 : (7 : Int32).toInt = 7 := rfl
        have hc9 := mt Int32.lt_iff_toInt_lt.mpr hc9
        have q8 : (-6 : Int32).toInt = -6 := rfl
        refine sfX11_refuse hX hW  (fun v10 I9 hWI9 hFI9 hp11 => ?_)
        have hwI9 := WX_f hWI9
        exact hK _ _ hWI9 (Fr.tr Fr.rf hFI9 (by intro a k h; omega))
    · skip
      have q5 := i32_lo v6
      have hc7 := Int32.toInt_inj.mpr hc7
      have q6 : (-2 : Int32).toInt = -2 := rfl
      refine sfX11_refuse hX hW  (fun v12 I11 hWI11 hFI11 hp12 => ?_)
      have hwI11 := WX_f hWI11
      exact hK _ _ hWI11 (Fr.tr Fr.rf hFI11 (by intro a k h; omega))
theorem sfX11_change {G : jdG} {n : Nat} {Z : jdL} {J : jdJ} {K : Int32 → jdI → jdJ → Prop}  {I : jdI} {x1 : Int32} {x2 : Int32} {x3 : Int32} (hX : zX Z)  (hW : WX I)  (hK : ∀ (v : Int32) (I2 : jdI), WX I2 → Fr (fun a k => (1 ≤ a ∧ a ≤ 4) ∨ a = 28) I I2 → K v I2 J) : Cl G mX11_change (n + 1) 0 0 [.ref (gb G + 0), .int x1, .int x2, .int x3] Z I J (qi Z K) := by
  refine eX11_change hX ?_
  have hwI := WX_f hW
  refine ⟨fun hc1 => ?_, fun hc2 => ?_⟩
  · skip
    have q1 := i32_lo x2
    have q2 : (0 : Int32).toInt = 0 := rfl
    have hc1 : ¬ (x2).toInt = (0 : Int32).toInt := fun z => hc1 (Int32.toInt_inj.mp z)
    refine ⟨fun hc3 => ?_, fun hc4 => ?_⟩
    · skip
      have q3 : (1 : Int32).toInt = 1 := rfl
      have hc3 : ¬ (x2).toInt = (1 : Int32).toInt := fun z => hc3 (Int32.toInt_inj.mp z)
      have q4 := i32_lo x1
      refine sfX9_has (zX_o0 hX) (by decide) hW  (fun v2  hp5 => ?_)
      refine ⟨fun hc6 => ?_, fun hc7 => ?_⟩
      · skip
        have q5 := i32_lo v2
        have hc6 := Int32.toInt_inj.mpr hc6
        have q6 : (-2 : Int32).toInt = -2 := rfl
        refine sfX11_refuse hX hW  (fun v4 I3 hWI3 hFI3 hp8 => ?_)
        have hwI3 := WX_f hWI3
        exact hK _ _ hWI3 (Fr.tr Fr.rf hFI3 (by intro a k h; omega))
      · skip
        have q5 := i32_lo v2
        have hc7 : ¬ (v2).toInt = (0 : Int32).toInt := fun z => hc7 (Int32.toInt_inj.mp z)
        have q6 : (-2 : Int32).toInt = -2 := rfl
        refine sfX11_refuse hX hW  (fun v6 I5 hWI5 hFI5 hp9 => ?_)
        have hwI5 := WX_f hWI5
        exact hK _ _ hWI5 (Fr.tr Fr.rf hFI5 (by intro a k h; omega))
    · skip
      have q3 : (1 : Int32).toInt = 1 := rfl
      have hc4 := Int32.toInt_inj.mpr hc4
      have q4 := i32_lo x3
      refine sfX11_isCost  hW  (fun v8  hp10 => ?_)
      refine ⟨fun hc11 => ?_, fun hc12 => ?_⟩
      · skip
        have q5 := i32_lo v8
        have hc11 := Int32.toInt_inj.mpr hc11
        have q6 := i32_lo x1
        refine sfX9_has (zX_o0 hX) (by decide) hW  (fun v10  hp13 => ?_)
        refine ⟨fun hc14 => ?_, fun hc15 => ?_⟩
        · skip
          have q7 := i32_lo v10
          have hc14 := Int32.toInt_inj.mpr hc14
          have q8 : (-2 : Int32).toInt = -2 := rfl
          refine sfX11_refuse hX hW  (fun v12 I11 hWI11 hFI11 hp16 => ?_)
          have hwI11 := WX_f hWI11
          exact hK _ _ hWI11 (Fr.tr Fr.rf hFI11 (by intro a k h; omega))
        · skip
          have q7 := i32_lo v10
          have hc15 : ¬ (v10).toInt = (0 : Int32).toInt := fun z => hc15 (Int32.toInt_inj.mp z)
          have q8 : (-2 : Int32).toInt = -2 := rfl
          refine sfX11_refuse hX hW  (fun v14 I13 hWI13 hFI13 hp17 => ?_)
          have hwI13 := WX_f hWI13
          exact hK _ _ hWI13 (Fr.tr Fr.rf hFI13 (by intro a k h; omega))
      · skip
        have q5 := i32_lo v8
        have hc12 : ¬ (v8).toInt = (0 : Int32).toInt := fun z => hc12 (Int32.toInt_inj.mp z)
        have q6 := i32_lo x1
        refine sfX9_has (zX_o0 hX) (by decide) hW  (fun v16  hp18 => ?_)
        refine ⟨fun hc19 => ?_, fun hc20 => ?_⟩
        · skip
          have q7 := i32_lo v16
          have hc19 := Int32.toInt_inj.mpr hc19
          have q8 : (-2 : Int32).toInt = -2 := rfl
          refine sfX11_refuse hX hW  (fun v18 I17 hWI17 hFI17 hp21 => ?_)
          have hwI17 := WX_f hWI17
          exact hK _ _ hWI17 (Fr.tr Fr.rf hFI17 (by intro a k h; omega))
        · skip
          have q7 := i32_lo v16
          have hc20 : ¬ (v16).toInt = (0 : Int32).toInt := fun z => hc20 (Int32.toInt_inj.mp z)
          refine ⟨fun hc22 => ?_, fun hc23 => ?_⟩
          · skip
            have hc22 : ¬ (x2).toInt = (0 : Int32).toInt := fun z => hc22 (Int32.toInt_inj.mp z)
            refine ⟨vp_of (by omega) (by omega), ?_⟩
            refine ⟨vp_of (by omega) (by omega), ?_⟩
            exact hK _ _ (WX_uI hW (by first | exact okXo (by decide) | (unfold okX; refine ⟨?_, ?_, ?_, ?_, ?_, ?_, ?_, ?_, ?_, ?_⟩ <;> intro h <;> omega))) (Fr_uI Fr.rf (by omega))
          · skip
            have hc23 := Int32.toInt_inj.mpr hc23
            refine ⟨vp_of (by omega) (by omega), ?_⟩
            refine ⟨vp_of (by omega) (by omega), ?_⟩
            exact hK _ _ (WX_uI hW (by first | exact okXo (by decide) | (unfold okX; refine ⟨?_, ?_, ?_, ?_, ?_, ?_, ?_, ?_, ?_, ?_⟩ <;> intro h <;> omega))) (Fr_uI Fr.rf (by omega))
  · skip
    have q1 := i32_lo x2
    have q2 : (0 : Int32).toInt = 0 := rfl
    have hc2 := Int32.toInt_inj.mpr hc2
    have q3 := i32_lo x3
    refine sfX11_isHour  hW  (fun v24  hp24 => ?_)
    have q4 := i32_lo x1
    refine sfX9_has (zX_o0 hX) (by decide) hW  (fun v26  hp25 => ?_)
    refine ⟨fun hc26 => ?_, fun hc27 => ?_⟩
    · skip
      have q5 := i32_lo v26
      have hc26 := Int32.toInt_inj.mpr hc26
      have q6 : (-2 : Int32).toInt = -2 := rfl
      refine sfX11_refuse hX hW  (fun v28 I27 hWI27 hFI27 hp28 => ?_)
      have hwI27 := WX_f hWI27
      exact hK _ _ hWI27 (Fr.tr Fr.rf hFI27 (by intro a k h; omega))
    · skip
      have q5 := i32_lo v26
      have hc27 : ¬ (v26).toInt = (0 : Int32).toInt := fun z => hc27 (Int32.toInt_inj.mp z)
      refine ⟨fun hc29 => ?_, fun hc30 => ?_⟩
      · skip
        have q6 := i32_lo v24
        have hc29 : ¬ (v24).toInt = (0 : Int32).toInt := fun z => hc29 (Int32.toInt_inj.mp z)
        refine ⟨fun hc31 => ?_, fun hc32 => ?_⟩
        · skip
          have hc31 : ¬ (x2).toInt = (0 : Int32).toInt := fun z => hc31 (Int32.toInt_inj.mp z)
          refine ⟨vp_of (by omega) (by omega), ?_⟩
          refine ⟨vp_of (by omega) (by omega), ?_⟩
          exact hK _ _ (WX_uI hW (by first | exact okXo (by decide) | (unfold okX; refine ⟨?_, ?_, ?_, ?_, ?_, ?_, ?_, ?_, ?_, ?_⟩ <;> intro h <;> omega))) (Fr_uI Fr.rf (by omega))
        · skip
          have hc32 := Int32.toInt_inj.mpr hc32
          refine ⟨vp_of (by omega) (by omega), ?_⟩
          refine ⟨vp_of (by omega) (by omega), ?_⟩
          exact hK _ _ (WX_uI hW (by first | exact okXo (by decide) | (unfold okX; refine ⟨?_, ?_, ?_, ?_, ?_, ?_, ?_, ?_, ?_, ?_⟩ <;> intro h <;> omega))) (Fr_uI Fr.rf (by omega))
      · skip
        have q6 := i32_lo v24
        have hc30 := Int32.toInt_inj.mpr hc30
        have q7 : (-2 : Int32).toInt = -2 := rfl
        refine sfX11_refuse hX hW  (fun v34 I33 hWI33 hFI33 hp33 => ?_)
        have hwI33 := WX_f hWI33
        exact hK _ _ hWI33 (Fr.tr Fr.rf hFI33 (by intro a k h; omega))
theorem sfX11_know {G : jdG} {n : Nat} {Z : jdL} {J : jdJ} {K : Int32 → jdI → jdJ → Prop}  {I : jdI} {x1 : Int32} {x2 : Int32} {x3 : Int32} (hX : zX Z)  (hW : WX I)  (hK : ∀ (v : Int32) (I2 : jdI), WX I2 → Fr (fun a k => a = 4 ∨ a = 28) I I2 → K v I2 J) : Cl G mX11_know (n + 2) 0 0 [.ref (gb G + 0), .int x1, .int x2, .int x3] Z I J (qi Z K) := by
  refine eX11_know hX ?_
  have hwI := WX_f hW
  have q1 := i32_lo x1
  have q2 := i32_lo x2
  refine sfX9_hasTwo (zX_o0 hX) (by decide) hW  (fun v2  hp1 => ?_)
  refine ⟨fun hc2 => ?_, fun hc3 => ?_⟩
  · skip
    have q3 := i32_lo v2
    have q4 : (0 : Int32).toInt = 0 := rfl
    have hc2 := Int32.toInt_inj.mpr hc2
    have q5 : (-2 : Int32).toInt = -2 := rfl
    refine sfX11_refuse hX hW  (fun v4 I3 hWI3 hFI3 hp4 => ?_)
    have hwI3 := WX_f hWI3
    exact hK _ _ hWI3 (Fr.tr Fr.rf hFI3 (by intro a k h; omega))
  · skip
    have q3 := i32_lo v2
    have q4 : (0 : Int32).toInt = 0 := rfl
    have hc3 : ¬ (v2).toInt = (0 : Int32).toInt := fun z => hc3 (Int32.toInt_inj.mp z)
    refine ⟨fun hc5 => ?_, fun hc6 => ?_⟩
    · skip
      have q5 := i32_lo x3
      have q6 : (-1 : Int32).toInt = -1 := rfl
      have hc5 := Int32.lt_iff_toInt_lt.mp hc5
      have q7 : (-2 : Int32).toInt = -2 := rfl
      refine sfX11_refuse hX hW  (fun v6 I5 hWI5 hFI5 hp7 => ?_)
      have hwI5 := WX_f hWI5
      exact hK _ _ hWI5 (Fr.tr Fr.rf hFI5 (by intro a k h; omega))
    · skip
      have q5 := i32_lo x3
      have q6 : (-1 : Int32).toInt = -1 := rfl
      have hc6 := mt Int32.lt_iff_toInt_lt.mpr hc6
      refine ⟨fun hc8 => ?_, fun hc9 => ?_⟩
      · skip
        have q7 : (99 : Int32).toInt = 99 := rfl
        have hc8 := Int32.le_iff_toInt_le.mp hc8
        refine sfX9_since (zX_o0 hX) (by decide) hW (by omega) (by omega) (fun v8  => ?_)
        refine sfX9_tie (zX_o0 hX) (by decide) hW (by omega) (by omega) (fun I9 hWI9 hFI9 => ?_)
        have hwI9 := WX_f hWI9
        exact hK _ _ hWI9 (Fr.tr Fr.rf hFI9 (by intro a k h; omega))
      · skip
        have q7 : (99 : Int32).toInt = 99 := rfl
        have hc9 := mt Int32.le_iff_toInt_le.mpr hc9
        have q8 : (-2 : Int32).toInt = -2 := rfl
        refine sfX11_refuse hX hW  (fun v12 I11 hWI11 hFI11 hp12 => ?_)
        have hwI11 := WX_f hWI11
        exact hK _ _ hWI11 (Fr.tr Fr.rf hFI11 (by intro a k h; omega))
theorem sfX11_ask {G : jdG} {n : Nat} {Z : jdL} {J : jdJ} {K : Int32 → jdI → jdJ → Prop}  {I : jdI} {x1 : Int32} {x2 : Int32} (hX : zX Z)  (hW : WX I)  (hK : ∀ (v : Int32) (I2 : jdI), WX I2 → Fr (fun a k => (1 ≤ a ∧ a ≤ 4) ∨ a = 28) I I2 → K v I2 J) : Cl G mX11_ask (n + 1) 0 0 [.ref (gb G + 0), .int x1, .int x2] Z I J (qi Z K) := by
  refine eX11_ask hX ?_
  have hwI := WX_f hW
  refine ⟨fun hc1 => ?_, fun hc2 => ?_⟩
  · skip
    have q1 := i32_lo x1
    have q2 : (0 : Int32).toInt = 0 := rfl
    have hc1 : ¬ (x1).toInt = (0 : Int32).toInt := fun z => hc1 (Int32.toInt_inj.mp z)
    refine ⟨fun hc3 => ?_, fun hc4 => ?_⟩
    · skip
      have q3 : (1 : Int32).toInt = 1 := rfl
      have hc3 : ¬ (x1).toInt = (1 : Int32).toInt := fun z => hc3 (Int32.toInt_inj.mp z)
      have q4 : (-2 : Int32).toInt = -2 := rfl
      refine sfX11_refuse hX hW  (fun v2 I1 hWI1 hFI1 hp5 => ?_)
      have hwI1 := WX_f hWI1
      exact hK _ _ hWI1 (Fr.tr Fr.rf hFI1 (by intro a k h; omega))
    · skip
      have q3 : (1 : Int32).toInt = 1 := rfl
      have hc4 := Int32.toInt_inj.mpr hc4
      refine ⟨fun hc6 => ?_, fun hc7 => ?_⟩
      · skip
        have q4 := i32_lo x2
        have hc6 := Int32.lt_iff_toInt_lt.mp hc6
        have q5 : (-2 : Int32).toInt = -2 := rfl
        refine sfX11_refuse hX hW  (fun v4 I3 hWI3 hFI3 hp8 => ?_)
        have hwI3 := WX_f hWI3
        exact hK _ _ hWI3 (Fr.tr Fr.rf hFI3 (by intro a k h; omega))
      · skip
        have q4 := i32_lo x2
        have hc7 := mt Int32.lt_iff_toInt_lt.mpr hc7
        refine ⟨fun hc9 => ?_, fun hc10 => ?_⟩
        · skip
          have q5 : (99 : Int32).toInt = 99 := rfl
          have hc9 := Int32.lt_iff_toInt_lt.mp hc9
          have q6 : (-2 : Int32).toInt = -2 := rfl
          refine sfX11_refuse hX hW  (fun v6 I5 hWI5 hFI5 hp11 => ?_)
          have hwI5 := WX_f hWI5
          exact hK _ _ hWI5 (Fr.tr Fr.rf hFI5 (by intro a k h; omega))
        · skip
          have q5 : (99 : Int32).toInt = 99 := rfl
          have hc10 := mt Int32.lt_iff_toInt_lt.mpr hc10
          exact hK _ _ (WX_uI hW (by first | exact okXo (by decide) | (unfold okX; refine ⟨?_, ?_, ?_, ?_, ?_, ?_, ?_, ?_, ?_, ?_⟩ <;> intro h <;> omega))) (Fr_uI Fr.rf (by omega))
  · skip
    have q1 := i32_lo x1
    have q2 : (0 : Int32).toInt = 0 := rfl
    have hc2 := Int32.toInt_inj.mpr hc2
    refine ⟨fun hc12 => ?_, fun hc13 => ?_⟩
    · skip
      have q3 := i32_lo x2
      have q4 : (2 : Int32).toInt = 2 := rfl
      have hc12 := Int32.lt_iff_toInt_lt.mp hc12
      refine ⟨fun hc14 => ?_, fun hc15 => ?_⟩
      · skip
        have q5 : (1 : Int32).toInt = 1 := rfl
        have hc14 : ¬ (x1).toInt = (1 : Int32).toInt := fun z => hc14 (Int32.toInt_inj.mp z)
        have q6 : (-2 : Int32).toInt = -2 := rfl
        refine sfX11_refuse hX hW  (fun v8 I7 hWI7 hFI7 hp16 => ?_)
        have hwI7 := WX_f hWI7
        exact hK _ _ hWI7 (Fr.tr Fr.rf hFI7 (by intro a k h; omega))
      · skip
        have q5 : (1 : Int32).toInt = 1 := rfl
        have hc15 := Int32.toInt_inj.mpr hc15
        refine ⟨fun hc17 => ?_, fun hc18 => ?_⟩
        · skip
          have hc17 := Int32.lt_iff_toInt_lt.mp hc17
          have q6 : (-2 : Int32).toInt = -2 := rfl
          refine sfX11_refuse hX hW  (fun v10 I9 hWI9 hFI9 hp19 => ?_)
          have hwI9 := WX_f hWI9
          exact hK _ _ hWI9 (Fr.tr Fr.rf hFI9 (by intro a k h; omega))
        · skip
          have hc18 := mt Int32.lt_iff_toInt_lt.mpr hc18
          refine ⟨fun hc20 => ?_, fun hc21 => ?_⟩
          · skip
            have q6 : (99 : Int32).toInt = 99 := rfl
            have hc20 := Int32.lt_iff_toInt_lt.mp hc20
            have q7 : (-2 : Int32).toInt = -2 := rfl
            refine sfX11_refuse hX hW  (fun v12 I11 hWI11 hFI11 hp22 => ?_)
            have hwI11 := WX_f hWI11
            exact hK _ _ hWI11 (Fr.tr Fr.rf hFI11 (by intro a k h; omega))
          · skip
            have q6 : (99 : Int32).toInt = 99 := rfl
            have hc21 := mt Int32.lt_iff_toInt_lt.mpr hc21
            exact hK _ _ (WX_uI hW (by first | exact okXo (by decide) | (unfold okX; refine ⟨?_, ?_, ?_, ?_, ?_, ?_, ?_, ?_, ?_, ?_⟩ <;> intro h <;> omega))) (Fr_uI Fr.rf (by omega))
    · skip
      have q3 := i32_lo x2
      have q4 : (2 : Int32).toInt = 2 := rfl
      have hc13 := mt Int32.lt_iff_toInt_lt.mpr hc13
      refine ⟨fun hc23 => ?_, fun hc24 => ?_⟩
      · skip
        have q5 : (4 : Int32).toInt = 4 := rfl
        have hc23 := Int32.lt_iff_toInt_lt.mp hc23
        refine ⟨fun hc25 => ?_, fun hc26 => ?_⟩
        · skip
          have q6 : (1 : Int32).toInt = 1 := rfl
          have hc25 : ¬ (x1).toInt = (1 : Int32).toInt := fun z => hc25 (Int32.toInt_inj.mp z)
          have q7 : (-2 : Int32).toInt = -2 := rfl
          refine sfX11_refuse hX hW  (fun v14 I13 hWI13 hFI13 hp27 => ?_)
          have hwI13 := WX_f hWI13
          exact hK _ _ hWI13 (Fr.tr Fr.rf hFI13 (by intro a k h; omega))
        · skip
          have q6 : (1 : Int32).toInt = 1 := rfl
          have hc26 := Int32.toInt_inj.mpr hc26
          refine ⟨fun hc28 => ?_, fun hc29 => ?_⟩
          · skip
            have hc28 := Int32.lt_iff_toInt_lt.mp hc28
            have q7 : (-2 : Int32).toInt = -2 := rfl
            refine sfX11_refuse hX hW  (fun v16 I15 hWI15 hFI15 hp30 => ?_)
            have hwI15 := WX_f hWI15
            exact hK _ _ hWI15 (Fr.tr Fr.rf hFI15 (by intro a k h; omega))
          · skip
            have hc29 := mt Int32.lt_iff_toInt_lt.mpr hc29
            refine ⟨fun hc31 => ?_, fun hc32 => ?_⟩
            · skip
              have q7 : (99 : Int32).toInt = 99 := rfl
              have hc31 := Int32.lt_iff_toInt_lt.mp hc31
              have q8 : (-2 : Int32).toInt = -2 := rfl
              refine sfX11_refuse hX hW  (fun v18 I17 hWI17 hFI17 hp33 => ?_)
              have hwI17 := WX_f hWI17
              exact hK _ _ hWI17 (Fr.tr Fr.rf hFI17 (by intro a k h; omega))
            · skip
              have q7 : (99 : Int32).toInt = 99 := rfl
              have hc32 := mt Int32.lt_iff_toInt_lt.mpr hc32
              exact hK _ _ (WX_uI hW (by first | exact okXo (by decide) | (unfold okX; refine ⟨?_, ?_, ?_, ?_, ?_, ?_, ?_, ?_, ?_, ?_⟩ <;> intro h <;> omega))) (Fr_uI Fr.rf (by omega))
      · skip
        have q5 : (4 : Int32).toInt = 4 := rfl
        have hc24 := mt Int32.lt_iff_toInt_lt.mpr hc24
        exact hK _ _ (WX_uI hW (by first | exact okXo (by decide) | (unfold okX; refine ⟨?_, ?_, ?_, ?_, ?_, ?_, ?_, ?_, ?_, ?_⟩ <;> intro h <;> omega))) (Fr_uI Fr.rf (by omega))
