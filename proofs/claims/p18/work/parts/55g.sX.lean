theorem sfX11_element {G : jdG} {n : Nat} {Z : jdL} {J : jdJ} {K : Int64 → jdI → jdJ → Prop}  {I : jdI} {x1 : Int32} {x2 : Int32} (hX : zX Z)  (hW : WX I)  (hK : ∀ (v : Int64), ((((0 ≤ x1.toInt ∧ x1.toInt < 8) ∧ ¬ (I (29 + 2 * (Int32.toNatClampNeg x1)) 1).toInt = -1 ∧ 0 ≤ x2.toInt ∧ x2.toInt < (I (29 + 2 * (Int32.toNatClampNeg x1)) 2).toInt) ∧ v = J ((29 + 2 * (Int32.toNatClampNeg x1)) + 1) (Int32.toNatClampNeg x2)) ∨ (¬ ((0 ≤ x1.toInt ∧ x1.toInt < 8) ∧ ¬ (I (29 + 2 * (Int32.toNatClampNeg x1)) 1).toInt = -1 ∧ 0 ≤ x2.toInt ∧ x2.toInt < (I (29 + 2 * (Int32.toNatClampNeg x1)) 2).toInt) ∧ v = 0)) → K v I J) : Cl G mX11_element (n + 2) 0 0 [.ref (gb G + 0), .int x1, .int x2] Z I J (ql Z K) := by
  refine eX11_element hX ?_
  have hwI := WX_f hW
  have q1 := i32_lo x1
  refine sfX11_holdsRow hX hW  (fun v2  hp1 => ?_)
  first | (revert hsx1; intro hsx1) | have hsx1 := WX_shx hW (x := x1) (by omega) (by omega) | skip
  refine ⟨fun hc2 => ?_, fun hc3 => ?_⟩
  · skip
    have q2 := i32_lo v2
    have q3 : (0 : Int32).toInt = 0 := rfl
    have hc2 := Int32.toInt_inj.mpr hc2
    first | (revert hsx1; intro hsx1) | have hsx1 := WX_shx hW (x := x1) (by omega) (by omega) | skip
    exact hK _  (by first | exact Or.inl ⟨by omega, rfl⟩ | exact Or.inr (⟨by omega, rfl⟩))
  · skip
    have q2 := i32_lo v2
    have q3 : (0 : Int32).toInt = 0 := rfl
    have hc3 : ¬ (v2).toInt = (0 : Int32).toInt := fun z => hc3 (Int32.toInt_inj.mp z)
    first | (revert hsx1; intro hsx1) | have hsx1 := WX_shx hW (x := x1) (by omega) (by omega) | skip
    refine ⟨fun hc4 => ?_, fun hc5 => ?_⟩
    · skip
      have q4 := i32_lo x2
      have hc4 := Int32.lt_iff_toInt_lt.mp hc4
      first | (revert hsx1; intro hsx1) | have hsx1 := WX_shx hW (x := x1) (by omega) (by omega) | skip
      exact hK _  (by first | exact Or.inl ⟨by omega, rfl⟩ | exact Or.inr (⟨by omega, rfl⟩))
    · skip
      have q4 := i32_lo x2
      have hc5 := mt Int32.lt_iff_toInt_lt.mpr hc5
      first | (revert hsx1; intro hsx1) | have hsx1 := WX_shx hW (x := x1) (by omega) (by omega) | skip
      refine ⟨vp_of (by omega) (by omega), ?_⟩
      refine ⟨fun hc6 => ?_, fun hc7 => ?_⟩
      · skip
        have hc6 := Int32.lt_iff_toInt_lt.mp hc6
        first | (revert hsx1; intro hsx1) | have hsx1 := WX_shx hW (x := x1) (by omega) (by omega) | skip
        refine ⟨vp_of (by omega) (by omega), ?_⟩
        refine ⟨vp_of (by omega) (by omega), ?_⟩
        exact hK _  (by first | exact Or.inl ⟨by omega, rfl⟩ | exact Or.inr (⟨by omega, rfl⟩))
      · skip
        have hc7 := mt Int32.lt_iff_toInt_lt.mpr hc7
        first | (revert hsx1; intro hsx1) | have hsx1 := WX_shx hW (x := x1) (by omega) (by omega) | skip
        exact hK _  (by first | exact Or.inl ⟨by omega, rfl⟩ | exact Or.inr (⟨by omega, rfl⟩))
theorem sfX11_holds {G : jdG} {n : Nat} {Z : jdL} {J : jdJ} {K : Int32 → jdI → jdJ → Prop}  {I : jdI} {sA : Nat → Nat} {sV : Nat → Nat} {x1 : Int32} (hG : gOK G sA sV) (hX : zX Z) (hM : zMen Z)  (hW : WX I)  (hK : ∀ (v : Int32), ((¬ (0 ≤ x1.toInt ∧ x1.toInt < 8) ∧ v.toInt = -1) ∨ ((0 ≤ x1.toInt ∧ x1.toInt < 8) ∧ mk Z (Int32.toNatClampNeg x1) = 0 ∧ v.toInt = (I (29 + 2 * (Int32.toNatClampNeg x1)) 1).toInt) ∨ ((0 ≤ x1.toInt ∧ x1.toInt < 8) ∧ 1 ≤ mk Z (Int32.toNatClampNeg x1) ∧ v.toInt = 10 + mk Z (Int32.toNatClampNeg x1))) → K v I J) : Cl G mX11_holds (n + 1) 0 0 [.ref (gb G + 0), .int x1] Z I J (qi Z K) := by
  refine eX11_holds hG hX ?_
  have hwI := WX_f hW
  have q1 := i32_lo x1
  refine sfX11_isShelf  hW  (fun v2  hp1 => ?_)
  refine ⟨fun hc2 => ?_, fun hc3 => ?_⟩
  · skip
    have q2 := i32_lo v2
    have q3 : (0 : Int32).toInt = 0 := rfl
    have hc2 : ¬ (v2).toInt = (0 : Int32).toInt := fun z => hc2 (Int32.toInt_inj.mp z)
    refine ⟨vp_of (by omega) (by omega), ?_⟩
    refine ⟨fun hc4 => ?_, ?_⟩
    · skip
      have hzhc4 := mk_none hc4
      refine ⟨vp_of (by omega) (by omega), ?_⟩
      exact hK _  (by omega)
    · skip
      intro w5 hc6
      have hzhc6 := mk_some hc6
      have hrhc6 := ckI_r (Z.1 w5)
      refine ⟨(hM _ (by simp only [tn_eq]; omega) _ hc6), ?_⟩
      refine sf_vkind hG hW (fun v8 hp7 => ?_)
      have q4 : (10 : Int32).toInt = 10 := rfl
      have q5 := i32_lo v8
      have q6 := i32_add 10 v8 (by omega) (by omega)
      exact hK _  (by omega)
  · skip
    have q2 := i32_lo v2
    have q3 : (0 : Int32).toInt = 0 := rfl
    have hc3 := Int32.toInt_inj.mpr hc3
    have q4 : (-1 : Int32).toInt = -1 := rfl
    exact hK _  (by omega)
theorem sfX11_says {G : jdG} {n : Nat} {Z : jdL} {J : jdJ} {K : Int32 → jdI → jdJ → Prop}  {I : jdI} {sA : Nat → Nat} {sV : Nat → Nat} {x1 : Int32} {x2 : Int32} (hG : gOK G sA sV) (hX : zX Z) (hM : zMen Z)  (hW : WX I)  (hK : ∀ (v : Int32) (I2 : jdI), WX I2 → Fr (fun a k => (13 ≤ a ∧ a ≤ 24) ∨ a = 28) I I2 → K v I2 J) : Cl G mX11_says (n + 8) 0 0 [.ref (gb G + 0), .int x1, .int x2] Z I J (qi Z K) := by
  refine eX11_says hX ?_
  have hwI := WX_f hW
  have q1 := i32_lo x1
  refine sfX11_isShelf  hW  (fun v2  hp1 => ?_)
  refine ⟨fun hc2 => ?_, fun hc3 => ?_⟩
  · skip
    have q2 := i32_lo v2
    have q3 : (0 : Int32).toInt = 0 := rfl
    have hc2 := Int32.toInt_inj.mpr hc2
    have q4 : (-2 : Int32).toInt = -2 := rfl
    refine sfX11_refuse hX hW  (fun v4 I3 hWI3 hFI3 hp4 => ?_)
    have hwI3 := WX_f hWI3
    exact hK _ _ hWI3 (Fr.tr Fr.rf hFI3 (by intro a k h; omega))
  · skip
    have q2 := i32_lo v2
    have q3 : (0 : Int32).toInt = 0 := rfl
    have hc3 : ¬ (v2).toInt = (0 : Int32).toInt := fun z => hc3 (Int32.toInt_inj.mp z)
    refine ⟨fun hc5 => ?_, fun hc6 => ?_⟩
    · skip
      have q4 := i32_lo x2
      have hc5 := Int32.lt_iff_toInt_lt.mp hc5
      have q5 : (-2 : Int32).toInt = -2 := rfl
      refine sfX11_refuse hX hW  (fun v6 I5 hWI5 hFI5 hp7 => ?_)
      have hwI5 := WX_f hWI5
      exact hK _ _ hWI5 (Fr.tr Fr.rf hFI5 (by intro a k h; omega))
    · skip
      have q4 := i32_lo x2
      have hc6 := mt Int32.lt_iff_toInt_lt.mpr hc6
      refine ⟨fun hc8 => ?_, fun hc9 => ?_⟩
      · skip
        have q5 : (6 : Int32).toInt = 6 := rfl
        have hc8 := Int32.lt_iff_toInt_lt.mp hc8
        refine sfX11_manIn hX hM hW (fun o hp10 => ?_)
        refine ⟨fun hc11 => ?_, ?_⟩
        · skip
          refine sfX11_whyNoMan hX hW  (fun v10  hp13 => ?_)
          have q6 := i32_lo v10
          refine sfX11_refuse hX hW  (fun v12 I11 hWI11 hFI11 hp14 => ?_)
          have hwI11 := WX_f hWI11
          exact hK _ _ hWI11 (Fr.tr Fr.rf hFI11 (by intro a k h; omega))
        · skip
          intro w8 hc15
          refine ⟨(hp10 _ hc15), ?_⟩
          refine sf_visOf hG hW (fun v14 => ?_)
          refine ⟨fun hc17 => ?_, fun hc18 => ?_⟩
          · skip
            have q6 := i32_lo v14
            have hc17 : ¬ (v14).toInt = (0 : Int32).toInt := fun z => hc17 (Int32.toInt_inj.mp z)
            refine ⟨fun hc19 => ?_, fun hc20 => ?_⟩
            · skip
              have hc19 : ¬ (x2).toInt = (0 : Int32).toInt := fun z => hc19 (Int32.toInt_inj.mp z)
              refine sfX8_load (zX_o3 hX) (zX_o0 hX) (by decide) hW  (fun I16 hWI16 hFI16 => ?_)
              have hwI16 := WX_f hWI16
              refine sfX9_everybody (zX_o0 hX) (by decide) hWI16  (fun v19  hp22 => ?_)
              refine ⟨(hp10 _ hc15), ?_⟩
              refine sf_vpick (zX_o3 hX) hWI16 (fun v21 I20 hWI20 hFI20 => ?_)
              have hwI20 := WX_f hWI20
              exact hK _ _ hWI20 (Fr.tr (Fr.tr Fr.rf hFI16 (by intro a k h; omega)) hFI20 (by intro a k h; omega))
            · skip
              have hc20 := Int32.toInt_inj.mpr hc20
              refine ⟨(hp10 _ hc15), ?_⟩
              refine sf_vnumber (hp10 _ hc15) hW (fun v24 => ?_)
              exact hK _ _ hW Fr.rf
          · skip
            have q6 := i32_lo v14
            have hc18 := Int32.toInt_inj.mpr hc18
            have q7 : (-3 : Int32).toInt = -3 := rfl
            refine sfX11_refuse hX hW  (fun v27 I26 hWI26 hFI26 hp25 => ?_)
            have hwI26 := WX_f hWI26
            exact hK _ _ hWI26 (Fr.tr Fr.rf hFI26 (by intro a k h; omega))
      · skip
        have q5 : (6 : Int32).toInt = 6 := rfl
        have hc9 := mt Int32.lt_iff_toInt_lt.mpr hc9
        have q6 : (-2 : Int32).toInt = -2 := rfl
        refine sfX11_refuse hX hW  (fun v29 I28 hWI28 hFI28 hp26 => ?_)
        have hwI28 := WX_f hWI28
        exact hK _ _ hWI28 (Fr.tr Fr.rf hFI28 (by intro a k h; omega))
theorem sfX11_wipe {G : jdG} {n : Nat} {Z : jdL} {J : jdJ} {K : Int32 → jdI → jdJ → Prop}  {I : jdI}  (hX : zX Z)  (hW : WX I)  (hK : ∀ (v : Int32) (I2 : jdI), WX I2 → Fr (fun a k => a = 25) I I2 → (v.toInt = (I 25 1).toInt ∧ (I2 25 1).toInt = 0) → K v I2 J) : Cl G mX11_wipe (n + 1) 0 0 [.ref (gb G + 0)] Z I J (qi Z K) := by
  refine eX11_wipe hX ?_
  have hwI := WX_f hW
  refine sfX5_clear (zX_o5 hX) hW  (fun I1 hWI1 hFI1 hp1 => ?_)
  have hwI1 := WX_f hWI1
  have q1 := i32_lo (I 25 1)
  exact hK _ _ hWI1 (Fr.tr Fr.rf hFI1 (by intro a k h; omega)) (by omega)
theorem sfX11_personOf {G : jdG} {n : Nat} {Z : jdL} {J : jdJ} {K : Int32 → jdI → jdJ → Prop}  {I : jdI} {x1 : Int32} {x2 : Int32} (hX : zX Z)  (hW : WX I)  (hK : ∀ (v : Int32) (I2 : jdI), WX I2 → Fr (fun a k => a = 28) I I2 → K v I2 J) : Cl G mX11_personOf (n + 2) 0 0 [.ref (gb G + 0), .int x1, .int x2] Z I J (qi Z K) := by
  refine eX11_personOf hX ?_
  have hwI := WX_f hW
  have q1 := i32_lo x1
  refine sfX9_has (zX_o0 hX) (by decide) hW  (fun v2  hp1 => ?_)
  refine ⟨fun hc2 => ?_, fun hc3 => ?_⟩
  · skip
    have q2 := i32_lo v2
    have q3 : (0 : Int32).toInt = 0 := rfl
    have hc2 : ¬ (v2).toInt = (0 : Int32).toInt := fun z => hc2 (Int32.toInt_inj.mp z)
    refine ⟨fun hc4 => ?_, fun hc5 => ?_, fun hc6 => ?_, fun hc7 => ?_, fun hc8 => ?_⟩
    · skip
      have q4 : (-2 : Int32).toInt = -2 := rfl
      refine sfX11_refuse hX hW  (fun v4 I3 hWI3 hFI3 hp9 => ?_)
      have hwI3 := WX_f hWI3
      exact hK _ _ hWI3 (Fr.tr Fr.rf hFI3 (by intro a k h; omega))
    · skip
      refine ⟨vp_of (by omega) (by omega), ?_⟩
      exact hK _ _ hW Fr.rf
    · skip
      refine ⟨vp_of (by omega) (by omega), ?_⟩
      exact hK _ _ hW Fr.rf
    · skip
      refine sfX9_strangersTo (zX_o0 hX) (by decide) hW (by omega) (fun v8  => ?_)
      exact hK _ _ hW Fr.rf
    · skip
      refine sfX9_strangersTo (zX_o0 hX) (by decide) hW (by omega) (fun v10  => ?_)
      refine sfJ6_bitCount_0f7a4  hW  (fun v12  hp12 => ?_)
      exact hK _ _ hW Fr.rf
  · skip
    have q2 := i32_lo v2
    have q3 : (0 : Int32).toInt = 0 := rfl
    have hc3 := Int32.toInt_inj.mpr hc3
    have q4 : (-2 : Int32).toInt = -2 := rfl
    refine sfX11_refuse hX hW  (fun v14 I13 hWI13 hFI13 hp13 => ?_)
    have hwI13 := WX_f hWI13
    exact hK _ _ hWI13 (Fr.tr Fr.rf hFI13 (by intro a k h; omega))
