theorem sfX11_element {G : jdG} {n : Nat} {Z : jdL} {J : jdJ} {K : Int64 → jdI → jdJ → Prop}  {I : jdI} {x1 : Int32} {x2 : Int32} (hX : zX Z)  (hW : WX I)  (hK : ∀ (v : Int64), ((((0 ≤ x1.toInt ∧ x1.toInt < 8) ∧ ¬ (I (29 + 2 * (Int32.toNatClampNeg x1)) 1).toInt = -1 ∧ 0 ≤ x2.toInt ∧ x2.toInt < (I (29 + 2 * (Int32.toNatClampNeg x1)) 2).toInt) ∧ v = J ((29 + 2 * (Int32.toNatClampNeg x1)) + 1) (Int32.toNatClampNeg x2)) ∨ (¬ ((0 ≤ x1.toInt ∧ x1.toInt < 8) ∧ ¬ (I (29 + 2 * (Int32.toNatClampNeg x1)) 1).toInt = -1 ∧ 0 ≤ x2.toInt ∧ x2.toInt < (I (29 + 2 * (Int32.toNatClampNeg x1)) 2).toInt) ∧ v = 0)) → K v I J) : Cl G mX11_element (n + 2) 0 0 [.ref (gb G + 0), .int x1, .int x2] Z I J (ql Z K) := by
  refine eX11_element hX ?_
  have hwI := WX_f hW
  have q1 := i32_lo x1
  refine sfX11_holdsRow hX hW  (fun v2  hp1 => ?_)
  first | have hsx1 := WX_shx hW (x := x1) (by omega) (by omega) | skip
  refine ⟨fun hc2 => ?_, fun hc3 => ?_⟩
  · skip
    have q2 := i32_lo v2
    have q3 : (0 : Int32).toInt = 0 := rfl
    have hc2 := Int32.toInt_inj.mpr hc2
    first | have hsx1 := WX_shx hW (x := x1) (by omega) (by omega) | skip
    exact hK _  (by first | exact Or.inl ⟨by omega, rfl⟩ | exact Or.inr (⟨by omega, rfl⟩))
  · skip
    have q2 := i32_lo v2
    have q3 : (0 : Int32).toInt = 0 := rfl
    have hc3 : ¬ (v2).toInt = (0 : Int32).toInt := fun z => hc3 (Int32.toInt_inj.mp z)
    first | have hsx1 := WX_shx hW (x := x1) (by omega) (by omega) | skip
    refine ⟨fun hc4 => ?_, fun hc5 => ?_⟩
    · skip
      have q4 := i32_lo x2
      have hc4 := Int32.lt_iff_toInt_lt.mp hc4
      first | have hsx1 := WX_shx hW (x := x1) (by omega) (by omega) | skip
      exact hK _  (by first | exact Or.inl ⟨by omega, rfl⟩ | exact Or.inr (⟨by omega, rfl⟩))
    · skip
      have q4 := i32_lo x2
      have hc5 := mt Int32.lt_iff_toInt_lt.mpr hc5
      first | have hsx1 := WX_shx hW (x := x1) (by omega) (by omega) | skip
      refine ⟨vp_of (by omega) (by omega), ?_⟩
      refine ⟨fun hc6 => ?_, fun hc7 => ?_⟩
      · skip
        have hc6 := Int32.lt_iff_toInt_lt.mp hc6
        first | have hsx1 := WX_shx hW (x := x1) (by omega) (by omega) | skip
        refine ⟨vp_of (by omega) (by omega), ?_⟩
        refine ⟨vp_of (by omega) (by omega), ?_⟩
        exact hK _  (by first | exact Or.inl ⟨by omega, rfl⟩ | exact Or.inr (⟨by omega, rfl⟩))
      · skip
        have hc7 := mt Int32.lt_iff_toInt_lt.mpr hc7
        first | have hsx1 := WX_shx hW (x := x1) (by omega) (by omega) | skip
        exact hK _  (by first | exact Or.inl ⟨by omega, rfl⟩ | exact Or.inr (⟨by omega, rfl⟩))
