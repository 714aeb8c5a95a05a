theorem WX_shx {I : jdI} {x : Int32} (h : WX I) (h0 : 0 ≤ x.toInt) (h1 : x.toInt < 8) : 0 ≤ (I (29 + 2 * (Int32.toNatClampNeg x)) 2).toInt ∧ (I (29 + 2 * (Int32.toNatClampNeg x)) 2).toInt ≤ 40 := h.2 _ (by rw [tn_eq]; omega)
def zMen (Z : jdL) : Prop := ∀ i, i < 8 → ∀ w, Z.2.1 (29 + 2 * i) 3 = some w → zMan Z w

theorem sfX11_refuse {G : jdG} {n : Nat} {Z : jdL} {J : jdJ} {K : Int32 → jdI → jdJ → Prop}  {I : jdI} {x1 : Int32} (hX : zX Z)  (hW : WX I)  (hK : ∀ (v : Int32) (I2 : jdI), WX I2 → Fr (fun a k => a = 28) I I2 → (v = x1) → K v I2 J) : Cl G mX11_refuse n 0 0 [.ref (gb G + 0), .int x1] Z I J (qi Z K) := by
  refine eX11_refuse hX ?_
  have hwI := WX_f hW
  refine ⟨fun hc1 => ?_, fun hc2 => ?_⟩
  · skip
    have q1 : (-2 : Int32).toInt = -2 := rfl
    have q2 := i32_lo x1
    have hc1 := Int32.lt_iff_toInt_lt.mp hc1
    exact hK _ _ hW Fr.rf rfl
  · skip
    have q1 : (-2 : Int32).toInt = -2 := rfl
    have q2 := i32_lo x1
    have hc2 := mt Int32.lt_iff_toInt_lt.mpr hc2
    refine ⟨fun hc3 => ?_, fun hc4 => ?_⟩
    · skip
      have q3 : (-6 : Int32).toInt = -6 := rfl
      have hc3 := Int32.lt_iff_toInt_lt.mp hc3
      exact hK _ _ hW Fr.rf rfl
    · skip
      have q3 : (-6 : Int32).toInt = -6 := rfl
      have hc4 := mt Int32.lt_iff_toInt_lt.mpr hc4
      have q4 := i32_neg x1 (by omega)
      refine ⟨vp_of (by omega) (by omega), ?_⟩
      refine ⟨vp_of (by omega) (by omega), ?_⟩
      exact hK _ _ (WX_uI hW (by first | exact okXo (by decide) | (unfold okX; refine ⟨?_, ?_, ?_, ?_, ?_, ?_, ?_, ?_, ?_, ?_⟩ <;> intro h <;> omega))) (Fr_uI Fr.rf (by omega)) rfl
theorem sfX11_isShelf {G : jdG} {n : Nat} {Z : jdL} {J : jdJ} {K : Int32 → jdI → jdJ → Prop}  {I : jdI} {x0 : Int32}   (hW : WX I)  (hK : ∀ (v : Int32), ((v.toInt = 1 ∧ 0 ≤ x0.toInt ∧ x0.toInt < 8) ∨ (v.toInt = 0 ∧ ¬ (0 ≤ x0.toInt ∧ x0.toInt < 8))) → K v I J) : Cl G mX11_isShelf n 0 0 [.int x0] Z I J (qi Z K) := by
  refine eX11_isShelf  ?_
  have hwI := WX_f hW
  refine ⟨fun hc1 => ?_, fun hc2 => ?_⟩
  · skip
    have q1 := i32_lo x0
    have q2 : (0 : Int32).toInt = 0 := rfl
    have hc1 := Int32.lt_iff_toInt_lt.mp hc1
    exact hK _  (by omega)
  · skip
    have q1 := i32_lo x0
    have q2 : (0 : Int32).toInt = 0 := rfl
    have hc2 := mt Int32.lt_iff_toInt_lt.mpr hc2
    refine ⟨fun hc3 => ?_, fun hc4 => ?_⟩
    · skip
      have q3 : (8 : Int32).toInt = 8 := rfl
      have hc3 := Int32.le_iff_toInt_le.mp hc3
      exact hK _  (by omega)
    · skip
      have q3 : (8 : Int32).toInt = 8 := rfl
      have hc4 := mt Int32.le_iff_toInt_le.mpr hc4
      have q4 : (1 : Int32).toInt = 1 := rfl
      exact hK _  (by omega)
theorem sfX11_isHour {G : jdG} {n : Nat} {Z : jdL} {J : jdJ} {K : Int32 → jdI → jdJ → Prop}  {I : jdI} {x0 : Int32}   (hW : WX I)  (hK : ∀ (v : Int32), ((v.toInt = 1 ∧ 0 ≤ x0.toInt ∧ x0.toInt < 24) ∨ (v.toInt = 0 ∧ ¬ (0 ≤ x0.toInt ∧ x0.toInt < 24))) → K v I J) : Cl G mX11_isHour n 0 0 [.int x0] Z I J (qi Z K) := by
  refine eX11_isHour  ?_
  have hwI := WX_f hW
  refine ⟨fun hc1 => ?_, fun hc2 => ?_⟩
  · skip
    have q1 := i32_lo x0
    have q2 : (0 : Int32).toInt = 0 := rfl
    have hc1 := Int32.lt_iff_toInt_lt.mp hc1
    exact hK _  (by omega)
  · skip
    have q1 := i32_lo x0
    have q2 : (0 : Int32).toInt = 0 := rfl
    have hc2 := mt Int32.lt_iff_toInt_lt.mpr hc2
    refine ⟨fun hc3 => ?_, fun hc4 => ?_⟩
    · skip
      have q3 : (24 : Int32).toInt = 24 := rfl
      have hc3 := Int32.le_iff_toInt_le.mp hc3
      exact hK _  (by omega)
    · skip
      have q3 : (24 : Int32).toInt = 24 := rfl
      have hc4 := mt Int32.le_iff_toInt_le.mpr hc4
      have q4 : (1 : Int32).toInt = 1 := rfl
      exact hK _  (by omega)
theorem sfX11_isCost {G : jdG} {n : Nat} {Z : jdL} {J : jdJ} {K : Int32 → jdI → jdJ → Prop}  {I : jdI} {x0 : Int32}   (hW : WX I)  (hK : ∀ (v : Int32), ((v.toInt = 1 ∧ 0 ≤ x0.toInt ∧ x0.toInt < 10) ∨ (v.toInt = 0 ∧ ¬ (0 ≤ x0.toInt ∧ x0.toInt < 10))) → K v I J) : Cl G mX11_isCost n 0 0 [.int x0] Z I J (qi Z K) := by
  refine eX11_isCost  ?_
  have hwI := WX_f hW
  refine ⟨fun hc1 => ?_, fun hc2 => ?_⟩
  · skip
    have q1 := i32_lo x0
    have q2 : (0 : Int32).toInt = 0 := rfl
    have hc1 := Int32.lt_iff_toInt_lt.mp hc1
    exact hK _  (by omega)
  · skip
    have q1 := i32_lo x0
    have q2 : (0 : Int32).toInt = 0 := rfl
    have hc2 := mt Int32.lt_iff_toInt_lt.mpr hc2
    refine ⟨fun hc3 => ?_, fun hc4 => ?_⟩
    · skip
      have q3 : (10 : Int32).toInt = 10 := rfl
      have hc3 := Int32.le_iff_toInt_le.mp hc3
      exact hK _  (by omega)
    · skip
      have q3 : (10 : Int32).toInt = 10 := rfl
      have hc4 := mt Int32.le_iff_toInt_le.mpr hc4
      have q4 : (1 : Int32).toInt = 1 := rfl
      exact hK _  (by omega)
theorem sfX11_canBeSecret {G : jdG} {n : Nat} {Z : jdL} {J : jdJ} {K : Int32 → jdI → jdJ → Prop}  {I : jdI} {x1 : Int32} (hX : zX Z)  (hW : WX I)  (hK : ∀ (v : Int32), (v.toInt = 0 ∨ (v.toInt = 1 ∧ 0 ≤ x1.toInt ∧ x1.toInt ≤ 127)) → K v I J) : Cl G mX11_canBeSecret (n + 2) 0 0 [.ref (gb G + 0), .int x1] Z I J (qi Z K) := by
  refine eX11_canBeSecret hX ?_
  have hwI := WX_f hW
  have q1 := i32_lo x1
  refine sfX9_hasAll (zX_o0 hX) (by decide) hW  (fun v2  hp1 => ?_)
  refine ⟨fun hc2 => ?_, fun hc3 => ?_⟩
  · skip
    have q2 := i32_lo v2
    have q3 : (0 : Int32).toInt = 0 := rfl
    have hc2 := Int32.toInt_inj.mpr hc2
    exact hK _  (by omega)
  · skip
    have q2 := i32_lo v2
    have q3 : (0 : Int32).toInt = 0 := rfl
    have hc3 : ¬ (v2).toInt = (0 : Int32).toInt := fun z => hc3 (Int32.toInt_inj.mp z)
    refine sfJ6_bitCount_0f7a4  hW  (fun v4  hp4 => ?_)
    refine ⟨fun hc5 => ?_, fun hc6 => ?_⟩
    · skip
      have q4 : (5 : Int32).toInt = 5 := rfl
      have q5 := i32_lo v4
      have hc5 := Int32.lt_iff_toInt_lt.mp hc5
      exact hK _  (by omega)
    · skip
      have q4 : (5 : Int32).toInt = 5 := rfl
      have q5 := i32_lo v4
      have hc6 := mt Int32.lt_iff_toInt_lt.mpr hc6
      have q6 : (1 : Int32).toInt = 1 := rfl
      exact hK _  (by omega)
theorem sfX11_holdsRow {G : jdG} {n : Nat} {Z : jdL} {J : jdJ} {K : Int32 → jdI → jdJ → Prop}  {I : jdI} {x1 : Int32} (hX : zX Z)  (hW : WX I)  (hK : ∀ (v : Int32), ((v.toInt = 1 ∧ 0 ≤ x1.toInt ∧ x1.toInt < 8 ∧ ¬ (I (29 + 2 * (Int32.toNatClampNeg x1)) 1).toInt = -1) ∨ (v.toInt = 0 ∧ (¬ (0 ≤ x1.toInt ∧ x1.toInt < 8) ∨ (I (29 + 2 * (Int32.toNatClampNeg x1)) 1).toInt = -1))) → K v I J) : Cl G mX11_holdsRow (n + 1) 0 0 [.ref (gb G + 0), .int x1] Z I J (qi Z K) := by
  refine eX11_holdsRow hX ?_
  have hwI := WX_f hW
  have q1 := i32_lo x1
  refine sfX11_isShelf  hW  (fun v2  hp1 => ?_)
  refine ⟨fun hc2 => ?_, fun hc3 => ?_⟩
  · skip
    have q2 := i32_lo v2
    have q3 : (0 : Int32).toInt = 0 := rfl
    have hc2 := Int32.toInt_inj.mpr hc2
    exact hK _  (by omega)
  · skip
    have q2 := i32_lo v2
    have q3 : (0 : Int32).toInt = 0 := rfl
    have hc3 : ¬ (v2).toInt = (0 : Int32).toInt := fun z => hc3 (Int32.toInt_inj.mp z)
    refine ⟨vp_of (by omega) (by omega), ?_⟩
    refine sfX6_isRow (zX_shelf hX (by simp only [tn_eq]; omega)) (by simp only [tn_eq]; omega) hW  (fun v5  hp4 => ?_)
    refine ⟨fun hc5 => ?_, fun hc6 => ?_⟩
    · skip
      have q4 := i32_lo v5
      have hc5 := Int32.toInt_inj.mpr hc5
      exact hK _  (by omega)
    · skip
      have q4 := i32_lo v5
      have hc6 : ¬ (v5).toInt = (0 : Int32).toInt := fun z => hc6 (Int32.toInt_inj.mp z)
      have q5 : (1 : Int32).toInt = 1 := rfl
      exact hK _  (by omega)
theorem sfX11_whyNoRow {G : jdG} {n : Nat} {Z : jdL} {J : jdJ} {K : Int32 → jdI → jdJ → Prop}  {I : jdI} {x1 : Int32} (hX : zX Z)  (hW : WX I)  (hK : ∀ (v : Int32), ((¬ (0 ≤ x1.toInt ∧ x1.toInt < 8) ∧ v.toInt = -2) ∨ ((0 ≤ x1.toInt ∧ x1.toInt < 8) ∧ mk Z (Int32.toNatClampNeg x1) = 0 ∧ v.toInt = -4) ∨ ((0 ≤ x1.toInt ∧ x1.toInt < 8) ∧ 1 ≤ mk Z (Int32.toNatClampNeg x1) ∧ v.toInt = -3)) → K v I J) : Cl G mX11_whyNoRow (n + 1) 0 0 [.ref (gb G + 0), .int x1] Z I J (qi Z K) := by
  refine eX11_whyNoRow hX ?_
  have hwI := WX_f hW
  have q1 := i32_lo x1
  refine sfX11_isShelf  hW  (fun v2  hp1 => ?_)
  refine ⟨fun hc2 => ?_, fun hc3 => ?_⟩
  · skip
    have q2 := i32_lo v2
    have q3 : (0 : Int32).toInt = 0 := rfl
    have hc2 : ¬ (v2).toInt = (0 : Int32).toInt := fun z => hc2 (Int32.toInt_inj.mp z)
    refine ⟨vp_of (by omega) (by omega), ?_⟩
    refine ⟨fun hc4 => ?_, ?_⟩
    · skip
      have hzhc4 := mk_none hc4
      have q4 : (-4 : Int32).toInt = -4 := rfl
      exact hK _  (by omega)
    · skip
      intro w5 hc6
      have hzhc6 := mk_some hc6
      have hrhc6 := ckI_r (Z.1 w5)
      have q4 : (-3 : Int32).toInt = -3 := rfl
      exact hK _  (by omega)
  · skip
    have q2 := i32_lo v2
    have q3 : (0 : Int32).toInt = 0 := rfl
    have hc3 := Int32.toInt_inj.mpr hc3
    have q4 : (-2 : Int32).toInt = -2 := rfl
    exact hK _  (by omega)
theorem sfX11_whyNoMan {G : jdG} {n : Nat} {Z : jdL} {J : jdJ} {K : Int32 → jdI → jdJ → Prop}  {I : jdI} {x1 : Int32} (hX : zX Z)  (hW : WX I)  (hK : ∀ (v : Int32), (-4 ≤ v.toInt ∧ v.toInt ≤ -2) → K v I J) : Cl G mX11_whyNoMan (n + 1) 0 0 [.ref (gb G + 0), .int x1] Z I J (qi Z K) := by
  refine eX11_whyNoMan hX ?_
  have hwI := WX_f hW
  have q1 := i32_lo x1
  refine sfX11_isShelf  hW  (fun v2  hp1 => ?_)
  refine ⟨fun hc2 => ?_, fun hc3 => ?_⟩
  · skip
    have q2 := i32_lo v2
    have q3 : (0 : Int32).toInt = 0 := rfl
    have hc2 : ¬ (v2).toInt = (0 : Int32).toInt := fun z => hc2 (Int32.toInt_inj.mp z)
    refine ⟨vp_of (by omega) (by omega), ?_⟩
    refine sfX6_isRow (zX_shelf hX (by simp only [tn_eq]; omega)) (by simp only [tn_eq]; omega) hW  (fun v5  hp4 => ?_)
    refine ⟨fun hc5 => ?_, fun hc6 => ?_⟩
    · skip
      have q4 := i32_lo v5
      have hc5 := Int32.toInt_inj.mpr hc5
      have q5 : (-4 : Int32).toInt = -4 := rfl
      exact hK _  (by omega)
    · skip
      have q4 := i32_lo v5
      have hc6 : ¬ (v5).toInt = (0 : Int32).toInt := fun z => hc6 (Int32.toInt_inj.mp z)
      have q5 : (-3 : Int32).toInt = -3 := rfl
      exact hK _  (by omega)
  · skip
    have q2 := i32_lo v2
    have q3 : (0 : Int32).toInt = 0 := rfl
    have hc3 := Int32.toInt_inj.mpr hc3
    have q4 : (-2 : Int32).toInt = -2 := rfl
    exact hK _  (by omega)
