theorem WX_shx {I : jdI} {x : Int32} (h : WX I) (h0 : 0 ≤ x.toInt) (h1 : x.toInt < 8) : 0 ≤ (I (29 + 2 * (Int32.toNatClampNeg x)) 2).toInt ∧ (I (29 + 2 * (Int32.toNatClampNeg x)) 2).toInt ≤ 40 := h.2 _ (by rw [tn_eq]; omega)
def zMen (Z : jdL) : Prop := ∀ i, i < 8 → ∀ w, Z.2.1 (29 + 2 * i) 3 = some w → zMan Z w

theorem sfX11_refuse {G : jdG} {n : Nat} {Z : jdL} {J : jdJ} {K : Int32 → jdI → jdJ → Prop}  {I : jdI} {x1 : Int32} (hX : zX Z)  (hW : WX I)  (hK : ∀ (v : Int32) (I2 : jdI), WX I2 → Fr (fun a k => a = 28) I I2 → (v = x1) → K v I2 J) : Cl G mX11_refuse n 0 0 [.ref (gb G + 0), .int x1] Z I J (qi Z K) := by
  refine eX11_refuse hX ?_
  have hwI := WX_f hW
  refine ⟨fun hc1 => ?_, fun hc2 => ?_⟩
  · skip
    have q1 : (-2 : Int32).toInt = -2 := rfl
    have q2 := i32_lo x1
    have hc1 := Int32.lt_iff_toInt_lt.mp hc1
    exact hK _ _ hW Fr.rf rfl
  · skip
    have q1 : (-2 : Int32).toInt = -2 := rfl
    have q2 := i32_lo x1
    have hc2 := mt Int32.lt_iff_toInt_lt.mpr hc2
    refine ⟨fun hc3 => ?_, fun hc4 => ?_⟩
    · skip
      have q3 : (-6 : Int32).toInt = -6 := rfl
      have hc3 := Int32.lt_iff_toInt_lt.mp hc3
      exact hK _ _ hW Fr.rf rfl
    · skip
      have q3 : (-6 : Int32).toInt = -6 := rfl
      have hc4 := mt Int32.lt_iff_toInt_lt.mpr hc4
      have q4 := i32_neg x1 (by omega)
      refine ⟨vp_of (by omega) (by omega), ?_⟩
      refine ⟨vp_of (by omega) (by omega), ?_⟩
      exact hK _ _ (WX_uI hW (by first | exact okXo (by decide) | (unfold okX; refine ⟨?_, ?_, ?_, ?_, ?_, ?_, ?_, ?_, ?_, ?_⟩ <;> intro h <;> omega))) (Fr_uI Fr.rf (by omega)) rfl
theorem sfX11_isShelf {G : jdG} {n : Nat} {Z : jdL} {J : jdJ} {K : Int32 → jdI → jdJ → Prop}  {I : jdI} {x0 : Int32}   (hW : WX I)  (hK : ∀ (v : Int32), ((v.toInt = 1 ∧ 0 ≤ x0.toInt ∧ x0.toInt < 8) ∨ (v.toInt = 0 ∧ ¬ (0 ≤ x0.toInt ∧ x0.toInt < 8))) → K v I J) : Cl G mX11_isShelf n 0 0 [.int x0] Z I J (qi Z K) := by
  refine eX11_isShelf  ?_
  have hwI := WX_f hW
  refine ⟨fun hc1 => ?_, fun hc2 => ?_⟩
  · skip
    have q1 := i32_lo x0
    have q2 : (0 : Int32).toInt = 0 := rfl
    have hc1 := Int32.lt_iff_toInt_lt.mp hc1
    exact hK _  (by omega)
  · skip
    have q1 := i32_lo x0
    have q2 : (0 : Int32).toInt = 0 := rfl
    have hc2 := mt Int32.lt_iff_toInt_lt.mpr hc2
    refine ⟨fun hc3 => ?_, fun hc4 => ?_⟩
    · skip
      have q3 : (8 : Int32).toInt = 8 := rfl
      have hc3 := Int32.le_iff_toInt_le.mp hc3
      exact hK _  (by omega)
    · skip
      have q3 : (8 : Int32).toInt = 8 := rfl
      have hc4 := mt Int32.le_iff_toInt_le.mpr hc4
      have q4 : (1 : Int32).toInt = 1 := rfl
      exact hK _  (by omega)
theorem sfX11_isHour {G : jdG} {n : Nat} {Z : jdL} {J : jdJ} {K : Int32 → jdI → jdJ → Prop}  {I : jdI} {x0 : Int32}   (hW : WX I)  (hK : ∀ (v : Int32), ((v.toInt = 1 ∧ 0 ≤ x0.toInt ∧ x0.toInt < 24) ∨ (v.toInt = 0 ∧ ¬ (0 ≤ x0.toInt ∧ x0.toInt < 24))) → K v I J) : Cl G mX11_isHour n 0 0 [.int x0] Z I J (qi Z K) := by
  refine eX11_isHour  ?_
  have hwI := WX_f hW
  refine ⟨fun hc1 => ?_, fun hc2 => ?_⟩
  · skip
    have q1 := i32_lo x0
    have q2 : (0 : Int32).toInt = 0 := rfl
    have hc1 := Int32.lt_iff_toInt_lt.mp hc1
    exact hK _  (by omega)
  · skip
    have q1 := i32_lo x0
    have q2 : (0 : Int32).toInt = 0 := rfl
    have hc2 := mt Int32.lt_iff_toInt_lt.mpr hc2
    refine ⟨fun hc3 => ?_, fun hc4 => ?_⟩
    · skip
      have q3 : (24 : Int32).toInt = 24 := rfl
      have hc3 := Int32.le_iff_toInt_le.mp hc3
      exact hK _  (by omega)
    · skip
      have q3 : (24 : Int32).toInt = 24 := rfl
      have hc4 := mt Int32.le_iff_toInt_le.mpr hc4
      have q4 : (1 : Int32).toInt = 1 := rfl
      exact hK _  (by omega)
theorem sfX11_isCost {G : jdG} {n : Nat} {Z : jdL} {J : jdJ} {K : Int32 → jdI → jdJ → Prop}  {I : jdI} {x0 : Int32}   (hW : WX I)  (hK : ∀ (v : Int32), ((v.toInt = 1 ∧ 0 ≤ x0.toInt ∧ x0.toInt < 10) ∨ (v.toInt = 0 ∧ ¬ (0 ≤ x0.toInt ∧ x0.toInt < 10))) → K v I J) : Cl G mX11_isCost n 0 0 [.int x0] Z I J (qi Z K) := by
  refine eX11_isCost  ?_
  have hwI := WX_f hW
  refine ⟨fun hc1 => ?_, fun hc2 => ?_⟩
  · skip
    have q1 := i32_lo x0
    have q2 : (0 : Int32).toInt = 0 := rfl
    have hc1 := Int32.lt_iff_toInt_lt.mp hc1
    exact hK _  (by omega)
  · skip
    have q1 := i32_lo x0
    have q2 : (0 : Int32).toInt = 0 := rfl
    have hc2 := mt Int32.lt_iff_toInt_lt.mpr hc2
    refine ⟨fun hc3 => ?_, fun hc4 => ?_⟩
    · skip
      have q3 : (10 : Int32).toInt = 10 := rfl
      have hc3 := Int32.le_iff_toInt_le.mp hc3
      exact hK _  (by omega)
    · skip
      have q3 : (10 : Int32).toInt = 10 := rfl
      have hc4 := mt Int32.le_iff_toInt_le.mpr hc4
      have q4 : (1 : Int32).toInt = 1 := rfl
      exact hK _  (by omega)
theorem sfX11_canBeSecret {G : jdG} {n : Nat} {Z : jdL} {J : jdJ} {K : Int32 → jdI → jdJ → Prop}  {I : jdI} {x1 : Int32} (hX : zX Z)  (hW : WX I)  (hK : ∀ (v : Int32), (v.toInt = 0 ∨ (v.toInt = 1 ∧ 0 ≤ x1.toInt ∧ x1.toInt ≤ 127)) → K v I J) : Cl G mX11_canBeSecret (n + 2) 0 0 [.ref (gb G + 0), .int x1] Z I J (qi Z K) := by
  refine eX11_canBeSecret hX ?_
  have hwI := WX_f hW
  have q1 := i32_lo x1
  refine sfX9_hasAll (zX_o0 hX) (by decide) hW  (fun v2  hp1 => ?_)
  refine ⟨fun hc2 => ?_, fun hc3 => ?_⟩
  · skip
    have q2 := i32_lo v2
    have q3 : (0 : Int32).toInt = 0 := rfl
    have hc2 := Int32.toInt_inj.mpr hc2
    exact hK _  (by omega)
  · skip
    have q2 := i32_lo v2
    have q3 : (0 : Int32).toInt = 0 := rfl
    have hc3 : ¬ (v2).toInt = (0 : Int32).toInt := fun z => hc3 (Int32.toInt_inj.mp z)
    refine sfJ6_bitCount_0f7a4  hW  (fun v4  hp4 => ?_)
    refine ⟨fun hc5 => ?_, fun hc6 => ?_⟩
    · skip
      have q4 : (5 : Int32).toInt = 5 := rfl
      have q5 := i32_lo v4
      have hc5 := Int32.lt_iff_toInt_lt.mp hc5
      exact hK _  (by omega)
    · skip
      have q4 : (5 : Int32).toInt = 5 := rfl
      have q5 := i32_lo v4
      have hc6 := mt Int32.lt_iff_toInt_lt.mpr hc6
      have q6 : (1 : Int32).toInt = 1 := rfl
      exact hK _  (by omega)
theorem sfX11_holdsRow {G : jdG} {n : Nat} {Z : jdL} {J : jdJ} {K : Int32 → jdI → jdJ → Prop}  {I : jdI} {x1 : Int32} (hX : zX Z)  (hW : WX I)  (hK : ∀ (v : Int32), ((v.toInt = 1 ∧ 0 ≤ x1.toInt ∧ x1.toInt < 8 ∧ ¬ (I (29 + 2 * (Int32.toNatClampNeg x1)) 1).toInt = -1) ∨ (v.toInt = 0 ∧ (¬ (0 ≤ x1.toInt ∧ x1.toInt < 8) ∨ (I (29 + 2 * (Int32.toNatClampNeg x1)) 1).toInt = -1))) → K v I J) : Cl G mX11_holdsRow (n + 1) 0 0 [.ref (gb G + 0), .int x1] Z I J (qi Z K) := by
  refine eX11_holdsRow hX ?_
  have hwI := WX_f hW
  have q1 := i32_lo x1
  refine sfX11_isShelf  hW  (fun v2  hp1 => ?_)
  refine ⟨fun hc2 => ?_, fun hc3 => ?_⟩
  · skip
    have q2 := i32_lo v2
    have q3 : (0 : Int32).toInt = 0 := rfl
    have hc2 := Int32.toInt_inj.mpr hc2
    exact hK _  (by omega)
  · skip
    have q2 := i32_lo v2
    have q3 : (0 : Int32).toInt = 0 := rfl
    have hc3 : ¬ (v2).toInt = (0 : Int32).toInt := fun z => hc3 (Int32.toInt_inj.mp z)
    refine ⟨vp_of (by omega) (by omega), ?_⟩
    refine sfX6_isRow (zX_shelf hX (by simp only [tn_eq]; omega)) (by simp only [tn_eq]; omega) hW  (fun v5  hp4 => ?_)
    refine ⟨fun hc5 => ?_, fun hc6 => ?_⟩
    · skip
      have q4 := i32_lo v5
      have hc5 := Int32.toInt_inj.mpr hc5
      exact hK _  (by omega)
    · skip
      have q4 := i32_lo v5
      have hc6 : ¬ (v5).toInt = (0 : Int32).toInt := fun z => hc6 (Int32.toInt_inj.mp z)
      have q5 : (1 : Int32).toInt = 1 := rfl
      exact hK _  (by omega)
theorem sfX11_whyNoRow {G : jdG} {n : Nat} {Z : jdL} {J : jdJ} {K : Int32 → jdI → jdJ → Prop}  {I : jdI} {x1 : Int32} (hX : zX Z)  (hW : WX I)  (hK : ∀ (v : Int32), ((¬ (0 ≤ x1.toInt ∧ x1.toInt < 8) ∧ v.toInt = -2) ∨ ((0 ≤ x1.toInt ∧ x1.toInt < 8) ∧ mk Z (Int32.toNatClampNeg x1) = 0 ∧ v.toInt = -4) ∨ ((0 ≤ x1.toInt ∧ x1.toInt < 8) ∧ 1 ≤ mk Z (Int32.toNatClampNeg x1) ∧ v.toInt = -3)) → K v I J) : Cl G mX11_whyNoRow (n + 1) 0 0 [.ref (gb G + 0), .int x1] Z I J (qi Z K) := by
  refine eX11_whyNoRow hX ?_
  have hwI := WX_f hW
  have q1 := i32_lo x1
  refine sfX11_isShelf  hW  (fun v2  hp1 => ?_)
  refine ⟨fun hc2 => ?_, fun hc3 => ?_⟩
  · skip
    have q2 := i32_lo v2
    have q3 : (0 : Int32).toInt = 0 := rfl
    have hc2 : ¬ (v2).toInt = (0 : Int32).toInt := fun z => hc2 (Int32.toInt_inj.mp z)
    refine ⟨vp_of (by omega) (by omega), ?_⟩
    refine ⟨fun hc4 => ?_, ?_⟩
    · skip
      have hzhc4 := mk_none hc4
      have q4 : (-4 : Int32).toInt = -4 := rfl
      exact hK _  (by omega)
    · skip
      intro w5 hc6
      have hzhc6 := mk_some hc6
      have hrhc6 := ckI_r (Z.1 w5)
      have q4 : (-3 : Int32).toInt = -3 := rfl
      exact hK _  (by omega)
  · skip
    have q2 := i32_lo v2
    have q3 : (0 : Int32).toInt = 0 := rfl
    have hc3 := Int32.toInt_inj.mpr hc3
    have q4 : (-2 : Int32).toInt = -2 := rfl
    exact hK _  (by omega)
theorem sfX11_whyNoMan {G : jdG} {n : Nat} {Z : jdL} {J : jdJ} {K : Int32 → jdI → jdJ → Prop}  {I : jdI} {x1 : Int32} (hX : zX Z)  (hW : WX I)  (hK : ∀ (v : Int32), (-4 ≤ v.toInt ∧ v.toInt ≤ -2) → K v I J) : Cl G mX11_whyNoMan (n + 1) 0 0 [.ref (gb G + 0), .int x1] Z I J (qi Z K) := by
  refine eX11_whyNoMan hX ?_
  have hwI := WX_f hW
  have q1 := i32_lo x1
  refine sfX11_isShelf  hW  (fun v2  hp1 => ?_)
  refine ⟨fun hc2 => ?_, fun hc3 => ?_⟩
  · skip
    have q2 := i32_lo v2
    have q3 : (0 : Int32).toInt = 0 := rfl
    have hc2 : ¬ (v2).toInt = (0 : Int32).toInt := fun z => hc2 (Int32.toInt_inj.mp z)
    refine ⟨vp_of (by omega) (by omega), ?_⟩
    refine sfX6_isRow (zX_shelf hX (by simp only [tn_eq]; omega)) (by simp only [tn_eq]; omega) hW  (fun v5  hp4 => ?_)
    refine ⟨fun hc5 => ?_, fun hc6 => ?_⟩
    · skip
      have q4 := i32_lo v5
      have hc5 := Int32.toInt_inj.mpr hc5
      have q5 : (-4 : Int32).toInt = -4 := rfl
      exact hK _  (by omega)
    · skip
      have q4 := i32_lo v5
      have hc6 : ¬ (v5).toInt = (0 : Int32).toInt := fun z => hc6 (Int32.toInt_inj.mp z)
      have q5 : (-3 : Int32).toInt = -3 := rfl
      exact hK _  (by omega)
  · skip
    have q2 := i32_lo v2
    have q3 : (0 : Int32).toInt = 0 := rfl
    have hc3 := Int32.toInt_inj.mpr hc3
    have q4 : (-2 : Int32).toInt = -2 := rfl
    exact hK _  (by omega)
theorem sfX11_manIn {G : jdG} {n : Nat} {Z : jdL} {J : jdJ} {K : Option Nat → jdI → jdJ → Prop} {I : jdI} {x1 : Int32} (hX : zX Z) (hM : zMen Z) (hW : WX I) (hK : ∀ o : Option Nat, (∀ w, o = some w → zMan Z w) → K o I J) : Cl G mX11_manIn (n + 1) 0 0 [.ref (gb G + 0), .int x1] Z I J (qm G Z K) := by
  refine eX11_manIn hX ?_
  refine sfX11_isShelf hW (fun v2 hp => ?_)
  refine ⟨fun hc => ⟨none, rfl, rfl, hK _ (fun w h => absurd h (by simp))⟩, fun hc => ?_⟩
  have hc : ¬ (v2).toInt = (0 : Int32).toInt := fun z => hc (Int32.toInt_inj.mp z)
  have q0 : (0 : Int32).toInt = 0 := rfl
  refine ⟨vp_of (by omega) (by omega), ?_⟩
  refine ⟨fun hn => ⟨none, rfl, rfl, hK _ (fun w h => absurd h (by simp))⟩, fun w5 hw => ?_⟩
  refine ⟨some w5, rfl, rfl, hK _ (fun w h => ?_)⟩
  cases h
  exact hM _ (by rw [tn_eq]; omega) _ hw
theorem lX11_countHeld_4 {G : jdG} {n : Nat} {Z : jdL} {J : jdJ} {rc rs : Nat} {K : Int32 → jdI → jdJ → Prop}  {I : jdI}  (hX : zX Z)  (hW : WX I)  (hK : ∀ (v : Int32), K v I J) : ∀ m : Nat, ∀ (x1 : Int32) (x2 : Int32), (0 ≤ x2.toInt ∧ x2.toInt ≤ 8) → (8) - x2.toInt < (m : Int) → Jd G mX11_countHeld (jdFm G (qi Z K)) (n + 1) rc rs 4 [(0, .ref (gb G + 0)), (1, .int x1), (2, .int x2)] [] Z I J := by
  intro m
  induction m with
  | zero =>
    intro x1 x2 hx2 hm
    have hwI := WX_f hW
    omega
  | succ m ih =>
    intro x1 x2 hx2 hm
    have hwI := WX_f hW
    refine rX11_countHeld_4 hX ?_
    refine ⟨fun hc1 => ?_, fun hc2 => ?_⟩
    · skip
      have q1 : (8 : Int32).toInt = 8 := rfl
      have q2 := i32_lo x2
      have hc1 := Int32.le_iff_toInt_le.mp hc1
      exact hK _ 
    · skip
      have q1 : (8 : Int32).toInt = 8 := rfl
      have q2 := i32_lo x2
      have hc2 := mt Int32.le_iff_toInt_le.mpr hc2
      refine ⟨vp_of (by omega) (by omega), ?_⟩
      refine ⟨fun hc3 => ?_, ?_⟩
      · skip
        have hzhc3 := mk_none hc3
        refine ⟨vp_of (by omega) (by omega), ?_⟩
        refine sfX6_isRow (zX_shelf hX (by simp only [tn_eq]; omega)) (by simp only [tn_eq]; omega) hW  (fun v6  hp5 => ?_)
        refine ⟨fun hc6 => ?_, fun hc7 => ?_⟩
        · skip
          have q3 := i32_lo v6
          have q4 : (0 : Int32).toInt = 0 := rfl
          have hc6 := Int32.toInt_inj.mpr hc6
          have q5 : (1 : Int32).toInt = 1 := rfl
          have q6 := i32_add x2 1 (by omega) (by omega)
          exact ih x1 (x2 + 1) (by omega) (by omega)
        · skip
          have q3 := i32_lo v6
          have q4 : (0 : Int32).toInt = 0 := rfl
          have hc7 : ¬ (v6).toInt = (0 : Int32).toInt := fun z => hc7 (Int32.toInt_inj.mp z)
          have q5 : (1 : Int32).toInt = 1 := rfl
          have q6 := i32_add x2 1 (by omega) (by omega)
          exact ih (x1 + 1) (x2 + 1) (by omega) (by omega)
      · skip
        intro w3 hc8
        have hzhc8 := mk_some hc8
        have hrhc8 := ckI_r (Z.1 w3)
        have q3 : (1 : Int32).toInt = 1 := rfl
        have q4 := i32_add x2 1 (by omega) (by omega)
        exact ih (x1 + 1) (x2 + 1) (by omega) (by omega)
theorem sfX11_countHeld {G : jdG} {n : Nat} {Z : jdL} {J : jdJ} {K : Int32 → jdI → jdJ → Prop}  {I : jdI}  (hX : zX Z)  (hW : WX I)  (hK : ∀ (v : Int32), K v I J) : Cl G mX11_countHeld (n + 1) 0 0 [.ref (gb G + 0)] Z I J (qi Z K) := by
  refine eX11_countHeld hX ?_
  have hwI := WX_f hW
  have q1 : (0 : Int32).toInt = 0 := rfl
  exact lX11_countHeld_4 hX  hW  hK  (((8) - (0 : Int32).toInt).toNat + 1) 0 0 (by omega) (by omega)
theorem sfX11_think {G : jdG} {n : Nat} {Z : jdL} {J : jdJ} {K : jdI → jdJ → Prop}  {I : jdI} {u1 : Nat} (hX : zX Z) (hu1m : zMan Z u1) (hW : WX I)  (hK : ∀ (I2 : jdI), WX I2 → Fr (fun a k => 13 ≤ a ∧ a ≤ 24) I I2 → K I2 J) : Cl G mX11_think (n + 8) 0 0 [.ref (gb G + 0), .ref (gb G + u1)] Z I J (qv Z K) := by
  refine eX11_think hX ?_
  have hwI := WX_f hW
  refine sfX8_load (zX_o3 hX) (zX_o0 hX) (by decide) hW  (fun I1 hWI1 hFI1 => ?_)
  have hwI1 := WX_f hWI1
  refine sfX3_pass (zX_o4 hX) (zX_o0 hX) (zX_o3 hX) (by decide) hu1m hWI1  (fun I3 hWI3 hFI3 => ?_)
  have hwI3 := WX_f hWI3
  exact hK _ hWI3 (Fr.tr (Fr.tr Fr.rf hFI1 (by intro a k h; omega)) hFI3 (by intro a k h; omega))
theorem sfX11_whyNotTold {G : jdG} {n : Nat} {Z : jdL} {J : jdJ} {K : Int32 → jdI → jdJ → Prop}  {I : jdI} {x1 : Int32} {x2 : Int32} (hX : zX Z)  (hW : WX I)  (hK : ∀ (v : Int32), ((v.toInt = 0 ∧ (0 ≤ x1.toInt ∧ x1.toInt < 8) ∧ 0 ≤ x2.toInt ∧ x2.toInt ≤ 7) ∨ ¬ v.toInt = 0) → K v I J) : Cl G mX11_whyNotTold (n + 2) 0 0 [.ref (gb G + 0), .int x1, .int x2] Z I J (qi Z K) := by
  refine eX11_whyNotTold hX ?_
  have hwI := WX_f hW
  have q1 := i32_lo x1
  refine sfX11_isShelf  hW  (fun v2  hp1 => ?_)
  refine ⟨fun hc2 => ?_, fun hc3 => ?_⟩
  · skip
    have q2 := i32_lo v2
    have q3 : (0 : Int32).toInt = 0 := rfl
    have hc2 := Int32.toInt_inj.mpr hc2
    have q4 : (-2 : Int32).toInt = -2 := rfl
    exact hK _  (by omega)
  · skip
    have q2 := i32_lo v2
    have q3 : (0 : Int32).toInt = 0 := rfl
    have hc3 : ¬ (v2).toInt = (0 : Int32).toInt := fun z => hc3 (Int32.toInt_inj.mp z)
    refine ⟨fun hc4 => ?_, fun hc5 => ?_⟩
    · skip
      have q4 := i32_lo x2
      have hc4 := Int32.lt_iff_toInt_lt.mp hc4
      have q5 : (-2 : Int32).toInt = -2 := rfl
      exact hK _  (by omega)
    · skip
      have q4 := i32_lo x2
      have hc5 := mt Int32.lt_iff_toInt_lt.mpr hc5
      refine ⟨fun hc6 => ?_, fun hc7 => ?_⟩
      · skip
        have q5 : (7 : Int32).toInt = 7 := rfl
        have hc6 := Int32.le_iff_toInt_le.mp hc6
        refine sfX11_holdsRow hX hW  (fun v4  hp8 => ?_)
        refine ⟨fun hc9 => ?_, fun hc10 => ?_⟩
        · skip
          have q6 := i32_lo v4
          have hc9 : ¬ (v4).toInt = (0 : Int32).toInt := fun z => hc9 (Int32.toInt_inj.mp z)
          refine ⟨vp_of (by omega) (by omega), ?_⟩
          refine ⟨fun hc11 => ?_, fun hc12 => ?_⟩
          · skip
            have hc11 := Int32.le_iff_toInt_le.mp hc11
            exact hK _  (by omega)
          · skip
            have hc12 := mt Int32.le_iff_toInt_le.mpr hc12
            have q7 : (-2 : Int32).toInt = -2 := rfl
            exact hK _  (by omega)
        · skip
          have q6 := i32_lo v4
          have hc10 := Int32.toInt_inj.mpr hc10
          refine sfX11_whyNoRow hX hW  (fun v7  hp13 => ?_)
          have q7 := i32_lo v7
          exact hK _  (by omega)
      · skip
        have q5 : (7 : Int32).toInt = 7 := rfl
        have hc7 := mt Int32.le_iff_toInt_le.mpr hc7
        have q6 : (-2 : Int32).toInt = -2 := rfl
        exact hK _  (by omega)
theorem lX11_firstWrong_16 {G : jdG} {n : Nat} {Z : jdL} {J : jdJ} {rc rs : Nat} {K : Int32 → jdI → jdJ → Prop}  {I0 : jdI} {x1 : Int32} {x2 : Int32} (hX : zX Z)  (hx1 : 0 ≤ x1.toInt ∧ x1.toInt < 8) (hx2 : x2.toInt ≤ 7) (hK : ∀ (v : Int32) (I2 : jdI), WX I2 → Fr (fun a k => 13 ≤ a ∧ a ≤ 24) I0 I2 → K v I2 J) : ∀ m : Nat, ∀ (I : jdI) (x3 : Int32) (x4 : Int32), WX I → Fr (fun a k => 13 ≤ a ∧ a ≤ 24) I0 I → (0 ≤ x4.toInt ∧ x4.toInt ≤ 8) → (8) - x4.toInt < (m : Int) → Jd G mX11_firstWrong (jdFm G (qi Z K)) (n + 8) rc rs 16 [(0, .ref (gb G + 0)), (1, .int x1), (2, .int x2), (3, .int x3), (4, .int x4)] [] Z I J := by
  intro m
  induction m with
  | zero =>
    intro I x3 x4 hW hF hx4 hm
    have hwI := WX_f hW
    omega
  | succ m ih =>
    intro I x3 x4 hW hF hx4 hm
    have hwI := WX_f hW
    refine rX11_firstWrong_16 hX ?_
    refine ⟨fun hc1 => ?_, fun hc2 => ?_⟩
    · skip
      have q1 := i32_lo x2
      have q2 := i32_lo x4
      have hc1 := Int32.le_iff_toInt_le.mp hc1
      exact hK _ _ hW hF
    · skip
      have q1 := i32_lo x2
      have q2 := i32_lo x4
      have hc2 := mt Int32.le_iff_toInt_le.mpr hc2
      have q3 := i32_lo x1
      refine ⟨vp_of (by omega) (by omega), ?_⟩
      refine ⟨vp_of (by omega) (by omega), ?_⟩
      refine ⟨fun hc3 => ?_, fun hc4 => ?_⟩
      · skip
        have q4 : (0 : Int64).toInt = 0 := rfl
        have q5 := lg_f (J ((29 + 2 * (Int32.toNatClampNeg x1)) + 1) (Int32.toNatClampNeg x4)) 0
        have q6 : (0 : Int32).toInt = 0 := rfl
        have hc3 := Int32.lt_iff_toInt_lt.mp hc3
        exact hK _ _ hW hF
      · skip
        have q4 : (0 : Int64).toInt = 0 := rfl
        have q5 := lg_f (J ((29 + 2 * (Int32.toNatClampNeg x1)) + 1) (Int32.toNatClampNeg x4)) 0
        have q6 : (0 : Int32).toInt = 0 := rfl
        have hc4 := mt Int32.lt_iff_toInt_lt.mpr hc4
        refine sfX9_everybody (zX_o0 hX) (by decide) hW  (fun v4  hp5 => ?_)
        refine ⟨fun hc6 => ?_, fun hc7 => ?_⟩
        · skip
          refine sfX8_isOne (zX_o3 hX) hW  (fun v6  hp8 => ?_)
          refine ⟨fun hc9 => ?_, fun hc10 => ?_⟩
          · skip
            have q7 := i32_lo v6
            have hc9 := Int32.toInt_inj.mpr hc9
            exact hK _ _ hW hF
          · skip
            have q7 := i32_lo v6
            have hc10 : ¬ (v6).toInt = (0 : Int32).toInt := fun z => hc10 (Int32.toInt_inj.mp z)
            refine ⟨fun hc11 => ?_, fun hc12 => ?_⟩
            · skip
              have q8 : (1 : Int32).toInt = 1 := rfl
              have q9 := i32_add x4 1 (by omega) (by omega)
              exact ih _ (x3 ||| (Int64.toInt32 (J ((29 + 2 * (Int32.toNatClampNeg x1)) + 1) (Int32.toNatClampNeg x4)))) (x4 + 1) hW hF (by omega) (by omega)
            · skip
              exact hK _ _ hW hF
        · skip
          exact hK _ _ hW hF
theorem sfX11_firstWrong {G : jdG} {n : Nat} {Z : jdL} {J : jdJ} {K : Int32 → jdI → jdJ → Prop}  {I : jdI} {x1 : Int32} {x2 : Int32} (hX : zX Z)  (hW : WX I) (hx1 : 0 ≤ x1.toInt ∧ x1.toInt < 8) (hx2 : x2.toInt ≤ 7) (hK : ∀ (v : Int32) (I2 : jdI), WX I2 → Fr (fun a k => 13 ≤ a ∧ a ≤ 24) I I2 → K v I2 J) : Cl G mX11_firstWrong (n + 8) 0 0 [.ref (gb G + 0), .int x1, .int x2] Z I J (qi Z K) := by
  refine eX11_firstWrong hX ?_
  have hwI := WX_f hW
  refine sfX8_load (zX_o3 hX) (zX_o0 hX) (by decide) hW  (fun I1 hWI1 hFI1 => ?_)
  have hwI1 := WX_f hWI1
  have q1 : (0 : Int32).toInt = 0 := rfl
  exact lX11_firstWrong_16 hX  hx1 hx2 hK  (((8) - (0 : Int32).toInt).toNat + 1) _ 0 0 hWI1 (Fr.tr Fr.rf hFI1 (by intro a k h; omega)) (by omega) (by omega)
theorem sfX11_whyNotRidden {G : jdG} {n : Nat} {Z : jdL} {J : jdJ} {K : Int32 → jdI → jdJ → Prop}  {I : jdI} {x1 : Int32} {x2 : Int32} (hX : zX Z)  (hW : WX I)  (hK : ∀ (v : Int32) (I2 : jdI), WX I2 → Fr (fun a k => 13 ≤ a ∧ a ≤ 24) I I2 → ((v.toInt = 0 ∧ (0 ≤ x1.toInt ∧ x1.toInt < 8) ∧ 0 ≤ x2.toInt ∧ x2.toInt ≤ 7) ∨ ¬ v.toInt = 0) → K v I2 J) : Cl G mX11_whyNotRidden (n + 9) 0 0 [.ref (gb G + 0), .int x1, .int x2] Z I J (qi Z K) := by
  refine eX11_whyNotRidden hX ?_
  have hwI := WX_f hW
  have q1 := i32_lo x1
  have q2 := i32_lo x2
  refine sfX11_whyNotTold hX hW  (fun v2  hp1 => ?_)
  refine ⟨fun hc2 => ?_, fun hc3 => ?_⟩
  · skip
    have q3 := i32_lo v2
    have q4 : (0 : Int32).toInt = 0 := rfl
    have hc2 := Int32.toInt_inj.mpr hc2
    refine sfX11_firstWrong hX hW (by omega) (by omega) (fun v4 I3 hWI3 hFI3 => ?_)
    have hwI3 := WX_f hWI3
    refine ⟨fun hc5 => ?_, fun hc6 => ?_⟩
    · skip
      have q5 := i32_lo v4
      have q6 : (-1 : Int32).toInt = -1 := rfl
      have hc5 := Int32.toInt_inj.mpr hc5
      exact hK _ _ hWI3 (Fr.tr Fr.rf hFI3 (by intro a k h; omega)) (by omega)
    · skip
      have q5 := i32_lo v4
      have q6 : (-1 : Int32).toInt = -1 := rfl
      have hc6 : ¬ (v4).toInt = ((-1) : Int32).toInt := fun z => hc6 (Int32.toInt_inj.mp z)
      have q7 : (-5 : Int32).toInt = -5 := rfl
      exact hK _ _ hWI3 (Fr.tr Fr.rf hFI3 (by intro a k h; omega)) (by omega)
  · skip
    have q3 := i32_lo v2
    have q4 : (0 : Int32).toInt = 0 := rfl
    have hc3 : ¬ (v2).toInt = (0 : Int32).toInt := fun z => hc3 (Int32.toInt_inj.mp z)
    exact hK _ _ hW Fr.rf (by omega)
theorem sfX11_set {G : jdG} {n : Nat} {Z : jdL} {J : jdJ} {K : Int32 → jdI → jdJ → Prop}  {I : jdI} {x1 : Int32} {x2 : Int32} {y3 : Int64} (hX : zX Z)  (hW : WX I)  (hK : ∀ (v : Int32) (I2 : jdI) (J2 : jdJ), WX I2 → Fr (fun a k => a = 28) I I2 → (((¬ (0 ≤ x1.toInt ∧ x1.toInt < 8) ∧ v.toInt = -2) ∨ ((0 ≤ x1.toInt ∧ x1.toInt < 8) ∧ (I (29 + 2 * (Int32.toNatClampNeg x1)) 1).toInt = -1 ∧ mk Z (Int32.toNatClampNeg x1) = 0 ∧ v.toInt = -4) ∨ ((0 ≤ x1.toInt ∧ x1.toInt < 8) ∧ (I (29 + 2 * (Int32.toNatClampNeg x1)) 1).toInt = -1 ∧ 1 ≤ mk Z (Int32.toNatClampNeg x1) ∧ v.toInt = -3) ∨ (((0 ≤ x1.toInt ∧ x1.toInt < 8) ∧ ¬ (I (29 + 2 * (Int32.toNatClampNeg x1)) 1).toInt = -1 ∧ 0 ≤ x2.toInt ∧ x2.toInt < (I (29 + 2 * (Int32.toNatClampNeg x1)) 2).toInt) ∧ v.toInt = 1) ∨ ((0 ≤ x1.toInt ∧ x1.toInt < 8) ∧ ¬ (I (29 + 2 * (Int32.toNatClampNeg x1)) 1).toInt = -1 ∧ ¬ (0 ≤ x2.toInt ∧ x2.toInt < (I (29 + 2 * (Int32.toNatClampNeg x1)) 2).toInt) ∧ v.toInt = -2)) ∧ (((0 ≤ x1.toInt ∧ x1.toInt < 8) ∧ ¬ (I (29 + 2 * (Int32.toNatClampNeg x1)) 1).toInt = -1 ∧ 0 ≤ x2.toInt ∧ x2.toInt < (I (29 + 2 * (Int32.toNatClampNeg x1)) 2).toInt) → (0 ≤ (I (29 + 2 * (Int32.toNatClampNeg x1)) 1).toInt ∧ (I (29 + 2 * (Int32.toNatClampNeg x1)) 1).toInt ≤ 4 → J2 = uJ J ((29 + 2 * (Int32.toNatClampNeg x1)) + 1) (Int32.toNatClampNeg x2) (cutf (I (29 + 2 * (Int32.toNatClampNeg x1)) 1).toInt y3))) ∧ (¬ ((0 ≤ x1.toInt ∧ x1.toInt < 8) ∧ ¬ (I (29 + 2 * (Int32.toNatClampNeg x1)) 1).toInt = -1 ∧ 0 ≤ x2.toInt ∧ x2.toInt < (I (29 + 2 * (Int32.toNatClampNeg x1)) 2).toInt) → J2 = J)) → K v I2 J2) : Cl G mX11_set (n + 2) 0 0 [.ref (gb G + 0), .int x1, .int x2, .long y3] Z I J (qi Z K) := by
  refine eX11_set hX ?_
  have q1 := i32_lo x1
  refine sfX11_holdsRow hX hW  (fun v2  hp1 => ?_)
  refine ⟨fun hc2 => ?_, fun hc3 => ?_⟩
  · skip
    have q2 := i32_lo v2
    have q3 : (0 : Int32).toInt = 0 := rfl
    have hc2 : ¬ (v2).toInt = (0 : Int32).toInt := fun z => hc2 (Int32.toInt_inj.mp z)
    first | replace hp1 := Or.resolve_left hp1 (by omega) | replace hp1 := Or.resolve_right hp1 (by omega) | skip
    refine ⟨fun hc4 => ?_, fun hc5 => ?_⟩
    · skip
      have q4 := i32_lo x2
      have hc4 := Int32.lt_iff_toInt_lt.mp hc4
      first | replace hp1 := Or.resolve_left hp1 (by omega) | replace hp1 := Or.resolve_right hp1 (by omega) | skip
      have q5 : (-2 : Int32).toInt = -2 := rfl
      refine sfX11_refuse hX hW  (fun v4 I3 hWI3 hFI3 hp6 => ?_)
      have hvr := congrArg Int32.toInt hp6
      have q6 := i32_lo v4
      exact hK _ _ _ hWI3 (Fr.tr Fr.rf hFI3 (by intro a k h; omega)) ⟨(Or.inr (Or.inr (Or.inr (Or.inr (by omega))))), fun q => by first | (exfalso; omega) | exact (fun q9 => hput ⟨by omega, by omega, by omega, by omega⟩), fun q => by first | rfl | (exfalso; omega)⟩
    · skip
      have q4 := i32_lo x2
      have hc5 := mt Int32.lt_iff_toInt_lt.mpr hc5
      refine ⟨vp_of (by omega) (by omega), ?_⟩
      refine ⟨fun hc7 => ?_, fun hc8 => ?_⟩
      · skip
        have hc7 := Int32.lt_iff_toInt_lt.mp hc7
        refine ⟨vp_of (by omega) (by omega), ?_⟩
        refine sfX6_put (zX_shelf hX (by simp only [tn_eq]; omega)) (by simp only [tn_eq]; omega) hW  (fun J7  hp9 => ?_)
        have hput := hp9
        have q5 : (1 : Int32).toInt = 1 := rfl
        exact hK _ _ _ hW Fr.rf ⟨(Or.inr (Or.inr (Or.inr (Or.inl (by omega))))), fun q => by first | (exfalso; omega) | exact (fun q9 => hput ⟨by omega, by omega, by omega, by omega⟩), fun q => by first | rfl | (exfalso; omega)⟩
      · skip
        have hc8 := mt Int32.lt_iff_toInt_lt.mpr hc8
        have q5 : (-2 : Int32).toInt = -2 := rfl
        refine sfX11_refuse hX hW  (fun v10 I9 hWI9 hFI9 hp10 => ?_)
        have hvr := congrArg Int32.toInt hp10
        have q6 := i32_lo v10
        exact hK _ _ _ hWI9 (Fr.tr Fr.rf hFI9 (by intro a k h; omega)) ⟨(Or.inr (Or.inr (Or.inr (Or.inr (by omega))))), fun q => by first | (exfalso; omega) | exact (fun q9 => hput ⟨by omega, by omega, by omega, by omega⟩), fun q => by first | rfl | (exfalso; omega)⟩
  · skip
    have q2 := i32_lo v2
    have q3 : (0 : Int32).toInt = 0 := rfl
    have hc3 := Int32.toInt_inj.mpr hc3
    first | replace hp1 := Or.resolve_left hp1 (by omega) | replace hp1 := Or.resolve_right hp1 (by omega) | skip
    refine sfX11_whyNoRow hX hW  (fun v12  hp11 => ?_)
    have q4 := i32_lo v12
    refine sfX11_refuse hX hW  (fun v14 I13 hWI13 hFI13 hp12 => ?_)
    have hvr := congrArg Int32.toInt hp12
    have q5 := i32_lo v14
    exact hK _ _ _ hWI13 (Fr.tr Fr.rf hFI13 (by intro a k h; omega)) ⟨(by rcases hp11 with hp11 | hp11 | hp11 <;> first | exact Or.inl (by omega) | exact Or.inr (Or.inl (by omega)) | exact Or.inr (Or.inr (Or.inl (by omega)))), fun q => by first | (exfalso; omega) | exact (fun q9 => hput ⟨by omega, by omega, by omega, by omega⟩), fun q => by first | rfl | (exfalso; omega)⟩
theorem sfX11_copy {G : jdG} {n : Nat} {Z : jdL} {J : jdJ} {K : Int32 → jdI → jdJ → Prop}  {I : jdI} {x1 : Int32} {x2 : Int32} {x3 : Int32} {x4 : Int32} {x5 : Int32} (hX : zX Z)  (hW : WX I)  (hK : ∀ (v : Int32) (I2 : jdI) (J2 : jdJ), WX I2 → Fr (fun a k => a = 28) I I2 → ((¬ ((0 ≤ x1.toInt ∧ x1.toInt < 8) ∧ (0 ≤ x2.toInt ∧ x2.toInt < 8)) ∧ v.toInt = -2 ∧ J2 = J) ∨ (((0 ≤ x1.toInt ∧ x1.toInt < 8) ∧ (0 ≤ x2.toInt ∧ x2.toInt < 8)) ∧ (1 ≤ mk Z (Int32.toNatClampNeg x1) ∨ 1 ≤ mk Z (Int32.toNatClampNeg x2)) ∧ v.toInt = -3 ∧ J2 = J) ∨ (((0 ≤ x1.toInt ∧ x1.toInt < 8) ∧ (0 ≤ x2.toInt ∧ x2.toInt < 8)) ∧ (mk Z (Int32.toNatClampNeg x1) = 0 ∧ mk Z (Int32.toNatClampNeg x2) = 0) ∧ ((I (29 + 2 * (Int32.toNatClampNeg x1)) 1).toInt = -1 ∨ (I (29 + 2 * (Int32.toNatClampNeg x2)) 1).toInt = -1) ∧ v.toInt = -4 ∧ J2 = J) ∨ (((0 ≤ x1.toInt ∧ x1.toInt < 8) ∧ (0 ≤ x2.toInt ∧ x2.toInt < 8)) ∧ (mk Z (Int32.toNatClampNeg x1) = 0 ∧ mk Z (Int32.toNatClampNeg x2) = 0) ∧ ¬ (I (29 + 2 * (Int32.toNatClampNeg x1)) 1).toInt = -1 ∧ ¬ (I (29 + 2 * (Int32.toNatClampNeg x2)) 1).toInt = -1 ∧ ¬ (I (29 + 2 * (Int32.toNatClampNeg x1)) 1).toInt = (I (29 + 2 * (Int32.toNatClampNeg x2)) 1).toInt ∧ v.toInt = -3 ∧ J2 = J) ∨ (((0 ≤ x1.toInt ∧ x1.toInt < 8) ∧ (0 ≤ x2.toInt ∧ x2.toInt < 8)) ∧ (mk Z (Int32.toNatClampNeg x1) = 0 ∧ mk Z (Int32.toNatClampNeg x2) = 0) ∧ ¬ (I (29 + 2 * (Int32.toNatClampNeg x1)) 1).toInt = -1 ∧ ¬ (I (29 + 2 * (Int32.toNatClampNeg x2)) 1).toInt = -1 ∧ (I (29 + 2 * (Int32.toNatClampNeg x1)) 1).toInt = (I (29 + 2 * (Int32.toNatClampNeg x2)) 1).toInt ∧ (0 ≤ x3.toInt ∧ 0 ≤ x4.toInt ∧ 0 ≤ x5.toInt ∧ x5.toInt ≤ (I (29 + 2 * (Int32.toNatClampNeg x1)) 2).toInt - x3.toInt ∧ x5.toInt ≤ (I (29 + 2 * (Int32.toNatClampNeg x2)) 2).toInt - x4.toInt) ∧ v.toInt = x5.toInt ∧ J2 = cJ J ((29 + 2 * (Int32.toNatClampNeg x1)) + 1) ((29 + 2 * (Int32.toNatClampNeg x2)) + 1) (Int32.toNatClampNeg x3) (Int32.toNatClampNeg x4) (Int32.toNatClampNeg x5)) ∨ (((0 ≤ x1.toInt ∧ x1.toInt < 8) ∧ (0 ≤ x2.toInt ∧ x2.toInt < 8)) ∧ (mk Z (Int32.toNatClampNeg x1) = 0 ∧ mk Z (Int32.toNatClampNeg x2) = 0) ∧ ¬ (I (29 + 2 * (Int32.toNatClampNeg x1)) 1).toInt = -1 ∧ ¬ (I (29 + 2 * (Int32.toNatClampNeg x2)) 1).toInt = -1 ∧ (I (29 + 2 * (Int32.toNatClampNeg x1)) 1).toInt = (I (29 + 2 * (Int32.toNatClampNeg x2)) 1).toInt ∧ ¬ (0 ≤ x3.toInt ∧ 0 ≤ x4.toInt ∧ 0 ≤ x5.toInt ∧ x5.toInt ≤ (I (29 + 2 * (Int32.toNatClampNeg x1)) 2).toInt - x3.toInt ∧ x5.toInt ≤ (I (29 + 2 * (Int32.toNatClampNeg x2)) 2).toInt - x4.toInt) ∧ v.toInt = -2 ∧ J2 = J)) → K v I2 J2) : Cl G mX11_copy (n + 1) 0 0 [.ref (gb G + 0), .int x1, .int x2, .int x3, .int x4, .int x5] Z I J (qi Z K) := by
  refine eX11_copy hX ?_
  have q1 := i32_lo x1
  refine sfX11_isShelf  hW  (fun v2  hp1 => ?_)
  first | (revert hsx1; intro hsx1) | have hsx1 := WX_shx hW (x := x1) (by omega) (by omega) | skip
  first | (revert hsx2; intro hsx2) | have hsx2 := WX_shx hW (x := x2) (by omega) (by omega) | skip
  refine ⟨fun hc2 => ?_, fun hc3 => ?_⟩
  · skip
    have q2 := i32_lo v2
    have q3 : (0 : Int32).toInt = 0 := rfl
    have hc2 := Int32.toInt_inj.mpr hc2
    first | replace hp1 := Or.resolve_left hp1 (by omega) | replace hp1 := Or.resolve_right hp1 (by omega) | skip
    first | (revert hsx1; intro hsx1) | have hsx1 := WX_shx hW (x := x1) (by omega) (by omega) | skip
    first | (revert hsx2; intro hsx2) | have hsx2 := WX_shx hW (x := x2) (by omega) (by omega) | skip
    have q4 : (-2 : Int32).toInt = -2 := rfl
    refine sfX11_refuse hX hW  (fun v4 I3 hWI3 hFI3 hp4 => ?_)
    have hvr := congrArg Int32.toInt hp4
    first | (revert hsx1; intro hsx1) | have hsx1 := WX_shx hW (x := x1) (by omega) (by omega) | skip
    first | (revert hsx2; intro hsx2) | have hsx2 := WX_shx hW (x := x2) (by omega) (by omega) | skip
    have q5 := i32_lo v4
    exact hK _ _ _ hWI3 (Fr.tr Fr.rf hFI3 (by intro a k h; omega)) (by first | exact Or.inl ⟨by omega, by omega, rfl⟩ | exact Or.inr (Or.inr (Or.inr (Or.inr (Or.inr (⟨by omega, by omega, by omega, by omega, by omega, by omega, by omega, rfl⟩))))) | exact Or.inr (Or.inl ⟨by omega, by omega, by omega, rfl⟩) | exact Or.inr (Or.inr (Or.inl ⟨by omega, by omega, by omega, by omega, rfl⟩)) | exact Or.inr (Or.inr (Or.inr (Or.inl ⟨by omega, by omega, by omega, by omega, by omega, by omega, rfl⟩))) | exact Or.inr (Or.inr (Or.inr (Or.inr (Or.inl ⟨by omega, by omega, by omega, by omega, by omega, by omega, by omega, rfl⟩)))))
  · skip
    have q2 := i32_lo v2
    have q3 : (0 : Int32).toInt = 0 := rfl
    have hc3 : ¬ (v2).toInt = (0 : Int32).toInt := fun z => hc3 (Int32.toInt_inj.mp z)
    first | replace hp1 := Or.resolve_left hp1 (by omega) | replace hp1 := Or.resolve_right hp1 (by omega) | skip
    first | (revert hsx1; intro hsx1) | have hsx1 := WX_shx hW (x := x1) (by omega) (by omega) | skip
    first | (revert hsx2; intro hsx2) | have hsx2 := WX_shx hW (x := x2) (by omega) (by omega) | skip
    have q4 := i32_lo x2
    refine sfX11_isShelf  hW  (fun v6  hp5 => ?_)
    first | (revert hsx1; intro hsx1) | have hsx1 := WX_shx hW (x := x1) (by omega) (by omega) | skip
    first | (revert hsx2; intro hsx2) | have hsx2 := WX_shx hW (x := x2) (by omega) (by omega) | skip
    refine ⟨fun hc6 => ?_, fun hc7 => ?_⟩
    · skip
      have q5 := i32_lo v6
      have hc6 : ¬ (v6).toInt = (0 : Int32).toInt := fun z => hc6 (Int32.toInt_inj.mp z)
      first | replace hp5 := Or.resolve_left hp5 (by omega) | replace hp5 := Or.resolve_right hp5 (by omega) | skip
      first | (revert hsx1; intro hsx1) | have hsx1 := WX_shx hW (x := x1) (by omega) (by omega) | skip
      first | (revert hsx2; intro hsx2) | have hsx2 := WX_shx hW (x := x2) (by omega) (by omega) | skip
      refine ⟨vp_of (by omega) (by omega), ?_⟩
      refine ⟨vp_of (by omega) (by omega), ?_⟩
      refine sfX6_isRow (zX_shelf hX (by simp only [tn_eq]; omega)) (by simp only [tn_eq]; omega) hW  (fun v10  hp8 => ?_)
      first | (revert hsx1; intro hsx1) | have hsx1 := WX_shx hW (x := x1) (by omega) (by omega) | skip
      first | (revert hsx2; intro hsx2) | have hsx2 := WX_shx hW (x := x2) (by omega) (by omega) | skip
      refine ⟨fun hc9 => ?_, fun hc10 => ?_⟩
      · skip
        have q6 := i32_lo v10
        have hc9 := Int32.toInt_inj.mpr hc9
        first | replace hp8 := Or.resolve_left hp8 (by omega) | replace hp8 := Or.resolve_right hp8 (by omega) | skip
        first | (revert hsx1; intro hsx1) | have hsx1 := WX_shx hW (x := x1) (by omega) (by omega) | skip
        first | (revert hsx2; intro hsx2) | have hsx2 := WX_shx hW (x := x2) (by omega) (by omega) | skip
        refine ⟨fun hc11 => ?_, ?_⟩
        · skip
          have hzhc11 := mk_none hc11
          first | (revert hsx1; intro hsx1) | have hsx1 := WX_shx hW (x := x1) (by omega) (by omega) | skip
          first | (revert hsx2; intro hsx2) | have hsx2 := WX_shx hW (x := x2) (by omega) (by omega) | skip
          refine ⟨fun hc13 => ?_, ?_⟩
          · skip
            have hzhc13 := mk_none hc13
            first | (revert hsx1; intro hsx1) | have hsx1 := WX_shx hW (x := x1) (by omega) (by omega) | skip
            first | (revert hsx2; intro hsx2) | have hsx2 := WX_shx hW (x := x2) (by omega) (by omega) | skip
            have q7 : (-4 : Int32).toInt = -4 := rfl
            refine sfX11_refuse hX hW  (fun v16 I15 hWI15 hFI15 hp15 => ?_)
            have hvr := congrArg Int32.toInt hp15
            first | (revert hsx1; intro hsx1) | have hsx1 := WX_shx hW (x := x1) (by omega) (by omega) | skip
            first | (revert hsx2; intro hsx2) | have hsx2 := WX_shx hW (x := x2) (by omega) (by omega) | skip
            have q8 := i32_lo v16
            exact hK _ _ _ hWI15 (Fr.tr Fr.rf hFI15 (by intro a k h; omega)) (by first | exact Or.inr (Or.inr (Or.inl ⟨by omega, by omega, by omega, by omega, rfl⟩)) | exact Or.inl ⟨by omega, by omega, rfl⟩ | exact Or.inr (Or.inl ⟨by omega, by omega, by omega, rfl⟩) | exact Or.inr (Or.inr (Or.inr (Or.inl ⟨by omega, by omega, by omega, by omega, by omega, by omega, rfl⟩))) | exact Or.inr (Or.inr (Or.inr (Or.inr (Or.inl ⟨by omega, by omega, by omega, by omega, by omega, by omega, by omega, rfl⟩)))) | exact Or.inr (Or.inr (Or.inr (Or.inr (Or.inr (⟨by omega, by omega, by omega, by omega, by omega, by omega, by omega, rfl⟩))))))
          · skip
            intro w14 hc16
            have hzhc16 := mk_some hc16
            have hrhc16 := ckI_r (Z.1 w14)
            have q7 : (-3 : Int32).toInt = -3 := rfl
            refine sfX11_refuse hX hW  (fun v18 I17 hWI17 hFI17 hp17 => ?_)
            have hvr := congrArg Int32.toInt hp17
            first | (revert hsx1; intro hsx1) | have hsx1 := WX_shx hW (x := x1) (by omega) (by omega) | skip
            first | (revert hsx2; intro hsx2) | have hsx2 := WX_shx hW (x := x2) (by omega) (by omega) | skip
            have q8 := i32_lo v18
            exact hK _ _ _ hWI17 (Fr.tr Fr.rf hFI17 (by intro a k h; omega)) (by first | exact Or.inr (Or.inl ⟨by omega, by omega, by omega, rfl⟩) | exact Or.inr (Or.inr (Or.inr (Or.inl ⟨by omega, by omega, by omega, by omega, by omega, by omega, rfl⟩))) | exact Or.inl ⟨by omega, by omega, rfl⟩ | exact Or.inr (Or.inr (Or.inl ⟨by omega, by omega, by omega, by omega, rfl⟩)) | exact Or.inr (Or.inr (Or.inr (Or.inr (Or.inl ⟨by omega, by omega, by omega, by omega, by omega, by omega, by omega, rfl⟩)))) | exact Or.inr (Or.inr (Or.inr (Or.inr (Or.inr (⟨by omega, by omega, by omega, by omega, by omega, by omega, by omega, rfl⟩))))))
        · skip
          intro w12 hc18
          have hzhc18 := mk_some hc18
          have hrhc18 := ckI_r (Z.1 w12)
          have q7 : (-3 : Int32).toInt = -3 := rfl
          refine sfX11_refuse hX hW  (fun v20 I19 hWI19 hFI19 hp19 => ?_)
          have hvr := congrArg Int32.toInt hp19
          first | (revert hsx1; intro hsx1) | have hsx1 := WX_shx hW (x := x1) (by omega) (by omega) | skip
          first | (revert hsx2; intro hsx2) | have hsx2 := WX_shx hW (x := x2) (by omega) (by omega) | skip
          have q8 := i32_lo v20
          exact hK _ _ _ hWI19 (Fr.tr Fr.rf hFI19 (by intro a k h; omega)) (by first | exact Or.inr (Or.inl ⟨by omega, by omega, by omega, rfl⟩) | exact Or.inr (Or.inr (Or.inr (Or.inl ⟨by omega, by omega, by omega, by omega, by omega, by omega, rfl⟩))) | exact Or.inl ⟨by omega, by omega, rfl⟩ | exact Or.inr (Or.inr (Or.inl ⟨by omega, by omega, by omega, by omega, rfl⟩)) | exact Or.inr (Or.inr (Or.inr (Or.inr (Or.inl ⟨by omega, by omega, by omega, by omega, by omega, by omega, by omega, rfl⟩)))) | exact Or.inr (Or.inr (Or.inr (Or.inr (Or.inr (⟨by omega, by omega, by omega, by omega, by omega, by omega, by omega, rfl⟩))))))
      · skip
        have q6 := i32_lo v10
        have hc10 : ¬ (v10).toInt = (0 : Int32).toInt := fun z => hc10 (Int32.toInt_inj.mp z)
        first | replace hp8 := Or.resolve_left hp8 (by omega) | replace hp8 := Or.resolve_right hp8 (by omega) | skip
        first | (revert hsx1; intro hsx1) | have hsx1 := WX_shx hW (x := x1) (by omega) (by omega) | skip
        first | (revert hsx2; intro hsx2) | have hsx2 := WX_shx hW (x := x2) (by omega) (by omega) | skip
        refine sfX6_isRow (zX_shelf hX (by simp only [tn_eq]; omega)) (by simp only [tn_eq]; omega) hW  (fun v22  hp20 => ?_)
        first | (revert hsx1; intro hsx1) | have hsx1 := WX_shx hW (x := x1) (by omega) (by omega) | skip
        first | (revert hsx2; intro hsx2) | have hsx2 := WX_shx hW (x := x2) (by omega) (by omega) | skip
        refine ⟨fun hc21 => ?_, fun hc22 => ?_⟩
        · skip
          have q7 := i32_lo v22
          have hc21 := Int32.toInt_inj.mpr hc21
          first | replace hp20 := Or.resolve_left hp20 (by omega) | replace hp20 := Or.resolve_right hp20 (by omega) | skip
          first | (revert hsx1; intro hsx1) | have hsx1 := WX_shx hW (x := x1) (by omega) (by omega) | skip
          first | (revert hsx2; intro hsx2) | have hsx2 := WX_shx hW (x := x2) (by omega) (by omega) | skip
          refine ⟨fun hc23 => ?_, ?_⟩
          · skip
            have hzhc23 := mk_none hc23
            first | (revert hsx1; intro hsx1) | have hsx1 := WX_shx hW (x := x1) (by omega) (by omega) | skip
            first | (revert hsx2; intro hsx2) | have hsx2 := WX_shx hW (x := x2) (by omega) (by omega) | skip
            refine ⟨fun hc25 => ?_, ?_⟩
            · skip
              have hzhc25 := mk_none hc25
              first | (revert hsx1; intro hsx1) | have hsx1 := WX_shx hW (x := x1) (by omega) (by omega) | skip
              first | (revert hsx2; intro hsx2) | have hsx2 := WX_shx hW (x := x2) (by omega) (by omega) | skip
              have q8 : (-4 : Int32).toInt = -4 := rfl
              refine sfX11_refuse hX hW  (fun v28 I27 hWI27 hFI27 hp27 => ?_)
              have hvr := congrArg Int32.toInt hp27
              first | (revert hsx1; intro hsx1) | have hsx1 := WX_shx hW (x := x1) (by omega) (by omega) | skip
              first | (revert hsx2; intro hsx2) | have hsx2 := WX_shx hW (x := x2) (by omega) (by omega) | skip
              have q9 := i32_lo v28
              exact hK _ _ _ hWI27 (Fr.tr Fr.rf hFI27 (by intro a k h; omega)) (by first | exact Or.inr (Or.inr (Or.inl ⟨by omega, by omega, by omega, by omega, rfl⟩)) | exact Or.inl ⟨by omega, by omega, rfl⟩ | exact Or.inr (Or.inl ⟨by omega, by omega, by omega, rfl⟩) | exact Or.inr (Or.inr (Or.inr (Or.inl ⟨by omega, by omega, by omega, by omega, by omega, by omega, rfl⟩))) | exact Or.inr (Or.inr (Or.inr (Or.inr (Or.inl ⟨by omega, by omega, by omega, by omega, by omega, by omega, by omega, rfl⟩)))) | exact Or.inr (Or.inr (Or.inr (Or.inr (Or.inr (⟨by omega, by omega, by omega, by omega, by omega, by omega, by omega, rfl⟩))))))
            · skip
              intro w26 hc28
              have hzhc28 := mk_some hc28
              have hrhc28 := ckI_r (Z.1 w26)
              have q8 : (-3 : Int32).toInt = -3 := rfl
              refine sfX11_refuse hX hW  (fun v30 I29 hWI29 hFI29 hp29 => ?_)
              have hvr := congrArg Int32.toInt hp29
              first | (revert hsx1; intro hsx1) | have hsx1 := WX_shx hW (x := x1) (by omega) (by omega) | skip
              first | (revert hsx2; intro hsx2) | have hsx2 := WX_shx hW (x := x2) (by omega) (by omega) | skip
              have q9 := i32_lo v30
              exact hK _ _ _ hWI29 (Fr.tr Fr.rf hFI29 (by intro a k h; omega)) (by first | exact Or.inr (Or.inl ⟨by omega, by omega, by omega, rfl⟩) | exact Or.inr (Or.inr (Or.inr (Or.inl ⟨by omega, by omega, by omega, by omega, by omega, by omega, rfl⟩))) | exact Or.inl ⟨by omega, by omega, rfl⟩ | exact Or.inr (Or.inr (Or.inl ⟨by omega, by omega, by omega, by omega, rfl⟩)) | exact Or.inr (Or.inr (Or.inr (Or.inr (Or.inl ⟨by omega, by omega, by omega, by omega, by omega, by omega, by omega, rfl⟩)))) | exact Or.inr (Or.inr (Or.inr (Or.inr (Or.inr (⟨by omega, by omega, by omega, by omega, by omega, by omega, by omega, rfl⟩))))))
          · skip
            intro w24 hc30
            have hzhc30 := mk_some hc30
            have hrhc30 := ckI_r (Z.1 w24)
            have q8 : (-3 : Int32).toInt = -3 := rfl
            refine sfX11_refuse hX hW  (fun v32 I31 hWI31 hFI31 hp31 => ?_)
            have hvr := congrArg Int32.toInt hp31
            first | (revert hsx1; intro hsx1) | have hsx1 := WX_shx hW (x := x1) (by omega) (by omega) | skip
            first | (revert hsx2; intro hsx2) | have hsx2 := WX_shx hW (x := x2) (by omega) (by omega) | skip
            have q9 := i32_lo v32
            exact hK _ _ _ hWI31 (Fr.tr Fr.rf hFI31 (by intro a k h; omega)) (by first | exact Or.inr (Or.inl ⟨by omega, by omega, by omega, rfl⟩) | exact Or.inr (Or.inr (Or.inr (Or.inl ⟨by omega, by omega, by omega, by omega, by omega, by omega, rfl⟩))) | exact Or.inl ⟨by omega, by omega, rfl⟩ | exact Or.inr (Or.inr (Or.inl ⟨by omega, by omega, by omega, by omega, rfl⟩)) | exact Or.inr (Or.inr (Or.inr (Or.inr (Or.inl ⟨by omega, by omega, by omega, by omega, by omega, by omega, by omega, rfl⟩)))) | exact Or.inr (Or.inr (Or.inr (Or.inr (Or.inr (⟨by omega, by omega, by omega, by omega, by omega, by omega, by omega, rfl⟩))))))
        · skip
          have q7 := i32_lo v22
          have hc22 : ¬ (v22).toInt = (0 : Int32).toInt := fun z => hc22 (Int32.toInt_inj.mp z)
          first | replace hp20 := Or.resolve_left hp20 (by omega) | replace hp20 := Or.resolve_right hp20 (by omega) | skip
          first | (revert hsx1; intro hsx1) | have hsx1 := WX_shx hW (x := x1) (by omega) (by omega) | skip
          first | (revert hsx2; intro hsx2) | have hsx2 := WX_shx hW (x := x2) (by omega) (by omega) | skip
          refine ⟨fun hc32 => ?_, ?_⟩
          · skip
            have hzhc32 := mk_none hc32
            first | (revert hsx1; intro hsx1) | have hsx1 := WX_shx hW (x := x1) (by omega) (by omega) | skip
            first | (revert hsx2; intro hsx2) | have hsx2 := WX_shx hW (x := x2) (by omega) (by omega) | skip
            refine ⟨fun hc34 => ?_, ?_⟩
            · skip
              have hzhc34 := mk_none hc34
              first | (revert hsx1; intro hsx1) | have hsx1 := WX_shx hW (x := x1) (by omega) (by omega) | skip
              first | (revert hsx2; intro hsx2) | have hsx2 := WX_shx hW (x := x2) (by omega) (by omega) | skip
              refine ⟨fun hc36 => ?_, fun hc37 => ?_⟩
              · skip
                have hc36 := Int32.toInt_inj.mpr hc36
                first | replace hp20 := Or.resolve_left hp20 (by omega) | replace hp20 := Or.resolve_right hp20 (by omega) | skip
                first | (revert hsx1; intro hsx1) | have hsx1 := WX_shx hW (x := x1) (by omega) (by omega) | skip
                first | (revert hsx2; intro hsx2) | have hsx2 := WX_shx hW (x := x2) (by omega) (by omega) | skip
                refine ⟨fun hc38 => ?_, fun hc39 => ?_⟩
                · skip
                  have q8 := i32_lo x3
                  have hc38 := Int32.lt_iff_toInt_lt.mp hc38
                  first | replace hp20 := Or.resolve_left hp20 (by omega) | replace hp20 := Or.resolve_right hp20 (by omega) | skip
                  first | (revert hsx1; intro hsx1) | have hsx1 := WX_shx hW (x := x1) (by omega) (by omega) | skip
                  first | (revert hsx2; intro hsx2) | have hsx2 := WX_shx hW (x := x2) (by omega) (by omega) | skip
                  have q9 : (-2 : Int32).toInt = -2 := rfl
                  refine sfX11_refuse hX hW  (fun v38 I37 hWI37 hFI37 hp40 => ?_)
                  have hvr := congrArg Int32.toInt hp40
                  first | (revert hsx1; intro hsx1) | have hsx1 := WX_shx hW (x := x1) (by omega) (by omega) | skip
                  first | (revert hsx2; intro hsx2) | have hsx2 := WX_shx hW (x := x2) (by omega) (by omega) | skip
                  have q10 := i32_lo v38
                  exact hK _ _ _ hWI37 (Fr.tr Fr.rf hFI37 (by intro a k h; omega)) (by first | exact Or.inr (Or.inr (Or.inr (Or.inr (Or.inr (⟨by omega, by omega, by omega, by omega, by omega, by omega, by omega, rfl⟩))))) | exact Or.inl ⟨by omega, by omega, rfl⟩ | exact Or.inr (Or.inl ⟨by omega, by omega, by omega, rfl⟩) | exact Or.inr (Or.inr (Or.inl ⟨by omega, by omega, by omega, by omega, rfl⟩)) | exact Or.inr (Or.inr (Or.inr (Or.inl ⟨by omega, by omega, by omega, by omega, by omega, by omega, rfl⟩))) | exact Or.inr (Or.inr (Or.inr (Or.inr (Or.inl ⟨by omega, by omega, by omega, by omega, by omega, by omega, by omega, rfl⟩)))))
                · skip
                  have q8 := i32_lo x3
                  have hc39 := mt Int32.lt_iff_toInt_lt.mpr hc39
                  first | (revert hsx1; intro hsx1) | have hsx1 := WX_shx hW (x := x1) (by omega) (by omega) | skip
                  first | (revert hsx2; intro hsx2) | have hsx2 := WX_shx hW (x := x2) (by omega) (by omega) | skip
                  refine ⟨fun hc41 => ?_, fun hc42 => ?_⟩
                  · skip
                    have q9 := i32_lo x4
                    have hc41 := Int32.lt_iff_toInt_lt.mp hc41
                    first | (revert hsx1; intro hsx1) | have hsx1 := WX_shx hW (x := x1) (by omega) (by omega) | skip
                    first | (revert hsx2; intro hsx2) | have hsx2 := WX_shx hW (x := x2) (by omega) (by omega) | skip
                    have q10 : (-2 : Int32).toInt = -2 := rfl
                    refine sfX11_refuse hX hW  (fun v40 I39 hWI39 hFI39 hp43 => ?_)
                    have hvr := congrArg Int32.toInt hp43
                    first | (revert hsx1; intro hsx1) | have hsx1 := WX_shx hW (x := x1) (by omega) (by omega) | skip
                    first | (revert hsx2; intro hsx2) | have hsx2 := WX_shx hW (x := x2) (by omega) (by omega) | skip
                    have q11 := i32_lo v40
                    exact hK _ _ _ hWI39 (Fr.tr Fr.rf hFI39 (by intro a k h; omega)) (by first | exact Or.inr (Or.inr (Or.inr (Or.inr (Or.inr (⟨by omega, by omega, by omega, by omega, by omega, by omega, by omega, rfl⟩))))) | exact Or.inl ⟨by omega, by omega, rfl⟩ | exact Or.inr (Or.inl ⟨by omega, by omega, by omega, rfl⟩) | exact Or.inr (Or.inr (Or.inl ⟨by omega, by omega, by omega, by omega, rfl⟩)) | exact Or.inr (Or.inr (Or.inr (Or.inl ⟨by omega, by omega, by omega, by omega, by omega, by omega, rfl⟩))) | exact Or.inr (Or.inr (Or.inr (Or.inr (Or.inl ⟨by omega, by omega, by omega, by omega, by omega, by omega, by omega, rfl⟩)))))
                  · skip
                    have q9 := i32_lo x4
                    have hc42 := mt Int32.lt_iff_toInt_lt.mpr hc42
                    first | (revert hsx1; intro hsx1) | have hsx1 := WX_shx hW (x := x1) (by omega) (by omega) | skip
                    first | (revert hsx2; intro hsx2) | have hsx2 := WX_shx hW (x := x2) (by omega) (by omega) | skip
                    refine ⟨fun hc44 => ?_, fun hc45 => ?_⟩
                    · skip
                      have q10 := i32_lo x5
                      have hc44 := Int32.lt_iff_toInt_lt.mp hc44
                      first | (revert hsx1; intro hsx1) | have hsx1 := WX_shx hW (x := x1) (by omega) (by omega) | skip
                      first | (revert hsx2; intro hsx2) | have hsx2 := WX_shx hW (x := x2) (by omega) (by omega) | skip
                      have q11 : (-2 : Int32).toInt = -2 := rfl
                      refine sfX11_refuse hX hW  (fun v42 I41 hWI41 hFI41 hp46 => ?_)
                      have hvr := congrArg Int32.toInt hp46
                      first | (revert hsx1; intro hsx1) | have hsx1 := WX_shx hW (x := x1) (by omega) (by omega) | skip
                      first | (revert hsx2; intro hsx2) | have hsx2 := WX_shx hW (x := x2) (by omega) (by omega) | skip
                      have q12 := i32_lo v42
                      exact hK _ _ _ hWI41 (Fr.tr Fr.rf hFI41 (by intro a k h; omega)) (by first | exact Or.inr (Or.inr (Or.inr (Or.inr (Or.inr (⟨by omega, by omega, by omega, by omega, by omega, by omega, by omega, rfl⟩))))) | exact Or.inl ⟨by omega, by omega, rfl⟩ | exact Or.inr (Or.inl ⟨by omega, by omega, by omega, rfl⟩) | exact Or.inr (Or.inr (Or.inl ⟨by omega, by omega, by omega, by omega, rfl⟩)) | exact Or.inr (Or.inr (Or.inr (Or.inl ⟨by omega, by omega, by omega, by omega, by omega, by omega, rfl⟩))) | exact Or.inr (Or.inr (Or.inr (Or.inr (Or.inl ⟨by omega, by omega, by omega, by omega, by omega, by omega, by omega, rfl⟩)))))
                    · skip
                      have q10 := i32_lo x5
                      have hc45 := mt Int32.lt_iff_toInt_lt.mpr hc45
                      first | (revert hsx1; intro hsx1) | have hsx1 := WX_shx hW (x := x1) (by omega) (by omega) | skip
                      first | (revert hsx2; intro hsx2) | have hsx2 := WX_shx hW (x := x2) (by omega) (by omega) | skip
                      refine ⟨fun hc47 => ?_, fun hc48 => ?_⟩
                      · skip
                        have q11 := i32_subI (I (29 + 2 * (Int32.toNatClampNeg x1)) 2) x3
                        have hc47 := Int32.lt_iff_toInt_lt.mp hc47
                        first | (revert hsx1; intro hsx1) | have hsx1 := WX_shx hW (x := x1) (by omega) (by omega) | skip
                        first | (revert hsx2; intro hsx2) | have hsx2 := WX_shx hW (x := x2) (by omega) (by omega) | skip
                        have q12 : (-2 : Int32).toInt = -2 := rfl
                        refine sfX11_refuse hX hW  (fun v44 I43 hWI43 hFI43 hp49 => ?_)
                        have hvr := congrArg Int32.toInt hp49
                        first | (revert hsx1; intro hsx1) | have hsx1 := WX_shx hW (x := x1) (by omega) (by omega) | skip
                        first | (revert hsx2; intro hsx2) | have hsx2 := WX_shx hW (x := x2) (by omega) (by omega) | skip
                        have q13 := i32_lo v44
                        exact hK _ _ _ hWI43 (Fr.tr Fr.rf hFI43 (by intro a k h; omega)) (by first | exact Or.inr (Or.inr (Or.inr (Or.inr (Or.inr (⟨by omega, by omega, by omega, by omega, by omega, by omega, by omega, rfl⟩))))) | exact Or.inl ⟨by omega, by omega, rfl⟩ | exact Or.inr (Or.inl ⟨by omega, by omega, by omega, rfl⟩) | exact Or.inr (Or.inr (Or.inl ⟨by omega, by omega, by omega, by omega, rfl⟩)) | exact Or.inr (Or.inr (Or.inr (Or.inl ⟨by omega, by omega, by omega, by omega, by omega, by omega, rfl⟩))) | exact Or.inr (Or.inr (Or.inr (Or.inr (Or.inl ⟨by omega, by omega, by omega, by omega, by omega, by omega, by omega, rfl⟩)))))
                      · skip
                        have q11 := i32_subI (I (29 + 2 * (Int32.toNatClampNeg x1)) 2) x3
                        have hc48 := mt Int32.lt_iff_toInt_lt.mpr hc48
                        first | (revert hsx1; intro hsx1) | have hsx1 := WX_shx hW (x := x1) (by omega) (by omega) | skip
                        first | (revert hsx2; intro hsx2) | have hsx2 := WX_shx hW (x := x2) (by omega) (by omega) | skip
                        refine ⟨fun hc50 => ?_, fun hc51 => ?_⟩
                        · skip
                          have q12 := i32_subI (I (29 + 2 * (Int32.toNatClampNeg x2)) 2) x4
                          have hc50 := Int32.le_iff_toInt_le.mp hc50
                          first | (revert hsx1; intro hsx1) | have hsx1 := WX_shx hW (x := x1) (by omega) (by omega) | skip
                          first | (revert hsx2; intro hsx2) | have hsx2 := WX_shx hW (x := x2) (by omega) (by omega) | skip
                          refine ⟨by rw [Int32.lt_iff_toInt_lt]; omega, ?_⟩
                          refine ⟨by rw [Int32.lt_iff_toInt_lt]; omega, ?_⟩
                          refine ⟨by rw [Int32.lt_iff_toInt_lt]; omega, ?_⟩
                          refine ⟨by simp only [tn_eq]; omega, ?_⟩
                          refine ⟨by simp only [tn_eq]; omega, ?_⟩
                          exact hK _ _ _ hW Fr.rf (by first | exact Or.inr (Or.inr (Or.inr (Or.inr (Or.inl ⟨by omega, by omega, by omega, by omega, by omega, by omega, by omega, rfl⟩)))) | exact Or.inl ⟨by omega, by omega, rfl⟩ | exact Or.inr (Or.inl ⟨by omega, by omega, by omega, rfl⟩) | exact Or.inr (Or.inr (Or.inl ⟨by omega, by omega, by omega, by omega, rfl⟩)) | exact Or.inr (Or.inr (Or.inr (Or.inl ⟨by omega, by omega, by omega, by omega, by omega, by omega, rfl⟩))) | exact Or.inr (Or.inr (Or.inr (Or.inr (Or.inr (⟨by omega, by omega, by omega, by omega, by omega, by omega, by omega, rfl⟩))))))
                        · skip
                          have q12 := i32_subI (I (29 + 2 * (Int32.toNatClampNeg x2)) 2) x4
                          have hc51 := mt Int32.le_iff_toInt_le.mpr hc51
                          first | (revert hsx1; intro hsx1) | have hsx1 := WX_shx hW (x := x1) (by omega) (by omega) | skip
                          first | (revert hsx2; intro hsx2) | have hsx2 := WX_shx hW (x := x2) (by omega) (by omega) | skip
                          have q13 : (-2 : Int32).toInt = -2 := rfl
                          refine sfX11_refuse hX hW  (fun v51 I50 hWI50 hFI50 hp52 => ?_)
                          have hvr := congrArg Int32.toInt hp52
                          first | (revert hsx1; intro hsx1) | have hsx1 := WX_shx hW (x := x1) (by omega) (by omega) | skip
                          first | (revert hsx2; intro hsx2) | have hsx2 := WX_shx hW (x := x2) (by omega) (by omega) | skip
                          have q14 := i32_lo v51
                          exact hK _ _ _ hWI50 (Fr.tr Fr.rf hFI50 (by intro a k h; omega)) (by first | exact Or.inr (Or.inr (Or.inr (Or.inr (Or.inr (⟨by omega, by omega, by omega, by omega, by omega, by omega, by omega, rfl⟩))))) | exact Or.inl ⟨by omega, by omega, rfl⟩ | exact Or.inr (Or.inl ⟨by omega, by omega, by omega, rfl⟩) | exact Or.inr (Or.inr (Or.inl ⟨by omega, by omega, by omega, by omega, rfl⟩)) | exact Or.inr (Or.inr (Or.inr (Or.inl ⟨by omega, by omega, by omega, by omega, by omega, by omega, rfl⟩))) | exact Or.inr (Or.inr (Or.inr (Or.inr (Or.inl ⟨by omega, by omega, by omega, by omega, by omega, by omega, by omega, rfl⟩)))))
              · skip
                have hc37 : ¬ ((I (29 + 2 * (Int32.toNatClampNeg x1)) 1)).toInt = ((I (29 + 2 * (Int32.toNatClampNeg x2)) 1)).toInt := fun z => hc37 (Int32.toInt_inj.mp z)
                first | (revert hsx1; intro hsx1) | have hsx1 := WX_shx hW (x := x1) (by omega) (by omega) | skip
                first | (revert hsx2; intro hsx2) | have hsx2 := WX_shx hW (x := x2) (by omega) (by omega) | skip
                have q8 : (-3 : Int32).toInt = -3 := rfl
                refine sfX11_refuse hX hW  (fun v53 I52 hWI52 hFI52 hp53 => ?_)
                have hvr := congrArg Int32.toInt hp53
                first | (revert hsx1; intro hsx1) | have hsx1 := WX_shx hW (x := x1) (by omega) (by omega) | skip
                first | (revert hsx2; intro hsx2) | have hsx2 := WX_shx hW (x := x2) (by omega) (by omega) | skip
                have q9 := i32_lo v53
                exact hK _ _ _ hWI52 (Fr.tr Fr.rf hFI52 (by intro a k h; omega)) (by first | exact Or.inr (Or.inl ⟨by omega, by omega, by omega, rfl⟩) | exact Or.inr (Or.inr (Or.inr (Or.inl ⟨by omega, by omega, by omega, by omega, by omega, by omega, rfl⟩))) | exact Or.inl ⟨by omega, by omega, rfl⟩ | exact Or.inr (Or.inr (Or.inl ⟨by omega, by omega, by omega, by omega, rfl⟩)) | exact Or.inr (Or.inr (Or.inr (Or.inr (Or.inl ⟨by omega, by omega, by omega, by omega, by omega, by omega, by omega, rfl⟩)))) | exact Or.inr (Or.inr (Or.inr (Or.inr (Or.inr (⟨by omega, by omega, by omega, by omega, by omega, by omega, by omega, rfl⟩))))))
            · skip
              intro w36 hc54
              have hzhc54 := mk_some hc54
              have hrhc54 := ckI_r (Z.1 w36)
              have q8 : (-3 : Int32).toInt = -3 := rfl
              refine sfX11_refuse hX hW  (fun v55 I54 hWI54 hFI54 hp55 => ?_)
              have hvr := congrArg Int32.toInt hp55
              first | (revert hsx1; intro hsx1) | have hsx1 := WX_shx hW (x := x1) (by omega) (by omega) | skip
              first | (revert hsx2; intro hsx2) | have hsx2 := WX_shx hW (x := x2) (by omega) (by omega) | skip
              have q9 := i32_lo v55
              exact hK _ _ _ hWI54 (Fr.tr Fr.rf hFI54 (by intro a k h; omega)) (by first | exact Or.inr (Or.inl ⟨by omega, by omega, by omega, rfl⟩) | exact Or.inr (Or.inr (Or.inr (Or.inl ⟨by omega, by omega, by omega, by omega, by omega, by omega, rfl⟩))) | exact Or.inl ⟨by omega, by omega, rfl⟩ | exact Or.inr (Or.inr (Or.inl ⟨by omega, by omega, by omega, by omega, rfl⟩)) | exact Or.inr (Or.inr (Or.inr (Or.inr (Or.inl ⟨by omega, by omega, by omega, by omega, by omega, by omega, by omega, rfl⟩)))) | exact Or.inr (Or.inr (Or.inr (Or.inr (Or.inr (⟨by omega, by omega, by omega, by omega, by omega, by omega, by omega, rfl⟩))))))
          · skip
            intro w34 hc56
            have hzhc56 := mk_some hc56
            have hrhc56 := ckI_r (Z.1 w34)
            have q8 : (-3 : Int32).toInt = -3 := rfl
            refine sfX11_refuse hX hW  (fun v57 I56 hWI56 hFI56 hp57 => ?_)
            have hvr := congrArg Int32.toInt hp57
            first | (revert hsx1; intro hsx1) | have hsx1 := WX_shx hW (x := x1) (by omega) (by omega) | skip
            first | (revert hsx2; intro hsx2) | have hsx2 := WX_shx hW (x := x2) (by omega) (by omega) | skip
            have q9 := i32_lo v57
            exact hK _ _ _ hWI56 (Fr.tr Fr.rf hFI56 (by intro a k h; omega)) (by first | exact Or.inr (Or.inl ⟨by omega, by omega, by omega, rfl⟩) | exact Or.inr (Or.inr (Or.inr (Or.inl ⟨by omega, by omega, by omega, by omega, by omega, by omega, rfl⟩))) | exact Or.inl ⟨by omega, by omega, rfl⟩ | exact Or.inr (Or.inr (Or.inl ⟨by omega, by omega, by omega, by omega, rfl⟩)) | exact Or.inr (Or.inr (Or.inr (Or.inr (Or.inl ⟨by omega, by omega, by omega, by omega, by omega, by omega, by omega, rfl⟩)))) | exact Or.inr (Or.inr (Or.inr (Or.inr (Or.inr (⟨by omega, by omega, by omega, by omega, by omega, by omega, by omega, rfl⟩))))))
    · skip
      have q5 := i32_lo v6
      have hc7 := Int32.toInt_inj.mpr hc7
      first | replace hp5 := Or.resolve_left hp5 (by omega) | replace hp5 := Or.resolve_right hp5 (by omega) | skip
      first | (revert hsx1; intro hsx1) | have hsx1 := WX_shx hW (x := x1) (by omega) (by omega) | skip
      first | (revert hsx2; intro hsx2) | have hsx2 := WX_shx hW (x := x2) (by omega) (by omega) | skip
      have q6 : (-2 : Int32).toInt = -2 := rfl
      refine sfX11_refuse hX hW  (fun v59 I58 hWI58 hFI58 hp58 => ?_)
      have hvr := congrArg Int32.toInt hp58
      first | (revert hsx1; intro hsx1) | have hsx1 := WX_shx hW (x := x1) (by omega) (by omega) | skip
      first | (revert hsx2; intro hsx2) | have hsx2 := WX_shx hW (x := x2) (by omega) (by omega) | skip
      have q7 := i32_lo v59
      exact hK _ _ _ hWI58 (Fr.tr Fr.rf hFI58 (by intro a k h; omega)) (by first | exact Or.inl ⟨by omega, by omega, rfl⟩ | exact Or.inr (Or.inr (Or.inr (Or.inr (Or.inr (⟨by omega, by omega, by omega, by omega, by omega, by omega, by omega, rfl⟩))))) | exact Or.inr (Or.inl ⟨by omega, by omega, by omega, rfl⟩) | exact Or.inr (Or.inr (Or.inl ⟨by omega, by omega, by omega, by omega, rfl⟩)) | exact Or.inr (Or.inr (Or.inr (Or.inl ⟨by omega, by omega, by omega, by omega, by omega, by omega, rfl⟩))) | exact Or.inr (Or.inr (Or.inr (Or.inr (Or.inl ⟨by omega, by omega, by omega, by omega, by omega, by omega, by omega, rfl⟩)))))
theorem sfX11_element {G : jdG} {n : Nat} {Z : jdL} {J : jdJ} {K : Int64 → jdI → jdJ → Prop}  {I : jdI} {x1 : Int32} {x2 : Int32} (hX : zX Z)  (hW : WX I)  (hK : ∀ (v : Int64), ((((0 ≤ x1.toInt ∧ x1.toInt < 8) ∧ ¬ (I (29 + 2 * (Int32.toNatClampNeg x1)) 1).toInt = -1 ∧ 0 ≤ x2.toInt ∧ x2.toInt < (I (29 + 2 * (Int32.toNatClampNeg x1)) 2).toInt) ∧ v = J ((29 + 2 * (Int32.toNatClampNeg x1)) + 1) (Int32.toNatClampNeg x2)) ∨ (¬ ((0 ≤ x1.toInt ∧ x1.toInt < 8) ∧ ¬ (I (29 + 2 * (Int32.toNatClampNeg x1)) 1).toInt = -1 ∧ 0 ≤ x2.toInt ∧ x2.toInt < (I (29 + 2 * (Int32.toNatClampNeg x1)) 2).toInt) ∧ v = 0)) → K v I J) : Cl G mX11_element (n + 2) 0 0 [.ref (gb G + 0), .int x1, .int x2] Z I J (ql Z K) := by
  refine eX11_element hX ?_
  have hwI := WX_f hW
  have q1 := i32_lo x1
  refine sfX11_holdsRow hX hW  (fun v2  hp1 => ?_)
  first | (revert hsx1; intro hsx1) | have hsx1 := WX_shx hW (x := x1) (by omega) (by omega) | skip
  refine ⟨fun hc2 => ?_, fun hc3 => ?_⟩
  · skip
    have q2 := i32_lo v2
    have q3 : (0 : Int32).toInt = 0 := rfl
    have hc2 := Int32.toInt_inj.mpr hc2
    first | (revert hsx1; intro hsx1) | have hsx1 := WX_shx hW (x := x1) (by omega) (by omega) | skip
    exact hK _  (by first | exact Or.inl ⟨by omega, rfl⟩ | exact Or.inr (⟨by omega, rfl⟩))
  · skip
    have q2 := i32_lo v2
    have q3 : (0 : Int32).toInt = 0 := rfl
    have hc3 : ¬ (v2).toInt = (0 : Int32).toInt := fun z => hc3 (Int32.toInt_inj.mp z)
    first | (revert hsx1; intro hsx1) | have hsx1 := WX_shx hW (x := x1) (by omega) (by omega) | skip
    refine ⟨fun hc4 => ?_, fun hc5 => ?_⟩
    · skip
      have q4 := i32_lo x2
      have hc4 := Int32.lt_iff_toInt_lt.mp hc4
      first | (revert hsx1; intro hsx1) | have hsx1 := WX_shx hW (x := x1) (by omega) (by omega) | skip
      exact hK _  (by first | exact Or.inl ⟨by omega, rfl⟩ | exact Or.inr (⟨by omega, rfl⟩))
    · skip
      have q4 := i32_lo x2
      have hc5 := mt Int32.lt_iff_toInt_lt.mpr hc5
      first | (revert hsx1; intro hsx1) | have hsx1 := WX_shx hW (x := x1) (by omega) (by omega) | skip
      refine ⟨vp_of (by omega) (by omega), ?_⟩
      refine ⟨fun hc6 => ?_, fun hc7 => ?_⟩
      · skip
        have hc6 := Int32.lt_iff_toInt_lt.mp hc6
        first | (revert hsx1; intro hsx1) | have hsx1 := WX_shx hW (x := x1) (by omega) (by omega) | skip
        refine ⟨vp_of (by omega) (by omega), ?_⟩
        refine ⟨vp_of (by omega) (by omega), ?_⟩
        exact hK _  (by first | exact Or.inl ⟨by omega, rfl⟩ | exact Or.inr (⟨by omega, rfl⟩))
      · skip
        have hc7 := mt Int32.lt_iff_toInt_lt.mpr hc7
        first | (revert hsx1; intro hsx1) | have hsx1 := WX_shx hW (x := x1) (by omega) (by omega) | skip
        exact hK _  (by first | exact Or.inl ⟨by omega, rfl⟩ | exact Or.inr (⟨by omega, rfl⟩))
theorem sfX11_holds {G : jdG} {n : Nat} {Z : jdL} {J : jdJ} {K : Int32 → jdI → jdJ → Prop}  {I : jdI} {sA : Nat → Nat} {sV : Nat → Nat} {x1 : Int32} (hG : gOK G sA sV) (hX : zX Z) (hM : zMen Z)  (hW : WX I)  (hK : ∀ (v : Int32), ((¬ (0 ≤ x1.toInt ∧ x1.toInt < 8) ∧ v.toInt = -1) ∨ ((0 ≤ x1.toInt ∧ x1.toInt < 8) ∧ mk Z (Int32.toNatClampNeg x1) = 0 ∧ v.toInt = (I (29 + 2 * (Int32.toNatClampNeg x1)) 1).toInt) ∨ ((0 ≤ x1.toInt ∧ x1.toInt < 8) ∧ 1 ≤ mk Z (Int32.toNatClampNeg x1) ∧ v.toInt = 10 + mk Z (Int32.toNatClampNeg x1))) → K v I J) : Cl G mX11_holds (n + 1) 0 0 [.ref (gb G + 0), .int x1] Z I J (qi Z K) := by
  refine eX11_holds hG hX ?_
  have hwI := WX_f hW
  have q1 := i32_lo x1
  refine sfX11_isShelf  hW  (fun v2  hp1 => ?_)
  refine ⟨fun hc2 => ?_, fun hc3 => ?_⟩
  · skip
    have q2 := i32_lo v2
    have q3 : (0 : Int32).toInt = 0 := rfl
    have hc2 : ¬ (v2).toInt = (0 : Int32).toInt := fun z => hc2 (Int32.toInt_inj.mp z)
    refine ⟨vp_of (by omega) (by omega), ?_⟩
    refine ⟨fun hc4 => ?_, ?_⟩
    · skip
      have hzhc4 := mk_none hc4
      refine ⟨vp_of (by omega) (by omega), ?_⟩
      exact hK _  (by omega)
    · skip
      intro w5 hc6
      have hzhc6 := mk_some hc6
      have hrhc6 := ckI_r (Z.1 w5)
      refine ⟨(hM _ (by simp only [tn_eq]; omega) _ hc6), ?_⟩
      refine sf_vkind hG hW (fun v8 hp7 => ?_)
      have q4 : (10 : Int32).toInt = 10 := rfl
      have q5 := i32_lo v8
      have q6 := i32_add 10 v8 (by omega) (by omega)
      exact hK _  (by omega)
  · skip
    have q2 := i32_lo v2
    have q3 : (0 : Int32).toInt = 0 := rfl
    have hc3 := Int32.toInt_inj.mpr hc3
    have q4 : (-1 : Int32).toInt = -1 := rfl
    exact hK _  (by omega)
theorem sfX11_says {G : jdG} {n : Nat} {Z : jdL} {J : jdJ} {K : Int32 → jdI → jdJ → Prop}  {I : jdI} {sA : Nat → Nat} {sV : Nat → Nat} {x1 : Int32} {x2 : Int32} (hG : gOK G sA sV) (hX : zX Z) (hM : zMen Z)  (hW : WX I)  (hK : ∀ (v : Int32) (I2 : jdI), WX I2 → Fr (fun a k => (13 ≤ a ∧ a ≤ 24) ∨ a = 28) I I2 → K v I2 J) : Cl G mX11_says (n + 8) 0 0 [.ref (gb G + 0), .int x1, .int x2] Z I J (qi Z K) := by
  refine eX11_says hX ?_
  have hwI := WX_f hW
  have q1 := i32_lo x1
  refine sfX11_isShelf  hW  (fun v2  hp1 => ?_)
  refine ⟨fun hc2 => ?_, fun hc3 => ?_⟩
  · skip
    have q2 := i32_lo v2
    have q3 : (0 : Int32).toInt = 0 := rfl
    have hc2 := Int32.toInt_inj.mpr hc2
    have q4 : (-2 : Int32).toInt = -2 := rfl
    refine sfX11_refuse hX hW  (fun v4 I3 hWI3 hFI3 hp4 => ?_)
    have hwI3 := WX_f hWI3
    exact hK _ _ hWI3 (Fr.tr Fr.rf hFI3 (by intro a k h; omega))
  · skip
    have q2 := i32_lo v2
    have q3 : (0 : Int32).toInt = 0 := rfl
    have hc3 : ¬ (v2).toInt = (0 : Int32).toInt := fun z => hc3 (Int32.toInt_inj.mp z)
    refine ⟨fun hc5 => ?_, fun hc6 => ?_⟩
    · skip
      have q4 := i32_lo x2
      have hc5 := Int32.lt_iff_toInt_lt.mp hc5
      have q5 : (-2 : Int32).toInt = -2 := rfl
      refine sfX11_refuse hX hW  (fun v6 I5 hWI5 hFI5 hp7 => ?_)
      have hwI5 := WX_f hWI5
      exact hK _ _ hWI5 (Fr.tr Fr.rf hFI5 (by intro a k h; omega))
    · skip
      have q4 := i32_lo x2
      have hc6 := mt Int32.lt_iff_toInt_lt.mpr hc6
      refine ⟨fun hc8 => ?_, fun hc9 => ?_⟩
      · skip
        have q5 : (6 : Int32).toInt = 6 := rfl
        have hc8 := Int32.lt_iff_toInt_lt.mp hc8
        refine sfX11_manIn hX hM hW (fun o hp10 => ?_)
        refine ⟨fun hc11 => ?_, ?_⟩
        · skip
          refine sfX11_whyNoMan hX hW  (fun v10  hp13 => ?_)
          have q6 := i32_lo v10
          refine sfX11_refuse hX hW  (fun v12 I11 hWI11 hFI11 hp14 => ?_)
          have hwI11 := WX_f hWI11
          exact hK _ _ hWI11 (Fr.tr Fr.rf hFI11 (by intro a k h; omega))
        · skip
          intro w8 hc15
          refine ⟨(hp10 _ hc15), ?_⟩
          refine sf_visOf hG hW (fun v14 => ?_)
          refine ⟨fun hc17 => ?_, fun hc18 => ?_⟩
          · skip
            have q6 := i32_lo v14
            have hc17 : ¬ (v14).toInt = (0 : Int32).toInt := fun z => hc17 (Int32.toInt_inj.mp z)
            refine ⟨fun hc19 => ?_, fun hc20 => ?_⟩
            · skip
              have hc19 : ¬ (x2).toInt = (0 : Int32).toInt := fun z => hc19 (Int32.toInt_inj.mp z)
              refine sfX8_load (zX_o3 hX) (zX_o0 hX) (by decide) hW  (fun I16 hWI16 hFI16 => ?_)
              have hwI16 := WX_f hWI16
              refine sfX9_everybody (zX_o0 hX) (by decide) hWI16  (fun v19  hp22 => ?_)
              refine ⟨(hp10 _ hc15), ?_⟩
              refine sf_vpick (zX_o3 hX) hWI16 (fun v21 I20 hWI20 hFI20 => ?_)
              have hwI20 := WX_f hWI20
              exact hK _ _ hWI20 (Fr.tr (Fr.tr Fr.rf hFI16 (by intro a k h; omega)) hFI20 (by intro a k h; omega))
            · skip
              have hc20 := Int32.toInt_inj.mpr hc20
              refine ⟨(hp10 _ hc15), ?_⟩
              refine sf_vnumber (hp10 _ hc15) hW (fun v24 => ?_)
              exact hK _ _ hW Fr.rf
          · skip
            have q6 := i32_lo v14
            have hc18 := Int32.toInt_inj.mpr hc18
            have q7 : (-3 : Int32).toInt = -3 := rfl
            refine sfX11_refuse hX hW  (fun v27 I26 hWI26 hFI26 hp25 => ?_)
            have hwI26 := WX_f hWI26
            exact hK _ _ hWI26 (Fr.tr Fr.rf hFI26 (by intro a k h; omega))
      · skip
        have q5 : (6 : Int32).toInt = 6 := rfl
        have hc9 := mt Int32.lt_iff_toInt_lt.mpr hc9
        have q6 : (-2 : Int32).toInt = -2 := rfl
        refine sfX11_refuse hX hW  (fun v29 I28 hWI28 hFI28 hp26 => ?_)
        have hwI28 := WX_f hWI28
        exact hK _ _ hWI28 (Fr.tr Fr.rf hFI28 (by intro a k h; omega))
theorem sfX11_wipe {G : jdG} {n : Nat} {Z : jdL} {J : jdJ} {K : Int32 → jdI → jdJ → Prop}  {I : jdI}  (hX : zX Z)  (hW : WX I)  (hK : ∀ (v : Int32) (I2 : jdI), WX I2 → Fr (fun a k => a = 25) I I2 → (v.toInt = (I 25 1).toInt ∧ (I2 25 1).toInt = 0) → K v I2 J) : Cl G mX11_wipe (n + 1) 0 0 [.ref (gb G + 0)] Z I J (qi Z K) := by
  refine eX11_wipe hX ?_
  have hwI := WX_f hW
  refine sfX5_clear (zX_o5 hX) hW  (fun I1 hWI1 hFI1 hp1 => ?_)
  have hwI1 := WX_f hWI1
  have q1 := i32_lo (I 25 1)
  exact hK _ _ hWI1 (Fr.tr Fr.rf hFI1 (by intro a k h; omega)) (by omega)
theorem sfX11_personOf {G : jdG} {n : Nat} {Z : jdL} {J : jdJ} {K : Int32 → jdI → jdJ → Prop}  {I : jdI} {x1 : Int32} {x2 : Int32} (hX : zX Z)  (hW : WX I)  (hK : ∀ (v : Int32) (I2 : jdI), WX I2 → Fr (fun a k => a = 28) I I2 → K v I2 J) : Cl G mX11_personOf (n + 2) 0 0 [.ref (gb G + 0), .int x1, .int x2] Z I J (qi Z K) := by
  refine eX11_personOf hX ?_
  have hwI := WX_f hW
  have q1 := i32_lo x1
  refine sfX9_has (zX_o0 hX) (by decide) hW  (fun v2  hp1 => ?_)
  refine ⟨fun hc2 => ?_, fun hc3 => ?_⟩
  · skip
    have q2 := i32_lo v2
    have q3 : (0 : Int32).toInt = 0 := rfl
    have hc2 : ¬ (v2).toInt = (0 : Int32).toInt := fun z => hc2 (Int32.toInt_inj.mp z)
    refine ⟨fun hc4 => ?_, fun hc5 => ?_, fun hc6 => ?_, fun hc7 => ?_, fun hc8 => ?_⟩
    · skip
      have q4 : (-2 : Int32).toInt = -2 := rfl
      refine sfX11_refuse hX hW  (fun v4 I3 hWI3 hFI3 hp9 => ?_)
      have hwI3 := WX_f hWI3
      exact hK _ _ hWI3 (Fr.tr Fr.rf hFI3 (by intro a k h; omega))
    · skip
      refine ⟨vp_of (by omega) (by omega), ?_⟩
      exact hK _ _ hW Fr.rf
    · skip
      refine ⟨vp_of (by omega) (by omega), ?_⟩
      exact hK _ _ hW Fr.rf
    · skip
      refine sfX9_strangersTo (zX_o0 hX) (by decide) hW (by omega) (fun v8  => ?_)
      exact hK _ _ hW Fr.rf
    · skip
      refine sfX9_strangersTo (zX_o0 hX) (by decide) hW (by omega) (fun v10  => ?_)
      refine sfJ6_bitCount_0f7a4  hW  (fun v12  hp12 => ?_)
      exact hK _ _ hW Fr.rf
  · skip
    have q2 := i32_lo v2
    have q3 : (0 : Int32).toInt = 0 := rfl
    have hc3 := Int32.toInt_inj.mpr hc3
    have q4 : (-2 : Int32).toInt = -2 := rfl
    refine sfX11_refuse hX hW  (fun v14 I13 hWI13 hFI13 hp13 => ?_)
    have hwI13 := WX_f hWI13
    exact hK _ _ hWI13 (Fr.tr Fr.rf hFI13 (by intro a k h; omega))
theorem sfX11_knownOf {G : jdG} {n : Nat} {Z : jdL} {J : jdJ} {K : Int32 → jdI → jdJ → Prop}  {I : jdI} {x1 : Int32} {x2 : Int32} (hX : zX Z)  (hW : WX I)  (hK : ∀ (v : Int32) (I2 : jdI), WX I2 → Fr (fun a k => a = 28) I I2 → K v I2 J) : Cl G mX11_knownOf (n + 2) 0 0 [.ref (gb G + 0), .int x1, .int x2] Z I J (qi Z K) := by
  refine eX11_knownOf hX ?_
  have hwI := WX_f hW
  have q1 := i32_lo x1
  have q2 := i32_lo x2
  refine sfX9_hasTwo (zX_o0 hX) (by decide) hW  (fun v2  hp1 => ?_)
  refine ⟨fun hc2 => ?_, fun hc3 => ?_⟩
  · skip
    have q3 := i32_lo v2
    have q4 : (0 : Int32).toInt = 0 := rfl
    have hc2 := Int32.toInt_inj.mpr hc2
    have q5 : (-2 : Int32).toInt = -2 := rfl
    refine sfX11_refuse hX hW  (fun v4 I3 hWI3 hFI3 hp4 => ?_)
    have hwI3 := WX_f hWI3
    exact hK _ _ hWI3 (Fr.tr Fr.rf hFI3 (by intro a k h; omega))
  · skip
    have q3 := i32_lo v2
    have q4 : (0 : Int32).toInt = 0 := rfl
    have hc3 : ¬ (v2).toInt = (0 : Int32).toInt := fun z => hc3 (Int32.toInt_inj.mp z)
    refine sfX9_since (zX_o0 hX) (by decide) hW (by omega) (by omega) (fun v6  => ?_)
    exact hK _ _ hW Fr.rf
theorem sfX11_isGroup {G : jdG} {n : Nat} {Z : jdL} {J : jdJ} {K : Int32 → jdI → jdJ → Prop}  {I : jdI} {x1 : Int32} (hX : zX Z)  (hW : WX I)  (hK : ∀ (v : Int32) (I2 : jdI), WX I2 → Fr (fun a k => (13 ≤ a ∧ a ≤ 24) ∨ a = 28) I I2 → K v I2 J) : Cl G mX11_isGroup (n + 8) 0 0 [.ref (gb G + 0), .int x1] Z I J (qi Z K) := by
  refine eX11_isGroup hX ?_
  have hwI := WX_f hW
  have q1 := i32_lo x1
  refine sfX9_hasAll (zX_o0 hX) (by decide) hW  (fun v2  hp1 => ?_)
  refine ⟨fun hc2 => ?_, fun hc3 => ?_⟩
  · skip
    have q2 := i32_lo v2
    have q3 : (0 : Int32).toInt = 0 := rfl
    have hc2 : ¬ (v2).toInt = (0 : Int32).toInt := fun z => hc2 (Int32.toInt_inj.mp z)
    refine sfX8_load (zX_o3 hX) (zX_o0 hX) (by decide) hW  (fun I3 hWI3 hFI3 => ?_)
    have hwI3 := WX_f hWI3
    refine sfX8_isOne (zX_o3 hX) hWI3  (fun v6  hp5 => ?_)
    refine ⟨fun hc6 => ?_, fun hc7 => ?_⟩
    · skip
      have q4 := i32_lo v6
      have hc6 := Int32.toInt_inj.mpr hc6
      exact hK _ _ hWI3 (Fr.tr Fr.rf hFI3 (by intro a k h; omega))
    · skip
      have q4 := i32_lo v6
      have hc7 : ¬ (v6).toInt = (0 : Int32).toInt := fun z => hc7 (Int32.toInt_inj.mp z)
      exact hK _ _ hWI3 (Fr.tr Fr.rf hFI3 (by intro a k h; omega))
  · skip
    have q2 := i32_lo v2
    have q3 : (0 : Int32).toInt = 0 := rfl
    have hc3 := Int32.toInt_inj.mpr hc3
    have q4 : (-2 : Int32).toInt = -2 := rfl
    refine sfX11_refuse hX hW  (fun v8 I7 hWI7 hFI7 hp8 => ?_)
    have hwI7 := WX_f hWI7
    exact hK _ _ hWI7 (Fr.tr Fr.rf hFI7 (by intro a k h; omega))
theorem sfX11_groups {G : jdG} {n : Nat} {Z : jdL} {J : jdJ} {K : Int32 → jdI → jdJ → Prop}  {I : jdI} {x1 : Int32} (hX : zX Z)  (hW : WX I)  (hK : ∀ (v : Int32) (I2 : jdI), WX I2 → Fr (fun a k => (13 ≤ a ∧ a ≤ 24) ∨ a = 28) I I2 → K v I2 J) : Cl G mX11_groups (n + 8) 0 0 [.ref (gb G + 0), .int x1] Z I J (qi Z K) := by
  refine eX11_groups hX ?_
  have hwI := WX_f hW
  have q1 := i32_lo x1
  refine sfX9_hasAll (zX_o0 hX) (by decide) hW  (fun v2  hp1 => ?_)
  refine ⟨fun hc2 => ?_, fun hc3 => ?_⟩
  · skip
    have q2 := i32_lo v2
    have q3 : (0 : Int32).toInt = 0 := rfl
    have hc2 : ¬ (v2).toInt = (0 : Int32).toInt := fun z => hc2 (Int32.toInt_inj.mp z)
    refine sfX8_load (zX_o3 hX) (zX_o0 hX) (by decide) hW  (fun I3 hWI3 hFI3 => ?_)
    have hwI3 := WX_f hWI3
    refine sfX8_countIn (zX_o3 hX) hWI3  (fun v6  => ?_)
    exact hK _ _ hWI3 (Fr.tr Fr.rf hFI3 (by intro a k h; omega))
  · skip
    have q2 := i32_lo v2
    have q3 : (0 : Int32).toInt = 0 := rfl
    have hc3 := Int32.toInt_inj.mpr hc3
    have q4 : (-2 : Int32).toInt = -2 := rfl
    refine sfX11_refuse hX hW  (fun v8 I7 hWI7 hFI7 hp6 => ?_)
    have hwI7 := WX_f hWI7
    exact hK _ _ hWI7 (Fr.tr Fr.rf hFI7 (by intro a k h; omega))
theorem sfX11_firstOf {G : jdG} {n : Nat} {Z : jdL} {J : jdJ} {K : Int32 → jdI → jdJ → Prop}  {I : jdI} {x1 : Int32} (hX : zX Z)  (hW : WX I)  (hK : ∀ (v : Int32) (I2 : jdI), WX I2 → Fr (fun a k => (13 ≤ a ∧ a ≤ 24) ∨ a = 28) I I2 → K v I2 J) : Cl G mX11_firstOf (n + 8) 0 0 [.ref (gb G + 0), .int x1] Z I J (qi Z K) := by
  refine eX11_firstOf hX ?_
  have hwI := WX_f hW
  have q1 := i32_lo x1
  refine sfX9_hasAll (zX_o0 hX) (by decide) hW  (fun v2  hp1 => ?_)
  refine ⟨fun hc2 => ?_, fun hc3 => ?_⟩
  · skip
    have q2 := i32_lo v2
    have q3 : (0 : Int32).toInt = 0 := rfl
    have hc2 : ¬ (v2).toInt = (0 : Int32).toInt := fun z => hc2 (Int32.toInt_inj.mp z)
    refine sfX8_load (zX_o3 hX) (zX_o0 hX) (by decide) hW  (fun I3 hWI3 hFI3 => ?_)
    have hwI3 := WX_f hWI3
    refine sfX8_firstIn (zX_o3 hX) hWI3  (fun v6  => ?_)
    exact hK _ _ hWI3 (Fr.tr Fr.rf hFI3 (by intro a k h; omega))
  · skip
    have q2 := i32_lo v2
    have q3 : (0 : Int32).toInt = 0 := rfl
    have hc3 := Int32.toInt_inj.mpr hc3
    have q4 : (-2 : Int32).toInt = -2 := rfl
    refine sfX11_refuse hX hW  (fun v8 I7 hWI7 hFI7 hp6 => ?_)
    have hwI7 := WX_f hWI7
    exact hK _ _ hWI7 (Fr.tr Fr.rf hFI7 (by intro a k h; omega))
theorem sfX11_most {G : jdG} {n : Nat} {Z : jdL} {J : jdJ} {K : Int32 → jdI → jdJ → Prop}  {I : jdI} {x1 : Int32} (hX : zX Z)  (hW : WX I)  (hK : ∀ (v : Int32) (I2 : jdI), WX I2 → Fr (fun a k => (13 ≤ a ∧ a ≤ 24) ∨ a = 28) I I2 → K v I2 J) : Cl G mX11_most (n + 8) 0 0 [.ref (gb G + 0), .int x1] Z I J (qi Z K) := by
  refine eX11_most hX ?_
  have hwI := WX_f hW
  have q1 := i32_lo x1
  refine sfX9_hasAll (zX_o0 hX) (by decide) hW  (fun v2  hp1 => ?_)
  refine ⟨fun hc2 => ?_, fun hc3 => ?_⟩
  · skip
    have q2 := i32_lo v2
    have q3 : (0 : Int32).toInt = 0 := rfl
    have hc2 : ¬ (v2).toInt = (0 : Int32).toInt := fun z => hc2 (Int32.toInt_inj.mp z)
    refine sfX8_load (zX_o3 hX) (zX_o0 hX) (by decide) hW  (fun I3 hWI3 hFI3 => ?_)
    have hwI3 := WX_f hWI3
    refine sfX8_mostFrom (zX_o3 hX) hWI3  (fun v6 I5 hWI5 hFI5 => ?_)
    have hwI5 := WX_f hWI5
    exact hK _ _ hWI5 (Fr.tr (Fr.tr Fr.rf hFI3 (by intro a k h; omega)) hFI5 (by intro a k h; omega))
  · skip
    have q2 := i32_lo v2
    have q3 : (0 : Int32).toInt = 0 := rfl
    have hc3 := Int32.toInt_inj.mpr hc3
    have q4 : (-2 : Int32).toInt = -2 := rfl
    refine sfX11_refuse hX hW  (fun v8 I7 hWI7 hFI7 hp6 => ?_)
    have hwI7 := WX_f hWI7
    exact hK _ _ hWI7 (Fr.tr Fr.rf hFI7 (by intro a k h; omega))
theorem sfX11_mostOf {G : jdG} {n : Nat} {Z : jdL} {J : jdJ} {K : Int32 → jdI → jdJ → Prop}  {I : jdI} {x1 : Int32} {x2 : Int32} (hX : zX Z)  (hW : WX I)  (hK : ∀ (v : Int32) (I2 : jdI), WX I2 → Fr (fun a k => (13 ≤ a ∧ a ≤ 24) ∨ a = 28) I I2 → K v I2 J) : Cl G mX11_mostOf (n + 8) 0 0 [.ref (gb G + 0), .int x1, .int x2] Z I J (qi Z K) := by
  refine eX11_mostOf hX ?_
  have hwI := WX_f hW
  have q1 := i32_lo x1
  refine sfX9_hasAll (zX_o0 hX) (by decide) hW  (fun v2  hp1 => ?_)
  refine ⟨fun hc2 => ?_, fun hc3 => ?_⟩
  · skip
    have q2 := i32_lo v2
    have q3 : (0 : Int32).toInt = 0 := rfl
    have hc2 := Int32.toInt_inj.mpr hc2
    have q4 : (-2 : Int32).toInt = -2 := rfl
    refine sfX11_refuse hX hW  (fun v4 I3 hWI3 hFI3 hp4 => ?_)
    have hwI3 := WX_f hWI3
    exact hK _ _ hWI3 (Fr.tr Fr.rf hFI3 (by intro a k h; omega))
  · skip
    have q2 := i32_lo v2
    have q3 : (0 : Int32).toInt = 0 := rfl
    have hc3 : ¬ (v2).toInt = (0 : Int32).toInt := fun z => hc3 (Int32.toInt_inj.mp z)
    refine ⟨fun hc5 => ?_, fun hc6 => ?_⟩
    · skip
      have q4 := i32_lo x2
      have hc5 := Int32.le_iff_toInt_le.mp hc5
      refine sfX8_load (zX_o3 hX) (zX_o0 hX) (by decide) hW  (fun I5 hWI5 hFI5 => ?_)
      have hwI5 := WX_f hWI5
      refine sfX8_mostFrom (zX_o3 hX) hWI5  (fun v8 I7 hWI7 hFI7 => ?_)
      have hwI7 := WX_f hWI7
      refine ⟨fun hc9 => ?_, fun hc10 => ?_⟩
      · skip
        have q5 := i32_lo v8
        have hc9 := Int32.lt_iff_toInt_lt.mp hc9
        refine sfX8_mostRow (zX_o3 hX) hWI7  (fun v10 I9 hWI9 hFI9 => ?_)
        have hwI9 := WX_f hWI9
        exact hK _ _ hWI9 (Fr.tr (Fr.tr (Fr.tr Fr.rf hFI5 (by intro a k h; omega)) hFI7 (by intro a k h; omega)) hFI9 (by intro a k h; omega))
      · skip
        have q5 := i32_lo v8
        have hc10 := mt Int32.lt_iff_toInt_lt.mpr hc10
        have q6 : (-5 : Int32).toInt = -5 := rfl
        refine sfX11_refuse hX hWI7  (fun v12 I11 hWI11 hFI11 hp12 => ?_)
        have hwI11 := WX_f hWI11
        exact hK _ _ hWI11 (Fr.tr (Fr.tr (Fr.tr Fr.rf hFI5 (by intro a k h; omega)) hFI7 (by intro a k h; omega)) hFI11 (by intro a k h; omega))
    · skip
      have q4 := i32_lo x2
      have hc6 := mt Int32.le_iff_toInt_le.mpr hc6
      have q5 : (-2 : Int32).toInt = -2 := rfl
      refine sfX11_refuse hX hW  (fun v14 I13 hWI13 hFI13 hp13 => ?_)
      have hwI13 := WX_f hWI13
      exact hK _ _ hWI13 (Fr.tr Fr.rf hFI13 (by intro a k h; omega))
theorem sfX11_sends {G : jdG} {n : Nat} {Z : jdL} {J : jdJ} {K : Int32 → jdI → jdJ → Prop}  {I : jdI} {x1 : Int32} {x2 : Int32} {x3 : Int32} (hX : zX Z) (hM : zMen Z)  (hW : WX I)  (hK : ∀ (v : Int32) (I2 : jdI), WX I2 → Fr (fun a k => (13 ≤ a ∧ a ≤ 24) ∨ a = 28) I I2 → K v I2 J) : Cl G mX11_sends (n + 8) 0 0 [.ref (gb G + 0), .int x1, .int x2, .int x3] Z I J (qi Z K) := by
  refine eX11_sends hX ?_
  have hwI := WX_f hW
  have q1 := i32_lo x2
  refine sfX9_hasAll (zX_o0 hX) (by decide) hW  (fun v2  hp1 => ?_)
  refine ⟨fun hc2 => ?_, fun hc3 => ?_⟩
  · skip
    have q2 := i32_lo v2
    have q3 : (0 : Int32).toInt = 0 := rfl
    have hc2 := Int32.toInt_inj.mpr hc2
    have q4 : (-2 : Int32).toInt = -2 := rfl
    refine sfX11_refuse hX hW  (fun v4 I3 hWI3 hFI3 hp4 => ?_)
    have hwI3 := WX_f hWI3
    exact hK _ _ hWI3 (Fr.tr Fr.rf hFI3 (by intro a k h; omega))
  · skip
    have q2 := i32_lo v2
    have q3 : (0 : Int32).toInt = 0 := rfl
    have hc3 : ¬ (v2).toInt = (0 : Int32).toInt := fun z => hc3 (Int32.toInt_inj.mp z)
    refine ⟨fun hc5 => ?_, fun hc6 => ?_⟩
    · skip
      have q4 := i32_lo x3
      have hc5 := Int32.lt_iff_toInt_lt.mp hc5
      have q5 : (-2 : Int32).toInt = -2 := rfl
      refine sfX11_refuse hX hW  (fun v6 I5 hWI5 hFI5 hp7 => ?_)
      have hwI5 := WX_f hWI5
      exact hK _ _ hWI5 (Fr.tr Fr.rf hFI5 (by intro a k h; omega))
    · skip
      have q4 := i32_lo x3
      have hc6 := mt Int32.lt_iff_toInt_lt.mpr hc6
      refine ⟨fun hc8 => ?_, fun hc9 => ?_⟩
      · skip
        have q5 : (7 : Int32).toInt = 7 := rfl
        have hc8 := Int32.le_iff_toInt_le.mp hc8
        refine sfX11_manIn hX hM hW (fun o hp10 => ?_)
        refine ⟨fun hc11 => ?_, ?_⟩
        · skip
          refine sfX11_whyNoMan hX hW  (fun v10  hp13 => ?_)
          have q6 := i32_lo v10
          refine sfX11_refuse hX hW  (fun v12 I11 hWI11 hFI11 hp14 => ?_)
          have hwI11 := WX_f hWI11
          exact hK _ _ hWI11 (Fr.tr Fr.rf hFI11 (by intro a k h; omega))
        · skip
          intro w8 hc15
          refine sfX8_load (zX_o3 hX) (zX_o0 hX) (by decide) hW  (fun I13 hWI13 hFI13 => ?_)
          have hwI13 := WX_f hWI13
          refine ⟨(hp10 _ hc15), ?_⟩
          refine sf_vpick (zX_o3 hX) hWI13 (fun v16 I15 hWI15 hFI15 => ?_)
          have hwI15 := WX_f hWI15
          exact hK _ _ hWI15 (Fr.tr (Fr.tr Fr.rf hFI13 (by intro a k h; omega)) hFI15 (by intro a k h; omega))
      · skip
        have q5 : (7 : Int32).toInt = 7 := rfl
        have hc9 := mt Int32.le_iff_toInt_le.mpr hc9
        have q6 : (-2 : Int32).toInt = -2 := rfl
        refine sfX11_refuse hX hW  (fun v19 I18 hWI18 hFI18 hp18 => ?_)
        have hwI18 := WX_f hWI18
        exact hK _ _ hWI18 (Fr.tr Fr.rf hFI18 (by intro a k h; omega))
theorem sfX11_run {G : jdG} {n : Nat} {Z : jdL} {J : jdJ} {K : Int32 → jdI → jdJ → Prop}  {I : jdI} {x1 : Int32} (hX : zX Z) (hM : zMen Z)  (hW : WX I)  (hK : ∀ (v : Int32) (I2 : jdI), WX I2 → Fr (fun a k => (13 ≤ a ∧ a ≤ 24) ∨ a = 28) I I2 → K v I2 J) : Cl G mX11_run (n + 9) 0 0 [.ref (gb G + 0), .int x1] Z I J (qi Z K) := by
  refine eX11_run hX ?_
  have hwI := WX_f hW
  refine sfX11_manIn hX hM hW (fun o hp1 => ?_)
  refine ⟨fun hc2 => ?_, ?_⟩
  · skip
    refine sfX11_whyNoMan hX hW  (fun v4  hp4 => ?_)
    have q1 := i32_lo v4
    refine sfX11_refuse hX hW  (fun v6 I5 hWI5 hFI5 hp5 => ?_)
    have hwI5 := WX_f hWI5
    exact hK _ _ hWI5 (Fr.tr Fr.rf hFI5 (by intro a k h; omega))
  · skip
    intro w2 hc6
    refine sfX11_think hX (hp1 _ hc6) hW  (fun I7 hWI7 hFI7 => ?_)
    have hwI7 := WX_f hWI7
    exact hK _ _ hWI7 (Fr.tr Fr.rf hFI7 (by intro a k h; omega))
theorem sfX11_coach {G : jdG} {n : Nat} {Z : jdL} {J : jdJ} {K : Int32 → jdI → jdJ → Prop}  {I : jdI} {x1 : Int32} {x2 : Int32} (hX : zX Z) (hM : zMen Z)  (hW : WX I)  (hK : ∀ (v : Int32) (I2 : jdI), WX I2 → Fr (fun a k => (13 ≤ a ∧ a ≤ 24) ∨ a = 28) I I2 → K v I2 J) : Cl G mX11_coach (n + 9) 0 0 [.ref (gb G + 0), .int x1, .int x2] Z I J (qi Z K) := by
  refine eX11_coach hX ?_
  have hwI := WX_f hW
  refine ⟨fun hc1 => ?_, fun hc2 => ?_⟩
  · skip
    have q1 : (0 : Int32).toInt = 0 := rfl
    have q2 := i32_lo x2
    have hc1 := Int32.le_iff_toInt_le.mp hc1
    refine sfX11_manIn hX hM hW (fun o hp3 => ?_)
    refine ⟨fun hc4 => ?_, ?_⟩
    · skip
      refine sfX11_whyNoMan hX hW  (fun v4  hp6 => ?_)
      have q3 := i32_lo v4
      refine sfX11_refuse hX hW  (fun v6 I5 hWI5 hFI5 hp7 => ?_)
      have hwI5 := WX_f hWI5
      exact hK _ _ hWI5 (Fr.tr Fr.rf hFI5 (by intro a k h; omega))
    · skip
      intro w2 hc8
      refine sfX11_think hX (hp3 _ hc8) hW  (fun I7 hWI7 hFI7 => ?_)
      have hwI7 := WX_f hWI7
      refine ⟨fun hc10 => ?_, fun hc11 => ?_⟩
      · skip
        have q3 := i32_lo (I7 20 4)
        have hc10 := Int32.lt_iff_toInt_lt.mp hc10
        refine sfX3_coachAt (zX_o4 hX) hWI7  (fun v10  => ?_)
        exact hK _ _ hWI7 (Fr.tr Fr.rf hFI7 (by intro a k h; omega))
      · skip
        have q3 := i32_lo (I7 20 4)
        have hc11 := mt Int32.lt_iff_toInt_lt.mpr hc11
        have q4 : (-5 : Int32).toInt = -5 := rfl
        refine sfX11_refuse hX hWI7  (fun v12 I11 hWI11 hFI11 hp13 => ?_)
        have hwI11 := WX_f hWI11
        exact hK _ _ hWI11 (Fr.tr (Fr.tr Fr.rf hFI7 (by intro a k h; omega)) hFI11 (by intro a k h; omega))
  · skip
    have q1 : (0 : Int32).toInt = 0 := rfl
    have q2 := i32_lo x2
    have hc2 := mt Int32.le_iff_toInt_le.mpr hc2
    have q3 : (-2 : Int32).toInt = -2 := rfl
    refine sfX11_refuse hX hW  (fun v14 I13 hWI13 hFI13 hp14 => ?_)
    have hwI13 := WX_f hWI13
    exact hK _ _ hWI13 (Fr.tr Fr.rf hFI13 (by intro a k h; omega))
theorem sfX11_left {G : jdG} {n : Nat} {Z : jdL} {J : jdJ} {K : Int32 → jdI → jdJ → Prop}  {I : jdI} {x1 : Int32} (hX : zX Z) (hM : zMen Z)  (hW : WX I)  (hK : ∀ (v : Int32) (I2 : jdI), WX I2 → Fr (fun a k => (13 ≤ a ∧ a ≤ 24) ∨ a = 28) I I2 → K v I2 J) : Cl G mX11_left (n + 9) 0 0 [.ref (gb G + 0), .int x1] Z I J (qi Z K) := by
  refine eX11_left hX ?_
  have hwI := WX_f hW
  refine sfX11_manIn hX hM hW (fun o hp1 => ?_)
  refine ⟨fun hc2 => ?_, ?_⟩
  · skip
    refine sfX11_whyNoMan hX hW  (fun v4  hp4 => ?_)
    have q1 := i32_lo v4
    refine sfX11_refuse hX hW  (fun v6 I5 hWI5 hFI5 hp5 => ?_)
    have hwI5 := WX_f hWI5
    exact hK _ _ hWI5 (Fr.tr Fr.rf hFI5 (by intro a k h; omega))
  · skip
    intro w2 hc6
    refine sfX11_think hX (hp1 _ hc6) hW  (fun I7 hWI7 hFI7 => ?_)
    have hwI7 := WX_f hWI7
    exact hK _ _ hWI7 (Fr.tr Fr.rf hFI7 (by intro a k h; omega))
theorem sfX11_waits {G : jdG} {n : Nat} {Z : jdL} {J : jdJ} {K : Int32 → jdI → jdJ → Prop}  {I : jdI} {x1 : Int32} {x2 : Int32} (hX : zX Z) (hM : zMen Z)  (hW : WX I)  (hK : ∀ (v : Int32) (I2 : jdI), WX I2 → Fr (fun a k => (13 ≤ a ∧ a ≤ 24) ∨ a = 28) I I2 → K v I2 J) : Cl G mX11_waits (n + 9) 0 0 [.ref (gb G + 0), .int x1, .int x2] Z I J (qi Z K) := by
  refine eX11_waits hX ?_
  have hwI := WX_f hW
  refine ⟨fun hc1 => ?_, fun hc2 => ?_⟩
  · skip
    have q1 := i32_lo x2
    have q2 : (-1 : Int32).toInt = -1 := rfl
    have hc1 := Int32.toInt_inj.mpr hc1
    refine sfX11_manIn hX hM hW (fun o hp3 => ?_)
    refine ⟨fun hc4 => ?_, ?_⟩
    · skip
      refine sfX11_whyNoMan hX hW  (fun v4  hp6 => ?_)
      have q3 := i32_lo v4
      refine sfX11_refuse hX hW  (fun v6 I5 hWI5 hFI5 hp7 => ?_)
      have hwI5 := WX_f hWI5
      exact hK _ _ hWI5 (Fr.tr Fr.rf hFI5 (by intro a k h; omega))
    · skip
      intro w2 hc8
      refine sfX11_think hX (hp3 _ hc8) hW  (fun I7 hWI7 hFI7 => ?_)
      have hwI7 := WX_f hWI7
      refine ⟨fun hc10 => ?_, fun hc11 => ?_⟩
      · skip
        have hc10 : ¬ (x2).toInt = ((-1) : Int32).toInt := fun z => hc10 (Int32.toInt_inj.mp z)
        refine sfX3_waitingOf (zX_o4 hX) (zX_o0 hX) (by decide) hWI7 (by omega) (fun v10  => ?_)
        exact hK _ _ hWI7 (Fr.tr Fr.rf hFI7 (by intro a k h; omega))
      · skip
        have hc11 := Int32.toInt_inj.mpr hc11
        refine sfX3_waitingOfAll (zX_o4 hX) (zX_o0 hX) (by decide) hWI7  (fun v12  => ?_)
        exact hK _ _ hWI7 (Fr.tr Fr.rf hFI7 (by intro a k h; omega))
  · skip
    have q1 := i32_lo x2
    have q2 : (-1 : Int32).toInt = -1 := rfl
    have hc2 : ¬ (x2).toInt = ((-1) : Int32).toInt := fun z => hc2 (Int32.toInt_inj.mp z)
    refine sfX9_has (zX_o0 hX) (by decide) hW  (fun v14  hp14 => ?_)
    refine ⟨fun hc15 => ?_, fun hc16 => ?_⟩
    · skip
      have q3 := i32_lo v14
      have q4 : (0 : Int32).toInt = 0 := rfl
      have hc15 : ¬ (v14).toInt = (0 : Int32).toInt := fun z => hc15 (Int32.toInt_inj.mp z)
      refine sfX11_manIn hX hM hW (fun o hp17 => ?_)
      refine ⟨fun hc18 => ?_, ?_⟩
      · skip
        refine sfX11_whyNoMan hX hW  (fun v18  hp20 => ?_)
        have q5 := i32_lo v18
        refine sfX11_refuse hX hW  (fun v20 I19 hWI19 hFI19 hp21 => ?_)
        have hwI19 := WX_f hWI19
        exact hK _ _ hWI19 (Fr.tr Fr.rf hFI19 (by intro a k h; omega))
      · skip
        intro w16 hc22
        refine sfX11_think hX (hp17 _ hc22) hW  (fun I21 hWI21 hFI21 => ?_)
        have hwI21 := WX_f hWI21
        refine ⟨fun hc24 => ?_, fun hc25 => ?_⟩
        · skip
          have hc24 : ¬ (x2).toInt = ((-1) : Int32).toInt := fun z => hc24 (Int32.toInt_inj.mp z)
          refine sfX3_waitingOf (zX_o4 hX) (zX_o0 hX) (by decide) hWI21 (by omega) (fun v24  => ?_)
          exact hK _ _ hWI21 (Fr.tr Fr.rf hFI21 (by intro a k h; omega))
        · skip
          have hc25 := Int32.toInt_inj.mpr hc25
          refine sfX3_waitingOfAll (zX_o4 hX) (zX_o0 hX) (by decide) hWI21  (fun v26  => ?_)
          exact hK _ _ hWI21 (Fr.tr Fr.rf hFI21 (by intro a k h; omega))
    · skip
      have q3 := i32_lo v14
      have q4 : (0 : Int32).toInt = 0 := rfl
      have hc16 := Int32.toInt_inj.mpr hc16
      have q5 : (-2 : Int32).toInt = -2 := rfl
      refine sfX11_refuse hX hW  (fun v28 I27 hWI27 hFI27 hp28 => ?_)
      have hwI27 := WX_f hWI27
      exact hK _ _ hWI27 (Fr.tr Fr.rf hFI27 (by intro a k h; omega))
theorem sfX11_least {G : jdG} {n : Nat} {Z : jdL} {J : jdJ} {K : Int32 → jdI → jdJ → Prop}  {I : jdI} {x1 : Int32} (hX : zX Z)  (hW : WX I)  (hK : ∀ (v : Int32) (I2 : jdI), WX I2 → Fr (fun a k => (13 ≤ a ∧ a ≤ 24) ∨ a = 28) I I2 → K v I2 J) : Cl G mX11_least (n + 8) 0 0 [.ref (gb G + 0), .int x1] Z I J (qi Z K) := by
  refine eX11_least hX ?_
  have hwI := WX_f hW
  refine ⟨fun hc1 => ?_, fun hc2 => ?_⟩
  · skip
    have q1 := i32_lo x1
    have q2 : (0 : Int32).toInt = 0 := rfl
    have hc1 := Int32.toInt_inj.mpr hc1
    refine sfX8_load (zX_o3 hX) (zX_o0 hX) (by decide) hW  (fun I1 hWI1 hFI1 => ?_)
    have hwI1 := WX_f hWI1
    refine sfX3_findLeast (zX_o4 hX) (zX_o0 hX) (zX_o3 hX) (by decide) hWI1  (fun I3 hWI3 hFI3 => ?_)
    have hwI3 := WX_f hWI3
    refine ⟨fun hc5 => ?_, fun hc6 => ?_⟩
    · skip
      have hc5 : ¬ (x1).toInt = (0 : Int32).toInt := fun z => hc5 (Int32.toInt_inj.mp z)
      refine sfX3_leastCoaches (zX_o4 hX) hWI3  (fun v6  => ?_)
      exact hK _ _ hWI3 (Fr.tr (Fr.tr Fr.rf hFI1 (by intro a k h; omega)) hFI3 (by intro a k h; omega))
    · skip
      have hc6 := Int32.toInt_inj.mpr hc6
      refine sfX3_leastWaiting (zX_o4 hX) hWI3  (fun v8  => ?_)
      exact hK _ _ hWI3 (Fr.tr (Fr.tr Fr.rf hFI1 (by intro a k h; omega)) hFI3 (by intro a k h; omega))
  · skip
    have q1 := i32_lo x1
    have q2 : (0 : Int32).toInt = 0 := rfl
    have hc2 : ¬ (x1).toInt = (0 : Int32).toInt := fun z => hc2 (Int32.toInt_inj.mp z)
    refine ⟨fun hc9 => ?_, fun hc10 => ?_⟩
    · skip
      have q3 : (1 : Int32).toInt = 1 := rfl
      have hc9 := Int32.toInt_inj.mpr hc9
      refine sfX8_load (zX_o3 hX) (zX_o0 hX) (by decide) hW  (fun I9 hWI9 hFI9 => ?_)
      have hwI9 := WX_f hWI9
      refine sfX3_findLeast (zX_o4 hX) (zX_o0 hX) (zX_o3 hX) (by decide) hWI9  (fun I11 hWI11 hFI11 => ?_)
      have hwI11 := WX_f hWI11
      refine ⟨fun hc13 => ?_, fun hc14 => ?_⟩
      · skip
        have hc13 : ¬ (x1).toInt = (0 : Int32).toInt := fun z => hc13 (Int32.toInt_inj.mp z)
        refine sfX3_leastCoaches (zX_o4 hX) hWI11  (fun v14  => ?_)
        exact hK _ _ hWI11 (Fr.tr (Fr.tr Fr.rf hFI9 (by intro a k h; omega)) hFI11 (by intro a k h; omega))
      · skip
        have hc14 := Int32.toInt_inj.mpr hc14
        refine sfX3_leastWaiting (zX_o4 hX) hWI11  (fun v16  => ?_)
        exact hK _ _ hWI11 (Fr.tr (Fr.tr Fr.rf hFI9 (by intro a k h; omega)) hFI11 (by intro a k h; omega))
    · skip
      have q3 : (1 : Int32).toInt = 1 := rfl
      have hc10 : ¬ (x1).toInt = (1 : Int32).toInt := fun z => hc10 (Int32.toInt_inj.mp z)
      have q4 : (-2 : Int32).toInt = -2 := rfl
      refine sfX11_refuse hX hW  (fun v18 I17 hWI17 hFI17 hp17 => ?_)
      have hwI17 := WX_f hWI17
      exact hK _ _ hWI17 (Fr.tr Fr.rf hFI17 (by intro a k h; omega))
theorem lX11_head_6 {G : jdG} {n : Nat} {Z : jdL} {J : jdJ} {rc rs : Nat} {K : Int32 → jdI → jdJ → Prop}  {I0 : jdI}  (hX : zX Z) (hM : zMen Z)   (hK : ∀ (v : Int32) (I2 : jdI), WX I2 → Fr (fun a k => (13 ≤ a ∧ a ≤ 24) ∨ a = 28) I0 I2 → K v I2 J) : ∀ m : Nat, ∀ (I : jdI) (x1 : Int32) (x2 : Int32) (x3 : Int32), WX I → Fr (fun a k => (13 ≤ a ∧ a ≤ 24) ∨ a = 28) I0 I → (0 ≤ x3.toInt ∧ x3.toInt ≤ 8) → (8) - x3.toInt < (m : Int) → Jd G mX11_head (jdFm G (qi Z K)) (n + 9) rc rs 6 [(0, .ref (gb G + 0)), (1, .int x1), (2, .int x2), (3, .int x3)] [] Z I J := by
  intro m
  induction m with
  | zero =>
    intro I x1 x2 x3 hW hF hx3 hm
    have hwI := WX_f hW
    omega
  | succ m ih =>
    intro I x1 x2 x3 hW hF hx3 hm
    have hwI := WX_f hW
    refine rX11_head_6 hX ?_
    refine ⟨fun hc1 => ?_, fun hc2 => ?_⟩
    · skip
      have q1 : (8 : Int32).toInt = 8 := rfl
      have q2 := i32_lo x3
      have hc1 := Int32.le_iff_toInt_le.mp hc1
      refine ⟨fun hc3 => ?_, fun hc4 => ?_⟩
      · skip
        have q3 := i32_lo x1
        have q4 : (-1 : Int32).toInt = -1 := rfl
        have hc3 : ¬ (x1).toInt = ((-1) : Int32).toInt := fun z => hc3 (Int32.toInt_inj.mp z)
        exact hK _ _ hW hF
      · skip
        have q3 := i32_lo x1
        have q4 : (-1 : Int32).toInt = -1 := rfl
        have hc4 := Int32.toInt_inj.mpr hc4
        have q5 : (-5 : Int32).toInt = -5 := rfl
        refine sfX11_refuse hX hW  (fun v2 I1 hWI1 hFI1 hp5 => ?_)
        have hwI1 := WX_f hWI1
        exact hK _ _ hWI1 (Fr.tr hF hFI1 (by intro a k h; omega))
    · skip
      have q1 : (8 : Int32).toInt = 8 := rfl
      have q2 := i32_lo x3
      have hc2 := mt Int32.le_iff_toInt_le.mpr hc2
      refine ⟨vp_of (by omega) (by omega), ?_⟩
      refine ⟨fun hc6 => ?_, ?_⟩
      · skip
        have hzhc6 := mk_none hc6
        have q3 : (1 : Int32).toInt = 1 := rfl
        have q4 := i32_add x3 1 (by omega) (by omega)
        exact ih _ x1 x2 (x3 + 1) hW hF (by omega) (by omega)
      · skip
        intro w5 hc8
        have hzhc8 := mk_some hc8
        have hrhc8 := ckI_r (Z.1 w5)
        refine sfX11_think hX (hM _ (by simp only [tn_eq]; omega) _ hc8) hW  (fun I6 hWI6 hFI6 => ?_)
        have hwI6 := WX_f hWI6
        refine sfX3_waitingOfAll (zX_o4 hX) (zX_o0 hX) (by decide) hWI6  (fun v9  => ?_)
        refine ⟨fun hc11 => ?_, fun hc12 => ?_⟩
        · skip
          have q3 := i32_lo x1
          have q4 : (-1 : Int32).toInt = -1 := rfl
          have hc11 := Int32.toInt_inj.mpr hc11
          have q5 : (1 : Int32).toInt = 1 := rfl
          have q6 := i32_add x3 1 (by omega) (by omega)
          exact ih _ x3 v9 (x3 + 1) hWI6 (Fr.tr hF hFI6 (by intro a k h; omega)) (by omega) (by omega)
        · skip
          have q3 := i32_lo x1
          have q4 : (-1 : Int32).toInt = -1 := rfl
          have hc12 : ¬ (x1).toInt = ((-1) : Int32).toInt := fun z => hc12 (Int32.toInt_inj.mp z)
          refine ⟨fun hc13 => ?_, fun hc14 => ?_⟩
          · skip
            have q5 := i32_lo x2
            have q6 := i32_lo v9
            have hc13 := Int32.le_iff_toInt_le.mp hc13
            have q7 : (1 : Int32).toInt = 1 := rfl
            have q8 := i32_add x3 1 (by omega) (by omega)
            exact ih _ x1 x2 (x3 + 1) hWI6 (Fr.tr hF hFI6 (by intro a k h; omega)) (by omega) (by omega)
          · skip
            have q5 := i32_lo x2
            have q6 := i32_lo v9
            have hc14 := mt Int32.le_iff_toInt_le.mpr hc14
            have q7 : (1 : Int32).toInt = 1 := rfl
            have q8 := i32_add x3 1 (by omega) (by omega)
            exact ih _ x3 v9 (x3 + 1) hWI6 (Fr.tr hF hFI6 (by intro a k h; omega)) (by omega) (by omega)
theorem sfX11_head {G : jdG} {n : Nat} {Z : jdL} {J : jdJ} {K : Int32 → jdI → jdJ → Prop}  {I : jdI}  (hX : zX Z) (hM : zMen Z)  (hW : WX I)  (hK : ∀ (v : Int32) (I2 : jdI), WX I2 → Fr (fun a k => (13 ≤ a ∧ a ≤ 24) ∨ a = 28) I I2 → K v I2 J) : Cl G mX11_head (n + 9) 0 0 [.ref (gb G + 0)] Z I J (qi Z K) := by
  refine eX11_head hX ?_
  have hwI := WX_f hW
  have q1 : (0 : Int32).toInt = 0 := rfl
  exact lX11_head_6 hX hM   hK  (((8) - (0 : Int32).toInt).toNat + 1) _ (-1) 0 0 hW Fr.rf (by omega) (by omega)
theorem lX11_days_70 {G : jdG} {n : Nat} {Z : jdL} {J : jdJ} {rc rs : Nat} {K : Int32 → jdI → jdJ → Prop}  {I0 : jdI} {mo33 : Nat} {x1 : Int32} {u2 : Nat} (hX : zX Z) (hM : zMen Z)  (hu2m : zMan Z u2)  (hK : ∀ (v : Int32) (I2 : jdI), WX I2 → Fr (fun a k => (13 ≤ a ∧ a ≤ 24) ∨ a = 28) I0 I2 → K v I2 J) (hO33 : ∀ (I : jdI) (x3 : Int32), WX I → Fr (fun a k => (13 ≤ a ∧ a ≤ 24) ∨ a = 28) I0 I → (0 ≤ x3.toInt ∧ x3.toInt ≤ 30) → (30) - x3.toInt < (mo33 : Int) → Jd G mX11_days (jdFm G (qi Z K)) (n + 8) rc rs 33 [(0, .ref (gb G + 0)), (1, .int x1), (2, .ref (gb G + u2)), (3, .int x3)] [] Z I J) : ∀ m : Nat, ∀ (I : jdI) (x3 : Int32) (x4 : Int32), WX I → Fr (fun a k => (13 ≤ a ∧ a ≤ 24) ∨ a = 28) I0 I → (0 ≤ x4.toInt ∧ x4.toInt ≤ 7) → (0 ≤ x3.toInt ∧ x3.toInt < 30) → (30) - x3.toInt ≤ (mo33 : Int) → (7) - x4.toInt < (m : Int) → Jd G mX11_days (jdFm G (qi Z K)) (n + 8) rc rs 70 [(0, .ref (gb G + 0)), (1, .int x1), (2, .ref (gb G + u2)), (3, .int x3), (4, .int x4)] [] Z I J := by
  intro m
  induction m with
  | zero =>
    intro I x3 x4 hW hF hx4 hx3 hmo33 hm
    have hwI := WX_f hW
    omega
  | succ m ih =>
    intro I x3 x4 hW hF hx4 hx3 hmo33 hm
    have hwI := WX_f hW
    refine rX11_days_70 hX ?_
    refine ⟨fun hc1 => ?_, fun hc2 => ?_⟩
    · skip
      have q1 := i32_lo (I 20 4)
      have q2 := i32_lo x4
      have hc1 := Int32.le_iff_toInt_le.mp hc1
      have q3 := i32_lo x3
      have q4 : (1 : Int32).toInt = 1 := rfl
      have q5 := i32_add x3 1 (by omega) (by omega)
      exact hO33 _ (x3 + 1) hW hF (by omega) (by omega)
    · skip
      have q1 := i32_lo (I 20 4)
      have q2 := i32_lo x4
      have hc2 := mt Int32.le_iff_toInt_le.mpr hc2
      refine sfX3_coachAt (zX_o4 hX) hW  (fun v2  => ?_)
      refine sfX8_acquaint (zX_o3 hX) hW  (fun I3 hWI3 hFI3 => ?_)
      have hwI3 := WX_f hWI3
      have q3 := i32_lo x3
      have q4 : (1 : Int32).toInt = 1 := rfl
      have q5 := i32_add x4 1 (by omega) (by omega)
      exact ih _ x3 (x4 + 1) hWI3 (Fr.tr hF hFI3 (by intro a k h; omega)) (by omega) (by omega) (by omega) (by omega)
theorem lX11_days_33 {G : jdG} {n : Nat} {Z : jdL} {J : jdJ} {rc rs : Nat} {K : Int32 → jdI → jdJ → Prop}  {I0 : jdI} {x1 : Int32} {u2 : Nat} (hX : zX Z) (hM : zMen Z)  (hu2m : zMan Z u2)  (hK : ∀ (v : Int32) (I2 : jdI), WX I2 → Fr (fun a k => (13 ≤ a ∧ a ≤ 24) ∨ a = 28) I0 I2 → K v I2 J) : ∀ m : Nat, ∀ (I : jdI) (x3 : Int32), WX I → Fr (fun a k => (13 ≤ a ∧ a ≤ 24) ∨ a = 28) I0 I → (0 ≤ x3.toInt ∧ x3.toInt ≤ 30) → (30) - x3.toInt < (m : Int) → Jd G mX11_days (jdFm G (qi Z K)) (n + 8) rc rs 33 [(0, .ref (gb G + 0)), (1, .int x1), (2, .ref (gb G + u2)), (3, .int x3)] [] Z I J := by
  intro m
  induction m with
  | zero =>
    intro I x3 hW hF hx3 hm
    have hwI := WX_f hW
    omega
  | succ m ih =>
    intro I x3 hW hF hx3 hm
    have hwI := WX_f hW
    refine rX11_days_33 hX ?_
    refine ⟨fun hc1 => ?_, fun hc2 => ?_⟩
    · skip
      have q1 : (30 : Int32).toInt = 30 := rfl
      have q2 := i32_lo x3
      have hc1 := Int32.le_iff_toInt_le.mp hc1
      exact hK _ _ hW hF
    · skip
      have q1 : (30 : Int32).toInt = 30 := rfl
      have q2 := i32_lo x3
      have hc2 := mt Int32.le_iff_toInt_le.mpr hc2
      refine sfX3_pass (zX_o4 hX) (zX_o0 hX) (zX_o3 hX) (by decide) hu2m hW  (fun I1 hWI1 hFI1 => ?_)
      have hwI1 := WX_f hWI1
      refine ⟨fun hc4 => ?_, fun hc5 => ?_⟩
      · skip
        have q3 := i32_lo (I1 20 4)
        have q4 : (0 : Int32).toInt = 0 := rfl
        have hc4 : ¬ ((I1 20 4)).toInt = (0 : Int32).toInt := fun z => hc4 (Int32.toInt_inj.mp z)
        exact lX11_days_70 hX hM  hu2m  hK ih (((7) - (0 : Int32).toInt).toNat + 1) _ x3 0 hWI1 (Fr.tr hF hFI1 (by intro a k h; omega)) (by omega) (by omega) (by omega) (by omega)
      · skip
        have q3 := i32_lo (I1 20 4)
        have q4 : (0 : Int32).toInt = 0 := rfl
        have hc5 := Int32.toInt_inj.mpr hc5
        exact hK _ _ hWI1 (Fr.tr hF hFI1 (by intro a k h; omega))
theorem sfX11_days {G : jdG} {n : Nat} {Z : jdL} {J : jdJ} {K : Int32 → jdI → jdJ → Prop}  {I : jdI} {x1 : Int32} (hX : zX Z) (hM : zMen Z)  (hW : WX I)  (hK : ∀ (v : Int32) (I2 : jdI), WX I2 → Fr (fun a k => (13 ≤ a ∧ a ≤ 24) ∨ a = 28) I I2 → K v I2 J) : Cl G mX11_days (n + 8) 0 0 [.ref (gb G + 0), .int x1] Z I J (qi Z K) := by
  refine eX11_days hX ?_
  have hwI := WX_f hW
  refine sfX11_manIn hX hM hW (fun o hp1 => ?_)
  refine ⟨fun hc2 => ?_, ?_⟩
  · skip
    refine sfX11_whyNoMan hX hW  (fun v4  hp4 => ?_)
    have q1 := i32_lo v4
    refine sfX11_refuse hX hW  (fun v6 I5 hWI5 hFI5 hp5 => ?_)
    have hwI5 := WX_f hWI5
    exact hK _ _ hWI5 (Fr.tr Fr.rf hFI5 (by intro a k h; omega))
  · skip
    intro w2 hc6
    refine sfX8_load (zX_o3 hX) (zX_o0 hX) (by decide) hW  (fun I7 hWI7 hFI7 => ?_)
    have hwI7 := WX_f hWI7
    have q1 : (0 : Int32).toInt = 0 := rfl
    exact lX11_days_33 hX hM  (hp1 _ hc6)  hK  (((30) - (0 : Int32).toInt).toNat + 1) _ 0 hWI7 (Fr.tr Fr.rf hFI7 (by intro a k h; omega)) (by omega) (by omega)
theorem sfX11_ever {G : jdG} {n : Nat} {Z : jdL} {J : jdJ} {K : Int32 → jdI → jdJ → Prop}  {I : jdI} {x1 : Int32} (hX : zX Z)  (hW : WX I)  (hK : ∀ (v : Int32) (I2 : jdI), WX I2 → Fr (fun a k => (13 ≤ a ∧ a ≤ 24) ∨ a = 28) I I2 → K v I2 J) : Cl G mX11_ever (n + 31) 0 0 [.ref (gb G + 0), .int x1] Z I J (qi Z K) := by
  refine eX11_ever hX ?_
  have hwI := WX_f hW
  refine ⟨fun hc1 => ?_, fun hc2 => ?_⟩
  · skip
    have q1 := i32_lo x1
    have q2 : (0 : Int32).toInt = 0 := rfl
    have hc1 := Int32.toInt_inj.mpr hc1
    refine sfX8_load (zX_o3 hX) (zX_o0 hX) (by decide) hW  (fun I1 hWI1 hFI1 => ?_)
    have hwI1 := WX_f hWI1
    refine ⟨fun hc4 => ?_, fun hc5 => ?_⟩
    · skip
      have hc4 : ¬ (x1).toInt = (0 : Int32).toInt := fun z => hc4 (Int32.toInt_inj.mp z)
      refine sfX8_soonest (zX_o3 hX) hWI1  (fun v4 I3 hWI3 hFI3 => ?_)
      have hwI3 := WX_f hWI3
      exact hK _ _ hWI3 (Fr.tr (Fr.tr Fr.rf hFI1 (by intro a k h; omega)) hFI3 (by intro a k h; omega))
    · skip
      have hc5 := Int32.toInt_inj.mpr hc5
      refine sfX8_longest (zX_o3 hX) hWI1  (fun v6 I5 hWI5 hFI5 => ?_)
      have hwI5 := WX_f hWI5
      exact hK _ _ hWI5 (Fr.tr (Fr.tr Fr.rf hFI1 (by intro a k h; omega)) hFI5 (by intro a k h; omega))
  · skip
    have q1 := i32_lo x1
    have q2 : (0 : Int32).toInt = 0 := rfl
    have hc2 : ¬ (x1).toInt = (0 : Int32).toInt := fun z => hc2 (Int32.toInt_inj.mp z)
    refine ⟨fun hc8 => ?_, fun hc9 => ?_⟩
    · skip
      have q3 : (1 : Int32).toInt = 1 := rfl
      have hc8 := Int32.toInt_inj.mpr hc8
      refine sfX8_load (zX_o3 hX) (zX_o0 hX) (by decide) hW  (fun I7 hWI7 hFI7 => ?_)
      have hwI7 := WX_f hWI7
      refine ⟨fun hc11 => ?_, fun hc12 => ?_⟩
      · skip
        have hc11 : ¬ (x1).toInt = (0 : Int32).toInt := fun z => hc11 (Int32.toInt_inj.mp z)
        refine sfX8_soonest (zX_o3 hX) hWI7  (fun v10 I9 hWI9 hFI9 => ?_)
        have hwI9 := WX_f hWI9
        exact hK _ _ hWI9 (Fr.tr (Fr.tr Fr.rf hFI7 (by intro a k h; omega)) hFI9 (by intro a k h; omega))
      · skip
        have hc12 := Int32.toInt_inj.mpr hc12
        refine sfX8_longest (zX_o3 hX) hWI7  (fun v12 I11 hWI11 hFI11 => ?_)
        have hwI11 := WX_f hWI11
        exact hK _ _ hWI11 (Fr.tr (Fr.tr Fr.rf hFI7 (by intro a k h; omega)) hFI11 (by intro a k h; omega))
    · skip
      have q3 : (1 : Int32).toInt = 1 := rfl
      have hc9 : ¬ (x1).toInt = (1 : Int32).toInt := fun z => hc9 (Int32.toInt_inj.mp z)
      have q4 : (-2 : Int32).toInt = -2 := rfl
      refine sfX11_refuse hX hW  (fun v14 I13 hWI13 hFI13 hp15 => ?_)
      have hwI13 := WX_f hWI13
      exact hK _ _ hWI13 (Fr.tr Fr.rf hFI13 (by intro a k h; omega))
theorem sfX11_hire {G : jdG} {n : Nat} {Z : jdL} {J : jdJ} {K : Int32 → jdI → jdJ → Prop}  {I : jdI}  (hX : zX Z)  (hW : WX I)  (hK : ∀ (v : Int32) (I2 : jdI), WX I2 → Fr (fun a k => (13 ≤ a ∧ a ≤ 24) ∨ a = 28) I I2 → K v I2 J) : Cl G mX11_hire (n + 8) 0 0 [.ref (gb G + 0)] Z I J (qi Z K) := by
  refine eX11_hire hX ?_
  have hwI := WX_f hW
  refine sfX8_load (zX_o3 hX) (zX_o0 hX) (by decide) hW  (fun I1 hWI1 hFI1 => ?_)
  have hwI1 := WX_f hWI1
  refine sfX9_everybody (zX_o0 hX) (by decide) hWI1  (fun v4  hp2 => ?_)
  refine sfX8_mostFrom (zX_o3 hX) hWI1  (fun v6 I5 hWI5 hFI5 => ?_)
  have hwI5 := WX_f hWI5
  refine sfX8_addStranger (zX_o3 hX) hWI5  (fun I7 hWI7 hFI7 => ?_)
  have hwI7 := WX_f hWI7
  refine sfX9_everybody (zX_o0 hX) (by decide) hWI7  (fun v10  hp5 => ?_)
  refine sfX8_mostFrom (zX_o3 hX) hWI7  (fun v12 I11 hWI11 hFI11 => ?_)
  have hwI11 := WX_f hWI11
  exact hK _ _ hWI11 (Fr.tr (Fr.tr (Fr.tr (Fr.tr Fr.rf hFI1 (by intro a k h; omega)) hFI5 (by intro a k h; omega)) hFI7 (by intro a k h; omega)) hFI11 (by intro a k h; omega))
theorem sfX11_feast {G : jdG} {n : Nat} {Z : jdL} {J : jdJ} {K : Int32 → jdI → jdJ → Prop}  {I : jdI} {x1 : Int32} (hX : zX Z)  (hW : WX I)  (hK : ∀ (v : Int32) (I2 : jdI), WX I2 → Fr (fun a k => (13 ≤ a ∧ a ≤ 24) ∨ a = 28) I I2 → K v I2 J) : Cl G mX11_feast (n + 31) 0 0 [.ref (gb G + 0), .int x1] Z I J (qi Z K) := by
  refine eX11_feast hX ?_
  have hwI := WX_f hW
  have q1 := i32_lo x1
  refine sfX9_hasAll (zX_o0 hX) (by decide) hW  (fun v2  hp1 => ?_)
  refine ⟨fun hc2 => ?_, fun hc3 => ?_⟩
  · skip
    have q2 := i32_lo v2
    have q3 : (0 : Int32).toInt = 0 := rfl
    have hc2 : ¬ (v2).toInt = (0 : Int32).toInt := fun z => hc2 (Int32.toInt_inj.mp z)
    refine sfX8_load (zX_o3 hX) (zX_o0 hX) (by decide) hW  (fun I3 hWI3 hFI3 => ?_)
    have hwI3 := WX_f hWI3
    refine sfX8_longest (zX_o3 hX) hWI3  (fun v6 I5 hWI5 hFI5 => ?_)
    have hwI5 := WX_f hWI5
    refine sfX8_acquaint (zX_o3 hX) hWI5  (fun I7 hWI7 hFI7 => ?_)
    have hwI7 := WX_f hWI7
    refine sfX8_longest (zX_o3 hX) hWI7  (fun v10 I9 hWI9 hFI9 => ?_)
    have hwI9 := WX_f hWI9
    exact hK _ _ hWI9 (Fr.tr (Fr.tr (Fr.tr (Fr.tr Fr.rf hFI3 (by intro a k h; omega)) hFI5 (by intro a k h; omega)) hFI7 (by intro a k h; omega)) hFI9 (by intro a k h; omega))
  · skip
    have q2 := i32_lo v2
    have q3 : (0 : Int32).toInt = 0 := rfl
    have hc3 := Int32.toInt_inj.mpr hc3
    have q4 : (-2 : Int32).toInt = -2 := rfl
    refine sfX11_refuse hX hW  (fun v12 I11 hWI11 hFI11 hp8 => ?_)
    have hwI11 := WX_f hWI11
    exact hK _ _ hWI11 (Fr.tr Fr.rf hFI11 (by intro a k h; omega))
theorem sfX11_closes {G : jdG} {n : Nat} {Z : jdL} {J : jdJ} {K : Int32 → jdI → jdJ → Prop}  {I : jdI} {x1 : Int32} {x2 : Int32} (hX : zX Z)  (hW : WX I)  (hK : ∀ (v : Int32) (I2 : jdI), WX I2 → Fr (fun a k => (13 ≤ a ∧ a ≤ 24) ∨ a = 28) I I2 → K v I2 J) : Cl G mX11_closes (n + 8) 0 0 [.ref (gb G + 0), .int x1, .int x2] Z I J (qi Z K) := by
  refine eX11_closes hX ?_
  have hwI := WX_f hW
  have q1 := i32_lo x1
  have q2 := i32_lo x2
  refine sfX9_hasTwo (zX_o0 hX) (by decide) hW  (fun v2  hp1 => ?_)
  refine ⟨fun hc2 => ?_, fun hc3 => ?_⟩
  · skip
    have q3 := i32_lo v2
    have q4 : (0 : Int32).toInt = 0 := rfl
    have hc2 : ¬ (v2).toInt = (0 : Int32).toInt := fun z => hc2 (Int32.toInt_inj.mp z)
    refine sfX8_load (zX_o3 hX) (zX_o0 hX) (by decide) hW  (fun I3 hWI3 hFI3 => ?_)
    have hwI3 := WX_f hWI3
    refine sfX8_countWith (zX_o3 hX) hWI3  (fun v6  => ?_)
    exact hK _ _ hWI3 (Fr.tr Fr.rf hFI3 (by intro a k h; omega))
  · skip
    have q3 := i32_lo v2
    have q4 : (0 : Int32).toInt = 0 := rfl
    have hc3 := Int32.toInt_inj.mpr hc3
    have q5 : (-2 : Int32).toInt = -2 := rfl
    refine sfX11_refuse hX hW  (fun v8 I7 hWI7 hFI7 hp6 => ?_)
    have hwI7 := WX_f hWI7
    exact hK _ _ hWI7 (Fr.tr Fr.rf hFI7 (by intro a k h; omega))
theorem sfX11_worst {G : jdG} {n : Nat} {Z : jdL} {J : jdJ} {K : Int32 → jdI → jdJ → Prop}  {I : jdI}  (hX : zX Z)  (hW : WX I)  (hK : ∀ (v : Int32) (I2 : jdI), WX I2 → Fr (fun a k => (13 ≤ a ∧ a ≤ 24) ∨ a = 28) I I2 → K v I2 J) : Cl G mX11_worst (n + 8) 0 0 [.ref (gb G + 0)] Z I J (qi Z K) := by
  refine eX11_worst hX ?_
  have hwI := WX_f hW
  refine sfX8_load (zX_o3 hX) (zX_o0 hX) (by decide) hW  (fun I1 hWI1 hFI1 => ?_)
  have hwI1 := WX_f hWI1
  refine sfX8_closest (zX_o3 hX) hWI1  (fun v4  => ?_)
  refine ⟨fun hc3 => ?_, fun hc4 => ?_⟩
  · skip
    have q1 := i32_lo v4
    have q2 : (-1 : Int32).toInt = -1 := rfl
    have hc3 : ¬ (v4).toInt = ((-1) : Int32).toInt := fun z => hc3 (Int32.toInt_inj.mp z)
    exact hK _ _ hWI1 (Fr.tr Fr.rf hFI1 (by intro a k h; omega))
  · skip
    have q1 := i32_lo v4
    have q2 : (-1 : Int32).toInt = -1 := rfl
    have hc4 := Int32.toInt_inj.mpr hc4
    have q3 : (-5 : Int32).toInt = -5 := rfl
    refine sfX11_refuse hX hWI1  (fun v6 I5 hWI5 hFI5 hp5 => ?_)
    have hwI5 := WX_f hWI5
    exact hK _ _ hWI5 (Fr.tr (Fr.tr Fr.rf hFI1 (by intro a k h; omega)) hFI5 (by intro a k h; omega))
theorem sfX11_fits {G : jdG} {n : Nat} {Z : jdL} {J : jdJ} {K : Int32 → jdI → jdJ → Prop}  {I : jdI} {x1 : Int32} (hX : zX Z)  (hW : WX I)  (hK : ∀ (v : Int32) (I2 : jdI), WX I2 → Fr (fun a k => (13 ≤ a ∧ a ≤ 24) ∨ a = 28) I I2 → K v I2 J) : Cl G mX11_fits (n + 8) 0 0 [.ref (gb G + 0), .int x1] Z I J (qi Z K) := by
  refine eX11_fits hX ?_
  have hwI := WX_f hW
  have q1 := i32_lo x1
  refine sfX11_canBeSecret hX hW  (fun v2  hp1 => ?_)
  refine ⟨fun hc2 => ?_, fun hc3 => ?_⟩
  · skip
    have q2 := i32_lo v2
    have q3 : (0 : Int32).toInt = 0 := rfl
    have hc2 : ¬ (v2).toInt = (0 : Int32).toInt := fun z => hc2 (Int32.toInt_inj.mp z)
    refine sfX8_load (zX_o3 hX) (zX_o0 hX) (by decide) hW  (fun I3 hWI3 hFI3 => ?_)
    have hwI3 := WX_f hWI3
    refine sfX8_countWays (zX_o3 hX) hWI3  (fun v6 I5 hWI5 hFI5 => ?_)
    have hwI5 := WX_f hWI5
    exact hK _ _ hWI5 (Fr.tr (Fr.tr Fr.rf hFI3 (by intro a k h; omega)) hFI5 (by intro a k h; omega))
  · skip
    have q2 := i32_lo v2
    have q3 : (0 : Int32).toInt = 0 := rfl
    have hc3 := Int32.toInt_inj.mpr hc3
    have q4 : (-2 : Int32).toInt = -2 := rfl
    refine sfX11_refuse hX hW  (fun v8 I7 hWI7 hFI7 hp6 => ?_)
    have hwI7 := WX_f hWI7
    exact hK _ _ hWI7 (Fr.tr Fr.rf hFI7 (by intro a k h; omega))
theorem sfX11_sure {G : jdG} {n : Nat} {Z : jdL} {J : jdJ} {K : Int32 → jdI → jdJ → Prop}  {I : jdI} {x1 : Int32} (hX : zX Z)  (hW : WX I)  (hK : ∀ (v : Int32) (I2 : jdI), WX I2 → Fr (fun a k => (13 ≤ a ∧ a ≤ 24) ∨ a = 28) I I2 → K v I2 J) : Cl G mX11_sure (n + 8) 0 0 [.ref (gb G + 0), .int x1] Z I J (qi Z K) := by
  refine eX11_sure hX ?_
  have hwI := WX_f hW
  have q1 := i32_lo x1
  refine sfX11_canBeSecret hX hW  (fun v2  hp1 => ?_)
  refine ⟨fun hc2 => ?_, fun hc3 => ?_⟩
  · skip
    have q2 := i32_lo v2
    have q3 : (0 : Int32).toInt = 0 := rfl
    have hc2 : ¬ (v2).toInt = (0 : Int32).toInt := fun z => hc2 (Int32.toInt_inj.mp z)
    refine sfX8_load (zX_o3 hX) (zX_o0 hX) (by decide) hW  (fun I3 hWI3 hFI3 => ?_)
    have hwI3 := WX_f hWI3
    refine sfX8_surest (zX_o3 hX) hWI3  (fun v6 I5 hWI5 hFI5 => ?_)
    have hwI5 := WX_f hWI5
    refine ⟨fun hc6 => ?_, fun hc7 => ?_⟩
    · skip
      have q4 := i32_lo v6
      have q5 : (-1 : Int32).toInt = -1 := rfl
      have hc6 : ¬ (v6).toInt = ((-1) : Int32).toInt := fun z => hc6 (Int32.toInt_inj.mp z)
      exact hK _ _ hWI5 (Fr.tr (Fr.tr Fr.rf hFI3 (by intro a k h; omega)) hFI5 (by intro a k h; omega))
    · skip
      have q4 := i32_lo v6
      have q5 : (-1 : Int32).toInt = -1 := rfl
      have hc7 := Int32.toInt_inj.mpr hc7
      have q6 : (-5 : Int32).toInt = -5 := rfl
      refine sfX11_refuse hX hWI5  (fun v8 I7 hWI7 hFI7 hp8 => ?_)
      have hwI7 := WX_f hWI7
      exact hK _ _ hWI7 (Fr.tr (Fr.tr (Fr.tr Fr.rf hFI3 (by intro a k h; omega)) hFI5 (by intro a k h; omega)) hFI7 (by intro a k h; omega))
  · skip
    have q2 := i32_lo v2
    have q3 : (0 : Int32).toInt = 0 := rfl
    have hc3 := Int32.toInt_inj.mpr hc3
    have q4 : (-2 : Int32).toInt = -2 := rfl
    refine sfX11_refuse hX hW  (fun v10 I9 hWI9 hFI9 hp9 => ?_)
    have hwI9 := WX_f hWI9
    exact hK _ _ hWI9 (Fr.tr Fr.rf hFI9 (by intro a k h; omega))
theorem sfX11_judge {G : jdG} {n : Nat} {Z : jdL} {J : jdJ} {K : Int32 → jdI → jdJ → Prop}  {I : jdI} {x1 : Int32} {x2 : Int32} (hX : zX Z)  (hW : WX I)  (hK : ∀ (v : Int32) (I2 : jdI), WX I2 → Fr (fun a k => (13 ≤ a ∧ a ≤ 24) ∨ a = 28) I I2 → K v I2 J) : Cl G mX11_judge (n + 9) 0 0 [.ref (gb G + 0), .int x1, .int x2] Z I J (qi Z K) := by
  refine eX11_judge hX ?_
  have hwI := WX_f hW
  have q1 := i32_lo x1
  have q2 := i32_lo x2
  refine sfX11_whyNotTold hX hW  (fun v2  hp1 => ?_)
  refine ⟨fun hc2 => ?_, fun hc3 => ?_⟩
  · skip
    have q3 := i32_lo v2
    have q4 : (0 : Int32).toInt = 0 := rfl
    have hc2 := Int32.toInt_inj.mpr hc2
    refine sfX11_firstWrong hX hW (by omega) (by omega) (fun v4 I3 hWI3 hFI3 => ?_)
    have hwI3 := WX_f hWI3
    exact hK _ _ hWI3 (Fr.tr Fr.rf hFI3 (by intro a k h; omega))
  · skip
    have q3 := i32_lo v2
    have q4 : (0 : Int32).toInt = 0 := rfl
    have hc3 : ¬ (v2).toInt = (0 : Int32).toInt := fun z => hc3 (Int32.toInt_inj.mp z)
    refine sfX11_refuse hX hW  (fun v6 I5 hWI5 hFI5 hp5 => ?_)
    have hwI5 := WX_f hWI5
    exact hK _ _ hWI5 (Fr.tr Fr.rf hFI5 (by intro a k h; omega))
theorem lX11_behind_48 {G : jdG} {n : Nat} {Z : jdL} {J : jdJ} {rc rs : Nat} {K : Int32 → jdI → jdJ → Prop}  {I0 : jdI} {x1 : Int32} {x2 : Int32} {x3 : Int32} (hX : zX Z)   (hK : ∀ (v : Int32) (I2 : jdI), WX I2 → Fr (fun a k => (13 ≤ a ∧ a ≤ 24) ∨ a = 28) I0 I2 → K v I2 J) : ∀ m : Nat, ∀ (I : jdI) (x4 : Int32) (x5 : Int32) (x6 : Int32), WX I → Fr (fun a k => (13 ≤ a ∧ a ≤ 24) ∨ a = 28) I0 I → (0 ≤ x6.toInt ∧ x6.toInt ≤ 8) → (0 ≤ x1.toInt ∧ x1.toInt < 8) → (x2.toInt ≤ 7) → (8) - x6.toInt < (m : Int) → Jd G mX11_behind (jdFm G (qi Z K)) (n + 10) rc rs 48 [(0, .ref (gb G + 0)), (1, .int x1), (2, .int x2), (3, .int x3), (4, .int x4), (5, .int x5), (6, .int x6)] [] Z I J := by
  intro m
  induction m with
  | zero =>
    intro I x4 x5 x6 hW hF hx6 hx1 hx2 hm
    have hwI := WX_f hW
    omega
  | succ m ih =>
    intro I x4 x5 x6 hW hF hx6 hx1 hx2 hm
    have hwI := WX_f hW
    refine rX11_behind_48 hX ?_
    refine ⟨fun hc1 => ?_, fun hc2 => ?_⟩
    · skip
      have q1 := i32_lo x2
      have q2 := i32_lo x6
      have hc1 := Int32.le_iff_toInt_le.mp hc1
      refine ⟨fun hc3 => ?_, fun hc4 => ?_⟩
      · skip
        have q3 := i32_lo x3
        have q4 : (0 : Int32).toInt = 0 := rfl
        have hc3 : ¬ (x3).toInt = (0 : Int32).toInt := fun z => hc3 (Int32.toInt_inj.mp z)
        refine sfX9_everybody (zX_o0 hX) (by decide) hW  (fun v2  hp5 => ?_)
        refine sfX8_countIn (zX_o3 hX) hW  (fun v4  => ?_)
        exact hK _ _ hW hF
      · skip
        have q3 := i32_lo x3
        have q4 : (0 : Int32).toInt = 0 := rfl
        have hc4 := Int32.toInt_inj.mpr hc4
        exact hK _ _ hW hF
    · skip
      have q1 := i32_lo x2
      have q2 := i32_lo x6
      have hc2 := mt Int32.le_iff_toInt_le.mpr hc2
      have q3 := i32_lo x1
      refine ⟨vp_of (by omega) (by omega), ?_⟩
      refine ⟨vp_of (by omega) (by omega), ?_⟩
      refine sfX8_acquaint (zX_o3 hX) hW  (fun I7 hWI7 hFI7 => ?_)
      have hwI7 := WX_f hWI7
      have q4 : (1 : Int32).toInt = 1 := rfl
      have q5 := i32_add x6 1 (by omega) (by omega)
      exact ih _ x4 (x5 &&& ((Int64.toInt32 (J ((29 + 2 * (Int32.toNatClampNeg x1)) + 1) (Int32.toNatClampNeg x6))) ^^^ (-1))) (x6 + 1) hWI7 (Fr.tr hF hFI7 (by intro a k h; omega)) (by omega) (by omega) (by omega) (by omega)
theorem sfX11_behind {G : jdG} {n : Nat} {Z : jdL} {J : jdJ} {K : Int32 → jdI → jdJ → Prop}  {I : jdI} {x1 : Int32} {x2 : Int32} {x3 : Int32} (hX : zX Z)  (hW : WX I)  (hK : ∀ (v : Int32) (I2 : jdI), WX I2 → Fr (fun a k => (13 ≤ a ∧ a ≤ 24) ∨ a = 28) I I2 → K v I2 J) : Cl G mX11_behind (n + 10) 0 0 [.ref (gb G + 0), .int x1, .int x2, .int x3] Z I J (qi Z K) := by
  refine eX11_behind hX ?_
  have hwI := WX_f hW
  refine ⟨fun hc1 => ?_, fun hc2 => ?_⟩
  · skip
    have q1 := i32_lo x3
    have q2 : (0 : Int32).toInt = 0 := rfl
    have hc1 := Int32.toInt_inj.mpr hc1
    have q3 := i32_lo x1
    have q4 := i32_lo x2
    refine sfX11_whyNotRidden hX hW  (fun v2 I1 hWI1 hFI1 hp3 => ?_)
    have hwI1 := WX_f hWI1
    refine ⟨fun hc4 => ?_, fun hc5 => ?_⟩
    · skip
      have q5 := i32_lo v2
      have hc4 := Int32.toInt_inj.mpr hc4
      refine sfX9_everybody (zX_o0 hX) (by decide) hWI1  (fun v4  hp6 => ?_)
      exact lX11_behind_48 hX   hK  (((8) - (0 : Int32).toInt).toNat + 1) _ v2 v4 0 hWI1 (Fr.tr Fr.rf hFI1 (by intro a k h; omega)) (by omega) (by omega) (by omega) (by omega)
    · skip
      have q5 := i32_lo v2
      have hc5 : ¬ (v2).toInt = (0 : Int32).toInt := fun z => hc5 (Int32.toInt_inj.mp z)
      refine sfX11_refuse hX hWI1  (fun v6 I5 hWI5 hFI5 hp7 => ?_)
      have hwI5 := WX_f hWI5
      exact hK _ _ hWI5 (Fr.tr (Fr.tr Fr.rf hFI1 (by intro a k h; omega)) hFI5 (by intro a k h; omega))
  · skip
    have q1 := i32_lo x3
    have q2 : (0 : Int32).toInt = 0 := rfl
    have hc2 : ¬ (x3).toInt = (0 : Int32).toInt := fun z => hc2 (Int32.toInt_inj.mp z)
    refine ⟨fun hc8 => ?_, fun hc9 => ?_⟩
    · skip
      have q3 : (1 : Int32).toInt = 1 := rfl
      have hc8 := Int32.toInt_inj.mpr hc8
      have q4 := i32_lo x1
      have q5 := i32_lo x2
      refine sfX11_whyNotRidden hX hW  (fun v8 I7 hWI7 hFI7 hp10 => ?_)
      have hwI7 := WX_f hWI7
      refine ⟨fun hc11 => ?_, fun hc12 => ?_⟩
      · skip
        have q6 := i32_lo v8
        have hc11 := Int32.toInt_inj.mpr hc11
        refine sfX9_everybody (zX_o0 hX) (by decide) hWI7  (fun v10  hp13 => ?_)
        exact lX11_behind_48 hX   hK  (((8) - (0 : Int32).toInt).toNat + 1) _ v8 v10 0 hWI7 (Fr.tr Fr.rf hFI7 (by intro a k h; omega)) (by omega) (by omega) (by omega) (by omega)
      · skip
        have q6 := i32_lo v8
        have hc12 : ¬ (v8).toInt = (0 : Int32).toInt := fun z => hc12 (Int32.toInt_inj.mp z)
        refine sfX11_refuse hX hWI7  (fun v12 I11 hWI11 hFI11 hp14 => ?_)
        have hwI11 := WX_f hWI11
        exact hK _ _ hWI11 (Fr.tr (Fr.tr Fr.rf hFI7 (by intro a k h; omega)) hFI11 (by intro a k h; omega))
    · skip
      have q3 : (1 : Int32).toInt = 1 := rfl
      have hc9 : ¬ (x3).toInt = (1 : Int32).toInt := fun z => hc9 (Int32.toInt_inj.mp z)
      have q4 : (-2 : Int32).toInt = -2 := rfl
      refine sfX11_refuse hX hW  (fun v14 I13 hWI13 hFI13 hp15 => ?_)
      have hwI13 := WX_f hWI13
      exact hK _ _ hWI13 (Fr.tr Fr.rf hFI13 (by intro a k h; omega))
theorem sfX11_status {G : jdG} {n : Nat} {Z : jdL} {J : jdJ} {K : Int32 → jdI → jdJ → Prop}  {I : jdI} {x1 : Int32} (hX : zX Z)  (hW : WX I)  (hK : ∀ (v : Int32), K v I J) : Cl G mX11_status (n + 3) 0 0 [.ref (gb G + 0), .int x1] Z I J (qi Z K) := by
  refine eX11_status hX ?_
  have hwI := WX_f hW
  refine ⟨fun hc1 => ?_, fun hc2 => ?_, fun hc3 => ?_, fun hc4 => ?_, fun hc5 => ?_, fun hc6 => ?_, fun hc7 => ?_, fun hc8 => ?_, fun hc9 => ?_, fun hc10 => ?_, fun hc11 => ?_⟩
  · skip
    refine ⟨fun hc12 => ?_, fun hc13 => ?_⟩
    · skip
      have q1 := i32_lo x1
      have q2 : (12 : Int32).toInt = 12 := rfl
      have hc12 := Int32.lt_iff_toInt_lt.mp hc12
      exact hK _ 
    · skip
      have q1 := i32_lo x1
      have q2 : (12 : Int32).toInt = 12 := rfl
      have hc13 := mt Int32.lt_iff_toInt_lt.mpr hc13
      refine ⟨fun hc14 => ?_, fun hc15 => ?_⟩
      · skip
        have q3 : (16 : Int32).toInt = 16 := rfl
        have hc14 := Int32.lt_iff_toInt_lt.mp hc14
        exact hK _ 
      · skip
        have q3 : (16 : Int32).toInt = 16 := rfl
        have hc15 := mt Int32.lt_iff_toInt_lt.mpr hc15
        have q4 : (10 : Int32).toInt = 10 := rfl
        have q5 := i32_sub x1 10 (by omega) (by omega)
        refine ⟨vp_of (by omega) (by omega), ?_⟩
        exact hK _ 
  · skip
    exact hK _ 
  · skip
    exact hK _ 
  · skip
    exact hK _ 
  · skip
    refine sfX9_countStrangers (zX_o0 hX) (by decide) hW  (fun v3  => ?_)
    exact hK _ 
  · skip
    exact hK _ 
  · skip
    exact hK _ 
  · skip
    exact hK _ 
  · skip
    exact hK _ 
  · skip
    exact hK _ 
  · skip
    refine sfX11_countHeld hX hW  (fun v5  => ?_)
    exact hK _ 
