theorem sfX11_manIn {G : jdG} {n : Nat} {Z : jdL} {J : jdJ} {K : Option Nat → jdI → jdJ → Prop} {I : jdI} {x1 : Int32} (hX : zX Z) (hM : zMen Z) (hW : WX I) (hK : ∀ o : Option Nat, (∀ w, o = some w → zMan Z w) → K o I J) : Cl G mX11_manIn (n + 1) 0 0 [.ref (gb G + 0), .int x1] Z I J (qm G Z K) := by
  refine eX11_manIn hX ?_
  refine sfX11_isShelf hW (fun v2 hp => ?_)
  refine ⟨fun hc => ⟨none, rfl, rfl, hK _ (fun w h => absurd h (by simp))⟩, fun hc => ?_⟩
  have hc : ¬ (v2).toInt = (0 : Int32).toInt := fun z => hc (Int32.toInt_inj.mp z)
  have q0 : (0 : Int32).toInt = 0 := rfl
  refine ⟨vp_of (by omega) (by omega), ?_⟩
  refine ⟨fun hn => ⟨none, rfl, rfl, hK _ (fun w h => absurd h (by simp))⟩, fun w5 hw => ?_⟩
  refine ⟨some w5, rfl, rfl, hK _ (fun w h => ?_)⟩
  cases h
  exact hM _ (by rw [tn_eq]; omega) _ hw
theorem lX11_countHeld_4 {G : jdG} {n : Nat} {Z : jdL} {J : jdJ} {rc rs : Nat} {K : Int32 → jdI → jdJ → Prop}  {I : jdI}  (hX : zX Z)  (hW : WX I)  (hK : ∀ (v : Int32), K v I J) : ∀ m : Nat, ∀ (x1 : Int32) (x2 : Int32), (0 ≤ x2.toInt ∧ x2.toInt ≤ 8) → (8) - x2.toInt < (m : Int) → Jd G mX11_countHeld (jdFm G (qi Z K)) (n + 1) rc rs 4 [(0, .ref (gb G + 0)), (1, .int x1), (2, .int x2)] [] Z I J := by
  intro m
  induction m with
  | zero =>
    intro x1 x2 hx2 hm
    have hwI := WX_f hW
    omega
  | succ m ih =>
    intro x1 x2 hx2 hm
    have hwI := WX_f hW
    refine rX11_countHeld_4 hX ?_
    refine ⟨fun hc1 => ?_, fun hc2 => ?_⟩
    · skip
      have q1 : (8 : Int32).toInt = 8 := rfl
      have q2 := i32_lo x2
      have hc1 := Int32.le_iff_toInt_le.mp hc1
      exact hK _ 
    · skip
      have q1 : (8 : Int32).toInt = 8 := rfl
      have q2 := i32_lo x2
      have hc2 := mt Int32.le_iff_toInt_le.mpr hc2
      refine ⟨vp_of (by omega) (by omega), ?_⟩
      refine ⟨fun hc3 => ?_, ?_⟩
      · skip
        have hzhc3 := mk_none hc3
        refine ⟨vp_of (by omega) (by omega), ?_⟩
        refine sfX6_isRow (zX_shelf hX (by simp only [tn_eq]; omega)) (by simp only [tn_eq]; omega) hW  (fun v6  hp5 => ?_)
        refine ⟨fun hc6 => ?_, fun hc7 => ?_⟩
        · skip
          have q3 := i32_lo v6
          have q4 : (0 : Int32).toInt = 0 := rfl
          have hc6 := Int32.toInt_inj.mpr hc6
          have q5 : (1 : Int32).toInt = 1 := rfl
          have q6 := i32_add x2 1 (by omega) (by omega)
          exact ih x1 (x2 + 1) (by omega) (by omega)
        · skip
          have q3 := i32_lo v6
          have q4 : (0 : Int32).toInt = 0 := rfl
          have hc7 : ¬ (v6).toInt = (0 : Int32).toInt := fun z => hc7 (Int32.toInt_inj.mp z)
          have q5 : (1 : Int32).toInt = 1 := rfl
          have q6 := i32_add x2 1 (by omega) (by omega)
          exact ih (x1 + 1) (x2 + 1) (by omega) (by omega)
      · skip
        intro w3 hc8
        have hzhc8 := mk_some hc8
        have hrhc8 := ckI_r (Z.1 w3)
        have q3 : (1 : Int32).toInt = 1 := rfl
        have q4 := i32_add x2 1 (by omega) (by omega)
        exact ih (x1 + 1) (x2 + 1) (by omega) (by omega)
theorem sfX11_countHeld {G : jdG} {n : Nat} {Z : jdL} {J : jdJ} {K : Int32 → jdI → jdJ → Prop}  {I : jdI}  (hX : zX Z)  (hW : WX I)  (hK : ∀ (v : Int32), K v I J) : Cl G mX11_countHeld (n + 1) 0 0 [.ref (gb G + 0)] Z I J (qi Z K) := by
  refine eX11_countHeld hX ?_
  have hwI := WX_f hW
  have q1 : (0 : Int32).toInt = 0 := rfl
  exact lX11_countHeld_4 hX  hW  hK  (((8) - (0 : Int32).toInt).toNat + 1) 0 0 (by omega) (by omega)
theorem sfX11_think {G : jdG} {n : Nat} {Z : jdL} {J : jdJ} {K : jdI → jdJ → Prop}  {I : jdI} {u1 : Nat} (hX : zX Z) (hu1m : zMan Z u1) (hW : WX I)  (hK : ∀ (I2 : jdI), WX I2 → Fr (fun a k => 13 ≤ a ∧ a ≤ 24) I I2 → K I2 J) : Cl G mX11_think (n + 8) 0 0 [.ref (gb G + 0), .ref (gb G + u1)] Z I J (qv Z K) := by
  refine eX11_think hX ?_
  have hwI := WX_f hW
  refine sfX8_load (zX_o3 hX) (zX_o0 hX) (by decide) hW  (fun I1 hWI1 hFI1 => ?_)
  have hwI1 := WX_f hWI1
  refine sfX3_pass (zX_o4 hX) (zX_o0 hX) (zX_o3 hX) (by decide) hu1m hWI1  (fun I3 hWI3 hFI3 => ?_)
  have hwI3 := WX_f hWI3
  exact hK _ hWI3 (Fr.tr (Fr.tr Fr.rf hFI1 (by intro a k h; omega)) hFI3 (by intro a k h; omega))
theorem sfX11_whyNotTold {G : jdG} {n : Nat} {Z : jdL} {J : jdJ} {K : Int32 → jdI → jdJ → Prop}  {I : jdI} {x1 : Int32} {x2 : Int32} (hX : zX Z)  (hW : WX I)  (hK : ∀ (v : Int32), ((v.toInt = 0 ∧ (0 ≤ x1.toInt ∧ x1.toInt < 8) ∧ 0 ≤ x2.toInt ∧ x2.toInt ≤ 7) ∨ ¬ v.toInt = 0) → K v I J) : Cl G mX11_whyNotTold (n + 2) 0 0 [.ref (gb G + 0), .int x1, .int x2] Z I J (qi Z K) := by
  refine eX11_whyNotTold hX ?_
  have hwI := WX_f hW
  have q1 := i32_lo x1
  refine sfX11_isShelf  hW  (fun v2  hp1 => ?_)
  refine ⟨fun hc2 => ?_, fun hc3 => ?_⟩
  · skip
    have q2 := i32_lo v2
    have q3 : (0 : Int32).toInt = 0 := rfl
    have hc2 := Int32.toInt_inj.mpr hc2
    have q4 : (-2 : Int32).toInt = -2 := rfl
    exact hK _  (by omega)
  · skip
    have q2 := i32_lo v2
    have q3 : (0 : Int32).toInt = 0 := rfl
    have hc3 : ¬ (v2).toInt = (0 : Int32).toInt := fun z => hc3 (Int32.toInt_inj.mp z)
    refine ⟨fun hc4 => ?_, fun hc5 => ?_⟩
    · skip
      have q4 := i32_lo x2
      have hc4 := Int32.lt_iff_toInt_lt.mp hc4
      have q5 : (-2 : Int32).toInt = -2 := rfl
      exact hK _  (by omega)
    · skip
      have q4 := i32_lo x2
      have hc5 := mt Int32.lt_iff_toInt_lt.mpr hc5
      refine ⟨fun hc6 => ?_, fun hc7 => ?_⟩
      · skip
        have q5 : (7 : Int32).toInt = 7 := rfl
        have hc6 := Int32.le_iff_toInt_le.mp hc6
        refine sfX11_holdsRow hX hW  (fun v4  hp8 => ?_)
        refine ⟨fun hc9 => ?_, fun hc10 => ?_⟩
        · skip
          have q6 := i32_lo v4
          have hc9 : ¬ (v4).toInt = (0 : Int32).toInt := fun z => hc9 (Int32.toInt_inj.mp z)
          refine ⟨vp_of (by omega) (by omega), ?_⟩
          refine ⟨fun hc11 => ?_, fun hc12 => ?_⟩
          · skip
            have hc11 := Int32.le_iff_toInt_le.mp hc11
            exact hK _  (by omega)
          · skip
            have hc12 := mt Int32.le_iff_toInt_le.mpr hc12
            have q7 : (-2 : Int32).toInt = -2 := rfl
            exact hK _  (by omega)
        · skip
          have q6 := i32_lo v4
          have hc10 := Int32.toInt_inj.mpr hc10
          refine sfX11_whyNoRow hX hW  (fun v7  hp13 => ?_)
          have q7 := i32_lo v7
          exact hK _  (by omega)
      · skip
        have q5 : (7 : Int32).toInt = 7 := rfl
        have hc7 := mt Int32.le_iff_toInt_le.mpr hc7
        have q6 : (-2 : Int32).toInt = -2 := rfl
        exact hK _  (by omega)
theorem lX11_firstWrong_16 {G : jdG} {n : Nat} {Z : jdL} {J : jdJ} {rc rs : Nat} {K : Int32 → jdI → jdJ → Prop}  {I0 : jdI} {x1 : Int32} {x2 : Int32} (hX : zX Z)  (hx1 : 0 ≤ x1.toInt ∧ x1.toInt < 8) (hx2 : x2.toInt ≤ 7) (hK : ∀ (v : Int32) (I2 : jdI), WX I2 → Fr (fun a k => 13 ≤ a ∧ a ≤ 24) I0 I2 → K v I2 J) : ∀ m : Nat, ∀ (I : jdI) (x3 : Int32) (x4 : Int32), WX I → Fr (fun a k => 13 ≤ a ∧ a ≤ 24) I0 I → (0 ≤ x4.toInt ∧ x4.toInt ≤ 8) → (8) - x4.toInt < (m : Int) → Jd G mX11_firstWrong (jdFm G (qi Z K)) (n + 8) rc rs 16 [(0, .ref (gb G + 0)), (1, .int x1), (2, .int x2), (3, .int x3), (4, .int x4)] [] Z I J := by
  intro m
  induction m with
  | zero =>
    intro I x3 x4 hW hF hx4 hm
    have hwI := WX_f hW
    omega
  | succ m ih =>
    intro I x3 x4 hW hF hx4 hm
    have hwI := WX_f hW
    refine rX11_firstWrong_16 hX ?_
    refine ⟨fun hc1 => ?_, fun hc2 => ?_⟩
    · skip
      have q1 := i32_lo x2
      have q2 := i32_lo x4
      have hc1 := Int32.le_iff_toInt_le.mp hc1
      exact hK _ _ hW hF
    · skip
      have q1 := i32_lo x2
      have q2 := i32_lo x4
      have hc2 := mt Int32.le_iff_toInt_le.mpr hc2
      have q3 := i32_lo x1
      refine ⟨vp_of (by omega) (by omega), ?_⟩
      refine ⟨vp_of (by omega) (by omega), ?_⟩
      refine ⟨fun hc3 => ?_, fun hc4 => ?_⟩
      · skip
        have q4 : (0 : Int64).toInt = 0 := rfl
        have q5 := lg_f (J ((29 + 2 * (Int32.toNatClampNeg x1)) + 1) (Int32.toNatClampNeg x4)) 0
        have q6 : (0 : Int32).toInt = 0 := rfl
        have hc3 := Int32.lt_iff_toInt_lt.mp hc3
        exact hK _ _ hW hF
      · skip
        have q4 : (0 : Int64).toInt = 0 := rfl
        have q5 := lg_f (J ((29 + 2 * (Int32.toNatClampNeg x1)) + 1) (Int32.toNatClampNeg x4)) 0
        have q6 : (0 : Int32).toInt = 0 := rfl
        have hc4 := mt Int32.lt_iff_toInt_lt.mpr hc4
        refine sfX9_everybody (zX_o0 hX) (by decide) hW  (fun v4  hp5 => ?_)
        refine ⟨fun hc6 => ?_, fun hc7 => ?_⟩
        · skip
          refine sfX8_isOne (zX_o3 hX) hW  (fun v6  hp8 => ?_)
          refine ⟨fun hc9 => ?_, fun hc10 => ?_⟩
          · skip
            have q7 := i32_lo v6
            have hc9 := Int32.toInt_inj.mpr hc9
            exact hK _ _ hW hF
          · skip
            have q7 := i32_lo v6
            have hc10 : ¬ (v6).toInt = (0 : Int32).toInt := fun z => hc10 (Int32.toInt_inj.mp z)
            refine ⟨fun hc11 => ?_, fun hc12 => ?_⟩
            · skip
              have q8 : (1 : Int32).toInt = 1 := rfl
              have q9 := i32_add x4 1 (by omega) (by omega)
              exact ih _ (x3 ||| (Int64.toInt32 (J ((29 + 2 * (Int32.toNatClampNeg x1)) + 1) (Int32.toNatClampNeg x4)))) (x4 + 1) hW hF (by omega) (by omega)
            · skip
              exact hK _ _ hW hF
        · skip
          exact hK _ _ hW hF
theorem sfX11_firstWrong {G : jdG} {n : Nat} {Z : jdL} {J : jdJ} {K : Int32 → jdI → jdJ → Prop}  {I : jdI} {x1 : Int32} {x2 : Int32} (hX : zX Z)  (hW : WX I) (hx1 : 0 ≤ x1.toInt ∧ x1.toInt < 8) (hx2 : x2.toInt ≤ 7) (hK : ∀ (v : Int32) (I2 : jdI), WX I2 → Fr (fun a k => 13 ≤ a ∧ a ≤ 24) I I2 → K v I2 J) : Cl G mX11_firstWrong (n + 8) 0 0 [.ref (gb G + 0), .int x1, .int x2] Z I J (qi Z K) := by
  refine eX11_firstWrong hX ?_
  have hwI := WX_f hW
  refine sfX8_load (zX_o3 hX) (zX_o0 hX) (by decide) hW  (fun I1 hWI1 hFI1 => ?_)
  have hwI1 := WX_f hWI1
  have q1 : (0 : Int32).toInt = 0 := rfl
  exact lX11_firstWrong_16 hX  hx1 hx2 hK  (((8) - (0 : Int32).toInt).toNat + 1) _ 0 0 hWI1 (Fr.tr Fr.rf hFI1 (by intro a k h; omega)) (by omega) (by omega)
