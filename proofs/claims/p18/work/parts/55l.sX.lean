theorem sfX11_judge {G : jdG} {n : Nat} {Z : jdL} {J : jdJ} {K : Int32 → jdI → jdJ → Prop}  {I : jdI} {x1 : Int32} {x2 : Int32} (hX : zX Z)  (hW : WX I)  (hK : ∀ (v : Int32) (I2 : jdI), WX I2 → Fr (fun a k => (13 ≤ a ∧ a ≤ 24) ∨ a = 28) I I2 → K v I2 J) : Cl G mX11_judge (n + 9) 0 0 [.ref (gb G + 0), .int x1, .int x2] Z I J (qi Z K) := by
  refine eX11_judge hX ?_
  have hwI := WX_f hW
  have q1 := i32_lo x1
  have q2 := i32_lo x2
  refine sfX11_whyNotTold hX hW  (fun v2  hp1 => ?_)
  refine ⟨fun hc2 => ?_, fun hc3 => ?_⟩
  · skip
    have q3 := i32_lo v2
    have q4 : (0 : Int32).toInt = 0 := rfl
    have hc2 := Int32.toInt_inj.mpr hc2
    refine sfX11_firstWrong hX hW (by omega) (by omega) (fun v4 I3 hWI3 hFI3 => ?_)
    have hwI3 := WX_f hWI3
    exact hK _ _ hWI3 (Fr.tr Fr.rf hFI3 (by intro a k h; omega))
  · skip
    have q3 := i32_lo v2
    have q4 : (0 : Int32).toInt = 0 := rfl
    have hc3 : ¬ (v2).toInt = (0 : Int32).toInt := fun z => hc3 (Int32.toInt_inj.mp z)
    refine sfX11_refuse hX hW  (fun v6 I5 hWI5 hFI5 hp5 => ?_)
    have hwI5 := WX_f hWI5
    exact hK _ _ hWI5 (Fr.tr Fr.rf hFI5 (by intro a k h; omega))
theorem lX11_behind_48 {G : jdG} {n : Nat} {Z : jdL} {J : jdJ} {rc rs : Nat} {K : Int32 → jdI → jdJ → Prop}  {I0 : jdI} {x1 : Int32} {x2 : Int32} {x3 : Int32} (hX : zX Z)   (hK : ∀ (v : Int32) (I2 : jdI), WX I2 → Fr (fun a k => (13 ≤ a ∧ a ≤ 24) ∨ a = 28) I0 I2 → K v I2 J) : ∀ m : Nat, ∀ (I : jdI) (x4 : Int32) (x5 : Int32) (x6 : Int32), WX I → Fr (fun a k => (13 ≤ a ∧ a ≤ 24) ∨ a = 28) I0 I → (0 ≤ x6.toInt ∧ x6.toInt ≤ 8) → (0 ≤ x1.toInt ∧ x1.toInt < 8) → (x2.toInt ≤ 7) → (8) - x6.toInt < (m : Int) → Jd G mX11_behind (jdFm G (qi Z K)) (n + 10) rc rs 48 [(0, .ref (gb G + 0)), (1, .int x1), (2, .int x2), (3, .int x3), (4, .int x4), (5, .int x5), (6, .int x6)] [] Z I J := by
  intro m
  induction m with
  | zero =>
    intro I x4 x5 x6 hW hF hx6 hx1 hx2 hm
    have hwI := WX_f hW
    omega
  | succ m ih =>
    intro I x4 x5 x6 hW hF hx6 hx1 hx2 hm
    have hwI := WX_f hW
    refine rX11_behind_48 hX ?_
    refine ⟨fun hc1 => ?_, fun hc2 => ?_⟩
    · skip
      have q1 := i32_lo x2
      have q2 := i32_lo x6
      have hc1 := Int32.le_iff_toInt_le.mp hc1
      refine ⟨fun hc3 => ?_, fun hc4 => ?_⟩
      · skip
        have q3 := i32_lo x3
        have q4 : (0 : Int32).toInt = 0 := rfl
        have hc3 : ¬ (x3).toInt = (0 : Int32).toInt := fun z => hc3 (Int32.toInt_inj.mp z)
        refine sfX9_everybody (zX_o0 hX) (by decide) hW  (fun v2  hp5 => ?_)
        refine sfX8_countIn (zX_o3 hX) hW  (fun v4  => ?_)
        exact hK _ _ hW hF
      · skip
        have q3 := i32_lo x3
        have q4 : (0 : Int32).toInt = 0 := rfl
        have hc4 := Int32.toInt_inj.mpr hc4
        exact hK _ _ hW hF
    · skip
      have q1 := i32_lo x2
      have q2 := i32_lo x6
      have hc2 := mt Int32.le_iff_toInt_le.mpr hc2
      have q3 := i32_lo x1
      refine ⟨vp_of (by omega) (by omega), ?_⟩
      refine ⟨vp_of (by omega) (by omega), ?_⟩
      refine sfX8_acquaint (zX_o3 hX) hW  (fun I7 hWI7 hFI7 => ?_)
      have hwI7 := WX_f hWI7
      have q4 : (1 : Int32).toInt = 1 := rfl
      have q5 := i32_add x6 1 (by omega) (by omega)
      exact ih _ x4 (x5 &&& ((Int64.toInt32 (J ((29 + 2 * (Int32.toNatClampNeg x1)) + 1) (Int32.toNatClampNeg x6))) ^^^ (-1))) (x6 + 1) hWI7 (Fr.tr hF hFI7 (by intro a k h; omega)) (by omega) (by omega) (by omega) (by omega)
theorem sfX11_behind {G : jdG} {n : Nat} {Z : jdL} {J : jdJ} {K : Int32 → jdI → jdJ → Prop}  {I : jdI} {x1 : Int32} {x2 : Int32} {x3 : Int32} (hX : zX Z)  (hW : WX I)  (hK : ∀ (v : Int32) (I2 : jdI), WX I2 → Fr (fun a k => (13 ≤ a ∧ a ≤ 24) ∨ a = 28) I I2 → K v I2 J) : Cl G mX11_behind (n + 10) 0 0 [.ref (gb G + 0), .int x1, .int x2, .int x3] Z I J (qi Z K) := by
  refine eX11_behind hX ?_
  have hwI := WX_f hW
  refine ⟨fun hc1 => ?_, fun hc2 => ?_⟩
  · skip
    have q1 := i32_lo x3
    have q2 : (0 : Int32).toInt = 0 := rfl
    have hc1 := Int32.toInt_inj.mpr hc1
    have q3 := i32_lo x1
    have q4 := i32_lo x2
    refine sfX11_whyNotRidden hX hW  (fun v2 I1 hWI1 hFI1 hp3 => ?_)
    have hwI1 := WX_f hWI1
    refine ⟨fun hc4 => ?_, fun hc5 => ?_⟩
    · skip
      have q5 := i32_lo v2
      have hc4 := Int32.toInt_inj.mpr hc4
      refine sfX9_everybody (zX_o0 hX) (by decide) hWI1  (fun v4  hp6 => ?_)
      exact lX11_behind_48 hX   hK  (((8) - (0 : Int32).toInt).toNat + 1) _ v2 v4 0 hWI1 (Fr.tr Fr.rf hFI1 (by intro a k h; omega)) (by omega) (by omega) (by omega) (by omega)
    · skip
      have q5 := i32_lo v2
      have hc5 : ¬ (v2).toInt = (0 : Int32).toInt := fun z => hc5 (Int32.toInt_inj.mp z)
      refine sfX11_refuse hX hWI1  (fun v6 I5 hWI5 hFI5 hp7 => ?_)
      have hwI5 := WX_f hWI5
      exact hK _ _ hWI5 (Fr.tr (Fr.tr Fr.rf hFI1 (by intro a k h; omega)) hFI5 (by intro a k h; omega))
  · skip
    have q1 := i32_lo x3
    have q2 : (0 : Int32).toInt = 0 := rfl
    have hc2 : ¬ (x3).toInt = (0 : Int32).toInt := fun z => hc2 (Int32.toInt_inj.mp z)
    refine ⟨fun hc8 => ?_, fun hc9 => ?_⟩
    · skip
      have q3 : (1 : Int32).toInt = 1 := rfl
      have hc8 := Int32.toInt_inj.mpr hc8
      have q4 := i32_lo x1
      have q5 := i32_lo x2
      refine sfX11_whyNotRidden hX hW  (fun v8 I7 hWI7 hFI7 hp10 => ?_)
      have hwI7 := WX_f hWI7
      refine ⟨fun hc11 => ?_, fun hc12 => ?_⟩
      · skip
        have q6 := i32_lo v8
        have hc11 := Int32.toInt_inj.mpr hc11
        refine sfX9_everybody (zX_o0 hX) (by decide) hWI7  (fun v10  hp13 => ?_)
        exact lX11_behind_48 hX   hK  (((8) - (0 : Int32).toInt).toNat + 1) _ v8 v10 0 hWI7 (Fr.tr Fr.rf hFI7 (by intro a k h; omega)) (by omega) (by omega) (by omega) (by omega)
      · skip
        have q6 := i32_lo v8
        have hc12 : ¬ (v8).toInt = (0 : Int32).toInt := fun z => hc12 (Int32.toInt_inj.mp z)
        refine sfX11_refuse hX hWI7  (fun v12 I11 hWI11 hFI11 hp14 => ?_)
        have hwI11 := WX_f hWI11
        exact hK _ _ hWI11 (Fr.tr (Fr.tr Fr.rf hFI7 (by intro a k h; omega)) hFI11 (by intro a k h; omega))
    · skip
      have q3 : (1 : Int32).toInt = 1 := rfl
      have hc9 : ¬ (x3).toInt = (1 : Int32).toInt := fun z => hc9 (Int32.toInt_inj.mp z)
      have q4 : (-2 : Int32).toInt = -2 := rfl
      refine sfX11_refuse hX hW  (fun v14 I13 hWI13 hFI13 hp15 => ?_)
      have hwI13 := WX_f hWI13
      exact hK _ _ hWI13 (Fr.tr Fr.rf hFI13 (by intro a k h; omega))
theorem sfX11_status {G : jdG} {n : Nat} {Z : jdL} {J : jdJ} {K : Int32 → jdI → jdJ → Prop}  {I : jdI} {x1 : Int32} (hX : zX Z)  (hW : WX I)  (hK : ∀ (v : Int32), K v I J) : Cl G mX11_status (n + 3) 0 0 [.ref (gb G + 0), .int x1] Z I J (qi Z K) := by
  refine eX11_status hX ?_
  have hwI := WX_f hW
  refine ⟨fun hc1 => ?_, fun hc2 => ?_, fun hc3 => ?_, fun hc4 => ?_, fun hc5 => ?_, fun hc6 => ?_, fun hc7 => ?_, fun hc8 => ?_, fun hc9 => ?_, fun hc10 => ?_, fun hc11 => ?_⟩
  · skip
    refine ⟨fun hc12 => ?_, fun hc13 => ?_⟩
    · skip
      have q1 := i32_lo x1
      have q2 : (12 : Int32).toInt = 12 := rfl
      have hc12 := Int32.lt_iff_toInt_lt.mp hc12
      exact hK _ 
    · skip
      have q1 := i32_lo x1
      have q2 : (12 : Int32).toInt = 12 := rfl
      have hc13 := mt Int32.lt_iff_toInt_lt.mpr hc13
      refine ⟨fun hc14 => ?_, fun hc15 => ?_⟩
      · skip
        have q3 : (16 : Int32).toInt = 16 := rfl
        have hc14 := Int32.lt_iff_toInt_lt.mp hc14
        exact hK _ 
      · skip
        have q3 : (16 : Int32).toInt = 16 := rfl
        have hc15 := mt Int32.lt_iff_toInt_lt.mpr hc15
        have q4 : (10 : Int32).toInt = 10 := rfl
        have q5 := i32_sub x1 10 (by omega) (by omega)
        refine ⟨vp_of (by omega) (by omega), ?_⟩
        exact hK _ 
  · skip
    exact hK _ 
  · skip
    exact hK _ 
  · skip
    exact hK _ 
  · skip
    refine sfX9_countStrangers (zX_o0 hX) (by decide) hW  (fun v3  => ?_)
    exact hK _ 
  · skip
    exact hK _ 
  · skip
    exact hK _ 
  · skip
    exact hK _ 
  · skip
    exact hK _ 
  · skip
    exact hK _ 
  · skip
    refine sfX11_countHeld hX hW  (fun v5  => ?_)
    exact hK _ 

