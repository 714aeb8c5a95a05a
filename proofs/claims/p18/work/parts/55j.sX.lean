theorem lX11_head_6 {G : jdG} {n : Nat} {Z : jdL} {J : jdJ} {rc rs : Nat} {K : Int32 → jdI → jdJ → Prop}  {I0 : jdI}  (hX : zX Z) (hM : zMen Z)   (hK : ∀ (v : Int32) (I2 : jdI), WX I2 → Fr (fun a k => (13 ≤ a ∧ a ≤ 24) ∨ a = 28) I0 I2 → K v I2 J) : ∀ m : Nat, ∀ (I : jdI) (x1 : Int32) (x2 : Int32) (x3 : Int32), WX I → Fr (fun a k => (13 ≤ a ∧ a ≤ 24) ∨ a = 28) I0 I → (0 ≤ x3.toInt ∧ x3.toInt ≤ 8) → (8) - x3.toInt < (m : Int) → Jd G mX11_head (jdFm G (qi Z K)) (n + 9) rc rs 6 [(0, .ref (gb G + 0)), (1, .int x1), (2, .int x2), (3, .int x3)] [] Z I J := by
  intro m
  induction m with
  | zero =>
    intro I x1 x2 x3 hW hF hx3 hm
    have hwI := WX_f hW
    omega
  | succ m ih =>
    intro I x1 x2 x3 hW hF hx3 hm
    have hwI := WX_f hW
    refine rX11_head_6 hX ?_
    refine ⟨fun hc1 => ?_, fun hc2 => ?_⟩
    · skip
      have q1 : (8 : Int32).toInt = 8 := rfl
      have q2 := i32_lo x3
      have hc1 := Int32.le_iff_toInt_le.mp hc1
      refine ⟨fun hc3 => ?_, fun hc4 => ?_⟩
      · skip
        have q3 := i32_lo x1
        have q4 : (-1 : Int32).toInt = -1 := rfl
        have hc3 : ¬ (x1).toInt = ((-1) : Int32).toInt := fun z => hc3 (Int32.toInt_inj.mp z)
        exact hK _ _ hW hF
      · skip
        have q3 := i32_lo x1
        have q4 : (-1 : Int32).toInt = -1 := rfl
        have hc4 := Int32.toInt_inj.mpr hc4
        have q5 : (-5 : Int32).toInt = -5 := rfl
        refine sfX11_refuse hX hW  (fun v2 I1 hWI1 hFI1 hp5 => ?_)
        have hwI1 := WX_f hWI1
        exact hK _ _ hWI1 (Fr.tr hF hFI1 (by intro a k h; omega))
    · skip
      have q1 : (8 : Int32).toInt = 8 := rfl
      have q2 := i32_lo x3
      have hc2 := mt Int32.le_iff_toInt_le.mpr hc2
      refine ⟨vp_of (by omega) (by omega), ?_⟩
      refine ⟨fun hc6 => ?_, ?_⟩
      · skip
        have hzhc6 := mk_none hc6
        have q3 : (1 : Int32).toInt = 1 := rfl
        have q4 := i32_add x3 1 (by omega) (by omega)
        exact ih _ x1 x2 (x3 + 1) hW hF (by omega) (by omega)
      · skip
        intro w5 hc8
        have hzhc8 := mk_some hc8
        have hrhc8 := ckI_r (Z.1 w5)
        refine sfX11_think hX (hM _ (by simp only [tn_eq]; omega) _ hc8) hW  (fun I6 hWI6 hFI6 => ?_)
        have hwI6 := WX_f hWI6
        refine sfX3_waitingOfAll (zX_o4 hX) (zX_o0 hX) (by decide) hWI6  (fun v9  => ?_)
        refine ⟨fun hc11 => ?_, fun hc12 => ?_⟩
        · skip
          have q3 := i32_lo x1
          have q4 : (-1 : Int32).toInt = -1 := rfl
          have hc11 := Int32.toInt_inj.mpr hc11
          have q5 : (1 : Int32).toInt = 1 := rfl
          have q6 := i32_add x3 1 (by omega) (by omega)
          exact ih _ x3 v9 (x3 + 1) hWI6 (Fr.tr hF hFI6 (by intro a k h; omega)) (by omega) (by omega)
        · skip
          have q3 := i32_lo x1
          have q4 : (-1 : Int32).toInt = -1 := rfl
          have hc12 : ¬ (x1).toInt = ((-1) : Int32).toInt := fun z => hc12 (Int32.toInt_inj.mp z)
          refine ⟨fun hc13 => ?_, fun hc14 => ?_⟩
          · skip
            have q5 := i32_lo x2
            have q6 := i32_lo v9
            have hc13 := Int32.le_iff_toInt_le.mp hc13
            have q7 : (1 : Int32).toInt = 1 := rfl
            have q8 := i32_add x3 1 (by omega) (by omega)
            exact ih _ x1 x2 (x3 + 1) hWI6 (Fr.tr hF hFI6 (by intro a k h; omega)) (by omega) (by omega)
          · skip
            have q5 := i32_lo x2
            have q6 := i32_lo v9
            have hc14 := mt Int32.le_iff_toInt_le.mpr hc14
            have q7 : (1 : Int32).toInt = 1 := rfl
            have q8 := i32_add x3 1 (by omega) (by omega)
            exact ih _ x3 v9 (x3 + 1) hWI6 (Fr.tr hF hFI6 (by intro a k h; omega)) (by omega) (by omega)
theorem sfX11_head {G : jdG} {n : Nat} {Z : jdL} {J : jdJ} {K : Int32 → jdI → jdJ → Prop}  {I : jdI}  (hX : zX Z) (hM : zMen Z)  (hW : WX I)  (hK : ∀ (v : Int32) (I2 : jdI), WX I2 → Fr (fun a k => (13 ≤ a ∧ a ≤ 24) ∨ a = 28) I I2 → K v I2 J) : Cl G mX11_head (n + 9) 0 0 [.ref (gb G + 0)] Z I J (qi Z K) := by
  refine eX11_head hX ?_
  have hwI := WX_f hW
  have q1 : (0 : Int32).toInt = 0 := rfl
  exact lX11_head_6 hX hM   hK  (((8) - (0 : Int32).toInt).toNat + 1) _ (-1) 0 0 hW Fr.rf (by omega) (by omega)
theorem lX11_days_70 {G : jdG} {n : Nat} {Z : jdL} {J : jdJ} {rc rs : Nat} {K : Int32 → jdI → jdJ → Prop}  {I0 : jdI} {mo33 : Nat} {x1 : Int32} {u2 : Nat} (hX : zX Z) (hM : zMen Z)  (hu2m : zMan Z u2)  (hK : ∀ (v : Int32) (I2 : jdI), WX I2 → Fr (fun a k => (13 ≤ a ∧ a ≤ 24) ∨ a = 28) I0 I2 → K v I2 J) (hO33 : ∀ (I : jdI) (x3 : Int32), WX I → Fr (fun a k => (13 ≤ a ∧ a ≤ 24) ∨ a = 28) I0 I → (0 ≤ x3.toInt ∧ x3.toInt ≤ 30) → (30) - x3.toInt < (mo33 : Int) → Jd G mX11_days (jdFm G (qi Z K)) (n + 8) rc rs 33 [(0, .ref (gb G + 0)), (1, .int x1), (2, .ref (gb G + u2)), (3, .int x3)] [] Z I J) : ∀ m : Nat, ∀ (I : jdI) (x3 : Int32) (x4 : Int32), WX I → Fr (fun a k => (13 ≤ a ∧ a ≤ 24) ∨ a = 28) I0 I → (0 ≤ x4.toInt ∧ x4.toInt ≤ 7) → (0 ≤ x3.toInt ∧ x3.toInt < 30) → (30) - x3.toInt ≤ (mo33 : Int) → (7) - x4.toInt < (m : Int) → Jd G mX11_days (jdFm G (qi Z K)) (n + 8) rc rs 70 [(0, .ref (gb G + 0)), (1, .int x1), (2, .ref (gb G + u2)), (3, .int x3), (4, .int x4)] [] Z I J := by
  intro m
  induction m with
  | zero =>
    intro I x3 x4 hW hF hx4 hx3 hmo33 hm
    have hwI := WX_f hW
    omega
  | succ m ih =>
    intro I x3 x4 hW hF hx4 hx3 hmo33 hm
    have hwI := WX_f hW
    refine rX11_days_70 hX ?_
    refine ⟨fun hc1 => ?_, fun hc2 => ?_⟩
    · skip
      have q1 := i32_lo (I 20 4)
      have q2 := i32_lo x4
      have hc1 := Int32.le_iff_toInt_le.mp hc1
      have q3 := i32_lo x3
      have q4 : (1 : Int32).toInt = 1 := rfl
      have q5 := i32_add x3 1 (by omega) (by omega)
      exact hO33 _ (x3 + 1) hW hF (by omega) (by omega)
    · skip
      have q1 := i32_lo (I 20 4)
      have q2 := i32_lo x4
      have hc2 := mt Int32.le_iff_toInt_le.mpr hc2
      refine sfX3_coachAt (zX_o4 hX) hW  (fun v2  => ?_)
      refine sfX8_acquaint (zX_o3 hX) hW  (fun I3 hWI3 hFI3 => ?_)
      have hwI3 := WX_f hWI3
      have q3 := i32_lo x3
      have q4 : (1 : Int32).toInt = 1 := rfl
      have q5 := i32_add x4 1 (by omega) (by omega)
      exact ih _ x3 (x4 + 1) hWI3 (Fr.tr hF hFI3 (by intro a k h; omega)) (by omega) (by omega) (by omega) (by omega)
theorem lX11_days_33 {G : jdG} {n : Nat} {Z : jdL} {J : jdJ} {rc rs : Nat} {K : Int32 → jdI → jdJ → Prop}  {I0 : jdI} {x1 : Int32} {u2 : Nat} (hX : zX Z) (hM : zMen Z)  (hu2m : zMan Z u2)  (hK : ∀ (v : Int32) (I2 : jdI), WX I2 → Fr (fun a k => (13 ≤ a ∧ a ≤ 24) ∨ a = 28) I0 I2 → K v I2 J) : ∀ m : Nat, ∀ (I : jdI) (x3 : Int32), WX I → Fr (fun a k => (13 ≤ a ∧ a ≤ 24) ∨ a = 28) I0 I → (0 ≤ x3.toInt ∧ x3.toInt ≤ 30) → (30) - x3.toInt < (m : Int) → Jd G mX11_days (jdFm G (qi Z K)) (n + 8) rc rs 33 [(0, .ref (gb G + 0)), (1, .int x1), (2, .ref (gb G + u2)), (3, .int x3)] [] Z I J := by
  intro m
  induction m with
  | zero =>
    intro I x3 hW hF hx3 hm
    have hwI := WX_f hW
    omega
  | succ m ih =>
    intro I x3 hW hF hx3 hm
    have hwI := WX_f hW
    refine rX11_days_33 hX ?_
    refine ⟨fun hc1 => ?_, fun hc2 => ?_⟩
    · skip
      have q1 : (30 : Int32).toInt = 30 := rfl
      have q2 := i32_lo x3
      have hc1 := Int32.le_iff_toInt_le.mp hc1
      exact hK _ _ hW hF
    · skip
      have q1 : (30 : Int32).toInt = 30 := rfl
      have q2 := i32_lo x3
      have hc2 := mt Int32.le_iff_toInt_le.mpr hc2
      refine sfX3_pass (zX_o4 hX) (zX_o0 hX) (zX_o3 hX) (by decide) hu2m hW  (fun I1 hWI1 hFI1 => ?_)
      have hwI1 := WX_f hWI1
      refine ⟨fun hc4 => ?_, fun hc5 => ?_⟩
      · skip
        have q3 := i32_lo (I1 20 4)
        have q4 : (0 : Int32).toInt = 0 := rfl
        have hc4 : ¬ ((I1 20 4)).toInt = (0 : Int32).toInt := fun z => hc4 (Int32.toInt_inj.mp z)
        exact lX11_days_70 hX hM  hu2m  hK ih (((7) - (0 : Int32).toInt).toNat + 1) _ x3 0 hWI1 (Fr.tr hF hFI1 (by intro a k h; omega)) (by omega) (by omega) (by omega) (by omega)
      · skip
        have q3 := i32_lo (I1 20 4)
        have q4 : (0 : Int32).toInt = 0 := rfl
        have hc5 := Int32.toInt_inj.mpr hc5
        exact hK _ _ hWI1 (Fr.tr hF hFI1 (by intro a k h; omega))
theorem sfX11_days {G : jdG} {n : Nat} {Z : jdL} {J : jdJ} {K : Int32 → jdI → jdJ → Prop}  {I : jdI} {x1 : Int32} (hX : zX Z) (hM : zMen Z)  (hW : WX I)  (hK : ∀ (v : Int32) (I2 : jdI), WX I2 → Fr (fun a k => (13 ≤ a ∧ a ≤ 24) ∨ a = 28) I I2 → K v I2 J) : Cl G mX11_days (n + 8) 0 0 [.ref (gb G + 0), .int x1] Z I J (qi Z K) := by
  refine eX11_days hX ?_
  have hwI := WX_f hW
  refine sfX11_manIn hX hM hW (fun o hp1 => ?_)
  refine ⟨fun hc2 => ?_, ?_⟩
  · skip
    refine sfX11_whyNoMan hX hW  (fun v4  hp4 => ?_)
    have q1 := i32_lo v4
    refine sfX11_refuse hX hW  (fun v6 I5 hWI5 hFI5 hp5 => ?_)
    have hwI5 := WX_f hWI5
    exact hK _ _ hWI5 (Fr.tr Fr.rf hFI5 (by intro a k h; omega))
  · skip
    intro w2 hc6
    refine sfX8_load (zX_o3 hX) (zX_o0 hX) (by decide) hW  (fun I7 hWI7 hFI7 => ?_)
    have hwI7 := WX_f hWI7
    have q1 : (0 : Int32).toInt = 0 := rfl
    exact lX11_days_33 hX hM  (hp1 _ hc6)  hK  (((30) - (0 : Int32).toInt).toNat + 1) _ 0 hWI7 (Fr.tr Fr.rf hFI7 (by intro a k h; omega)) (by omega) (by omega)
