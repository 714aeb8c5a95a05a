theorem narrow_b {v : Int32} (h : v.toInt = 0 ∨ v.toInt = 1) : narrow .boolean (.int v) = .int v := by
  rcases h with h | h
  · have e : v = 0 := Int32.toInt_inj.mp h
    rw [e]
    decide
  · have e : v = 1 := Int32.toInt_inj.mp h
    rw [e]
    decide
theorem fits_b {v : Int32} (h : v.toInt = 0 ∨ v.toInt = 1) : fits .boolean (.int v) = true := by
  rcases h with h | h
  · have e : v = 0 := Int32.toInt_inj.mp h
    rw [e]
    decide
  · have e : v = 1 := Int32.toInt_inj.mp h
    rw [e]
    decide
def sl (i : Nat) : Int32 := Int32.ofNat (sLen.getD (i % 7) 0)
def sc (i k : Nat) : Int32 := (sByt.getD (i % 7) []).getD k 0
theorem sl_all : ∀ j : Fin 7, (3 ≤ (Int32.ofNat (sLen.getD j.val 0)).toInt ∧ (Int32.ofNat (sLen.getD j.val 0)).toInt ≤ 7) ∧ (Int32.ofNat (sLen.getD j.val 0) >>> ((0 : Int32) &&& 31)) = Int32.ofNat (sLen.getD j.val 0) ∧ (Int32.ofNat (sLen.getD j.val 0)).toInt = (sLen.getD j.val 0 : Nat) := by decide +kernel
theorem sl_r (i : Nat) : 3 ≤ (sl i).toInt ∧ (sl i).toInt ≤ 7 := (sl_all ⟨i % 7, Nat.mod_lt _ (by omega)⟩).1
theorem sl_e (i : Nat) : (Int32.ofNat (sLen.getD (i % 7) 0) >>> ((0 : Int32) &&& 31)) = sl i := (sl_all ⟨i % 7, Nat.mod_lt _ (by omega)⟩).2.1
theorem sl_n (i : Nat) : (sl i).toInt = (sLen.getD (i % 7) 0 : Nat) := (sl_all ⟨i % 7, Nat.mod_lt _ (by omega)⟩).2.2
theorem sc_all : ∀ j : Fin 7, ∀ k : Fin 8, ((((((sByt.getD j.val []).getD k.val 0) &&& 255).toUInt32 % 65536).toInt32) = (sByt.getD j.val []).getD k.val 0) ∧ (match narrow .char (.int ((sByt.getD j.val []).getD k.val 0)) with | .int w => w == (sByt.getD j.val []).getD k.val 0 | _ => false) = true := by decide +kernel
theorem sc_c (i k : Nat) (hk : k < 8) : ((((((sByt.getD (i % 7) []).getD k 0) &&& 255).toUInt32 % 65536).toInt32) = sc i k) ∧ narrow .char (.int (sc i k)) = .int (sc i k) := by
  have h := sc_all ⟨i % 7, Nat.mod_lt _ (by omega)⟩ ⟨k, hk⟩
  refine ⟨h.1, ?_⟩
  have h2 := h.2
  show narrow .char (.int ((sByt.getD (i % 7) []).getD k 0)) = .int ((sByt.getD (i % 7) []).getD k 0)
  revert h2
  generalize (sByt.getD (i % 7) []).getD k 0 = w
  intro h2
  split at h2
  · rename_i w2 e
    rw [e, eq_of_beq h2]
  · cases h2
theorem sfJ0_length_8abf5 {G : jdG} {n : Nat} {Z : jdL} {J : jdJ} {K : Int32 → jdI → jdJ → Prop} {I : jdI} {sA sV : Nat → Nat} {i : Nat} (hG : gOK G sA sV) (hi : i < 14) (hK : ∀ v : Int32, v = sl i → K v I J) : Cl G mJ0_length_8abf5 (n + 1) 0 0 [.ref (sA i)] Z I J (qi Z K) :=
  v_J0_length hG hi (hK _ (sl_e i))
theorem sfJ0_charAt_5068e {G : jdG} {n : Nat} {Z : jdL} {J : jdJ} {K : Int32 → jdI → jdJ → Prop} {I : jdI} {sA sV : Nat → Nat} {i : Nat} {x : Int32} (hG : gOK G sA sV) (hi : i < 14) (hx : 0 ≤ x.toInt ∧ x.toInt < (sl i).toInt) (hK : ∀ v : Int32, v = sc i x.toNatClampNeg → K v I J) : Cl G mJ0_charAt_5068e (n + 3) 0 0 [.ref (sA i), .int x] Z I J (qi Z K) := by
  have h1 := sl_r i
  have h2 := sl_n i
  have h3 := sc_c i x.toNatClampNeg (by rw [tn_eq]; omega)
  exact v_J0_charAt hG hi (vp_of hx.1 (by omega)) (Int32.lt_iff_toInt_lt.mpr hx.2) h3.1 h3.2 (hK _ rfl)
theorem sfX5_isFull {G : jdG} {n : Nat} {Z : jdL} {J : jdJ} {K : Int32 → jdI → jdJ → Prop}  {I : jdI}  (ht : zScribe Z 25)  (hW : WX I)  (hK : ∀ (v : Int32), ((v.toInt = 0 ∧ (I 25 1).toInt < 250) ∨ (v.toInt = 1 ∧ (I 25 1).toInt = 250)) → K v I J) : Cl G mX5_isFull n 0 0 [.ref (gb G + 25)] Z I J (qi Z K) := by
  refine eX5_isFull ht ?_
  have hwI := WX_f hW
  refine ⟨fun hc1 => ?_, fun hc2 => ?_⟩
  · skip
    have q1 := i32_lo (I 25 1)
    have q2 : (250 : Int32).toInt = 250 := rfl
    have hc1 := Int32.lt_iff_toInt_lt.mp hc1
    have q3 : (0 : Int32).toInt = 0 := rfl
    exact hK _  (by omega)
  · skip
    have q1 := i32_lo (I 25 1)
    have q2 : (250 : Int32).toInt = 250 := rfl
    have hc2 := mt Int32.lt_iff_toInt_lt.mpr hc2
    have q3 : (1 : Int32).toInt = 1 := rfl
    exact hK _  (by omega)
theorem sfX5_append {G : jdG} {n : Nat} {Z : jdL} {J : jdJ} {K : jdI → jdJ → Prop}  {I : jdI} {x1 : Int32} (ht : zScribe Z 25)  (hW : WX I)  (hK : ∀ (I2 : jdI), WX I2 → Fr (fun a k => 25 ≤ a ∧ a ≤ 26) I I2 → ((I 25 1).toInt < 250 → (I2 25 1).toInt = (I 25 1).toInt + 1) → K I2 J) : Cl G mX5_append n 0 0 [.ref (gb G + 25), .int x1] Z I J (qv Z K) := by
  refine eX5_append ht ?_
  have hwI := WX_f hW
  refine ⟨fun hc1 => ?_, fun hc2 => ?_⟩
  · skip
    have q1 : (250 : Int32).toInt = 250 := rfl
    have q2 := i32_lo (I 25 1)
    have hc1 := Int32.le_iff_toInt_le.mp hc1
    exact hK _ hW Fr.rf (by omega)
  · skip
    have q1 : (250 : Int32).toInt = 250 := rfl
    have q2 := i32_lo (I 25 1)
    have hc2 := mt Int32.le_iff_toInt_le.mpr hc2
    refine ⟨vp_of (by omega) (by omega), ?_⟩
    have q3 : (1 : Int32).toInt = 1 := rfl
    have q4 := i32_add (I 25 1) 1 (by omega) (by omega)
    have hr3 : (((uI (uI I (25 + 1) (Int32.toNatClampNeg (I 25 1)) x1) 25 1 ((I 25 1) + 1))) 25 1).toInt = (((I 25 1) + 1)).toInt := congrArg Int32.toInt (uI_ss _ _ _ _)
    exact hK _ (WX_uI (WX_uI hW (by first | exact okXo (by decide) | (unfold okX; refine ⟨?_, ?_, ?_, ?_, ?_, ?_, ?_, ?_, ?_, ?_⟩ <;> intro h <;> omega))) (by first | exact okXo (by decide) | (unfold okX; refine ⟨?_, ?_, ?_, ?_, ?_, ?_, ?_, ?_, ?_, ?_⟩ <;> intro h <;> omega))) (Fr_uI (Fr_uI Fr.rf (by omega)) (by omega)) (by omega)
theorem sfX5_clear {G : jdG} {n : Nat} {Z : jdL} {J : jdJ} {K : jdI → jdJ → Prop}  {I : jdI}  (ht : zScribe Z 25)  (hW : WX I)  (hK : ∀ (I2 : jdI), WX I2 → Fr (fun a k => a = 25) I I2 → ((I2 25 1).toInt = 0) → K I2 J) : Cl G mX5_clear n 0 0 [.ref (gb G + 25)] Z I J (qv Z K) := by
  refine eX5_clear ht ?_
  have hwI := WX_f hW
  have q1 : (0 : Int32).toInt = 0 := rfl
  have hr1 : (((uI I 25 1 0)) 25 1).toInt = ((0 : Int32)).toInt := congrArg Int32.toInt (uI_ss _ _ _ _)
  exact hK _ (WX_uI hW (by first | exact okXo (by decide) | (unfold okX; refine ⟨?_, ?_, ?_, ?_, ?_, ?_, ?_, ?_, ?_, ?_⟩ <;> intro h <;> omega))) (Fr_uI Fr.rf (by omega)) (by omega)
theorem sfX5_fail {G : jdG} {n : Nat} {Z : jdL} {J : jdJ} {K : Int32 → jdI → jdJ → Prop}  {I : jdI}  (ht : zScribe Z 25)  (hW : WX I)  (hK : ∀ (v : Int32) (I2 : jdI), WX I2 → Fr (fun a k => a = 25) I I2 → (v.toInt = 0) → K v I2 J) : Cl G mX5_fail n 0 0 [.ref (gb G + 25)] Z I J (qi Z K) := by
  refine eX5_fail ht ?_
  have hwI := WX_f hW
  exact hK _ _ (WX_uI hW (by first | exact okXo (by decide) | (unfold okX; refine ⟨?_, ?_, ?_, ?_, ?_, ?_, ?_, ?_, ?_, ?_⟩ <;> intro h <;> omega))) (Fr_uI Fr.rf (by omega)) rfl
theorem sfX5_tokenOf {G : jdG} {n : Nat} {Z : jdL} {J : jdJ} {K : Int32 → jdI → jdJ → Prop}  {I : jdI} {x0 : Int32}   (hW : WX I)  (hK : ∀ (v : Int32), K v I J) : Cl G mX5_tokenOf n 0 0 [.int x0] Z I J (qi Z K) := by
  refine eX5_tokenOf  ?_
  have hwI := WX_f hW
  refine ⟨fun hc1 => ?_, fun hc2 => ?_⟩
  · skip
    have q1 := i32_lo x0
    have q2 : (97 : Int32).toInt = 97 := rfl
    have hc1 := Int32.lt_iff_toInt_lt.mp hc1
    refine ⟨fun hc3 => ?_, fun hc4 => ?_⟩
    · skip
      have q3 : (48 : Int32).toInt = 48 := rfl
      have hc3 := Int32.lt_iff_toInt_lt.mp hc3
      refine ⟨fun hc5 => ?_, fun hc6 => ?_⟩
      · skip
        have q4 : (59 : Int32).toInt = 59 := rfl
        have hc5 : ¬ (x0).toInt = (59 : Int32).toInt := fun z => hc5 (Int32.toInt_inj.mp z)
        exact hK _ 
      · skip
        have q4 : (59 : Int32).toInt = 59 := rfl
        have hc6 := Int32.toInt_inj.mpr hc6
        exact hK _ 
    · skip
      have q3 : (48 : Int32).toInt = 48 := rfl
      have hc4 := mt Int32.lt_iff_toInt_lt.mpr hc4
      refine ⟨fun hc7 => ?_, fun hc8 => ?_⟩
      · skip
        have q4 : (57 : Int32).toInt = 57 := rfl
        have hc7 := Int32.lt_iff_toInt_lt.mp hc7
        refine ⟨fun hc9 => ?_, fun hc10 => ?_⟩
        · skip
          have q5 : (59 : Int32).toInt = 59 := rfl
          have hc9 : ¬ (x0).toInt = (59 : Int32).toInt := fun z => hc9 (Int32.toInt_inj.mp z)
          exact hK _ 
        · skip
          have q5 : (59 : Int32).toInt = 59 := rfl
          have hc10 := Int32.toInt_inj.mpr hc10
          exact hK _ 
      · skip
        have q4 : (57 : Int32).toInt = 57 := rfl
        have hc8 := mt Int32.lt_iff_toInt_lt.mpr hc8
        exact hK _ 
  · skip
    have q1 := i32_lo x0
    have q2 : (97 : Int32).toInt = 97 := rfl
    have hc2 := mt Int32.lt_iff_toInt_lt.mpr hc2
    refine ⟨fun hc11 => ?_, fun hc12 => ?_⟩
    · skip
      have q3 : (122 : Int32).toInt = 122 := rfl
      have hc11 := Int32.lt_iff_toInt_lt.mp hc11
      refine ⟨fun hc13 => ?_, fun hc14 => ?_⟩
      · skip
        have q4 : (48 : Int32).toInt = 48 := rfl
        have hc13 := Int32.lt_iff_toInt_lt.mp hc13
        refine ⟨fun hc15 => ?_, fun hc16 => ?_⟩
        · skip
          have q5 : (59 : Int32).toInt = 59 := rfl
          have hc15 : ¬ (x0).toInt = (59 : Int32).toInt := fun z => hc15 (Int32.toInt_inj.mp z)
          exact hK _ 
        · skip
          have q5 : (59 : Int32).toInt = 59 := rfl
          have hc16 := Int32.toInt_inj.mpr hc16
          exact hK _ 
      · skip
        have q4 : (48 : Int32).toInt = 48 := rfl
        have hc14 := mt Int32.lt_iff_toInt_lt.mpr hc14
        refine ⟨fun hc17 => ?_, fun hc18 => ?_⟩
        · skip
          have q5 : (57 : Int32).toInt = 57 := rfl
          have hc17 := Int32.lt_iff_toInt_lt.mp hc17
          refine ⟨fun hc19 => ?_, fun hc20 => ?_⟩
          · skip
            have q6 : (59 : Int32).toInt = 59 := rfl
            have hc19 : ¬ (x0).toInt = (59 : Int32).toInt := fun z => hc19 (Int32.toInt_inj.mp z)
            exact hK _ 
          · skip
            have q6 : (59 : Int32).toInt = 59 := rfl
            have hc20 := Int32.toInt_inj.mpr hc20
            exact hK _ 
        · skip
          have q5 : (57 : Int32).toInt = 57 := rfl
          have hc18 := mt Int32.lt_iff_toInt_lt.mpr hc18
          exact hK _ 
    · skip
      have q3 : (122 : Int32).toInt = 122 := rfl
      have hc12 := mt Int32.lt_iff_toInt_lt.mpr hc12
      exact hK _ 
theorem lX5_advance_101 {G : jdG} {n : Nat} {Z : jdL} {J : jdJ} {rc rs : Nat} {K : jdI → jdJ → Prop}  {I0 : jdI}  (ht : zScribe Z 25)   (hK : ∀ (I2 : jdI), WX I2 → Fr (fun a k => a = 25) I0 I2 → K I2 J) : ∀ m : Nat, ∀ (I : jdI) , WX I → Fr (fun a k => a = 25) I0 I → 250 - (I 25 4).toInt < (m : Int) → Jd G mX5_advance (jdFm G (qv Z K)) (n + 1) rc rs 101 [(0, .ref (gb G + 25))] [] Z I J := by
  intro m
  induction m with
  | zero =>
    intro I hW hF hm
    have hwI := WX_f hW
    omega
  | succ m ih =>
    intro I hW hF hm
    have hwI := WX_f hW
    refine rX5_advance_101 ht ?_
    refine ⟨fun hc1 => ?_, fun hc2 => ?_⟩
    · skip
      have q1 := i32_lo (I 25 2)
      have q2 : (1 : Int32).toInt = 1 := rfl
      have hc1 := Int32.toInt_inj.mpr hc1
      refine ⟨fun hc3 => ?_, fun hc4 => ?_⟩
      · skip
        have q3 := i32_lo (I 25 1)
        have q4 := i32_lo (I 25 4)
        have hc3 := Int32.le_iff_toInt_le.mp hc3
        exact hK _ hW hF
      · skip
        have q3 := i32_lo (I 25 1)
        have q4 := i32_lo (I 25 4)
        have hc4 := mt Int32.le_iff_toInt_le.mpr hc4
        refine ⟨vp_of (by omega) (by omega), ?_⟩
        refine sfX5_tokenOf  hW  (fun v3  => ?_)
        refine ⟨fun hc6 => ?_, fun hc7 => ?_⟩
        · skip
          have q5 := i32_lo v3
          have hc6 : ¬ (v3).toInt = ((I 25 2)).toInt := fun z => hc6 (Int32.toInt_inj.mp z)
          exact hK _ hW hF
        · skip
          have q5 := i32_lo v3
          have hc7 := Int32.toInt_inj.mpr hc7
          have q6 := i32_add (I 25 4) 1 (by omega) (by omega)
          have hr8 : (((uI I 25 4 ((I 25 4) + 1))) 25 4).toInt = (((I 25 4) + 1)).toInt := congrArg Int32.toInt (uI_ss _ _ _ _)
          exact ih _ (WX_uI hW (by first | exact okXo (by decide) | (unfold okX; refine ⟨?_, ?_, ?_, ?_, ?_, ?_, ?_, ?_, ?_, ?_⟩ <;> intro h <;> omega))) (Fr_uI hF (by omega)) (by omega)
    · skip
      have q1 := i32_lo (I 25 2)
      have q2 : (1 : Int32).toInt = 1 := rfl
      have hc2 : ¬ ((I 25 2)).toInt = (1 : Int32).toInt := fun z => hc2 (Int32.toInt_inj.mp z)
      refine ⟨fun hc9 => ?_, fun hc10 => ?_⟩
      · skip
        have q3 : (2 : Int32).toInt = 2 := rfl
        have hc9 : ¬ ((I 25 2)).toInt = (2 : Int32).toInt := fun z => hc9 (Int32.toInt_inj.mp z)
        exact hK _ hW hF
      · skip
        have q3 : (2 : Int32).toInt = 2 := rfl
        have hc10 := Int32.toInt_inj.mpr hc10
        refine ⟨fun hc11 => ?_, fun hc12 => ?_⟩
        · skip
          have q4 := i32_lo (I 25 1)
          have q5 := i32_lo (I 25 4)
          have hc11 := Int32.le_iff_toInt_le.mp hc11
          exact hK _ hW hF
        · skip
          have q4 := i32_lo (I 25 1)
          have q5 := i32_lo (I 25 4)
          have hc12 := mt Int32.le_iff_toInt_le.mpr hc12
          refine ⟨vp_of (by omega) (by omega), ?_⟩
          refine sfX5_tokenOf  hW  (fun v6  => ?_)
          refine ⟨fun hc14 => ?_, fun hc15 => ?_⟩
          · skip
            have q6 := i32_lo v6
            have hc14 : ¬ (v6).toInt = ((I 25 2)).toInt := fun z => hc14 (Int32.toInt_inj.mp z)
            exact hK _ hW hF
          · skip
            have q6 := i32_lo v6
            have hc15 := Int32.toInt_inj.mpr hc15
            have q7 := i32_add (I 25 4) 1 (by omega) (by omega)
            have hr16 : (((uI I 25 4 ((I 25 4) + 1))) 25 4).toInt = (((I 25 4) + 1)).toInt := congrArg Int32.toInt (uI_ss _ _ _ _)
            exact ih _ (WX_uI hW (by first | exact okXo (by decide) | (unfold okX; refine ⟨?_, ?_, ?_, ?_, ?_, ?_, ?_, ?_, ?_, ?_⟩ <;> intro h <;> omega))) (Fr_uI hF (by omega)) (by omega)
theorem lX5_advance_8 {G : jdG} {n : Nat} {Z : jdL} {J : jdJ} {rc rs : Nat} {K : jdI → jdJ → Prop}  {I0 : jdI}  (ht : zScribe Z 25)   (hK : ∀ (I2 : jdI), WX I2 → Fr (fun a k => a = 25) I0 I2 → K I2 J) : ∀ m : Nat, ∀ (I : jdI) , WX I → Fr (fun a k => a = 25) I0 I → 250 - (I 25 3).toInt < (m : Int) → Jd G mX5_advance (jdFm G (qv Z K)) (n + 1) rc rs 8 [(0, .ref (gb G + 25))] [] Z I J := by
  intro m
  induction m with
  | zero =>
    intro I hW hF hm
    have hwI := WX_f hW
    omega
  | succ m ih =>
    intro I hW hF hm
    have hwI := WX_f hW
    refine rX5_advance_8 ht ?_
    refine ⟨fun hc1 => ?_, fun hc2 => ?_⟩
    · skip
      have q1 := i32_lo (I 25 1)
      have q2 := i32_lo (I 25 3)
      have hc1 := Int32.le_iff_toInt_le.mp hc1
      refine ⟨fun hc3 => ?_, fun hc4 => ?_⟩
      · skip
        have hc3 := Int32.le_iff_toInt_le.mp hc3
        have q3 : (0 : Int32).toInt = 0 := rfl
        have hr5 : (((uI (uI I 25 2 0) 25 4 (I 25 1))) 25 4).toInt = ((I 25 1)).toInt := congrArg Int32.toInt (uI_ss _ _ _ _)
        exact lX5_advance_101 ht   hK  ((250 - ((uI (uI I 25 2 0) 25 4 (I 25 1)) 25 4).toInt).toNat + 1) _ (WX_uI (WX_uI hW (by first | exact okXo (by decide) | (unfold okX; refine ⟨?_, ?_, ?_, ?_, ?_, ?_, ?_, ?_, ?_, ?_⟩ <;> intro h <;> omega))) (by first | exact okXo (by decide) | (unfold okX; refine ⟨?_, ?_, ?_, ?_, ?_, ?_, ?_, ?_, ?_, ?_⟩ <;> intro h <;> omega))) (Fr_uI (Fr_uI hF (by omega)) (by omega)) (by omega)
      · skip
        have hc4 := mt Int32.le_iff_toInt_le.mpr hc4
        refine ⟨vp_of (by omega) (by omega), ?_⟩
        refine sfX5_tokenOf  hW  (fun v3  => ?_)
        refine ⟨fun hc7 => ?_, fun hc8 => ?_⟩
        · skip
          have q3 := i32_lo v3
          have q4 : (0 : Int32).toInt = 0 := rfl
          have hc7 : ¬ (v3).toInt = (0 : Int32).toInt := fun z => hc7 (Int32.toInt_inj.mp z)
          have q5 : (1 : Int32).toInt = 1 := rfl
          have q6 := i32_add (I 25 3) 1 (by omega) (by omega)
          have hr9 : (((uI (uI I 25 2 v3) 25 4 ((I 25 3) + 1))) 25 4).toInt = (((I 25 3) + 1)).toInt := congrArg Int32.toInt (uI_ss _ _ _ _)
          exact lX5_advance_101 ht   hK  ((250 - ((uI (uI I 25 2 v3) 25 4 ((I 25 3) + 1)) 25 4).toInt).toNat + 1) _ (WX_uI (WX_uI hW (by first | exact okXo (by decide) | (unfold okX; refine ⟨?_, ?_, ?_, ?_, ?_, ?_, ?_, ?_, ?_, ?_⟩ <;> intro h <;> omega))) (by first | exact okXo (by decide) | (unfold okX; refine ⟨?_, ?_, ?_, ?_, ?_, ?_, ?_, ?_, ?_, ?_⟩ <;> intro h <;> omega))) (Fr_uI (Fr_uI hF (by omega)) (by omega)) (by omega)
        · skip
          have q3 := i32_lo v3
          have q4 : (0 : Int32).toInt = 0 := rfl
          have hc8 := Int32.toInt_inj.mpr hc8
          have hr10 : (((uI (uI I 25 2 v3) 25 4 (I 25 1))) 25 4).toInt = ((I 25 1)).toInt := congrArg Int32.toInt (uI_ss _ _ _ _)
          exact lX5_advance_101 ht   hK  ((250 - ((uI (uI I 25 2 v3) 25 4 (I 25 1)) 25 4).toInt).toNat + 1) _ (WX_uI (WX_uI hW (by first | exact okXo (by decide) | (unfold okX; refine ⟨?_, ?_, ?_, ?_, ?_, ?_, ?_, ?_, ?_, ?_⟩ <;> intro h <;> omega))) (by first | exact okXo (by decide) | (unfold okX; refine ⟨?_, ?_, ?_, ?_, ?_, ?_, ?_, ?_, ?_, ?_⟩ <;> intro h <;> omega))) (Fr_uI (Fr_uI hF (by omega)) (by omega)) (by omega)
    · skip
      have q1 := i32_lo (I 25 1)
      have q2 := i32_lo (I 25 3)
      have hc2 := mt Int32.le_iff_toInt_le.mpr hc2
      refine ⟨vp_of (by omega) (by omega), ?_⟩
      refine ⟨fun hc11 => ?_, fun hc12 => ?_⟩
      · skip
        have q3 : (32 : Int32).toInt = 32 := rfl
        have hc11 : ¬ ((I (25 + 1) (Int32.toNatClampNeg (I 25 3)))).toInt = (32 : Int32).toInt := fun z => hc11 (Int32.toInt_inj.mp z)
        refine ⟨fun hc13 => ?_, fun hc14 => ?_⟩
        · skip
          have hc13 := Int32.le_iff_toInt_le.mp hc13
          have q4 : (0 : Int32).toInt = 0 := rfl
          have hr15 : (((uI (uI I 25 2 0) 25 4 (I 25 1))) 25 4).toInt = ((I 25 1)).toInt := congrArg Int32.toInt (uI_ss _ _ _ _)
          exact lX5_advance_101 ht   hK  ((250 - ((uI (uI I 25 2 0) 25 4 (I 25 1)) 25 4).toInt).toNat + 1) _ (WX_uI (WX_uI hW (by first | exact okXo (by decide) | (unfold okX; refine ⟨?_, ?_, ?_, ?_, ?_, ?_, ?_, ?_, ?_, ?_⟩ <;> intro h <;> omega))) (by first | exact okXo (by decide) | (unfold okX; refine ⟨?_, ?_, ?_, ?_, ?_, ?_, ?_, ?_, ?_, ?_⟩ <;> intro h <;> omega))) (Fr_uI (Fr_uI hF (by omega)) (by omega)) (by omega)
        · skip
          have hc14 := mt Int32.le_iff_toInt_le.mpr hc14
          refine ⟨vp_of (by omega) (by omega), ?_⟩
          refine sfX5_tokenOf  hW  (fun v7  => ?_)
          refine ⟨fun hc17 => ?_, fun hc18 => ?_⟩
          · skip
            have q4 := i32_lo v7
            have q5 : (0 : Int32).toInt = 0 := rfl
            have hc17 : ¬ (v7).toInt = (0 : Int32).toInt := fun z => hc17 (Int32.toInt_inj.mp z)
            have q6 : (1 : Int32).toInt = 1 := rfl
            have q7 := i32_add (I 25 3) 1 (by omega) (by omega)
            have hr19 : (((uI (uI I 25 2 v7) 25 4 ((I 25 3) + 1))) 25 4).toInt = (((I 25 3) + 1)).toInt := congrArg Int32.toInt (uI_ss _ _ _ _)
            exact lX5_advance_101 ht   hK  ((250 - ((uI (uI I 25 2 v7) 25 4 ((I 25 3) + 1)) 25 4).toInt).toNat + 1) _ (WX_uI (WX_uI hW (by first | exact okXo (by decide) | (unfold okX; refine ⟨?_, ?_, ?_, ?_, ?_, ?_, ?_, ?_, ?_, ?_⟩ <;> intro h <;> omega))) (by first | exact okXo (by decide) | (unfold okX; refine ⟨?_, ?_, ?_, ?_, ?_, ?_, ?_, ?_, ?_, ?_⟩ <;> intro h <;> omega))) (Fr_uI (Fr_uI hF (by omega)) (by omega)) (by omega)
          · skip
            have q4 := i32_lo v7
            have q5 : (0 : Int32).toInt = 0 := rfl
            have hc18 := Int32.toInt_inj.mpr hc18
            have hr20 : (((uI (uI I 25 2 v7) 25 4 (I 25 1))) 25 4).toInt = ((I 25 1)).toInt := congrArg Int32.toInt (uI_ss _ _ _ _)
            exact lX5_advance_101 ht   hK  ((250 - ((uI (uI I 25 2 v7) 25 4 (I 25 1)) 25 4).toInt).toNat + 1) _ (WX_uI (WX_uI hW (by first | exact okXo (by decide) | (unfold okX; refine ⟨?_, ?_, ?_, ?_, ?_, ?_, ?_, ?_, ?_, ?_⟩ <;> intro h <;> omega))) (by first | exact okXo (by decide) | (unfold okX; refine ⟨?_, ?_, ?_, ?_, ?_, ?_, ?_, ?_, ?_, ?_⟩ <;> intro h <;> omega))) (Fr_uI (Fr_uI hF (by omega)) (by omega)) (by omega)
      · skip
        have q3 : (32 : Int32).toInt = 32 := rfl
        have hc12 := Int32.toInt_inj.mpr hc12
        have q4 : (1 : Int32).toInt = 1 := rfl
        have q5 := i32_add (I 25 3) 1 (by omega) (by omega)
        have hr21 : (((uI I 25 3 ((I 25 3) + 1))) 25 3).toInt = (((I 25 3) + 1)).toInt := congrArg Int32.toInt (uI_ss _ _ _ _)
        exact ih _ (WX_uI hW (by first | exact okXo (by decide) | (unfold okX; refine ⟨?_, ?_, ?_, ?_, ?_, ?_, ?_, ?_, ?_, ?_⟩ <;> intro h <;> omega))) (Fr_uI hF (by omega)) (by omega)
theorem sfX5_advance {G : jdG} {n : Nat} {Z : jdL} {J : jdJ} {K : jdI → jdJ → Prop}  {I : jdI}  (ht : zScribe Z 25)  (hW : WX I)  (hK : ∀ (I2 : jdI), WX I2 → Fr (fun a k => a = 25) I I2 → K I2 J) : Cl G mX5_advance (n + 1) 0 0 [.ref (gb G + 25)] Z I J (qv Z K) := by
  refine eX5_advance ht ?_
  have hwI := WX_f hW
  have q1 := i32_lo (I 25 4)
  have hr1 : (((uI I 25 3 (I 25 4))) 25 3).toInt = ((I 25 4)).toInt := congrArg Int32.toInt (uI_ss _ _ _ _)
  exact lX5_advance_8 ht   hK  ((250 - ((uI I 25 3 (I 25 4)) 25 3).toInt).toNat + 1) _ (WX_uI hW (by first | exact okXo (by decide) | (unfold okX; refine ⟨?_, ?_, ?_, ?_, ?_, ?_, ?_, ?_, ?_, ?_⟩ <;> intro h <;> omega))) (Fr_uI Fr.rf (by omega)) (by omega)
theorem lX5_isWord_28 {G : jdG} {n : Nat} {Z : jdL} {J : jdJ} {rc rs : Nat} {K : Int32 → jdI → jdJ → Prop}  {I : jdI} {sA : Nat → Nat} {sV : Nat → Nat} {u1 : Nat} (hG : gOK G sA sV) (ht : zScribe Z 25) (hsi : u1 < 14)  (hW : WX I)  (hK : ∀ (v : Int32), (v.toInt = 0 ∨ v.toInt = 1) → K v I J) : ∀ m : Nat, ∀ (x2 : Int32), (0 ≤ x2.toInt ∧ x2.toInt ≤ 7) → (7) - x2.toInt < (m : Int) → Jd G mX5_isWord (jdFm G (qi Z K)) (n + 4) rc rs 28 [(0, .ref (gb G + 25)), (1, .ref (sA u1)), (2, .int x2)] [] Z I J := by
  intro m
  induction m with
  | zero =>
    intro x2 hx2 hm
    have hwI := WX_f hW
    omega
  | succ m ih =>
    intro x2 hx2 hm
    have hwI := WX_f hW
    refine rX5_isWord_28 hG ht hsi ?_
    have hsl := sl_r u1
    refine sfJ0_length_8abf5 hG hsi   (fun v2  hp1 => ?_)
    have hl := hp1
    have hlt := congrArg Int32.toInt hp1
    have hsl := sl_r u1
    refine ⟨fun hc2 => ?_, fun hc3 => ?_⟩
    · skip
      have q1 := i32_lo v2
      have q2 := i32_lo x2
      have hc2 := Int32.le_iff_toInt_le.mp hc2
      have q3 : (1 : Int32).toInt = 1 := rfl
      exact hK _  (by omega)
    · skip
      have q1 := i32_lo v2
      have q2 := i32_lo x2
      have hc3 := mt Int32.le_iff_toInt_le.mpr hc3
      refine ⟨fun hc4 => ?_, fun hc5 => ?_⟩
      · skip
        have q3 := i32_lo (I 25 1)
        have q4 := i32_lo (I 25 3)
        have q5 := i32_addI (I 25 3) x2
        have hc4 := Int32.le_iff_toInt_le.mp hc4
        have q6 : (1 : Int32).toInt = 1 := rfl
        exact hK _  (by omega)
      · skip
        have q3 := i32_lo (I 25 1)
        have q4 := i32_lo (I 25 3)
        have q5 := i32_addI (I 25 3) x2
        have hc5 := mt Int32.le_iff_toInt_le.mpr hc5
        refine ⟨vp_of (by omega) (by omega), ?_⟩
        refine sfJ0_charAt_5068e hG hsi  (by rw [← hl]; omega) (fun v5  hp6 => ?_)
        refine ⟨fun hc7 => ?_, fun hc8 => ?_⟩
        · skip
          have q6 := i32_lo v5
          have hc7 := Int32.toInt_inj.mpr hc7
          have q7 : (1 : Int32).toInt = 1 := rfl
          have q8 := i32_add x2 1 (by omega) (by omega)
          exact ih (x2 + 1) (by omega) (by omega)
        · skip
          have q6 := i32_lo v5
          have hc8 : ¬ ((I (25 + 1) (Int32.toNatClampNeg ((I 25 3) + x2)))).toInt = (v5).toInt := fun z => hc8 (Int32.toInt_inj.mp z)
          have q7 : (0 : Int32).toInt = 0 := rfl
          exact hK _  (by omega)
theorem sfX5_isWord {G : jdG} {n : Nat} {Z : jdL} {J : jdJ} {K : Int32 → jdI → jdJ → Prop}  {I : jdI} {sA : Nat → Nat} {sV : Nat → Nat} {u1 : Nat} (hG : gOK G sA sV) (ht : zScribe Z 25) (hsi : u1 < 14)  (hW : WX I)  (hK : ∀ (v : Int32), (v.toInt = 0 ∨ v.toInt = 1) → K v I J) : Cl G mX5_isWord (n + 4) 0 0 [.ref (gb G + 25), .ref (sA u1)] Z I J (qi Z K) := by
  refine eX5_isWord hG ht hsi ?_
  have hwI := WX_f hW
  refine ⟨fun hc1 => ?_, fun hc2 => ?_⟩
  · skip
    have q1 := i32_lo (I 25 2)
    have q2 : (1 : Int32).toInt = 1 := rfl
    have hc1 : ¬ ((I 25 2)).toInt = (1 : Int32).toInt := fun z => hc1 (Int32.toInt_inj.mp z)
    have q3 : (0 : Int32).toInt = 0 := rfl
    exact hK _  (by omega)
  · skip
    have q1 := i32_lo (I 25 2)
    have q2 : (1 : Int32).toInt = 1 := rfl
    have hc2 := Int32.toInt_inj.mpr hc2
    refine sfJ0_length_8abf5 hG hsi   (fun v2  hp3 => ?_)
    have hl := hp3
    have hlt := congrArg Int32.toInt hp3
    have hsl := sl_r u1
    refine ⟨fun hc4 => ?_, fun hc5 => ?_⟩
    · skip
      have q3 := i32_lo (I 25 4)
      have q4 := i32_lo (I 25 3)
      have q5 := i32_subI (I 25 4) (I 25 3)
      have q6 := i32_lo v2
      have hc4 := Int32.toInt_inj.mpr hc4
      have q7 : (0 : Int32).toInt = 0 := rfl
      exact lX5_isWord_28 hG ht hsi  hW  hK  (((7) - (0 : Int32).toInt).toNat + 1) 0 (by omega) (by omega)
    · skip
      have q3 := i32_lo (I 25 4)
      have q4 := i32_lo (I 25 3)
      have q5 := i32_subI (I 25 4) (I 25 3)
      have q6 := i32_lo v2
      have hc5 : ¬ (((I 25 4) - (I 25 3))).toInt = (v2).toInt := fun z => hc5 (Int32.toInt_inj.mp z)
      have q7 : (0 : Int32).toInt = 0 := rfl
      exact hK _  (by omega)
theorem lX5_readNumber_48 {G : jdG} {n : Nat} {Z : jdL} {J : jdJ} {rc rs : Nat} {K : Int32 → jdI → jdJ → Prop}  {I0 : jdI} {x1 : Int32} {x2 : Int32} {x3 : Int32} (ht : zScribe Z 25)   (hK : ∀ (v : Int32) (I2 : jdI), WX I2 → Fr (fun a k => a = 25) I0 I2 → (v.toInt = -1 ∨ (x1.toInt ≤ v.toInt ∧ v.toInt ≤ x2.toInt)) → K v I2 J) : ∀ m : Nat, ∀ (I : jdI) (x4 : Int32) (x5 : Int32), WX I → Fr (fun a k => a = 25) I0 I → (0 ≤ x5.toInt ∧ x5.toInt ≤ 250) → (250) - x5.toInt < (m : Int) → Jd G mX5_readNumber (jdFm G (qi Z K)) (n + 2) rc rs 48 [(0, .ref (gb G + 25)), (1, .int x1), (2, .int x2), (3, .int x3), (4, .int x4), (5, .int x5)] [] Z I J := by
  intro m
  induction m with
  | zero =>
    intro I x4 x5 hW hF hx5 hm
    have hwI := WX_f hW
    omega
  | succ m ih =>
    intro I x4 x5 hW hF hx5 hm
    have hwI := WX_f hW
    refine rX5_readNumber_48 ht ?_
    refine ⟨fun hc1 => ?_, fun hc2 => ?_⟩
    · skip
      have q1 := i32_lo (I 25 4)
      have q2 := i32_lo x5
      have hc1 := Int32.le_iff_toInt_le.mp hc1
      refine ⟨fun hc3 => ?_, fun hc4 => ?_⟩
      · skip
        have q3 := i32_lo x4
        have q4 := i32_lo x1
        have hc3 := Int32.lt_iff_toInt_lt.mp hc3
        refine sfX5_fail ht hW  (fun v2 I1 hWI1 hFI1 hp5 => ?_)
        have hwI1 := WX_f hWI1
        have q5 : (-1 : Int32).toInt = -1 := rfl
        exact hK _ _ hWI1 (Fr.tr hF hFI1 (by intro a k h; omega)) (by omega)
      · skip
        have q3 := i32_lo x4
        have q4 := i32_lo x1
        have hc4 := mt Int32.lt_iff_toInt_lt.mpr hc4
        refine ⟨fun hc6 => ?_, fun hc7 => ?_⟩
        · skip
          have q5 := i32_lo x2
          have hc6 := Int32.lt_iff_toInt_lt.mp hc6
          refine sfX5_fail ht hW  (fun v4 I3 hWI3 hFI3 hp8 => ?_)
          have hwI3 := WX_f hWI3
          have q6 : (-1 : Int32).toInt = -1 := rfl
          exact hK _ _ hWI3 (Fr.tr hF hFI3 (by intro a k h; omega)) (by omega)
        · skip
          have q5 := i32_lo x2
          have hc7 := mt Int32.lt_iff_toInt_lt.mpr hc7
          refine ⟨fun hc9 => ?_, fun hc10 => ?_⟩
          · skip
            have q6 := i32_lo x3
            have q7 : (0 : Int32).toInt = 0 := rfl
            have hc9 := Int32.toInt_inj.mpr hc9
            refine sfX5_advance ht hW  (fun I5 hWI5 hFI5 => ?_)
            have hwI5 := WX_f hWI5
            exact hK _ _ hWI5 (Fr.tr hF hFI5 (by intro a k h; omega)) (by omega)
          · skip
            have q6 := i32_lo x3
            have q7 : (0 : Int32).toInt = 0 := rfl
            have hc10 : ¬ (x3).toInt = (0 : Int32).toInt := fun z => hc10 (Int32.toInt_inj.mp z)
            refine ⟨fun hc12 => ?_, fun hc13 => ?_⟩
            · skip
              have q8 : (31 : Int32).toInt = 31 := rfl
              have q9 : (1 : Int32).toInt = 1 := rfl
              have hc12 := Int32.toInt_inj.mpr hc12
              refine sfX5_advance ht hW  (fun I7 hWI7 hFI7 => ?_)
              have hwI7 := WX_f hWI7
              exact hK _ _ hWI7 (Fr.tr hF hFI7 (by intro a k h; omega)) (by omega)
            · skip
              have q8 : (31 : Int32).toInt = 31 := rfl
              have q9 : (1 : Int32).toInt = 1 := rfl
              have hc13 : ¬ (((x3 >>> (x4 &&& 31)) &&& 1)).toInt = (0 : Int32).toInt := fun z => hc13 (Int32.toInt_inj.mp z)
              refine sfX5_fail ht hW  (fun v10 I9 hWI9 hFI9 hp15 => ?_)
              have hwI9 := WX_f hWI9
              have q10 : (-1 : Int32).toInt = -1 := rfl
              exact hK _ _ hWI9 (Fr.tr hF hFI9 (by intro a k h; omega)) (by omega)
    · skip
      have q1 := i32_lo (I 25 4)
      have q2 := i32_lo x5
      have hc2 := mt Int32.le_iff_toInt_le.mpr hc2
      refine ⟨vp_of (by omega) (by omega), ?_⟩
      have q3 : (1 : Int32).toInt = 1 := rfl
      have q4 := i32_add x5 1 (by omega) (by omega)
      exact ih _ (((10 * x4) + (I (25 + 1) (Int32.toNatClampNeg x5))) - 48) (x5 + 1) hW hF (by omega) (by omega)
theorem sfX5_readNumber {G : jdG} {n : Nat} {Z : jdL} {J : jdJ} {K : Int32 → jdI → jdJ → Prop}  {I : jdI} {x1 : Int32} {x2 : Int32} {x3 : Int32} (ht : zScribe Z 25)  (hW : WX I)  (hK : ∀ (v : Int32) (I2 : jdI), WX I2 → Fr (fun a k => a = 25) I I2 → (v.toInt = -1 ∨ (x1.toInt ≤ v.toInt ∧ v.toInt ≤ x2.toInt)) → K v I2 J) : Cl G mX5_readNumber (n + 2) 0 0 [.ref (gb G + 25), .int x1, .int x2, .int x3] Z I J (qi Z K) := by
  refine eX5_readNumber ht ?_
  have hwI := WX_f hW
  refine ⟨fun hc1 => ?_, fun hc2 => ?_⟩
  · skip
    have q1 := i32_lo (I 25 2)
    have q2 : (2 : Int32).toInt = 2 := rfl
    have hc1 : ¬ ((I 25 2)).toInt = (2 : Int32).toInt := fun z => hc1 (Int32.toInt_inj.mp z)
    refine sfX5_fail ht hW  (fun v2 I1 hWI1 hFI1 hp3 => ?_)
    have hwI1 := WX_f hWI1
    have q3 : (-1 : Int32).toInt = -1 := rfl
    exact hK _ _ hWI1 (Fr.tr Fr.rf hFI1 (by intro a k h; omega)) (by omega)
  · skip
    have q1 := i32_lo (I 25 2)
    have q2 : (2 : Int32).toInt = 2 := rfl
    have hc2 := Int32.toInt_inj.mpr hc2
    refine ⟨fun hc4 => ?_, fun hc5 => ?_⟩
    · skip
      have q3 := i32_lo (I 25 4)
      have q4 := i32_lo (I 25 3)
      have q5 := i32_subI (I 25 4) (I 25 3)
      have hc4 := Int32.lt_iff_toInt_lt.mp hc4
      refine sfX5_fail ht hW  (fun v4 I3 hWI3 hFI3 hp6 => ?_)
      have hwI3 := WX_f hWI3
      have q6 : (-1 : Int32).toInt = -1 := rfl
      exact hK _ _ hWI3 (Fr.tr Fr.rf hFI3 (by intro a k h; omega)) (by omega)
    · skip
      have q3 := i32_lo (I 25 4)
      have q4 := i32_lo (I 25 3)
      have q5 := i32_subI (I 25 4) (I 25 3)
      have hc5 := mt Int32.lt_iff_toInt_lt.mpr hc5
      refine ⟨fun hc7 => ?_, fun hc8 => ?_⟩
      · skip
        have q6 := i32_lo (I 25 1)
        have hc7 := Int32.le_iff_toInt_le.mp hc7
        exact lX5_readNumber_48 ht   hK  (((250) - (I 25 3).toInt).toNat + 1) _ 0 (I 25 3) hW Fr.rf (by omega) (by omega)
      · skip
        have q6 := i32_lo (I 25 1)
        have hc8 := mt Int32.le_iff_toInt_le.mpr hc8
        refine sfX5_fail ht hW  (fun v6 I5 hWI5 hFI5 hp9 => ?_)
        have hwI5 := WX_f hWI5
        have q7 : (-1 : Int32).toInt = -1 := rfl
        exact hK _ _ hWI5 (Fr.tr Fr.rf hFI5 (by intro a k h; omega)) (by omega)
theorem sfX5_readPerson {G : jdG} {n : Nat} {Z : jdL} {J : jdJ} {K : Int32 → jdI → jdJ → Prop}  {I : jdI} {u1 : Nat} (ht : zScribe Z 25) (hu1 : zTown Z u1) (hu1s : (u1 = 1 ∨ u1 = 5 ∨ u1 = 9)) (hW : WX I)  (hK : ∀ (v : Int32) (I2 : jdI), WX I2 → Fr (fun a k => (25 ≤ a ∧ a ≤ 26) ∨ (u1 ≤ a ∧ a ≤ u1 + 3)) I I2 → (v.toInt = 0 ∨ v.toInt = 1) → K v I2 J) : Cl G mX5_readPerson (n + 3) 0 0 [.ref (gb G + 25), .ref (gb G + u1)] Z I J (qi Z K) := by
  refine eX5_readPerson ht hu1 ?_
  have hwI := WX_f hW
  have hpu1I := WX_town hW hu1s
  refine ⟨fun hc1 => ?_, fun hc2 => ?_⟩
  · skip
    have q1 := i32_lo (I u1 3)
    have q2 : (7 : Int32).toInt = 7 := rfl
    have hc1 := Int32.lt_iff_toInt_lt.mp hc1
    refine sfX5_advance ht hW  (fun I1 hWI1 hFI1 => ?_)
    have hwI1 := WX_f hWI1
    have hpu1I1 := WX_town hWI1 hu1s
    have q3 : (0 : Int32).toInt = 0 := rfl
    have q4 : (23 : Int32).toInt = 23 := rfl
    refine sfX5_readNumber ht hWI1  (fun v4 I3 hWI3 hFI3 hp4 => ?_)
    have hwI3 := WX_f hWI3
    have hpu1I3 := WX_town hWI3 hu1s
    refine ⟨fun hc5 => ?_, fun hc6 => ?_⟩
    · skip
      have q5 := i32_lo v4
      have q6 : (-1 : Int32).toInt = -1 := rfl
      have hc5 : ¬ (v4).toInt = ((-1) : Int32).toInt := fun z => hc5 (Int32.toInt_inj.mp z)
      have q7 : (9 : Int32).toInt = 9 := rfl
      refine sfX5_readNumber ht hWI3  (fun v6 I5 hWI5 hFI5 hp7 => ?_)
      have hwI5 := WX_f hWI5
      have hpu1I5 := WX_town hWI5 hu1s
      refine ⟨fun hc8 => ?_, fun hc9 => ?_⟩
      · skip
        have q8 := i32_lo v6
        have hc8 : ¬ (v6).toInt = ((-1) : Int32).toInt := fun z => hc8 (Int32.toInt_inj.mp z)
        refine sfX9_add hu1 hu1s hWI5  (fun v8 I7 hWI7 hFI7 hp10 => ?_)
        have hwI7 := WX_f hWI7
        have hpu1I7 := WX_town hWI7 hu1s
        have q9 : (1 : Int32).toInt = 1 := rfl
        exact hK _ _ hWI7 (Fr.tr (Fr.tr (Fr.tr (Fr.tr Fr.rf hFI1 (by intro a k h; omega)) hFI3 (by intro a k h; omega)) hFI5 (by intro a k h; omega)) hFI7 (by intro a k h; omega)) (by omega)
      · skip
        have q8 := i32_lo v6
        have hc9 := Int32.toInt_inj.mpr hc9
        exact hK _ _ hWI5 (Fr.tr (Fr.tr (Fr.tr Fr.rf hFI1 (by intro a k h; omega)) hFI3 (by intro a k h; omega)) hFI5 (by intro a k h; omega)) (by omega)
    · skip
      have q5 := i32_lo v4
      have q6 : (-1 : Int32).toInt = -1 := rfl
      have hc6 := Int32.toInt_inj.mpr hc6
      exact hK _ _ hWI3 (Fr.tr (Fr.tr Fr.rf hFI1 (by intro a k h; omega)) hFI3 (by intro a k h; omega)) (by omega)
  · skip
    have q1 := i32_lo (I u1 3)
    have q2 : (7 : Int32).toInt = 7 := rfl
    have hc2 := mt Int32.lt_iff_toInt_lt.mpr hc2
    refine sfX5_fail ht hW  (fun v10 I9 hWI9 hFI9 hp11 => ?_)
    have hwI9 := WX_f hWI9
    have hpu1I9 := WX_town hWI9 hu1s
    have q3 := i32_lo v10
    refine ⟨narrow_b (by omega), ?_⟩
    exact hK _ _ hWI9 (Fr.tr Fr.rf hFI9 (by intro a k h; omega)) (by omega)
theorem sfX5_readPair {G : jdG} {n : Nat} {Z : jdL} {J : jdJ} {K : Int32 → jdI → jdJ → Prop}  {I : jdI} {sA : Nat → Nat} {sV : Nat → Nat} {u1 : Nat} {x2 : Int32} (hG : gOK G sA sV) (ht : zScribe Z 25) (hu1 : zTown Z u1) (hu1s : (u1 = 1 ∨ u1 = 5 ∨ u1 = 9)) (hW : WX I)  (hK : ∀ (v : Int32) (I2 : jdI), WX I2 → Fr (fun a k => (25 ≤ a ∧ a ≤ 26) ∨ (u1 ≤ a ∧ a ≤ u1 + 3)) I I2 → (v.toInt = 0 ∨ v.toInt = 1) → K v I2 J) : Cl G mX5_readPair (n + 5) 0 0 [.ref (gb G + 25), .ref (gb G + u1), .int x2] Z I J (qi Z K) := by
  refine eX5_readPair hG ht hu1 ?_
  have hwI := WX_f hW
  have hpu1I := WX_town hW hu1s
  refine sfX5_advance ht hW  (fun I1 hWI1 hFI1 => ?_)
  have hwI1 := WX_f hWI1
  have hpu1I1 := WX_town hWI1 hu1s
  first | have hk2 : (I1 u1 3).toInt = (I u1 3).toInt := (by rw [hFI1 u1 3 (by omega)]) | skip
  have q1 : (0 : Int32).toInt = 0 := rfl
  have q2 := i32_lo (I1 u1 3)
  have q3 : (1 : Int32).toInt = 1 := rfl
  have q4 := i32_sub (I1 u1 3) 1 (by omega) (by omega)
  refine sfX5_readNumber ht hWI1  (fun v4 I3 hWI3 hFI3 hp3 => ?_)
  have hwI3 := WX_f hWI3
  have hpu1I3 := WX_town hWI3 hu1s
  first | have hk4 : (I3 u1 3).toInt = (I1 u1 3).toInt := (by rw [hFI3 u1 3 (by omega)]) | skip
  refine ⟨fun hc5 => ?_, fun hc6 => ?_⟩
  · skip
    have q5 := i32_lo v4
    have q6 : (-1 : Int32).toInt = -1 := rfl
    have hc5 : ¬ (v4).toInt = ((-1) : Int32).toInt := fun z => hc5 (Int32.toInt_inj.mp z)
    have q7 := i32_lo (I3 u1 3)
    have q8 := i32_sub (I3 u1 3) 1 (by omega) (by omega)
    refine sfX5_readNumber ht hWI3  (fun v6 I5 hWI5 hFI5 hp7 => ?_)
    have hwI5 := WX_f hWI5
    have hpu1I5 := WX_town hWI5 hu1s
    first | have hk8 : (I5 u1 3).toInt = (I3 u1 3).toInt := (by rw [hFI5 u1 3 (by omega)]) | skip
    refine ⟨fun hc9 => ?_, fun hc10 => ?_⟩
    · skip
      have q9 := i32_lo v6
      have hc9 : ¬ (v6).toInt = ((-1) : Int32).toInt := fun z => hc9 (Int32.toInt_inj.mp z)
      refine ⟨fun hc11 => ?_, fun hc12 => ?_⟩
      · skip
        have q10 := i32_lo x2
        have hc11 := Int32.toInt_inj.mpr hc11
        refine ⟨fun hc13 => ?_, fun hc14 => ?_⟩
        · skip
          have hc13 := Int32.toInt_inj.mpr hc13
          refine sfX9_tie hu1 hu1s hWI5 (by omega) (by omega) (fun I7 hWI7 hFI7 => ?_)
          have hwI7 := WX_f hWI7
          have hpu1I7 := WX_town hWI7 hu1s
          first | have hk16 : (I7 u1 3).toInt = (I5 u1 3).toInt := (by rw [hFI7 u1 3 (by omega)]) | skip
          exact hK _ _ hWI7 (Fr.tr (Fr.tr (Fr.tr (Fr.tr Fr.rf hFI1 (by intro a k h; omega)) hFI3 (by intro a k h; omega)) hFI5 (by intro a k h; omega)) hFI7 (by intro a k h; omega)) (by omega)
        · skip
          have hc14 : ¬ (x2).toInt = (0 : Int32).toInt := fun z => hc14 (Int32.toInt_inj.mp z)
          refine sfX5_isWord hG ht (by decide) hWI5  (fun v10  hp17 => ?_)
          refine ⟨fun hc18 => ?_, fun hc19 => ?_⟩
          · skip
            have q11 := i32_lo v10
            have hc18 := Int32.toInt_inj.mpr hc18
            refine sfX9_tie hu1 hu1s hWI5 (by omega) (by omega) (fun I11 hWI11 hFI11 => ?_)
            have hwI11 := WX_f hWI11
            have hpu1I11 := WX_town hWI11 hu1s
            first | have hk21 : (I11 u1 3).toInt = (I5 u1 3).toInt := (by rw [hFI11 u1 3 (by omega)]) | skip
            exact hK _ _ hWI11 (Fr.tr (Fr.tr (Fr.tr (Fr.tr Fr.rf hFI1 (by intro a k h; omega)) hFI3 (by intro a k h; omega)) hFI5 (by intro a k h; omega)) hFI11 (by intro a k h; omega)) (by omega)
          · skip
            have q11 := i32_lo v10
            have hc19 : ¬ (v10).toInt = (0 : Int32).toInt := fun z => hc19 (Int32.toInt_inj.mp z)
            refine sfX5_advance ht hWI5  (fun I13 hWI13 hFI13 => ?_)
            have hwI13 := WX_f hWI13
            have hpu1I13 := WX_town hWI13 hu1s
            first | have hk23 : (I13 u1 3).toInt = (I5 u1 3).toInt := (by rw [hFI13 u1 3 (by omega)]) | skip
            have q12 : (99 : Int32).toInt = 99 := rfl
            refine sfX5_readNumber ht hWI13  (fun v16 I15 hWI15 hFI15 hp24 => ?_)
            have hwI15 := WX_f hWI15
            have hpu1I15 := WX_town hWI15 hu1s
            first | have hk25 : (I15 u1 3).toInt = (I13 u1 3).toInt := (by rw [hFI15 u1 3 (by omega)]) | skip
            refine ⟨fun hc26 => ?_, fun hc27 => ?_⟩
            · skip
              have q13 := i32_lo v16
              have hc26 : ¬ (v16).toInt = ((-1) : Int32).toInt := fun z => hc26 (Int32.toInt_inj.mp z)
              refine sfX9_tie hu1 hu1s hWI15 (by omega) (by omega) (fun I17 hWI17 hFI17 => ?_)
              have hwI17 := WX_f hWI17
              have hpu1I17 := WX_town hWI17 hu1s
              first | have hk29 : (I17 u1 3).toInt = (I15 u1 3).toInt := (by rw [hFI17 u1 3 (by omega)]) | skip
              exact hK _ _ hWI17 (Fr.tr (Fr.tr (Fr.tr (Fr.tr (Fr.tr (Fr.tr Fr.rf hFI1 (by intro a k h; omega)) hFI3 (by intro a k h; omega)) hFI5 (by intro a k h; omega)) hFI13 (by intro a k h; omega)) hFI15 (by intro a k h; omega)) hFI17 (by intro a k h; omega)) (by omega)
            · skip
              have q13 := i32_lo v16
              have hc27 := Int32.toInt_inj.mpr hc27
              exact hK _ _ hWI15 (Fr.tr (Fr.tr (Fr.tr (Fr.tr (Fr.tr Fr.rf hFI1 (by intro a k h; omega)) hFI3 (by intro a k h; omega)) hFI5 (by intro a k h; omega)) hFI13 (by intro a k h; omega)) hFI15 (by intro a k h; omega)) (by omega)
      · skip
        have q10 := i32_lo x2
        have hc12 : ¬ (x2).toInt = (0 : Int32).toInt := fun z => hc12 (Int32.toInt_inj.mp z)
        refine ⟨fun hc30 => ?_, fun hc31 => ?_⟩
        · skip
          have hc30 := Int32.toInt_inj.mpr hc30
          refine sfX9_tie hu1 hu1s hWI5 (by omega) (by omega) (fun I19 hWI19 hFI19 => ?_)
          have hwI19 := WX_f hWI19
          have hpu1I19 := WX_town hWI19 hu1s
          first | have hk33 : (I19 u1 3).toInt = (I5 u1 3).toInt := (by rw [hFI19 u1 3 (by omega)]) | skip
          exact hK _ _ hWI19 (Fr.tr (Fr.tr (Fr.tr (Fr.tr Fr.rf hFI1 (by intro a k h; omega)) hFI3 (by intro a k h; omega)) hFI5 (by intro a k h; omega)) hFI19 (by intro a k h; omega)) (by omega)
        · skip
          have hc31 : ¬ (x2).toInt = (0 : Int32).toInt := fun z => hc31 (Int32.toInt_inj.mp z)
          refine sfX5_isWord hG ht (by decide) hWI5  (fun v22  hp34 => ?_)
          refine ⟨fun hc35 => ?_, fun hc36 => ?_⟩
          · skip
            have q11 := i32_lo v22
            have hc35 := Int32.toInt_inj.mpr hc35
            refine sfX9_tie hu1 hu1s hWI5 (by omega) (by omega) (fun I23 hWI23 hFI23 => ?_)
            have hwI23 := WX_f hWI23
            have hpu1I23 := WX_town hWI23 hu1s
            first | have hk38 : (I23 u1 3).toInt = (I5 u1 3).toInt := (by rw [hFI23 u1 3 (by omega)]) | skip
            exact hK _ _ hWI23 (Fr.tr (Fr.tr (Fr.tr (Fr.tr Fr.rf hFI1 (by intro a k h; omega)) hFI3 (by intro a k h; omega)) hFI5 (by intro a k h; omega)) hFI23 (by intro a k h; omega)) (by omega)
          · skip
            have q11 := i32_lo v22
            have hc36 : ¬ (v22).toInt = (0 : Int32).toInt := fun z => hc36 (Int32.toInt_inj.mp z)
            refine sfX5_advance ht hWI5  (fun I25 hWI25 hFI25 => ?_)
            have hwI25 := WX_f hWI25
            have hpu1I25 := WX_town hWI25 hu1s
            first | have hk40 : (I25 u1 3).toInt = (I5 u1 3).toInt := (by rw [hFI25 u1 3 (by omega)]) | skip
            have q12 : (99 : Int32).toInt = 99 := rfl
            refine sfX5_readNumber ht hWI25  (fun v28 I27 hWI27 hFI27 hp41 => ?_)
            have hwI27 := WX_f hWI27
            have hpu1I27 := WX_town hWI27 hu1s
            first | have hk42 : (I27 u1 3).toInt = (I25 u1 3).toInt := (by rw [hFI27 u1 3 (by omega)]) | skip
            refine ⟨fun hc43 => ?_, fun hc44 => ?_⟩
            · skip
              have q13 := i32_lo v28
              have hc43 : ¬ (v28).toInt = ((-1) : Int32).toInt := fun z => hc43 (Int32.toInt_inj.mp z)
              refine sfX9_tie hu1 hu1s hWI27 (by omega) (by omega) (fun I29 hWI29 hFI29 => ?_)
              have hwI29 := WX_f hWI29
              have hpu1I29 := WX_town hWI29 hu1s
              first | have hk46 : (I29 u1 3).toInt = (I27 u1 3).toInt := (by rw [hFI29 u1 3 (by omega)]) | skip
              exact hK _ _ hWI29 (Fr.tr (Fr.tr (Fr.tr (Fr.tr (Fr.tr (Fr.tr Fr.rf hFI1 (by intro a k h; omega)) hFI3 (by intro a k h; omega)) hFI5 (by intro a k h; omega)) hFI25 (by intro a k h; omega)) hFI27 (by intro a k h; omega)) hFI29 (by intro a k h; omega)) (by omega)
            · skip
              have q13 := i32_lo v28
              have hc44 := Int32.toInt_inj.mpr hc44
              exact hK _ _ hWI27 (Fr.tr (Fr.tr (Fr.tr (Fr.tr (Fr.tr Fr.rf hFI1 (by intro a k h; omega)) hFI3 (by intro a k h; omega)) hFI5 (by intro a k h; omega)) hFI25 (by intro a k h; omega)) hFI27 (by intro a k h; omega)) (by omega)
    · skip
      have q9 := i32_lo v6
      have hc10 := Int32.toInt_inj.mpr hc10
      exact hK _ _ hWI5 (Fr.tr (Fr.tr (Fr.tr Fr.rf hFI1 (by intro a k h; omega)) hFI3 (by intro a k h; omega)) hFI5 (by intro a k h; omega)) (by omega)
  · skip
    have q5 := i32_lo v4
    have q6 : (-1 : Int32).toInt = -1 := rfl
    have hc6 := Int32.toInt_inj.mpr hc6
    exact hK _ _ hWI3 (Fr.tr (Fr.tr Fr.rf hFI1 (by intro a k h; omega)) hFI3 (by intro a k h; omega)) (by omega)
theorem sfX5_readSeats {G : jdG} {n : Nat} {Z : jdL} {J : jdJ} {K : Int32 → jdI → jdJ → Prop}  {I : jdI} {u1 : Nat} (ht : zScribe Z 25) (hu1 : zTown Z u1) (hu1s : (u1 = 1 ∨ u1 = 5 ∨ u1 = 9)) (hW : WX I)  (hK : ∀ (v : Int32) (I2 : jdI), WX I2 → Fr (fun a k => (25 ≤ a ∧ a ≤ 26) ∨ (u1 ≤ a ∧ a ≤ u1 + 3)) I I2 → (v.toInt = 0 ∨ v.toInt = 1) → K v I2 J) : Cl G mX5_readSeats (n + 3) 0 0 [.ref (gb G + 25), .ref (gb G + u1)] Z I J (qi Z K) := by
  refine eX5_readSeats ht hu1 ?_
  have hwI := WX_f hW
  have hpu1I := WX_town hW hu1s
  refine sfX5_advance ht hW  (fun I1 hWI1 hFI1 => ?_)
  have hwI1 := WX_f hWI1
  have hpu1I1 := WX_town hWI1 hu1s
  have q1 : (2 : Int32).toInt = 2 := rfl
  have q2 : (4 : Int32).toInt = 4 := rfl
  refine sfX5_readNumber ht hWI1  (fun v4 I3 hWI3 hFI3 hp2 => ?_)
  have hwI3 := WX_f hWI3
  have hpu1I3 := WX_town hWI3 hu1s
  refine ⟨fun hc3 => ?_, fun hc4 => ?_⟩
  · skip
    have q3 := i32_lo v4
    have q4 : (-1 : Int32).toInt = -1 := rfl
    have hc3 : ¬ (v4).toInt = ((-1) : Int32).toInt := fun z => hc3 (Int32.toInt_inj.mp z)
    have q5 : (1 : Int32).toInt = 1 := rfl
    exact hK _ _ (WX_uI hWI3 (by first | exact okXo (by decide) | (unfold okX; refine ⟨?_, ?_, ?_, ?_, ?_, ?_, ?_, ?_, ?_, ?_⟩ <;> intro h <;> omega))) (Fr_uI (Fr.tr (Fr.tr Fr.rf hFI1 (by intro a k h; omega)) hFI3 (by intro a k h; omega)) (by omega)) (by omega)
  · skip
    have q3 := i32_lo v4
    have q4 : (-1 : Int32).toInt = -1 := rfl
    have hc4 := Int32.toInt_inj.mpr hc4
    have q5 : (0 : Int32).toInt = 0 := rfl
    exact hK _ _ hWI3 (Fr.tr (Fr.tr Fr.rf hFI1 (by intro a k h; omega)) hFI3 (by intro a k h; omega)) (by omega)
theorem sfX5_readMemory {G : jdG} {n : Nat} {Z : jdL} {J : jdJ} {K : Int32 → jdI → jdJ → Prop}  {I : jdI} {u1 : Nat} (ht : zScribe Z 25) (hu1 : zTown Z u1) (hu1s : (u1 = 1 ∨ u1 = 5 ∨ u1 = 9)) (hW : WX I)  (hK : ∀ (v : Int32) (I2 : jdI), WX I2 → Fr (fun a k => (25 ≤ a ∧ a ≤ 26) ∨ (u1 ≤ a ∧ a ≤ u1 + 3)) I I2 → (v.toInt = 0 ∨ v.toInt = 1) → K v I2 J) : Cl G mX5_readMemory (n + 3) 0 0 [.ref (gb G + 25), .ref (gb G + u1)] Z I J (qi Z K) := by
  refine eX5_readMemory ht hu1 ?_
  have hwI := WX_f hW
  have hpu1I := WX_town hW hu1s
  refine sfX5_advance ht hW  (fun I1 hWI1 hFI1 => ?_)
  have hwI1 := WX_f hWI1
  have hpu1I1 := WX_town hWI1 hu1s
  have q1 : (0 : Int32).toInt = 0 := rfl
  have q2 : (99 : Int32).toInt = 99 := rfl
  refine sfX5_readNumber ht hWI1  (fun v4 I3 hWI3 hFI3 hp2 => ?_)
  have hwI3 := WX_f hWI3
  have hpu1I3 := WX_town hWI3 hu1s
  refine ⟨fun hc3 => ?_, fun hc4 => ?_⟩
  · skip
    have q3 := i32_lo v4
    have q4 : (-1 : Int32).toInt = -1 := rfl
    have hc3 : ¬ (v4).toInt = ((-1) : Int32).toInt := fun z => hc3 (Int32.toInt_inj.mp z)
    have q5 : (1 : Int32).toInt = 1 := rfl
    exact hK _ _ (WX_uI hWI3 (by first | exact okXo (by decide) | (unfold okX; refine ⟨?_, ?_, ?_, ?_, ?_, ?_, ?_, ?_, ?_, ?_⟩ <;> intro h <;> omega))) (Fr_uI (Fr.tr (Fr.tr Fr.rf hFI1 (by intro a k h; omega)) hFI3 (by intro a k h; omega)) (by omega)) (by omega)
  · skip
    have q3 := i32_lo v4
    have q4 : (-1 : Int32).toInt = -1 := rfl
    have hc4 := Int32.toInt_inj.mpr hc4
    exact hK _ _ hWI3 (Fr.tr (Fr.tr Fr.rf hFI1 (by intro a k h; omega)) hFI3 (by intro a k h; omega)) (by omega)
theorem lX5_readMet_8 {G : jdG} {n : Nat} {Z : jdL} {J : jdJ} {rc rs : Nat} {K : Int32 → jdI → jdJ → Prop}  {I0 : jdI} {u1 : Nat} (ht : zScribe Z 25) (hu1 : zTown Z u1) (hu1s : (u1 = 1 ∨ u1 = 5 ∨ u1 = 9))  (hK : ∀ (v : Int32) (I2 : jdI), WX I2 → Fr (fun a k => (25 ≤ a ∧ a ≤ 26) ∨ (u1 ≤ a ∧ a ≤ u1 + 3)) I0 I2 → (v.toInt = 0 ∨ v.toInt = 1) → K v I2 J) : ∀ m : Nat, ∀ (I : jdI) (x2 : Int32) (x3 : Int32), WX I → Fr (fun a k => (25 ≤ a ∧ a ≤ 26) ∨ (u1 ≤ a ∧ a ≤ u1 + 3)) I0 I → (0 ≤ x3.toInt ∧ x3.toInt ≤ 8) → (8) - x3.toInt < (m : Int) → Jd G mX5_readMet (jdFm G (qi Z K)) (n + 3) rc rs 8 [(0, .ref (gb G + 25)), (1, .ref (gb G + u1)), (2, .int x2), (3, .int x3)] [] Z I J := by
  intro m
  induction m with
  | zero =>
    intro I x2 x3 hW hF hx3 hm
    have hwI := WX_f hW
    have hpu1I := WX_town hW hu1s
    omega
  | succ m ih =>
    intro I x2 x3 hW hF hx3 hm
    have hwI := WX_f hW
    have hpu1I := WX_town hW hu1s
    refine rX5_readMet_8 ht hu1 ?_
    refine ⟨fun hc1 => ?_, fun hc2 => ?_⟩
    · skip
      have q1 : (7 : Int32).toInt = 7 := rfl
      have q2 := i32_lo x3
      have hc1 := Int32.lt_iff_toInt_lt.mp hc1
      refine sfX9_acquaint hu1 hu1s hW  (fun v2 I1 hWI1 hFI1 => ?_)
      have hwI1 := WX_f hWI1
      have hpu1I1 := WX_town hWI1 hu1s
      have q3 : (1 : Int32).toInt = 1 := rfl
      exact hK _ _ hWI1 (Fr.tr hF hFI1 (by intro a k h; omega)) (by omega)
    · skip
      have q1 : (7 : Int32).toInt = 7 := rfl
      have q2 := i32_lo x3
      have hc2 := mt Int32.lt_iff_toInt_lt.mpr hc2
      refine ⟨fun hc4 => ?_, fun hc5 => ?_⟩
      · skip
        have q3 : (0 : Int32).toInt = 0 := rfl
        have hc4 := Int32.toInt_inj.mpr hc4
        have q4 := i32_lo (I u1 3)
        have q5 : (1 : Int32).toInt = 1 := rfl
        have q6 := i32_sub (I u1 3) 1 (by omega) (by omega)
        refine sfX5_readNumber ht hW  (fun v4 I3 hWI3 hFI3 hp6 => ?_)
        have hwI3 := WX_f hWI3
        have hpu1I3 := WX_town hWI3 hu1s
        refine ⟨fun hc7 => ?_, fun hc8 => ?_⟩
        · skip
          have q7 := i32_lo v4
          have q8 : (-1 : Int32).toInt = -1 := rfl
          have hc7 : ¬ (v4).toInt = ((-1) : Int32).toInt := fun z => hc7 (Int32.toInt_inj.mp z)
          have q9 := i32_add x3 1 (by omega) (by omega)
          exact ih _ (x2 ||| (1 <<< (v4 &&& 31))) (x3 + 1) hWI3 (Fr.tr hF hFI3 (by intro a k h; omega)) (by omega) (by omega)
        · skip
          have q7 := i32_lo v4
          have q8 : (-1 : Int32).toInt = -1 := rfl
          have hc8 := Int32.toInt_inj.mpr hc8
          exact hK _ _ hWI3 (Fr.tr hF hFI3 (by intro a k h; omega)) (by omega)
      · skip
        have q3 : (0 : Int32).toInt = 0 := rfl
        have hc5 : ¬ (x3).toInt = (0 : Int32).toInt := fun z => hc5 (Int32.toInt_inj.mp z)
        refine ⟨fun hc9 => ?_, fun hc10 => ?_⟩
        · skip
          have q4 := i32_lo (I 25 2)
          have q5 : (2 : Int32).toInt = 2 := rfl
          have hc9 : ¬ ((I 25 2)).toInt = (2 : Int32).toInt := fun z => hc9 (Int32.toInt_inj.mp z)
          refine sfX9_acquaint hu1 hu1s hW  (fun v6 I5 hWI5 hFI5 => ?_)
          have hwI5 := WX_f hWI5
          have hpu1I5 := WX_town hWI5 hu1s
          have q6 : (1 : Int32).toInt = 1 := rfl
          exact hK _ _ hWI5 (Fr.tr hF hFI5 (by intro a k h; omega)) (by omega)
        · skip
          have q4 := i32_lo (I 25 2)
          have q5 : (2 : Int32).toInt = 2 := rfl
          have hc10 := Int32.toInt_inj.mpr hc10
          have q6 := i32_lo (I u1 3)
          have q7 : (1 : Int32).toInt = 1 := rfl
          have q8 := i32_sub (I u1 3) 1 (by omega) (by omega)
          refine sfX5_readNumber ht hW  (fun v8 I7 hWI7 hFI7 hp12 => ?_)
          have hwI7 := WX_f hWI7
          have hpu1I7 := WX_town hWI7 hu1s
          refine ⟨fun hc13 => ?_, fun hc14 => ?_⟩
          · skip
            have q9 := i32_lo v8
            have q10 : (-1 : Int32).toInt = -1 := rfl
            have hc13 : ¬ (v8).toInt = ((-1) : Int32).toInt := fun z => hc13 (Int32.toInt_inj.mp z)
            have q11 := i32_add x3 1 (by omega) (by omega)
            exact ih _ (x2 ||| (1 <<< (v8 &&& 31))) (x3 + 1) hWI7 (Fr.tr hF hFI7 (by intro a k h; omega)) (by omega) (by omega)
          · skip
            have q9 := i32_lo v8
            have q10 : (-1 : Int32).toInt = -1 := rfl
            have hc14 := Int32.toInt_inj.mpr hc14
            exact hK _ _ hWI7 (Fr.tr hF hFI7 (by intro a k h; omega)) (by omega)
theorem sfX5_readMet {G : jdG} {n : Nat} {Z : jdL} {J : jdJ} {K : Int32 → jdI → jdJ → Prop}  {I : jdI} {u1 : Nat} (ht : zScribe Z 25) (hu1 : zTown Z u1) (hu1s : (u1 = 1 ∨ u1 = 5 ∨ u1 = 9)) (hW : WX I)  (hK : ∀ (v : Int32) (I2 : jdI), WX I2 → Fr (fun a k => (25 ≤ a ∧ a ≤ 26) ∨ (u1 ≤ a ∧ a ≤ u1 + 3)) I I2 → (v.toInt = 0 ∨ v.toInt = 1) → K v I2 J) : Cl G mX5_readMet (n + 3) 0 0 [.ref (gb G + 25), .ref (gb G + u1)] Z I J (qi Z K) := by
  refine eX5_readMet ht hu1 ?_
  have hwI := WX_f hW
  have hpu1I := WX_town hW hu1s
  refine sfX5_advance ht hW  (fun I1 hWI1 hFI1 => ?_)
  have hwI1 := WX_f hWI1
  have hpu1I1 := WX_town hWI1 hu1s
  have q1 : (0 : Int32).toInt = 0 := rfl
  exact lX5_readMet_8 ht hu1 hu1s  hK  (((8) - (0 : Int32).toInt).toNat + 1) _ 0 0 hWI1 (Fr.tr Fr.rf hFI1 (by intro a k h; omega)) (by omega) (by omega)
theorem sfX5_readStatement {G : jdG} {n : Nat} {Z : jdL} {J : jdJ} {K : Int32 → jdI → jdJ → Prop}  {I : jdI} {sA : Nat → Nat} {sV : Nat → Nat} {u1 : Nat} (hG : gOK G sA sV) (ht : zScribe Z 25) (hu1 : zTown Z u1) (hu1s : (u1 = 1 ∨ u1 = 5 ∨ u1 = 9)) (hW : WX I)  (hK : ∀ (v : Int32) (I2 : jdI), WX I2 → Fr (fun a k => (25 ≤ a ∧ a ≤ 26) ∨ (u1 ≤ a ∧ a ≤ u1 + 3)) I I2 → (v.toInt = 0 ∨ v.toInt = 1) → K v I2 J) : Cl G mX5_readStatement (n + 6) 0 0 [.ref (gb G + 25), .ref (gb G + u1)] Z I J (qi Z K) := by
  refine eX5_readStatement hG ht hu1 ?_
  have hwI := WX_f hW
  have hpu1I := WX_town hW hu1s
  refine sfX5_isWord hG ht (by decide) hW  (fun v2  hp1 => ?_)
  refine ⟨fun hc2 => ?_, fun hc3 => ?_⟩
  · skip
    have q1 := i32_lo v2
    have q2 : (0 : Int32).toInt = 0 := rfl
    have hc2 := Int32.toInt_inj.mpr hc2
    refine sfX5_isWord hG ht (by decide) hW  (fun v4  hp4 => ?_)
    refine ⟨fun hc5 => ?_, fun hc6 => ?_⟩
    · skip
      have q3 := i32_lo v4
      have hc5 := Int32.toInt_inj.mpr hc5
      refine sfX5_isWord hG ht (by decide) hW  (fun v6  hp7 => ?_)
      refine ⟨fun hc8 => ?_, fun hc9 => ?_⟩
      · skip
        have q4 := i32_lo v6
        have hc8 := Int32.toInt_inj.mpr hc8
        refine sfX5_isWord hG ht (by decide) hW  (fun v8  hp10 => ?_)
        refine ⟨fun hc11 => ?_, fun hc12 => ?_⟩
        · skip
          have q5 := i32_lo v8
          have hc11 := Int32.toInt_inj.mpr hc11
          refine sfX5_isWord hG ht (by decide) hW  (fun v10  hp13 => ?_)
          refine ⟨fun hc14 => ?_, fun hc15 => ?_⟩
          · skip
            have q6 := i32_lo v10
            have hc14 := Int32.toInt_inj.mpr hc14
            refine sfX5_isWord hG ht (by decide) hW  (fun v12  hp16 => ?_)
            refine ⟨fun hc17 => ?_, fun hc18 => ?_⟩
            · skip
              have q7 := i32_lo v12
              have hc17 := Int32.toInt_inj.mpr hc17
              refine sfX5_fail ht hW  (fun v14 I13 hWI13 hFI13 hp19 => ?_)
              have hwI13 := WX_f hWI13
              have hpu1I13 := WX_town hWI13 hu1s
              have q8 := i32_lo v14
              refine ⟨narrow_b (by omega), ?_⟩
              exact hK _ _ hWI13 (Fr.tr Fr.rf hFI13 (by intro a k h; omega)) (by omega)
            · skip
              have q7 := i32_lo v12
              have hc18 : ¬ (v12).toInt = (0 : Int32).toInt := fun z => hc18 (Int32.toInt_inj.mp z)
              refine sfX5_readMet ht hu1 hu1s hW  (fun v16 I15 hWI15 hFI15 hp20 => ?_)
              have hwI15 := WX_f hWI15
              have hpu1I15 := WX_town hWI15 hu1s
              have q8 := i32_lo v16
              refine ⟨narrow_b (by omega), ?_⟩
              exact hK _ _ hWI15 (Fr.tr Fr.rf hFI15 (by intro a k h; omega)) (by omega)
          · skip
            have q6 := i32_lo v10
            have hc15 : ¬ (v10).toInt = (0 : Int32).toInt := fun z => hc15 (Int32.toInt_inj.mp z)
            refine sfX5_readMemory ht hu1 hu1s hW  (fun v18 I17 hWI17 hFI17 hp21 => ?_)
            have hwI17 := WX_f hWI17
            have hpu1I17 := WX_town hWI17 hu1s
            have q7 := i32_lo v18
            refine ⟨narrow_b (by omega), ?_⟩
            exact hK _ _ hWI17 (Fr.tr Fr.rf hFI17 (by intro a k h; omega)) (by omega)
        · skip
          have q5 := i32_lo v8
          have hc12 : ¬ (v8).toInt = (0 : Int32).toInt := fun z => hc12 (Int32.toInt_inj.mp z)
          refine sfX5_readSeats ht hu1 hu1s hW  (fun v20 I19 hWI19 hFI19 hp22 => ?_)
          have hwI19 := WX_f hWI19
          have hpu1I19 := WX_town hWI19 hu1s
          have q6 := i32_lo v20
          refine ⟨narrow_b (by omega), ?_⟩
          exact hK _ _ hWI19 (Fr.tr Fr.rf hFI19 (by intro a k h; omega)) (by omega)
      · skip
        have q4 := i32_lo v6
        have hc9 : ¬ (v6).toInt = (0 : Int32).toInt := fun z => hc9 (Int32.toInt_inj.mp z)
        refine sfX5_readPair hG ht hu1 hu1s hW  (fun v22 I21 hWI21 hFI21 hp23 => ?_)
        have hwI21 := WX_f hWI21
        have hpu1I21 := WX_town hWI21 hu1s
        have q5 := i32_lo v22
        refine ⟨narrow_b (by omega), ?_⟩
        exact hK _ _ hWI21 (Fr.tr Fr.rf hFI21 (by intro a k h; omega)) (by omega)
    · skip
      have q3 := i32_lo v4
      have hc6 : ¬ (v4).toInt = (0 : Int32).toInt := fun z => hc6 (Int32.toInt_inj.mp z)
      refine sfX5_readPair hG ht hu1 hu1s hW  (fun v24 I23 hWI23 hFI23 hp24 => ?_)
      have hwI23 := WX_f hWI23
      have hpu1I23 := WX_town hWI23 hu1s
      have q4 := i32_lo v24
      refine ⟨narrow_b (by omega), ?_⟩
      exact hK _ _ hWI23 (Fr.tr Fr.rf hFI23 (by intro a k h; omega)) (by omega)
  · skip
    have q1 := i32_lo v2
    have q2 : (0 : Int32).toInt = 0 := rfl
    have hc3 : ¬ (v2).toInt = (0 : Int32).toInt := fun z => hc3 (Int32.toInt_inj.mp z)
    refine sfX5_readPerson ht hu1 hu1s hW  (fun v26 I25 hWI25 hFI25 hp25 => ?_)
    have hwI25 := WX_f hWI25
    have hpu1I25 := WX_town hWI25 hu1s
    have q3 := i32_lo v26
    refine ⟨narrow_b (by omega), ?_⟩
    exact hK _ _ hWI25 (Fr.tr Fr.rf hFI25 (by intro a k h; omega)) (by omega)
theorem lX5_read_11 {G : jdG} {n : Nat} {Z : jdL} {J : jdJ} {rc rs : Nat} {K : Int32 → jdI → jdJ → Prop}  {I0 : jdI} {sA : Nat → Nat} {sV : Nat → Nat} {u1 : Nat} (hG : gOK G sA sV) (ht : zScribe Z 25) (hu1 : zTown Z u1) (hu1s : (u1 = 1 ∨ u1 = 5 ∨ u1 = 9))  (hK : ∀ (v : Int32) (I2 : jdI), WX I2 → Fr (fun a k => (25 ≤ a ∧ a ≤ 26) ∨ (u1 ≤ a ∧ a ≤ u1 + 3)) I0 I2 → K v I2 J) : ∀ m : Nat, ∀ (I : jdI) (x2 : Int32), WX I → Fr (fun a k => (25 ≤ a ∧ a ≤ 26) ∨ (u1 ≤ a ∧ a ≤ u1 + 3)) I0 I → (0 ≤ x2.toInt ∧ x2.toInt ≤ 251) → (251) - x2.toInt < (m : Int) → Jd G mX5_read (jdFm G (qi Z K)) (n + 7) rc rs 11 [(0, .ref (gb G + 25)), (1, .ref (gb G + u1)), (2, .int x2)] [] Z I J := by
  intro m
  induction m with
  | zero =>
    intro I x2 hW hF hx2 hm
    have hwI := WX_f hW
    have hpu1I := WX_town hW hu1s
    omega
  | succ m ih =>
    intro I x2 hW hF hx2 hm
    have hwI := WX_f hW
    have hpu1I := WX_town hW hu1s
    refine rX5_read_11 ht hu1 ?_
    refine ⟨fun hc1 => ?_, fun hc2 => ?_⟩
    · skip
      have q1 : (250 : Int32).toInt = 250 := rfl
      have q2 := i32_lo x2
      have hc1 := Int32.lt_iff_toInt_lt.mp hc1
      exact hK _ _ hW hF
    · skip
      have q1 : (250 : Int32).toInt = 250 := rfl
      have q2 := i32_lo x2
      have hc2 := mt Int32.lt_iff_toInt_lt.mpr hc2
      refine sfX5_readStatement hG ht hu1 hu1s hW  (fun v2 I1 hWI1 hFI1 hp3 => ?_)
      have hwI1 := WX_f hWI1
      have hpu1I1 := WX_town hWI1 hu1s
      refine ⟨fun hc4 => ?_, fun hc5 => ?_⟩
      · skip
        have q3 := i32_lo v2
        have q4 : (0 : Int32).toInt = 0 := rfl
        have hc4 : ¬ (v2).toInt = (0 : Int32).toInt := fun z => hc4 (Int32.toInt_inj.mp z)
        refine ⟨fun hc6 => ?_, fun hc7 => ?_⟩
        · skip
          have q5 := i32_lo (I1 25 2)
          have hc6 : ¬ ((I1 25 2)).toInt = (0 : Int32).toInt := fun z => hc6 (Int32.toInt_inj.mp z)
          refine ⟨fun hc8 => ?_, fun hc9 => ?_⟩
          · skip
            have q6 : (3 : Int32).toInt = 3 := rfl
            have hc8 := Int32.toInt_inj.mpr hc8
            refine sfX5_advance ht hWI1  (fun I3 hWI3 hFI3 => ?_)
            have hwI3 := WX_f hWI3
            have hpu1I3 := WX_town hWI3 hu1s
            have q7 : (1 : Int32).toInt = 1 := rfl
            have q8 := i32_add x2 1 (by omega) (by omega)
            exact ih _ (x2 + 1) hWI3 (Fr.tr (Fr.tr hF hFI1 (by intro a k h; omega)) hFI3 (by intro a k h; omega)) (by omega) (by omega)
          · skip
            have q6 : (3 : Int32).toInt = 3 := rfl
            have hc9 : ¬ ((I1 25 2)).toInt = (3 : Int32).toInt := fun z => hc9 (Int32.toInt_inj.mp z)
            refine sfX5_fail ht hWI1  (fun v6 I5 hWI5 hFI5 hp11 => ?_)
            have hwI5 := WX_f hWI5
            have hpu1I5 := WX_town hWI5 hu1s
            exact hK _ _ hWI5 (Fr.tr (Fr.tr hF hFI1 (by intro a k h; omega)) hFI5 (by intro a k h; omega))
        · skip
          have q5 := i32_lo (I1 25 2)
          have hc7 := Int32.toInt_inj.mpr hc7
          exact hK _ _ hWI1 (Fr.tr hF hFI1 (by intro a k h; omega))
      · skip
        have q3 := i32_lo v2
        have q4 : (0 : Int32).toInt = 0 := rfl
        have hc5 := Int32.toInt_inj.mpr hc5
        exact hK _ _ hWI1 (Fr.tr hF hFI1 (by intro a k h; omega))
theorem sfX5_read {G : jdG} {n : Nat} {Z : jdL} {J : jdJ} {K : Int32 → jdI → jdJ → Prop}  {I : jdI} {sA : Nat → Nat} {sV : Nat → Nat} {u1 : Nat} (hG : gOK G sA sV) (ht : zScribe Z 25) (hu1 : zTown Z u1) (hu1s : (u1 = 1 ∨ u1 = 5 ∨ u1 = 9)) (hW : WX I)  (hK : ∀ (v : Int32) (I2 : jdI), WX I2 → Fr (fun a k => (25 ≤ a ∧ a ≤ 26) ∨ (u1 ≤ a ∧ a ≤ u1 + 3)) I I2 → K v I2 J) : Cl G mX5_read (n + 7) 0 0 [.ref (gb G + 25), .ref (gb G + u1)] Z I J (qi Z K) := by
  refine eX5_read ht hu1 ?_
  have hwI := WX_f hW
  have hpu1I := WX_town hW hu1s
  have q1 : (0 : Int32).toInt = 0 := rfl
  refine sfX5_advance ht (WX_uI hW (by first | exact okXo (by decide) | (unfold okX; refine ⟨?_, ?_, ?_, ?_, ?_, ?_, ?_, ?_, ?_, ?_⟩ <;> intro h <;> omega)))  (fun I1 hWI1 hFI1 => ?_)
  have hwI1 := WX_f hWI1
  have hpu1I1 := WX_town hWI1 hu1s
  have q2 : (1 : Int32).toInt = 1 := rfl
  exact lX5_read_11 hG ht hu1 hu1s  hK  (((251) - (1 : Int32).toInt).toNat + 1) _ 1 hWI1 (Fr.tr (Fr_uI Fr.rf (by omega)) hFI1 (by intro a k h; omega)) (by omega) (by omega)
