theorem sfX9_become {G : jdG} {n : Nat} {Z : jdL} {J : jdJ} {K : jdI → jdJ → Prop} {I : jdI} {t u1 : Nat} (ht : zTown Z t) (hu1 : zTown Z u1) (hts : (t = 1 ∨ t = 5 ∨ t = 9)) (hu1s : (u1 = 1 ∨ u1 = 5 ∨ u1 = 9)) (hW : WX I) (hK : ∀ (I2 : jdI), WX I2 → Fr (fun a _ => t ≤ a ∧ a ≤ t + 3) I I2 → K I2 J) : Cl G mX9_become (n + 1) 0 0 [.ref (gb G + t), .ref (gb G + u1)] Z I J (qv Z K) := by
  refine eX9_become ht hu1 ?_
  have hW0 : WX (cI I (u1 + 1) (t + 1) 0 0 7) := WX_cI hW (by omega)
  have hF0 : Fr (fun a _ => t ≤ a ∧ a ≤ t + 3) I (cI I (u1 + 1) (t + 1) 0 0 7) := Fr_cI Fr.rf (by intro k; omega)
  generalize (cI I (u1 + 1) (t + 1) 0 0 7) = I0 at hW0 hF0 ⊢
  have hW1 : WX (cI I0 (u1 + 2) (t + 2) 0 0 7) := WX_cI hW0 (by omega)
  have hF1 : Fr (fun a _ => t ≤ a ∧ a ≤ t + 3) I (cI I0 (u1 + 2) (t + 2) 0 0 7) := Fr_cI hF0 (by intro k; omega)
  generalize (cI I0 (u1 + 2) (t + 2) 0 0 7) = I1 at hW1 hF1 ⊢
  have hW2 : WX (cI I1 (u1 + 3) (t + 3) 0 0 49) := WX_cI hW1 (by omega)
  have hF2 : Fr (fun a _ => t ≤ a ∧ a ≤ t + 3) I (cI I1 (u1 + 3) (t + 3) 0 0 49) := Fr_cI hF1 (by intro k; omega)
  generalize (cI I1 (u1 + 3) (t + 3) 0 0 49) = I2 at hW2 hF2 ⊢
  have hp3 := WX_town hW2 hu1s
  have hW3 : WX (uI I2 t 3 (I2 u1 3)) := WX_uI hW2 (by first | exact okXo (by decide) | (unfold okX; refine ⟨?_, ?_, ?_, ?_, ?_, ?_, ?_, ?_, ?_, ?_⟩ <;> intro h <;> omega))
  have hF3 : Fr (fun a _ => t ≤ a ∧ a ≤ t + 3) I (uI I2 t 3 (I2 u1 3)) := Fr_uI hF2 (by omega)
  generalize (uI I2 t 3 (I2 u1 3)) = I3 at hW3 hF3 ⊢
  have hp4 := WX_town hW3 hu1s
  have hW4 : WX (uI I3 t 4 (I3 u1 4)) := WX_uI hW3 (by first | exact okXo (by decide) | (unfold okX; refine ⟨?_, ?_, ?_, ?_, ?_, ?_, ?_, ?_, ?_, ?_⟩ <;> intro h <;> omega))
  have hF4 : Fr (fun a _ => t ≤ a ∧ a ≤ t + 3) I (uI I3 t 4 (I3 u1 4)) := Fr_uI hF3 (by omega)
  generalize (uI I3 t 4 (I3 u1 4)) = I4 at hW4 hF4 ⊢
  have hp5 := WX_town hW4 hu1s
  have hW5 : WX (uI I4 t 5 (I4 u1 5)) := WX_uI hW4 (by first | exact okXo (by decide) | (unfold okX; refine ⟨?_, ?_, ?_, ?_, ?_, ?_, ?_, ?_, ?_, ?_⟩ <;> intro h <;> omega))
  have hF5 : Fr (fun a _ => t ≤ a ∧ a ≤ t + 3) I (uI I4 t 5 (I4 u1 5)) := Fr_uI hF4 (by omega)
  generalize (uI I4 t 5 (I4 u1 5)) = I5 at hW5 hF5 ⊢
  have hp6 := WX_town hW5 hu1s
  have hW6 : WX (uI I5 t 6 (I5 u1 6)) := WX_uI hW5 (by first | exact okXo (by decide) | (unfold okX; refine ⟨?_, ?_, ?_, ?_, ?_, ?_, ?_, ?_, ?_, ?_⟩ <;> intro h <;> omega))
  have hF6 : Fr (fun a _ => t ≤ a ∧ a ≤ t + 3) I (uI I5 t 6 (I5 u1 6)) := Fr_uI hF5 (by omega)
  generalize (uI I5 t 6 (I5 u1 6)) = I6 at hW6 hF6 ⊢
  have hp7 := WX_town hW6 hu1s
  have hW7 : WX (uI I6 t 7 (I6 u1 7)) := WX_uI hW6 (by first | exact okXo (by decide) | (unfold okX; refine ⟨?_, ?_, ?_, ?_, ?_, ?_, ?_, ?_, ?_, ?_⟩ <;> intro h <;> omega))
  have hF7 : Fr (fun a _ => t ≤ a ∧ a ≤ t + 3) I (uI I6 t 7 (I6 u1 7)) := Fr_uI hF6 (by omega)
  generalize (uI I6 t 7 (I6 u1 7)) = I7 at hW7 hF7 ⊢
  have hp8 := WX_town hW7 hu1s
  have hW8 : WX (uI I7 t 8 (I7 u1 8)) := WX_uI hW7 (by first | exact okXo (by decide) | (unfold okX; refine ⟨?_, ?_, ?_, ?_, ?_, ?_, ?_, ?_, ?_, ?_⟩ <;> intro h <;> omega))
  have hF8 : Fr (fun a _ => t ≤ a ∧ a ≤ t + 3) I (uI I7 t 8 (I7 u1 8)) := Fr_uI hF7 (by omega)
  generalize (uI I7 t 8 (I7 u1 8)) = I8 at hW8 hF8 ⊢
  have hp9 := WX_town hW8 hu1s
  have hW9 : WX (uI I8 t 9 (I8 u1 9)) := WX_uI hW8 (by first | exact okXo (by decide) | (unfold okX; refine ⟨?_, ?_, ?_, ?_, ?_, ?_, ?_, ?_, ?_, ?_⟩ <;> intro h <;> omega))
  have hF9 : Fr (fun a _ => t ≤ a ∧ a ≤ t + 3) I (uI I8 t 9 (I8 u1 9)) := Fr_uI hF8 (by omega)
  generalize (uI I8 t 9 (I8 u1 9)) = I9 at hW9 hF9 ⊢
  exact hK _ hW9 hF9
theorem sfX9_has {G : jdG} {n : Nat} {Z : jdL} {J : jdJ} {K : Int32 → jdI → jdJ → Prop}  {I : jdI} {t : Nat} {x1 : Int32} (ht : zTown Z t) (hts : (t = 1 ∨ t = 5 ∨ t = 9)) (hW : WX I)  (hK : ∀ (v : Int32), ((v.toInt = 1 ∧ 0 ≤ x1.toInt ∧ x1.toInt < (I t 3).toInt) ∨ (v.toInt = 0 ∧ ¬ (0 ≤ x1.toInt ∧ x1.toInt < (I t 3).toInt))) → K v I J) : Cl G mX9_has n 0 0 [.ref (gb G + t), .int x1] Z I J (qi Z K) := by
  refine eX9_has ht ?_
  have hwI := WX_f hW
  have hptI := WX_town hW hts
  refine ⟨fun hc1 => ?_, fun hc2 => ?_⟩
  · skip
    have q1 := i32_lo x1
    have q2 : (0 : Int32).toInt = 0 := rfl
    have hc1 := Int32.lt_iff_toInt_lt.mp hc1
    exact hK _  (by omega)
  · skip
    have q1 := i32_lo x1
    have q2 : (0 : Int32).toInt = 0 := rfl
    have hc2 := mt Int32.lt_iff_toInt_lt.mpr hc2
    refine ⟨fun hc3 => ?_, fun hc4 => ?_⟩
    · skip
      have q3 := i32_lo (I t 3)
      have hc3 := Int32.le_iff_toInt_le.mp hc3
      exact hK _  (by omega)
    · skip
      have q3 := i32_lo (I t 3)
      have hc4 := mt Int32.le_iff_toInt_le.mpr hc4
      have q4 : (1 : Int32).toInt = 1 := rfl
      exact hK _  (by omega)
theorem sfX9_hasTwo {G : jdG} {n : Nat} {Z : jdL} {J : jdJ} {K : Int32 → jdI → jdJ → Prop}  {I : jdI} {t : Nat} {x1 : Int32} {x2 : Int32} (ht : zTown Z t) (hts : (t = 1 ∨ t = 5 ∨ t = 9)) (hW : WX I)  (hK : ∀ (v : Int32), ((v.toInt = 1 ∧ (0 ≤ x1.toInt ∧ x1.toInt < (I t 3).toInt) ∧ (0 ≤ x2.toInt ∧ x2.toInt < (I t 3).toInt) ∧ ¬ x1.toInt = x2.toInt) ∨ (v.toInt = 0 ∧ ¬ ((0 ≤ x1.toInt ∧ x1.toInt < (I t 3).toInt) ∧ (0 ≤ x2.toInt ∧ x2.toInt < (I t 3).toInt) ∧ ¬ x1.toInt = x2.toInt))) → K v I J) : Cl G mX9_hasTwo (n + 1) 0 0 [.ref (gb G + t), .int x1, .int x2] Z I J (qi Z K) := by
  refine eX9_hasTwo ht ?_
  have hwI := WX_f hW
  have hptI := WX_town hW hts
  have q1 := i32_lo x1
  refine sfX9_has ht hts hW  (fun v2  hp1 => ?_)
  refine ⟨fun hc2 => ?_, fun hc3 => ?_⟩
  · skip
    have q2 := i32_lo v2
    have q3 : (0 : Int32).toInt = 0 := rfl
    have hc2 := Int32.toInt_inj.mpr hc2
    exact hK _  (by omega)
  · skip
    have q2 := i32_lo v2
    have q3 : (0 : Int32).toInt = 0 := rfl
    have hc3 : ¬ (v2).toInt = (0 : Int32).toInt := fun z => hc3 (Int32.toInt_inj.mp z)
    have q4 := i32_lo x2
    refine sfX9_has ht hts hW  (fun v4  hp4 => ?_)
    refine ⟨fun hc5 => ?_, fun hc6 => ?_⟩
    · skip
      have q5 := i32_lo v4
      have hc5 := Int32.toInt_inj.mpr hc5
      exact hK _  (by omega)
    · skip
      have q5 := i32_lo v4
      have hc6 : ¬ (v4).toInt = (0 : Int32).toInt := fun z => hc6 (Int32.toInt_inj.mp z)
      refine ⟨fun hc7 => ?_, fun hc8 => ?_⟩
      · skip
        have hc7 := Int32.toInt_inj.mpr hc7
        exact hK _  (by omega)
      · skip
        have hc8 : ¬ (x1).toInt = (x2).toInt := fun z => hc8 (Int32.toInt_inj.mp z)
        have q6 : (1 : Int32).toInt = 1 := rfl
        exact hK _  (by omega)
theorem sfX9_everybody {G : jdG} {n : Nat} {Z : jdL} {J : jdJ} {K : Int32 → jdI → jdJ → Prop}  {I : jdI} {t : Nat} (ht : zTown Z t) (hts : (t = 1 ∨ t = 5 ∨ t = 9)) (hW : WX I)  (hK : ∀ (v : Int32), (v = ((1 : Int32) <<< ((I t 3) &&& 31)) - 1 ∧ 0 ≤ v.toInt ∧ v.toInt ≤ 127) → K v I J) : Cl G mX9_everybody n 0 0 [.ref (gb G + t)] Z I J (qi Z K) := by
  refine eX9_everybody ht ?_
  have hwI := WX_f hW
  have hptI := WX_town hW hts
  exact hK _  ⟨rfl, (ev_7 (by omega) (by omega)).2.2⟩
theorem sfX9_hasAll {G : jdG} {n : Nat} {Z : jdL} {J : jdJ} {K : Int32 → jdI → jdJ → Prop}  {I : jdI} {t : Nat} {x1 : Int32} (ht : zTown Z t) (hts : (t = 1 ∨ t = 5 ∨ t = 9)) (hW : WX I)  (hK : ∀ (v : Int32), (v.toInt = 0 ∨ (v.toInt = 1 ∧ 0 ≤ x1.toInt ∧ x1.toInt ≤ 127)) → K v I J) : Cl G mX9_hasAll (n + 1) 0 0 [.ref (gb G + t), .int x1] Z I J (qi Z K) := by
  refine eX9_hasAll ht ?_
  have hwI := WX_f hW
  have hptI := WX_town hW hts
  refine ⟨fun hc1 => ?_, fun hc2 => ?_⟩
  · skip
    have q1 := i32_lo x1
    have q2 : (0 : Int32).toInt = 0 := rfl
    have hc1 := Int32.lt_iff_toInt_lt.mp hc1
    exact hK _  (by omega)
  · skip
    have q1 := i32_lo x1
    have q2 : (0 : Int32).toInt = 0 := rfl
    have hc2 := mt Int32.lt_iff_toInt_lt.mpr hc2
    refine sfX9_everybody ht hts hW  (fun v2  hp3 => ?_)
    refine ⟨fun hc4 => ?_, fun hc5 => ?_⟩
    · skip
      have q3 := i32_lo v2
      have hc4 := Int32.lt_iff_toInt_lt.mp hc4
      exact hK _  (by omega)
    · skip
      have q3 := i32_lo v2
      have hc5 := mt Int32.lt_iff_toInt_lt.mpr hc5
      have q4 : (1 : Int32).toInt = 1 := rfl
      exact hK _  (by omega)
theorem sfX9_tie {G : jdG} {n : Nat} {Z : jdL} {J : jdJ} {K : jdI → jdJ → Prop}  {I : jdI} {t : Nat} {x1 : Int32} {x2 : Int32} {x3 : Int32} (ht : zTown Z t) (hts : (t = 1 ∨ t = 5 ∨ t = 9)) (hW : WX I) (hx1 : 0 ≤ x1.toInt ∧ x1.toInt ≤ 6) (hx2 : 0 ≤ x2.toInt ∧ x2.toInt ≤ 6) (hK : ∀ (I2 : jdI), WX I2 → Fr (fun a k => a = t + 3) I I2 → K I2 J) : Cl G mX9_tie n 0 0 [.ref (gb G + t), .int x1, .int x2, .int x3] Z I J (qv Z K) := by
  refine eX9_tie ht ?_
  have hwI := WX_f hW
  have hptI := WX_town hW hts
  have q1 := i32_lo x1
  have q2 : (7 : Int32).toInt = 7 := rfl
  have q3 := i32_mulc x1 7 7 rfl (by omega) (by omega)
  have q4 := i32_lo x2
  have q5 := i32_add (x1 * 7) x2 (by omega) (by omega)
  refine ⟨vp_of (by omega) (by omega), ?_⟩
  have q6 := i32_mulc x2 7 7 rfl (by omega) (by omega)
  have q7 := i32_add (x2 * 7) x1 (by omega) (by omega)
  refine ⟨vp_of (by omega) (by omega), ?_⟩
  exact hK _ (WX_uI (WX_uI hW (by first | exact okXo (by decide) | (unfold okX; refine ⟨?_, ?_, ?_, ?_, ?_, ?_, ?_, ?_, ?_, ?_⟩ <;> intro h <;> omega))) (by first | exact okXo (by decide) | (unfold okX; refine ⟨?_, ?_, ?_, ?_, ?_, ?_, ?_, ?_, ?_, ?_⟩ <;> intro h <;> omega))) (Fr_uI (Fr_uI Fr.rf (by omega)) (by omega))
theorem lX9_add_43 {G : jdG} {n : Nat} {Z : jdL} {J : jdJ} {rc rs : Nat} {K : Int32 → jdI → jdJ → Prop}  {I0 : jdI} {t : Nat} {x1 : Int32} {x2 : Int32} (ht : zTown Z t) (hts : (t = 1 ∨ t = 5 ∨ t = 9))  (hK : ∀ (v : Int32) (I2 : jdI), WX I2 → Fr (fun a k => t ≤ a ∧ a ≤ t + 3) I0 I2 → (v.toInt = -1 ∨ (0 ≤ v.toInt ∧ v.toInt ≤ 6)) → K v I2 J) : ∀ m : Nat, ∀ (I : jdI) (x3 : Int32) (x4 : Int32), WX I → Fr (fun a k => t ≤ a ∧ a ≤ t + 3) I0 I → (0 ≤ x4.toInt ∧ x4.toInt ≤ 7) → (0 ≤ x3.toInt ∧ x3.toInt ≤ 6) → (7) - x4.toInt < (m : Int) → Jd G mX9_add (jdFm G (qi Z K)) (n + 1) rc rs 43 [(0, .ref (gb G + t)), (1, .int x1), (2, .int x2), (3, .int x3), (4, .int x4)] [] Z I J := by
  intro m
  induction m with
  | zero =>
    intro I x3 x4 hW hF hx4 hx3 hm
    have hwI := WX_f hW
    have hptI := WX_town hW hts
    omega
  | succ m ih =>
    intro I x3 x4 hW hF hx4 hx3 hm
    have hwI := WX_f hW
    have hptI := WX_town hW hts
    refine rX9_add_43 ht ?_
    refine ⟨fun hc1 => ?_, fun hc2 => ?_⟩
    · skip
      have q1 := i32_lo x3
      have q2 := i32_lo x4
      have hc1 := Int32.le_iff_toInt_le.mp hc1
      exact hK _ _ hW hF (by omega)
    · skip
      have q1 := i32_lo x3
      have q2 := i32_lo x4
      have hc2 := mt Int32.le_iff_toInt_le.mpr hc2
      refine sfX9_tie ht hts hW (by omega) (by omega) (fun I1 hWI1 hFI1 => ?_)
      have hwI1 := WX_f hWI1
      have hptI1 := WX_town hWI1 hts
      have q3 : (1 : Int32).toInt = 1 := rfl
      have q4 := i32_add x4 1 (by omega) (by omega)
      exact ih _ x3 (x4 + 1) hWI1 (Fr.tr hF hFI1 (by intro a k h; omega)) (by omega) (by omega) (by omega)
theorem sfX9_add {G : jdG} {n : Nat} {Z : jdL} {J : jdJ} {K : Int32 → jdI → jdJ → Prop}  {I : jdI} {t : Nat} {x1 : Int32} {x2 : Int32} (ht : zTown Z t) (hts : (t = 1 ∨ t = 5 ∨ t = 9)) (hW : WX I)  (hK : ∀ (v : Int32) (I2 : jdI), WX I2 → Fr (fun a k => t ≤ a ∧ a ≤ t + 3) I I2 → (v.toInt = -1 ∨ (0 ≤ v.toInt ∧ v.toInt ≤ 6)) → K v I2 J) : Cl G mX9_add (n + 1) 0 0 [.ref (gb G + t), .int x1, .int x2] Z I J (qi Z K) := by
  refine eX9_add ht ?_
  have hwI := WX_f hW
  have hptI := WX_town hW hts
  refine ⟨fun hc1 => ?_, fun hc2 => ?_⟩
  · skip
    have q1 := i32_lo (I t 3)
    have q2 : (7 : Int32).toInt = 7 := rfl
    have hc1 := Int32.lt_iff_toInt_lt.mp hc1
    refine ⟨vp_of (by omega) (by omega), ?_⟩
    refine ⟨vp_of (by omega) (by omega), ?_⟩
    have q3 : (0 : Int32).toInt = 0 := rfl
    have q4 : (1 : Int32).toInt = 1 := rfl
    have q5 := i32_add (I t 3) 1 (by omega) (by omega)
    exact lX9_add_43 ht hts  hK  (((7) - (0 : Int32).toInt).toNat + 1) _ (I t 3) 0 (WX_uI (WX_uI (WX_uI hW (by first | exact okXo (by decide) | (unfold okX; refine ⟨?_, ?_, ?_, ?_, ?_, ?_, ?_, ?_, ?_, ?_⟩ <;> intro h <;> omega))) (by first | exact okXo (by decide) | (unfold okX; refine ⟨?_, ?_, ?_, ?_, ?_, ?_, ?_, ?_, ?_, ?_⟩ <;> intro h <;> omega))) (by first | exact okXo (by decide) | (unfold okX; refine ⟨?_, ?_, ?_, ?_, ?_, ?_, ?_, ?_, ?_, ?_⟩ <;> intro h <;> omega))) (Fr_uI (Fr_uI (Fr_uI Fr.rf (by omega)) (by omega)) (by omega)) (by omega) (by omega) (by omega)
  · skip
    have q1 := i32_lo (I t 3)
    have q2 : (7 : Int32).toInt = 7 := rfl
    have hc2 := mt Int32.lt_iff_toInt_lt.mpr hc2
    have q3 : (-1 : Int32).toInt = -1 := rfl
    exact hK _ _ hW Fr.rf (by omega)
theorem sfX9_draw {G : jdG} {n : Nat} {Z : jdL} {J : jdJ} {K : Int32 → jdI → jdJ → Prop}  {I : jdI} {t : Nat} {x1 : Int32} (ht : zTown Z t) (hts : (t = 1 ∨ t = 5 ∨ t = 9)) (hW : WX I)  (hK : ∀ (v : Int32) (I2 : jdI), WX I2 → Fr (fun a k => a = t ∧ k = 6) I I2 → K v I2 J) : Cl G mX9_draw n 0 0 [.ref (gb G + t), .int x1] Z I J (qi Z K) := by
  refine eX9_draw ht ?_
  have hwI := WX_f hW
  have hptI := WX_town hW hts
  refine ⟨fun hc1 => ?_, fun hc2 => ?_⟩
  · skip
    have q1 : (1 : Int32).toInt = 1 := rfl
    have q2 := i32_lo x1
    have hc1 := Int32.le_iff_toInt_le.mp hc1
    refine ⟨by intro hz; have hz := Int32.toInt_inj.mpr hz; have q0 : (0 : Int32).toInt = 0 := rfl; omega, ?_⟩
    exact hK _ _ (WX_uI hW (by first | exact okXo (by decide) | (unfold okX; refine ⟨?_, ?_, ?_, ?_, ?_, ?_, ?_, ?_, ?_, ?_⟩ <;> intro h <;> omega))) (Fr_uI Fr.rf (by omega))
  · skip
    have q1 : (1 : Int32).toInt = 1 := rfl
    have q2 := i32_lo x1
    have hc2 := mt Int32.le_iff_toInt_le.mpr hc2
    exact hK _ _ (WX_uI hW (by first | exact okXo (by decide) | (unfold okX; refine ⟨?_, ?_, ?_, ?_, ?_, ?_, ?_, ?_, ?_, ?_⟩ <;> intro h <;> omega))) (Fr_uI Fr.rf (by omega))
theorem lX9_addByDraws_24 {G : jdG} {n : Nat} {Z : jdL} {J : jdJ} {rc rs : Nat} {K : jdI → jdJ → Prop}  {I0 : jdI} {t : Nat} (ht : zTown Z t) (hts : (t = 1 ∨ t = 5 ∨ t = 9))  (hK : ∀ (I2 : jdI), WX I2 → Fr (fun a k => t ≤ a ∧ a ≤ t + 3) I0 I2 → K I2 J) : ∀ m : Nat, ∀ (I : jdI) (x1 : Int32) (x2 : Int32) (x3 : Int32) (x4 : Int32), WX I → Fr (fun a k => t ≤ a ∧ a ≤ t + 3) I0 I → (0 ≤ x4.toInt ∧ x4.toInt ≤ 7) → (x3.toInt ≤ 6) → (7) - x4.toInt < (m : Int) → Jd G mX9_addByDraws (jdFm G (qv Z K)) (n + 2) rc rs 24 [(0, .ref (gb G + t)), (1, .int x1), (2, .int x2), (3, .int x3), (4, .int x4)] [] Z I J := by
  intro m
  induction m with
  | zero =>
    intro I x1 x2 x3 x4 hW hF hx4 hx3 hm
    have hwI := WX_f hW
    have hptI := WX_town hW hts
    omega
  | succ m ih =>
    intro I x1 x2 x3 x4 hW hF hx4 hx3 hm
    have hwI := WX_f hW
    have hptI := WX_town hW hts
    refine rX9_addByDraws_24 ht ?_
    refine ⟨fun hc1 => ?_, fun hc2 => ?_⟩
    · skip
      have q1 := i32_lo x3
      have q2 := i32_lo x4
      have hc1 := Int32.le_iff_toInt_le.mp hc1
      exact hK _ hW hF
    · skip
      have q1 := i32_lo x3
      have q2 := i32_lo x4
      have hc2 := mt Int32.le_iff_toInt_le.mpr hc2
      refine sfX9_draw ht hts hW  (fun v2 I1 hWI1 hFI1 => ?_)
      have hwI1 := WX_f hWI1
      have hptI1 := WX_town hWI1 hts
      refine ⟨fun hc4 => ?_, fun hc5 => ?_⟩
      · skip
        have q3 := i32_lo v2
        have q4 : (0 : Int32).toInt = 0 := rfl
        have hc4 : ¬ (v2).toInt = (0 : Int32).toInt := fun z => hc4 (Int32.toInt_inj.mp z)
        have q5 : (1 : Int32).toInt = 1 := rfl
        have q6 := i32_add x4 1 (by omega) (by omega)
        exact ih _ x1 x2 x3 (x4 + 1) hWI1 (Fr.tr hF hFI1 (by intro a k h; omega)) (by omega) (by omega) (by omega)
      · skip
        have q3 := i32_lo v2
        have q4 : (0 : Int32).toInt = 0 := rfl
        have hc5 := Int32.toInt_inj.mpr hc5
        refine sfX9_tie ht hts hWI1 (by omega) (by omega) (fun I3 hWI3 hFI3 => ?_)
        have hwI3 := WX_f hWI3
        have hptI3 := WX_town hWI3 hts
        have q5 : (1 : Int32).toInt = 1 := rfl
        have q6 := i32_add x4 1 (by omega) (by omega)
        exact ih _ x1 x2 x3 (x4 + 1) hWI3 (Fr.tr (Fr.tr hF hFI1 (by intro a k h; omega)) hFI3 (by intro a k h; omega)) (by omega) (by omega) (by omega)
theorem sfX9_addByDraws {G : jdG} {n : Nat} {Z : jdL} {J : jdJ} {K : jdI → jdJ → Prop}  {I : jdI} {t : Nat} (ht : zTown Z t) (hts : (t = 1 ∨ t = 5 ∨ t = 9)) (hW : WX I)  (hK : ∀ (I2 : jdI), WX I2 → Fr (fun a k => t ≤ a ∧ a ≤ t + 3) I I2 → K I2 J) : Cl G mX9_addByDraws (n + 2) 0 0 [.ref (gb G + t)] Z I J (qv Z K) := by
  refine eX9_addByDraws ht ?_
  have hwI := WX_f hW
  have hptI := WX_town hW hts
  refine sfX9_draw ht hts hW  (fun v2 I1 hWI1 hFI1 => ?_)
  have hwI1 := WX_f hWI1
  have hptI1 := WX_town hWI1 hts
  refine sfX9_draw ht hts hWI1  (fun v4 I3 hWI3 hFI3 => ?_)
  have hwI3 := WX_f hWI3
  have hptI3 := WX_town hWI3 hts
  refine sfX9_add ht hts hWI3  (fun v6 I5 hWI5 hFI5 hp3 => ?_)
  have hwI5 := WX_f hWI5
  have hptI5 := WX_town hWI5 hts
  have q1 := i32_lo v6
  have q2 : (0 : Int32).toInt = 0 := rfl
  exact lX9_addByDraws_24 ht hts  hK  (((7) - (0 : Int32).toInt).toNat + 1) _ v2 v4 v6 0 hWI5 (Fr.tr (Fr.tr (Fr.tr Fr.rf hFI1 (by intro a k h; omega)) hFI3 (by intro a k h; omega)) hFI5 (by intro a k h; omega)) (by omega) (by omega) (by omega)
theorem lX9_countStrangers_4 {G : jdG} {n : Nat} {Z : jdL} {J : jdJ} {rc rs : Nat} {K : Int32 → jdI → jdJ → Prop}  {I : jdI} {t : Nat} (ht : zTown Z t) (hts : (t = 1 ∨ t = 5 ∨ t = 9)) (hW : WX I)  (hK : ∀ (v : Int32), K v I J) : ∀ m : Nat, ∀ (x1 : Int32) (x2 : Int32), (0 ≤ x2.toInt ∧ x2.toInt ≤ 7) → (7) - x2.toInt < (m : Int) → Jd G mX9_countStrangers (jdFm G (qi Z K)) (n + 2) rc rs 4 [(0, .ref (gb G + t)), (1, .int x1), (2, .int x2)] [] Z I J := by
  intro m
  induction m with
  | zero =>
    intro x1 x2 hx2 hm
    have hwI := WX_f hW
    have hptI := WX_town hW hts
    omega
  | succ m ih =>
    intro x1 x2 hx2 hm
    have hwI := WX_f hW
    have hptI := WX_town hW hts
    refine rX9_countStrangers_4 ht ?_
    refine ⟨fun hc1 => ?_, fun hc2 => ?_⟩
    · skip
      have q1 := i32_lo (I t 3)
      have q2 := i32_lo x2
      have hc1 := Int32.le_iff_toInt_le.mp hc1
      exact hK _ 
    · skip
      have q1 := i32_lo (I t 3)
      have q2 := i32_lo x2
      have hc2 := mt Int32.le_iff_toInt_le.mpr hc2
      refine sfX9_strangersTo ht hts hW (by omega) (fun v2  => ?_)
      refine sfJ6_bitCount_0f7a4  hW  (fun v4  hp4 => ?_)
      have q3 : (1 : Int32).toInt = 1 := rfl
      have q4 := i32_add x2 1 (by omega) (by omega)
      exact ih (x1 + v4) (x2 + 1) (by omega) (by omega)
theorem sfX9_countStrangers {G : jdG} {n : Nat} {Z : jdL} {J : jdJ} {K : Int32 → jdI → jdJ → Prop}  {I : jdI} {t : Nat} (ht : zTown Z t) (hts : (t = 1 ∨ t = 5 ∨ t = 9)) (hW : WX I)  (hK : ∀ (v : Int32), K v I J) : Cl G mX9_countStrangers (n + 2) 0 0 [.ref (gb G + t)] Z I J (qi Z K) := by
  refine eX9_countStrangers ht ?_
  have hwI := WX_f hW
  have hptI := WX_town hW hts
  have q1 : (0 : Int32).toInt = 0 := rfl
  exact lX9_countStrangers_4 ht hts hW  hK  (((7) - (0 : Int32).toInt).toNat + 1) 0 0 (by omega) (by omega)
theorem lX9_acquaint_15 {G : jdG} {n : Nat} {Z : jdL} {J : jdJ} {rc rs : Nat} {K : Int32 → jdI → jdJ → Prop}  {I0 : jdI} {mo4 : Nat} {t : Nat} {x1 : Int32} (ht : zTown Z t) (hts : (t = 1 ∨ t = 5 ∨ t = 9))  (hK : ∀ (v : Int32) (I2 : jdI), WX I2 → Fr (fun a k => a = t + 3) I0 I2 → K v I2 J) (hO4 : ∀ (I : jdI) (x2 : Int32) (x3 : Int32), WX I → Fr (fun a k => a = t + 3) I0 I → (0 ≤ x3.toInt ∧ x3.toInt ≤ 7) → (7) - x3.toInt < (mo4 : Int) → Jd G mX9_acquaint (jdFm G (qi Z K)) (n + 1) rc rs 4 [(0, .ref (gb G + t)), (1, .int x1), (2, .int x2), (3, .int x3)] [] Z I J) : ∀ m : Nat, ∀ (I : jdI) (x2 : Int32) (x3 : Int32) (x4 : Int32), WX I → Fr (fun a k => a = t + 3) I0 I → (0 ≤ x4.toInt ∧ x4.toInt ≤ 7) → (0 ≤ x3.toInt ∧ x3.toInt ≤ 6) → (7) - x3.toInt ≤ (mo4 : Int) → (7) - x4.toInt < (m : Int) → Jd G mX9_acquaint (jdFm G (qi Z K)) (n + 1) rc rs 15 [(0, .ref (gb G + t)), (1, .int x1), (2, .int x2), (3, .int x3), (4, .int x4)] [] Z I J := by
  intro m
  induction m with
  | zero =>
    intro I x2 x3 x4 hW hF hx4 hx3 hmo4 hm
    have hwI := WX_f hW
    have hptI := WX_town hW hts
    omega
  | succ m ih =>
    intro I x2 x3 x4 hW hF hx4 hx3 hmo4 hm
    have hwI := WX_f hW
    have hptI := WX_town hW hts
    refine rX9_acquaint_15 ht ?_
    refine ⟨fun hc1 => ?_, fun hc2 => ?_⟩
    · skip
      have q1 := i32_lo x3
      have q2 := i32_lo x4
      have hc1 := Int32.le_iff_toInt_le.mp hc1
      have q3 : (1 : Int32).toInt = 1 := rfl
      have q4 := i32_add x3 1 (by omega) (by omega)
      exact hO4 _ x2 (x3 + 1) hW hF (by omega) (by omega)
    · skip
      have q1 := i32_lo x3
      have q2 := i32_lo x4
      have hc2 := mt Int32.le_iff_toInt_le.mpr hc2
      refine ⟨fun hc3 => ?_, fun hc4 => ?_⟩
      · skip
        have q3 := i32_lo x1
        have q4 : (31 : Int32).toInt = 31 := rfl
        have q5 : (1 : Int32).toInt = 1 := rfl
        have q6 : (0 : Int32).toInt = 0 := rfl
        have hc3 := Int32.toInt_inj.mpr hc3
        have q7 := i32_add x4 1 (by omega) (by omega)
        exact ih _ x2 x3 (x4 + 1) hW hF (by omega) (by omega) (by omega) (by omega)
      · skip
        have q3 := i32_lo x1
        have q4 : (31 : Int32).toInt = 31 := rfl
        have q5 : (1 : Int32).toInt = 1 := rfl
        have q6 : (0 : Int32).toInt = 0 := rfl
        have hc4 : ¬ ((((x1 >>> (x3 &&& 31)) &&& (x1 >>> (x4 &&& 31))) &&& 1)).toInt = (0 : Int32).toInt := fun z => hc4 (Int32.toInt_inj.mp z)
        refine sfX9_since ht hts hW (by omega) (by omega) (fun v2  => ?_)
        refine ⟨fun hc6 => ?_, fun hc7 => ?_⟩
        · skip
          have q7 := i32_lo v2
          have q8 : (-1 : Int32).toInt = -1 := rfl
          have hc6 : ¬ (v2).toInt = ((-1) : Int32).toInt := fun z => hc6 (Int32.toInt_inj.mp z)
          refine sfX9_tie ht hts hW (by omega) (by omega) (fun I3 hWI3 hFI3 => ?_)
          have hwI3 := WX_f hWI3
          have hptI3 := WX_town hWI3 hts
          have q9 := i32_add x4 1 (by omega) (by omega)
          exact ih _ (x2 + 0) x3 (x4 + 1) hWI3 (Fr.tr hF hFI3 (by intro a k h; omega)) (by omega) (by omega) (by omega) (by omega)
        · skip
          have q7 := i32_lo v2
          have q8 : (-1 : Int32).toInt = -1 := rfl
          have hc7 := Int32.toInt_inj.mpr hc7
          refine sfX9_tie ht hts hW (by omega) (by omega) (fun I5 hWI5 hFI5 => ?_)
          have hwI5 := WX_f hWI5
          have hptI5 := WX_town hWI5 hts
          have q9 := i32_add x4 1 (by omega) (by omega)
          exact ih _ (x2 + 1) x3 (x4 + 1) hWI5 (Fr.tr hF hFI5 (by intro a k h; omega)) (by omega) (by omega) (by omega) (by omega)
theorem lX9_acquaint_4 {G : jdG} {n : Nat} {Z : jdL} {J : jdJ} {rc rs : Nat} {K : Int32 → jdI → jdJ → Prop}  {I0 : jdI} {t : Nat} {x1 : Int32} (ht : zTown Z t) (hts : (t = 1 ∨ t = 5 ∨ t = 9))  (hK : ∀ (v : Int32) (I2 : jdI), WX I2 → Fr (fun a k => a = t + 3) I0 I2 → K v I2 J) : ∀ m : Nat, ∀ (I : jdI) (x2 : Int32) (x3 : Int32), WX I → Fr (fun a k => a = t + 3) I0 I → (0 ≤ x3.toInt ∧ x3.toInt ≤ 7) → (7) - x3.toInt < (m : Int) → Jd G mX9_acquaint (jdFm G (qi Z K)) (n + 1) rc rs 4 [(0, .ref (gb G + t)), (1, .int x1), (2, .int x2), (3, .int x3)] [] Z I J := by
  intro m
  induction m with
  | zero =>
    intro I x2 x3 hW hF hx3 hm
    have hwI := WX_f hW
    have hptI := WX_town hW hts
    omega
  | succ m ih =>
    intro I x2 x3 hW hF hx3 hm
    have hwI := WX_f hW
    have hptI := WX_town hW hts
    refine rX9_acquaint_4 ht ?_
    refine ⟨fun hc1 => ?_, fun hc2 => ?_⟩
    · skip
      have q1 := i32_lo (I t 3)
      have q2 := i32_lo x3
      have hc1 := Int32.le_iff_toInt_le.mp hc1
      exact hK _ _ hW hF
    · skip
      have q1 := i32_lo (I t 3)
      have q2 := i32_lo x3
      have hc2 := mt Int32.le_iff_toInt_le.mpr hc2
      have q3 : (0 : Int32).toInt = 0 := rfl
      exact lX9_acquaint_15 ht hts  hK ih (((7) - (0 : Int32).toInt).toNat + 1) _ x2 x3 0 hW hF (by omega) (by omega) (by omega) (by omega)
theorem sfX9_acquaint {G : jdG} {n : Nat} {Z : jdL} {J : jdJ} {K : Int32 → jdI → jdJ → Prop}  {I : jdI} {t : Nat} {x1 : Int32} (ht : zTown Z t) (hts : (t = 1 ∨ t = 5 ∨ t = 9)) (hW : WX I)  (hK : ∀ (v : Int32) (I2 : jdI), WX I2 → Fr (fun a k => a = t + 3) I I2 → K v I2 J) : Cl G mX9_acquaint (n + 1) 0 0 [.ref (gb G + t), .int x1] Z I J (qi Z K) := by
  refine eX9_acquaint ht ?_
  have hwI := WX_f hW
  have hptI := WX_town hW hts
  have q1 : (0 : Int32).toInt = 0 := rfl
  exact lX9_acquaint_4 ht hts  hK  (((7) - (0 : Int32).toInt).toNat + 1) _ 0 0 hW Fr.rf (by omega) (by omega)
theorem sfX9_endDay {G : jdG} {n : Nat} {Z : jdL} {J : jdJ} {K : jdI → jdJ → Prop}  {I : jdI} {t : Nat} {x1 : Int32} (ht : zTown Z t) (hts : (t = 1 ∨ t = 5 ∨ t = 9)) (hW : WX I)  (hK : ∀ (I2 : jdI), WX I2 → Fr (fun a k => a = t ∧ (k = 7 ∨ k = 8)) I I2 → K I2 J) : Cl G mX9_endDay n 0 0 [.ref (gb G + t), .int x1] Z I J (qv Z K) := by
  refine eX9_endDay ht ?_
  have hwI := WX_f hW
  have hptI := WX_town hW hts
  exact hK _ (WX_uI (WX_uI hW (by first | exact okXo (by decide) | (unfold okX; refine ⟨?_, ?_, ?_, ?_, ?_, ?_, ?_, ?_, ?_, ?_⟩ <;> intro h <;> omega))) (by first | exact okXo (by decide) | (unfold okX; refine ⟨?_, ?_, ?_, ?_, ?_, ?_, ?_, ?_, ?_, ?_⟩ <;> intro h <;> omega))) (Fr_uI (Fr_uI Fr.rf (by omega)) (by omega))
theorem lX9_age_24 {G : jdG} {n : Nat} {Z : jdL} {J : jdJ} {rc rs : Nat} {K : Int32 → jdI → jdJ → Prop}  {I0 : jdI} {mo14 : Nat} {t : Nat} (ht : zTown Z t) (hts : (t = 1 ∨ t = 5 ∨ t = 9))  (hK : ∀ (v : Int32) (I2 : jdI), WX I2 → Fr (fun a k => (a = t ∧ k = 9) ∨ a = t + 3) I0 I2 → K v I2 J) (hO14 : ∀ (I : jdI) (x1 : Int32) (x2 : Int32), WX I → Fr (fun a k => (a = t ∧ k = 9) ∨ a = t + 3) I0 I → (0 ≤ x2.toInt ∧ x2.toInt ≤ 7) → (7) - x2.toInt < (mo14 : Int) → Jd G mX9_age (jdFm G (qi Z K)) (n + 1) rc rs 14 [(0, .ref (gb G + t)), (1, .int x1), (2, .int x2)] [] Z I J) : ∀ m : Nat, ∀ (I : jdI) (x1 : Int32) (x2 : Int32) (x3 : Int32), WX I → Fr (fun a k => (a = t ∧ k = 9) ∨ a = t + 3) I0 I → (0 ≤ x3.toInt ∧ x3.toInt ≤ 7) → (0 ≤ x2.toInt ∧ x2.toInt ≤ 6) → (7) - x2.toInt ≤ (mo14 : Int) → (7) - x3.toInt < (m : Int) → Jd G mX9_age (jdFm G (qi Z K)) (n + 1) rc rs 24 [(0, .ref (gb G + t)), (1, .int x1), (2, .int x2), (3, .int x3)] [] Z I J := by
  intro m
  induction m with
  | zero =>
    intro I x1 x2 x3 hW hF hx3 hx2 hmo14 hm
    have hwI := WX_f hW
    have hptI := WX_town hW hts
    omega
  | succ m ih =>
    intro I x1 x2 x3 hW hF hx3 hx2 hmo14 hm
    have hwI := WX_f hW
    have hptI := WX_town hW hts
    refine rX9_age_24 ht ?_
    refine ⟨fun hc1 => ?_, fun hc2 => ?_⟩
    · skip
      have q1 := i32_lo x2
      have q2 := i32_lo x3
      have hc1 := Int32.le_iff_toInt_le.mp hc1
      have q3 : (1 : Int32).toInt = 1 := rfl
      have q4 := i32_add x2 1 (by omega) (by omega)
      exact hO14 _ x1 (x2 + 1) hW hF (by omega) (by omega)
    · skip
      have q1 := i32_lo x2
      have q2 := i32_lo x3
      have hc2 := mt Int32.le_iff_toInt_le.mpr hc2
      refine sfX9_since ht hts hW (by omega) (by omega) (fun v2  => ?_)
      refine ⟨fun hc4 => ?_, fun hc5 => ?_⟩
      · skip
        have q3 := i32_lo v2
        have q4 : (-1 : Int32).toInt = -1 := rfl
        have hc4 := Int32.toInt_inj.mpr hc4
        have q5 : (1 : Int32).toInt = 1 := rfl
        have q6 := i32_add x3 1 (by omega) (by omega)
        exact ih _ x1 x2 (x3 + 1) hW hF (by omega) (by omega) (by omega) (by omega)
      · skip
        have q3 := i32_lo v2
        have q4 : (-1 : Int32).toInt = -1 := rfl
        have hc5 : ¬ (v2).toInt = ((-1) : Int32).toInt := fun z => hc5 (Int32.toInt_inj.mp z)
        refine ⟨fun hc6 => ?_, fun hc7 => ?_⟩
        · skip
          have q5 := i32_lo (I t 5)
          have q6 : (0 : Int32).toInt = 0 := rfl
          have hc6 := Int32.toInt_inj.mpr hc6
          refine sfX9_tie ht hts hW (by omega) (by omega) (fun I3 hWI3 hFI3 => ?_)
          have hwI3 := WX_f hWI3
          have hptI3 := WX_town hWI3 hts
          have q7 : (1 : Int32).toInt = 1 := rfl
          have q8 := i32_add x3 1 (by omega) (by omega)
          exact ih _ (x1 + 0) x2 (x3 + 1) hWI3 (Fr.tr hF hFI3 (by intro a k h; omega)) (by omega) (by omega) (by omega) (by omega)
        · skip
          have q5 := i32_lo (I t 5)
          have q6 : (0 : Int32).toInt = 0 := rfl
          have hc7 : ¬ ((I t 5)).toInt = (0 : Int32).toInt := fun z => hc7 (Int32.toInt_inj.mp z)
          refine ⟨fun hc9 => ?_, fun hc10 => ?_⟩
          · skip
            have q7 : (99 : Int32).toInt = 99 := rfl
            have q8 : (1 : Int32).toInt = 1 := rfl
            have q9 := i32_addI v2 1
            have q10 := i32_sel 99 (v2 + 1) 99 (v2 + 1)
            have hc9 := Int32.le_iff_toInt_le.mp hc9
            refine sfX9_tie ht hts hW (by omega) (by omega) (fun I5 hWI5 hFI5 => ?_)
            have hwI5 := WX_f hWI5
            have hptI5 := WX_town hWI5 hts
            have q11 := i32_add x3 1 (by omega) (by omega)
            exact ih _ (x1 + 0) x2 (x3 + 1) hWI5 (Fr.tr hF hFI5 (by intro a k h; omega)) (by omega) (by omega) (by omega) (by omega)
          · skip
            have q7 : (99 : Int32).toInt = 99 := rfl
            have q8 : (1 : Int32).toInt = 1 := rfl
            have q9 := i32_addI v2 1
            have q10 := i32_sel 99 (v2 + 1) 99 (v2 + 1)
            have hc10 := mt Int32.le_iff_toInt_le.mpr hc10
            refine sfX9_tie ht hts hW (by omega) (by omega) (fun I7 hWI7 hFI7 => ?_)
            have hwI7 := WX_f hWI7
            have hptI7 := WX_town hWI7 hts
            have q11 := i32_add x3 1 (by omega) (by omega)
            exact ih _ (x1 + 1) x2 (x3 + 1) hWI7 (Fr.tr hF hFI7 (by intro a k h; omega)) (by omega) (by omega) (by omega) (by omega)
theorem lX9_age_14 {G : jdG} {n : Nat} {Z : jdL} {J : jdJ} {rc rs : Nat} {K : Int32 → jdI → jdJ → Prop}  {I0 : jdI} {t : Nat} (ht : zTown Z t) (hts : (t = 1 ∨ t = 5 ∨ t = 9))  (hK : ∀ (v : Int32) (I2 : jdI), WX I2 → Fr (fun a k => (a = t ∧ k = 9) ∨ a = t + 3) I0 I2 → K v I2 J) : ∀ m : Nat, ∀ (I : jdI) (x1 : Int32) (x2 : Int32), WX I → Fr (fun a k => (a = t ∧ k = 9) ∨ a = t + 3) I0 I → (0 ≤ x2.toInt ∧ x2.toInt ≤ 7) → (7) - x2.toInt < (m : Int) → Jd G mX9_age (jdFm G (qi Z K)) (n + 1) rc rs 14 [(0, .ref (gb G + t)), (1, .int x1), (2, .int x2)] [] Z I J := by
  intro m
  induction m with
  | zero =>
    intro I x1 x2 hW hF hx2 hm
    have hwI := WX_f hW
    have hptI := WX_town hW hts
    omega
  | succ m ih =>
    intro I x1 x2 hW hF hx2 hm
    have hwI := WX_f hW
    have hptI := WX_town hW hts
    refine rX9_age_14 ht ?_
    refine ⟨fun hc1 => ?_, fun hc2 => ?_⟩
    · skip
      have q1 := i32_lo (I t 3)
      have q2 := i32_lo x2
      have hc1 := Int32.le_iff_toInt_le.mp hc1
      exact hK _ _ hW hF
    · skip
      have q1 := i32_lo (I t 3)
      have q2 := i32_lo x2
      have hc2 := mt Int32.le_iff_toInt_le.mpr hc2
      have q3 : (0 : Int32).toInt = 0 := rfl
      exact lX9_age_24 ht hts  hK ih (((7) - (0 : Int32).toInt).toNat + 1) _ x1 x2 0 hW hF (by omega) (by omega) (by omega) (by omega)
theorem sfX9_age {G : jdG} {n : Nat} {Z : jdL} {J : jdJ} {K : Int32 → jdI → jdJ → Prop}  {I : jdI} {t : Nat} (ht : zTown Z t) (hts : (t = 1 ∨ t = 5 ∨ t = 9)) (hW : WX I)  (hK : ∀ (v : Int32) (I2 : jdI), WX I2 → Fr (fun a k => (a = t ∧ k = 9) ∨ a = t + 3) I I2 → K v I2 J) : Cl G mX9_age (n + 1) 0 0 [.ref (gb G + t)] Z I J (qi Z K) := by
  refine eX9_age ht ?_
  have hwI := WX_f hW
  have hptI := WX_town hW hts
  have q1 : (0 : Int32).toInt = 0 := rfl
  exact lX9_age_14 ht hts  hK  (((7) - (0 : Int32).toInt).toNat + 1) _ 0 0 (WX_uI hW (by first | exact okXo (by decide) | (unfold okX; refine ⟨?_, ?_, ?_, ?_, ?_, ?_, ?_, ?_, ?_, ?_⟩ <;> intro h <;> omega))) (Fr_uI Fr.rf (by omega)) (by omega) (by omega)
