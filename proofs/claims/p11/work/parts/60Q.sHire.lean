/-! one more, who knows nobody -/
theorem pX12_addOne8_22 {G : jdG} {n rc rs : Nat} {Z : jdL} {J : jdJ} {K : jdI → jdJ → Prop} {I0 : jdI} {t : Nat} {w : Tw} {x1 x2 : Int32} (ht : zModel Z t) (hP : 0 ≤ w.1 ∧ w.1 < 8) (hK : ∀ I2 : jdI, WM 8 t I2 → Fr (fun a k => (a = t ∧ k = 10) ∨ a = t + 18 ∨ a = t + 19 ∨ (t + 21 ≤ a ∧ a ≤ t + 28)) I0 I2 → RM I2 t (addT w x1 x2) → K I2 J) : ∀ m : Nat, ∀ (I : jdI) (x3 : Int32), WM 8 t I → Fr (fun a k => (a = t ∧ k = 10) ∨ a = t + 18 ∨ a = t + 19 ∨ (t + 21 ≤ a ∧ a ≤ t + 28)) I0 I → (I t 10).toInt = w.1 → (∀ i : Nat, (i : Int) < w.1 + 1 → I (t + 18) i = (addT w x1 x2).2.1 i ∧ I (t + 19) i = (addT w x1 x2).2.2.1 i) → (I t 14).toInt = w.2.2.2.1 → (I t 15).toInt = w.2.2.2.2.1 → (∀ i j : Nat, (i : Int) < w.1 → (j : Int) < w.1 → i ≠ j → I (t + 21 + i) j = w.2.2.2.2.2 i j) → (∀ j : Nat, (j : Int) < x3.toInt → I (t + 21 + w.1.toNat) j = -1 ∧ I (t + 21 + j) w.1.toNat = -1) → 0 ≤ x3.toInt ∧ x3.toInt ≤ w.1 → w.1 - x3.toInt < (m : Int) → Jd G mX12_addOne (jdFm G (qv Z K)) n rc rs 22 [(0, .ref (gb G + t)), (1, .int x1), (2, .int x2), (3, .int x3)] [] Z I J := by
  intro m
  induction m with
  | zero =>
    intro I x3 hW hF a1 a2 a3 a4 a5 a6 hx hm
    omega
  | succ m ih =>
    intro I x3 hW hF a1 a2 a3 a4 a5 a6 hx hm
    have hp := WM_f hW
    have q1 : (1 : Int32).toInt = 1 := rfl
    have e1 := i32_add x3 1 (by omega) (by omega)
    have e2 := i32_add (I t 10) 1 (by omega) (by omega)
    have n3 := tn_eq x3
    have n4 := tn_eq (I t 10)
    refine rX12_addOne_22 ht ⟨fun hc => ?_, fun hc => ?_⟩
    · have hc := Int32.le_iff_toInt_le.mp hc
      have f0 : Fr (fun a k => a = t ∧ k = 10) I (uI I t 10 ((I t 10) + 1)) := Fr_uI Fr.rf ⟨rfl, rfl⟩
      refine hK _ (WM_uI hW (by unfold okM; refine ⟨?_, ?_, ?_, ?_, ?_, ?_, ?_, ?_, ?_, ?_, ?_, ?_⟩ <;> intro h <;> omega)) (Fr.tr hF f0 (by intro a k h; omega)) ⟨?_, fun i hi => ?_, ?_, ?_, fun i j hi hj hne => ?_⟩
      · rw [uI_ap, if_pos ⟨rfl, rfl⟩]
        show _ = w.1 + 1
        omega
      · rw [f0 (t + 18) i (by omega), f0 (t + 19) i (by omega)]
        exact a2 i hi
      · rw [f0 t 14 (by omega)]
        exact a3
      · rw [f0 t 15 (by omega)]
        exact a4
      · have hi : (i : Int) < w.1 + 1 := hi
        have hj : (j : Int) < w.1 + 1 := hj
        rw [f0 (t + 21 + i) j (by omega)]
        show _ = if (i : Int) = w.1 ∨ (j : Int) = w.1 then -1 else w.2.2.2.2.2 i j
        by_cases c : (i : Int) = w.1
        · have ei : i = w.1.toNat := by omega
          rw [if_pos (Or.inl c), ei]
          exact (a6 j (by omega)).1
        · by_cases d : (j : Int) = w.1
          · have ej : j = w.1.toNat := by omega
            rw [if_pos (Or.inr d), ej]
            exact (a6 i (by omega)).2
          · rw [if_neg (by omega)]
            exact a5 i j (by omega) (by omega) hne
    · have hc := mt Int32.le_iff_toInt_le.mpr hc
      have e9 : (uI I (t + 21 + (Int32.toNatClampNeg (I t 10))) (Int32.toNatClampNeg x3) (-1)) t 10 = I t 10 := by rw [uI_ap, if_neg (by omega)]
      refine ⟨vp_of (by omega) (by omega), vp_of (by omega) (by omega), vp_of (by omega) (by omega), by rw [e9]; exact vp_of (by omega) (by omega), ?_⟩
      rw [e9]
      have f0 : Fr (fun a k => t + 21 ≤ a ∧ a ≤ t + 28) I (uI (uI I (t + 21 + (Int32.toNatClampNeg (I t 10))) (Int32.toNatClampNeg x3) (-1)) (t + 21 + (Int32.toNatClampNeg x3)) (Int32.toNatClampNeg (I t 10)) (-1)) := Fr_uI (Fr_uI Fr.rf (by omega)) (by omega)
      refine ih _ (x3 + 1) (WM_fr5 hW f0 (by intro k; omega) (by intro k; omega) (by intro k; omega) (by intro k; omega) (by intro k; omega)) (Fr.tr hF f0 (by intro a k h; omega)) (by rw [f0 t 10 (by omega)]; exact a1) (fun i hi => by rw [f0 (t + 18) i (by omega), f0 (t + 19) i (by omega)]; exact a2 i hi) (by rw [f0 t 14 (by omega)]; exact a3) (by rw [f0 t 15 (by omega)]; exact a4) (fun i j hi hj hne => ?_) (fun j hj => ?_) (by omega) (by omega)
      · rw [uI_ap, if_neg (by omega), uI_ap, if_neg (by omega)]
        exact a5 i j hi hj hne
      · by_cases c : (j : Int) < x3.toInt
        · obtain ⟨g1, g2⟩ := a6 j c
          refine ⟨?_, ?_⟩
          · rw [uI_ap, if_neg (by omega), uI_ap, if_neg (by omega)]
            exact g1
          · rw [uI_ap, if_neg (by omega), uI_ap, if_neg (by omega)]
            exact g2
        · refine ⟨?_, ?_⟩
          · rw [uI_ap, if_neg (by omega), uI_ap, if_pos (by omega)]
          · rw [uI_ap, if_pos (by omega)]
theorem pX12_addOne8 {G : jdG} {n : Nat} {Z : jdL} {J : jdJ} {K : jdI → jdJ → Prop} {I : jdI} {t : Nat} {w : Tw} {x1 x2 : Int32} (ht : zModel Z t) (hW : WM 8 t I) (hw : RM I t w) (hP : w.1 < 8) (hK : ∀ I2 : jdI, WM 8 t I2 → Fr (fun a k => (a = t ∧ k = 10) ∨ a = t + 18 ∨ a = t + 19 ∨ (t + 21 ≤ a ∧ a ≤ t + 28)) I I2 → RM I2 t (addT w x1 x2) → K I2 J) : Cl G mX12_addOne n 0 0 [.ref (gb G + t), .int x1, .int x2] Z I J (qv Z K) := by
  obtain ⟨w1, w2, w3, w4, w5⟩ := hw
  have hp := WM_f hW
  have q0 : (0 : Int32).toInt = 0 := rfl
  have n3 := tn_eq (I t 10)
  refine eX12_addOne ht ⟨vp_of (by omega) (by omega), vp_of (by omega) (by omega), ?_⟩
  have f3 : Fr (fun a k => a = t + 18 ∨ a = t + 19) I (uI (uI I (t + 18) (Int32.toNatClampNeg (I t 10)) x1) (t + 19) (Int32.toNatClampNeg (I t 10)) x2) := Fr_uI (Fr_uI Fr.rf (by omega)) (by omega)
  refine pX12_addOne8_22 ht ⟨by omega, hP⟩ hK 9 _ 0 (WM_fr5 hW f3 (by intro k; omega) (by intro k; omega) (by intro k; omega) (by intro k; omega) (by intro k; omega)) (Fr.tr Fr.rf f3 (by intro a k h; omega)) (by rw [f3 t 10 (by omega)]; exact w1) (fun i hi => ?_) (by rw [f3 t 14 (by omega)]; exact w3) (by rw [f3 t 15 (by omega)]; exact w4) (fun i j hi hj hne => by rw [f3 (t + 21 + i) j (by omega)]; exact w5 i j hi hj hne) (fun j hj => by omega) (by omega) (by omega)
  show _ = (if (i : Int) = w.1 then x1 else w.2.1 i) ∧ _ = (if (i : Int) = w.1 then x2 else w.2.2.1 i)
  by_cases c : (i : Int) = w.1
  · rw [if_pos c, if_pos c]
    exact ⟨by rw [uI_ap, if_neg (by omega), uI_ap, if_pos ⟨rfl, by omega⟩], by rw [uI_ap, if_pos ⟨rfl, by omega⟩]⟩
  · rw [if_neg c, if_neg c]
    have h := w2 i (by omega)
    exact ⟨by rw [uI_ap, if_neg (by omega), uI_ap, if_neg (by omega)]; exact h.1, by rw [uI_ap, if_neg (by omega), uI_ap, if_neg (by omega)]; exact h.2⟩
theorem SYM_add {w : Tw} (h : SYM w) : SYM (addT w 0 0) := fun i j => by
  show (if (i : Int) = w.1 ∨ (j : Int) = w.1 then (-1 : Int32) else w.2.2.2.2.2 i j) = (if (j : Int) = w.1 ∨ (i : Int) = w.1 then (-1 : Int32) else w.2.2.2.2.2 j i)
  by_cases c : (i : Int) = w.1 ∨ (j : Int) = w.1
  · rw [if_pos c, if_pos c.symm]
  · rw [if_neg c, if_neg (fun z => c z.symm), h i j]
theorem relW_ay {w : Tw} {p q : Nat} (h : (p : Int) = w.1 ∨ (q : Int) = w.1) : relW (addT w 0 0) p q = true := by
  unfold relW
  show decide ((if (p : Int) = w.1 ∨ (q : Int) = w.1 then (-1 : Int32) else w.2.2.2.2.2 p q) = -1) = true
  rw [if_pos h]
  rfl
theorem relW_an {w : Tw} {p q : Nat} (h : ¬ ((p : Int) = w.1 ∨ (q : Int) = w.1)) : relW (addT w 0 0) p q = relW w p q := by
  unfold relW
  show decide ((if (p : Int) = w.1 ∨ (q : Int) = w.1 then (-1 : Int32) else w.2.2.2.2.2 p q) = -1) = _
  rw [if_neg h]
theorem sset_c {r r2 : Nat → Nat → Bool} {a : Nat} : ∀ k, (∀ q, q < k → r a q = r2 a q) → sset r a k = sset r2 a k
  | 0, _ => rfl
  | k + 1, h => by
    have e := sset_c (r := r) (r2 := r2) (a := a) k (fun q hq => h q (by omega))
    show (if (decide (k ≠ a) && r a k) = true then sset r a k ||| ((1 : Int32) <<< (Int32.ofNat k &&& 31)) else sset r a k) = (if (decide (k ≠ a) && r2 a k) = true then sset r2 a k ||| ((1 : Int32) <<< (Int32.ofNat k &&& 31)) else sset r2 a k)
    rw [e, h k (by omega)]
theorem sset_old {w : Tw} {p N : Nat} (hN : (N : Int) = w.1) (hp : p < N) : sset (relW (addT w 0 0)) p (N + 1) = sset (relW w) p N ||| ((1 : Int32) <<< (Int32.ofNat N &&& 31)) := by
  show (if (decide (N ≠ p) && relW (addT w 0 0) p N) = true then sset (relW (addT w 0 0)) p N ||| ((1 : Int32) <<< (Int32.ofNat N &&& 31)) else sset (relW (addT w 0 0)) p N) = _
  rw [if_pos (by rw [relW_ay (Or.inr hN), decide_eq_true (by omega)]; rfl), sset_c N (fun q hq => relW_an (by omega))]
theorem evr8 : ∀ k : Fin 8, 0 ≤ (((1 : Int32) <<< (Int32.ofNat k.val &&& 31)) - 1).toInt ∧ (((1 : Int32) <<< (Int32.ofNat k.val &&& 31)) - 1).toInt < 256 := by decide +kernel
theorem sset_new {w : Tw} {N : Nat} (hN : (N : Int) = w.1) (h7 : N ≤ 7) : sset (relW (addT w 0 0)) N (N + 1) = ((1 : Int32) <<< (Int32.ofNat N &&& 31)) - 1 := by
  show (if (decide (N ≠ N) && relW (addT w 0 0) N N) = true then sset (relW (addT w 0 0)) N N ||| ((1 : Int32) <<< (Int32.ofNat N &&& 31)) else sset (relW (addT w 0 0)) N N) = _
  rw [if_neg (by rw [decide_eq_false (fun z => z rfl)]; exact fun z => by cases z)]
  have r := sset_r (relW (addT w 0 0)) N N (by omega)
  have r2 := evr8 ⟨N, by omega⟩
  refine bt_ext ⟨r.1, by omega⟩ ⟨r2.1, r2.2⟩ (fun i hi => ?_)
  rw [sset_bt _ _ _ (by omega) _ hi, bt_ea ⟨N, by omega⟩ ⟨i, hi⟩, relW_ay (Or.inl hN), Bool.and_true]
  show (decide (i < N) && decide (i ≠ N)) = decide (i < N)
  by_cases c : i < N
  · rw [decide_eq_true c, decide_eq_true (by omega)]
    rfl
  · rw [decide_eq_false c]
    rfl
theorem TL_k {I I2 : jdI} {w : Tw} {p : Nat → Nat → Prop} (h : TL I w) (hF : Fr p I I2) (hp : ∀ a k, p a k → ¬ ((a = 13 ∧ (k = 6 ∨ k = 7 ∨ k = 8)) ∨ (14 ≤ a ∧ a ≤ 16))) : TL I2 w := ⟨GX_fr h.1 hF (fun q => hp _ _ q (by decide)) (fun q => hp _ _ q (by decide)) (fun k q => hp _ _ q (Or.inr (by decide))), fun i hi => by rw [hF (13 + 2) i (fun q => hp _ _ q (Or.inr (by decide)))]; exact h.2.1 i hi, by rw [hF 13 8 (fun q => hp _ _ q (by decide))]; exact h.2.2.1, LiS_fr h.2.2.2 hF (fun k q => hp _ _ q (Or.inr (by decide)))⟩
theorem pX8_addStranger_12 {G : jdG} {n rc rs : Nat} {Z : jdL} {J : jdJ} {K : jdI → jdJ → Prop} {I0 : jdI} {w : Tw} {N : Nat} (ht : zTies Z 13) (hsy : SYM w) (hb : (0 ≤ w.1 ∧ w.1 ≤ 7) ∧ 2 ≤ w.2.2.2.1 ∧ w.2.2.2.1 ≤ 4) (hN : (N : Int) = w.1) (hT0 : TL I0 w) (hK : ∀ I2, WX I2 → Fr (fun a k => (a = 13 ∧ (k = 6 ∨ k = 8 ∨ k = 10)) ∨ (14 ≤ a ∧ a ≤ 16)) I0 I2 → TL I2 (addT w 0 0) → (I2 13 10).toInt = 0 → K I2 J) : ∀ f : Nat, ∀ (I : jdI) (x1 : Int32), WX I → Fr (fun a k => a = 13 + 1) I0 I → 0 ≤ x1.toInt → x1.toInt + (f : Int) = (N : Int) → (∀ p : Nat, p < N → I (13 + 1) p = if (p : Int) < x1.toInt then sset (relW (addT w 0 0)) p (N + 1) else sset (relW w) p N) → Jd G mX8_addStranger (jdFm G (qv Z K)) (n + 7) rc rs 12 [(0, .ref (gb G + 13)), (1, .int x1)] [] Z I J := by
  have eN : w.1.toNat = N := by omega
  have eA : (addT w 0 0).1.toNat = N + 1 := by
    show (w.1 + 1).toNat = N + 1
    omega
  have q1 : (1 : Int32).toInt = 1 := rfl
  have q0 : (0 : Int32).toInt = 0 := rfl
  intro f
  induction f with
  | zero =>
    intro I x1 hW hF h1 hf hp
    have e6 : (I 13 6).toInt = (N : Int) := by
      rw [hF 13 6 (by omega)]
      have := hT0.1.1
      omega
    have e7 : (I 13 7).toInt = (w.2.2.2.1.toNat : Int) := by rw [hF 13 7 (by omega)]; exact hT0.1.2.1
    have i6 : I 13 6 = Int32.ofNat N := by
      have := i32_ofNat (x := I 13 6) (by omega)
      rw [this, e6]
      rfl
    have n6 := tn_eq (I 13 6)
    have en : Int32.toNatClampNeg (I 13 6) = N := by omega
    have e9 := i32_add (I 13 6) 1 (by omega) (by omega)
    refine rX8_addStranger_12 ht ⟨fun _ => eX8_everybody ht ⟨vp_of (by omega) (by omega), vp_of (by omega) (by omega), ?_⟩, fun h => absurd (Int32.le_iff_toInt_le.mpr (by omega)) h⟩
    rw [en]
    have w1 : WX (uI I (13 + 1) N (((1 : Int32) <<< ((I 13 6) &&& 31)) - 1)) := WX_uI hW (by unfold okX; refine ⟨?_, ?_, ?_, ?_, ?_, ?_, ?_, ?_, ?_, ?_⟩ <;> intro h <;> omega)
    have w2 := WX_uI (id := 13 + 2) (k := N) (v := 0) w1 (by unfold okX; refine ⟨?_, ?_, ?_, ?_, ?_, ?_, ?_, ?_, ?_, ?_⟩ <;> intro h <;> omega)
    have w3 := WX_uI (id := 13) (k := 6) (v := (I 13 6) + 1) w2 (by unfold okX; refine ⟨?_, ?_, ?_, ?_, ?_, ?_, ?_, ?_, ?_, ?_⟩ <;> intro h <;> omega)
    have f3 : Fr (fun a k => (a = 13 ∧ k = 6) ∨ (14 ≤ a ∧ a ≤ 15)) I (uI (uI (uI I (13 + 1) N (((1 : Int32) <<< ((I 13 6) &&& 31)) - 1)) (13 + 2) N 0) 13 6 ((I 13 6) + 1)) := Fr_uI (Fr_uI (Fr_uI Fr.rf (by omega)) (by omega)) (by omega)
    have g3 : GX (uI (uI (uI I (13 + 1) N (((1 : Int32) <<< ((I 13 6) &&& 31)) - 1)) (13 + 2) N 0) 13 6 ((I 13 6) + 1)) (N + 1) w.2.2.2.1.toNat (relW (addT w 0 0)) := by
      refine ⟨?_, ?_, fun p hq => ?_⟩
      · rw [uI_ap, if_pos ⟨rfl, rfl⟩]
        omega
      · rw [f3 13 7 (by omega)]
        exact e7
      · rw [uI_ap, if_neg (by omega), uI_ap, if_neg (by omega), uI_ap]
        by_cases c : p = N
        · rw [if_pos ⟨rfl, c⟩, c, i6]
          exact (sset_new hN (by omega)).symm
        · rw [if_neg (by omega), hp p (by omega), if_pos (by omega)]
    have hc3 : ∀ p : Nat, (p : Int) < (addT w 0 0).1 → (uI (uI (uI I (13 + 1) N (((1 : Int32) <<< ((I 13 6) &&& 31)) - 1)) (13 + 2) N 0) 13 6 ((I 13 6) + 1)) (13 + 2) p = (addT w 0 0).2.2.1 p := fun p hq => by
      have hq : (p : Int) < w.1 + 1 := hq
      show _ = if (p : Int) = w.1 then (0 : Int32) else w.2.2.1 p
      rw [uI_ap, if_neg (by omega), uI_ap]
      by_cases c : p = N
      · rw [if_pos ⟨rfl, c⟩, if_pos (by omega)]
      · rw [if_neg (by omega), if_neg (by omega), uI_ap, if_neg (by omega), hF (13 + 2) p (by omega)]
        exact hT0.2.1 p (by omega)
    refine pX8_list ht w3 g3 (by omega) (by omega) (relW_s (SYM_add hsy)) (fun I5 hW5 hF5 hc5 hL5 h10 => ?_)
    refine hK I5 hW5 (Fr.tr (Fr.tr (Fr.tr Fr.rf hF (by intro a k h; omega)) f3 (by intro a k h; omega)) hF5 (by intro a k h; omega)) ⟨?_, fun p hq => ?_, ?_, ?_⟩ h10
    · rw [eA]
      exact GX_fr g3 hF5 (by omega) (by omega) (by intro k; omega)
    · rw [hF5 (13 + 2) p (by omega)]
      exact hc3 p hq
    · rw [eA]
      exact hc5
    · rw [eA]
      exact hL5
  | succ f ih =>
    intro I x1 hW hF h1 hf hp
    have e6 : (I 13 6).toInt = (N : Int) := by
      rw [hF 13 6 (by omega)]
      have := hT0.1.1
      omega
    have i6 : I 13 6 = Int32.ofNat N := by
      have := i32_ofNat (x := I 13 6) (by omega)
      rw [this, e6]
      rfl
    have n1 := tn_eq x1
    have e1 := i32_add x1 1 (by omega) (by omega)
    refine rX8_addStranger_12 ht ⟨fun h => by have := Int32.le_iff_toInt_le.mp h; omega, fun _ => ⟨vp_of (by omega) (by omega), vp_of (by omega) (by omega), ?_⟩⟩
    have w1 := WX_uI (id := 13 + 1) (k := Int32.toNatClampNeg x1) (v := (I (13 + 1) (Int32.toNatClampNeg x1)) ||| ((1 : Int32) <<< ((I 13 6) &&& 31))) hW (by unfold okX; refine ⟨?_, ?_, ?_, ?_, ?_, ?_, ?_, ?_, ?_, ?_⟩ <;> intro h <;> omega)
    have f1 : Fr (fun a k => a = 13 + 1) I (uI I (13 + 1) (Int32.toNatClampNeg x1) ((I (13 + 1) (Int32.toNatClampNeg x1)) ||| ((1 : Int32) <<< ((I 13 6) &&& 31)))) := Fr_uI Fr.rf rfl
    refine ih _ (x1 + 1) w1 (Fr.tr hF f1 (by intro a k h; omega)) (by omega) (by omega) (fun p hq => ?_)
    rw [uI_ap]
    by_cases c : p = Int32.toNatClampNeg x1
    · rw [if_pos ⟨rfl, c⟩, ← c, hp p hq, if_neg (by omega), if_pos (by omega), i6]
      exact (sset_old hN hq).symm
    · rw [if_neg (by omega), hp p hq]
      by_cases d : (p : Int) < x1.toInt
      · rw [if_pos d, if_pos (by omega)]
      · rw [if_neg d, if_neg (by omega)]
theorem pX8_addStranger {G : jdG} {n : Nat} {Z : jdL} {J : jdJ} {K : jdI → jdJ → Prop} {I : jdI} {w : Tw} (ht : zTies Z 13) (hW : WX I) (hsy : SYM w) (hb : (0 ≤ w.1 ∧ w.1 ≤ 7) ∧ 2 ≤ w.2.2.2.1 ∧ w.2.2.2.1 ≤ 4) (hT : TL I w) (hK : ∀ I2, WX I2 → Fr (fun a k => (a = 13 ∧ (k = 6 ∨ k = 8 ∨ k = 10)) ∨ (14 ≤ a ∧ a ≤ 16)) I I2 → TL I2 (addT w 0 0) → (I2 13 10).toInt = 0 → K I2 J) : Cl G mX8_addStranger (n + 7) 0 0 [.ref (gb G + 13)] Z I J (qv Z K) := by
  have h6 := hT.1.1
  have q8 : (8 : Int32).toInt = 8 := rfl
  have q0 : (0 : Int32).toInt = 0 := rfl
  refine eX8_addStranger ht ⟨fun _ => ?_, fun h => absurd (Int32.lt_iff_toInt_lt.mpr (by omega)) h⟩
  exact pX8_addStranger_12 (N := w.1.toNat) ht hsy hb (by omega) hT hK w.1.toNat I 0 hW Fr.rf (by decide) (by omega) (fun p hp => by rw [if_neg (by omega)]; exact hT.1.2.2 p hp)
theorem ev9 : ∀ k : Fin 9, 0 ≤ (((1 : Int32) <<< (Int32.ofInt (k.val : Int) &&& 31)) - 1).toInt ∧ (((1 : Int32) <<< (Int32.ofInt (k.val : Int) &&& 31)) - 1).toInt < 2 ^ k.val := by decide +kernel
theorem ev_r {w : Tw} (h : 0 ≤ w.1 ∧ w.1 ≤ 8) : 0 ≤ (evW w).toInt ∧ (evW w).toInt < 2 ^ w.1.toNat ∧ (evW w).toInt ≤ 255 := by
  have e := ev9 ⟨w.1.toNat, by omega⟩
  have p := (pw2 ⟨w.1.toNat, by omega⟩).2
  have p : (2 : Int) ^ w.1.toNat ≤ 256 := p
  have e1 : ((w.1.toNat : Nat) : Int) = w.1 := by omega
  have e : 0 ≤ (((1 : Int32) <<< (Int32.ofInt ((w.1.toNat : Nat) : Int) &&& 31)) - 1).toInt ∧ (((1 : Int32) <<< (Int32.ofInt ((w.1.toNat : Nat) : Int) &&& 31)) - 1).toInt < 2 ^ w.1.toNat := e
  rw [e1] at e
  exact ⟨e.1, e.2, by unfold evW; omega⟩
theorem ev8 : ∀ k : Fin 8, (((1 : Int32) <<< (Int32.ofInt (k.val : Int) &&& 31)) - 1) ||| ((1 : Int32) <<< (Int32.ofInt (k.val : Int) &&& 31)) = ((1 : Int32) <<< (Int32.ofInt ((k.val : Int) + 1) &&& 31)) - 1 := by decide +kernel
theorem ev_add {w : Tw} (h : 0 ≤ w.1 ∧ w.1 ≤ 7) : (evW w) ||| ((1 : Int32) <<< (Int32.ofInt w.1 &&& 31)) = evW (addT w 0 0) := by
  have e := ev8 ⟨w.1.toNat, by omega⟩
  have e1 : ((w.1.toNat : Nat) : Int) = w.1 := by omega
  have e : (((1 : Int32) <<< (Int32.ofInt ((w.1.toNat : Nat) : Int) &&& 31)) - 1) ||| ((1 : Int32) <<< (Int32.ofInt ((w.1.toNat : Nat) : Int) &&& 31)) = ((1 : Int32) <<< (Int32.ofInt (((w.1.toNat : Nat) : Int) + 1) &&& 31)) - 1 := e
  rw [e1] at e
  exact e
def oHire (w : Tw) : Int := (Int32.ofInt (MS (LW (addT w 0 0)) (evW (addT w 0 0))) - Int32.ofInt (MS (LW w) (evW w))).toInt
theorem LW_a70 {w : Tw} (h : (0 ≤ w.1 ∧ w.1 ≤ 7) ∧ 2 ≤ w.2.2.2.1 ∧ w.2.2.2.1 ≤ 4) : (LW (addT w 0 0)).length ≤ 70 := DL_70 (relW (addT w 0 0)) (show (w.1 + 1).toNat ≤ 8 by omega) (show w.2.2.2.1.toNat ≤ 4 by omega)
theorem LW_ag {w : Tw} (h : (0 ≤ w.1 ∧ w.1 ≤ 7) ∧ 2 ≤ w.2.2.2.1 ∧ w.2.2.2.1 ≤ 4) : GG (LW (addT w 0 0)) := GG_DL (relW (addT w 0 0)) (show (w.1 + 1).toNat ≤ 8 by omega) (show 0 < w.2.2.2.1.toNat by omega)
theorem pX11_hire {G : jdG} {n : Nat} {Z : jdL} {J : jdJ} {K : Int32 → jdI → jdJ → Prop} {I : jdI} {s : Sd} (hX : zX Z) (hW : WX I) (hs : TX I 1 s) (hk : OKT s.1) (hK : ∀ (v : Int32) (I2 : jdI), WX I2 → Fr (fun a k => (13 ≤ a ∧ a ≤ 24) ∨ a = 28) I I2 → v.toInt = oHire s.1 → K v I2 J) : Cl G mX11_hire (n + 8) 0 0 [.ref (gb G + 0)] Z I J (qi Z K) := by
  have hb := RX_b hW hs.1
  have er := ev_r (w := s.1) ⟨hb.1.1, by omega⟩
  have er2 := ev_r (w := addT s.1 0 0) ⟨show 0 ≤ s.1.1 + 1 by omega, show s.1.1 + 1 ≤ 8 by omega⟩
  refine eX11_hire hX ?_
  refine pX8_load (zX_o3 hX) (zX_o0 hX) (Or.inl rfl) hW hs.1 (OKT_sy hk) (fun I1 hW1 hF1 hT1 h10 => ?_)
  refine eX9_everybody (zX_o0 hX) ?_
  have x1 := RX_fr hs.1 hF1 (by intro a k h1 h2; omega)
  rw [evX x1]
  refine pX8_mostFrom (L := LW s.1) (N := s.1.1.toNat) (zX_o3 hX) hW1 (PT_TL hT1 h10).1 (LW_g hb) (by omega) (LW_70 hb) er.1 er.2.1 (fun v6 I5 hW5 _ hF5 hv6 => ?_)
  have x5 := RX_fr x1 hF5 (by intro a k h1 h2; omega)
  refine pX8_addStranger (zX_o3 hX) hW5 (OKT_sy hk) hb (TL_k hT1 hF5 (by intro a k h; omega)) (fun I7 hW7 hF7 hT7 h107 => ?_)
  have x7 := RX_fr x5 hF7 (by intro a k h1 h2; omega)
  refine eX9_everybody (zX_o0 hX) ?_
  rw [evX x7, ← ofI (I7 1 3), x7.1, ev_add hb.1]
  refine pX8_mostFrom (L := LW (addT s.1 0 0)) (N := (addT s.1 0 0).1.toNat) (zX_o3 hX) hW7 (PT_TL hT7 h107).1 (LW_ag hb) (show (s.1.1 + 1).toNat ≤ 8 by omega) (LW_a70 hb) er2.1 er2.2.1 (fun v12 I11 hW11 _ hF11 hv12 => hK _ I11 hW11 (Fr.tr (Fr.tr (Fr.tr (Fr.tr Fr.rf hF1 (by intro a k h; omega)) hF5 (by intro a k h; omega)) hF7 (by intro a k h; omega)) hF11 (by intro a k h; omega)) ?_)
  unfold oHire
  rw [← hv12, ← hv6, ofI, ofI]
theorem pqX12_hire {G : jdG} {n : Nat} {Z : jdL} {I : jdI} {J : jdJ} {Q : jdQ} {t : Nat} {s : Sd} {sA sV : Nat → Nat} (hG : gOK G sA sV) (hM : MI Z I t) (hs : TM I t s) (hQ : ∀ (v : Int32) (Z2 : jdL) (I2 : jdI) (J2 : jdJ), ST t 21 20 Z I J Z2 I2 J2 → v.toInt = oHire s.1 → Q (some (.int v)) Z2 I2 J2) : Cl G mX12_hire (n + 257) (fC Z t) (fS Z t) [.ref (gb G + t)] Z I J Q := by
  have hb := RM_b hM.2.1 hs.1
  have hMs := hM.2.2.1
  have er := ev_r (w := s.1) ⟨hb.1.1, by omega⟩
  have er2 := ev_r (w := addT s.1 0 0) ⟨show 0 ≤ s.1.1 + 1 by omega, show s.1.1 + 1 ≤ 8 by omega⟩
  refine eX12_hire hM.1 ?_
  refine pX12_listAll hM.1 hM.2.1 (GM_RM hs.1 (by omega) (by omega)) (by omega) (by omega) (fun I1 hW1 hF1 hc1 hL1 => ?_)
  have hS1 := ST_t (ST.rf (x := 21) (y := 20) (J := J) hM) hW1 hF1 (by intro a k h; omega)
  have r1 := RM_fr hs.1 (by omega) hF1 (by omega) (by omega) (by omega) (by intro a k h1 h2 h3; omega)
  refine eX12_all hM.1 ?_
  rw [evM r1]
  refine pX12_mostIn (L := LW s.1) hM.1 (LW_g hb) hc1 (LW_70 hb) hL1 255 n _ _ er.1 er.2.2 er.2.2 (fun v6 hv6 => ?_)
  refine ⟨fC Z t, fS Z t, 0, 0, Nat.le_refl _, Nat.le_refl _, ?_⟩
  refine qX12_fresh hG hS1.1 (fun u Z7 I7 J7 hS hu c0 c2 c3 hU hF7 hC7 => ⟨u, rfl, hS.1.1, c0, ?_⟩)
  have hS7 := ST.tr hS1 hS
  have ru := RM_cm r1 (by omega) hC7
  refine pX12_addOne8 c0 (WM_mono hU (by decide)) ru (by omega) (fun I8 hW8 hF8 r8 => ?_)
  have hS8 := ST_u hS7 hu hW8 hF8 (by intro a k h; omega)
  refine pX12_listAll c0 hW8 (GM_RM r8 (show 0 ≤ s.1.1 + 1 by omega) (show 0 ≤ s.1.2.2.2.1 by omega)) (show (s.1.1 + 1).toNat ≤ 8 by omega) (show s.1.2.2.2.1.toNat ≤ 4 by omega) (fun I10 hW10 hF10 hc10 hL10 => ?_)
  have hS10 := ST_u hS8 hu hW10 hF10 (by intro a k h; omega)
  have r10 := RM_fr r8 (show s.1.1 + 1 ≤ 8 by omega) hF10 (by omega) (by omega) (by omega) (by intro a k h1 h2 h3; omega)
  refine eX12_all c0 ?_
  rw [evM r10]
  refine pX12_mostIn (L := LW (addT s.1 0 0)) c0 (LW_ag hb) hc10 (LW_a70 hb) hL10 255 n _ _ er2.1 er2.2.2 er2.2.2 (fun v15 hv15 => hQ _ _ _ _ hS10 ?_)
  unfold oHire
  rw [← hv15, ← hv6, ofI, ofI]
