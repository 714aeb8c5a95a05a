theorem qX6_takeRow {G : jdG} {n : Nat} {Z : jdL} {I : jdI} {J : jdJ} {Q : jdQ} {t : Nat} {x1 x2 : Int32} (ht : zShelf Z t) (hQ : ∀ J2, (∀ q : Nat, q < 40 → J2 (t + 1) q = 0) → (∀ a, a ≠ t + 1 → J2 a = J a) → Q none (uP Z t 3 none) (uI (uI I t 1 x1) t 2 x2) J2) : Cl G mX6_takeRow n 0 0 [.ref (gb G + t), .int x1, .int x2] Z I J Q := by
  have hz : zShelf (uP Z t 3 none) t := ⟨ht.1, by rw [uP_ap, if_neg (by omega)]; exact ht.2.1, ht.2.2⟩
  exact eX6_takeRow ht ⟨hz, lX6_takeRow_17 hz hQ 41 J 0 (by decide) (fun q hq => by have z : (0 : Int32).toInt = 0 := rfl; exfalso; omega) (fun _ _ => rfl) (by decide)⟩
theorem qX6_takeMan {G : jdG} {n : Nat} {Z : jdL} {I : jdI} {J : jdJ} {Q : jdQ} {t u1 : Nat} (ht : zShelf Z t) (hQ : Q none (uP Z t 3 (some u1)) (uI (uI I t 1 (-1)) t 2 0) J) : Cl G mX6_takeMan n 0 0 [.ref (gb G + t), .ref (gb G + u1)] Z I J Q :=
  eX6_takeMan ht ⟨⟨ht.1, by rw [uP_ap, if_neg (by omega)]; exact ht.2.1, ht.2.2⟩, hQ⟩
theorem pX12_coachman {G : jdG} {n : Nat} {Z : jdL} {J : jdJ} {K : Int32 → jdI → jdJ → Prop} {I : jdI} {t : Nat} {x1 x2 x3 : Int32} (ht : zModel Z t) (hW : WM 7 t I) (hK : ∀ (v : Int32) (I2 : jdI), WM 7 t I2 → Fr (fun a k => ((a = t + 1 ∨ a = t + 14 ∨ a = t + 15) ∧ k = (Int32.toNatClampNeg x1)) ∨ a = t + 17) I I2 → ((v.toInt = 1 ∧ ((0 ≤ x1.toInt ∧ x1.toInt ≤ 7) ∧ (1 ≤ x2.toInt ∧ x2.toInt ≤ 5) ∧ 0 ≤ x3.toInt ∧ x3.toInt ≤ 9) ∧ (I2 (t + 1) (Int32.toNatClampNeg x1)).toInt = 2 ∧ (I2 (t + 14) (Int32.toNatClampNeg x1)).toInt = x2.toInt) ∨ (v.toInt = -2 ∧ ¬ ((0 ≤ x1.toInt ∧ x1.toInt ≤ 7) ∧ (1 ≤ x2.toInt ∧ x2.toInt ≤ 5) ∧ 0 ≤ x3.toInt ∧ x3.toInt ≤ 9) ∧ (I2 (t + 1) (Int32.toNatClampNeg x1)).toInt = (I (t + 1) (Int32.toNatClampNeg x1)).toInt ∧ (I2 (t + 14) (Int32.toNatClampNeg x1)).toInt = (I (t + 14) (Int32.toNatClampNeg x1)).toInt)) → ((((0 ≤ x1.toInt ∧ x1.toInt ≤ 7) ∧ (1 ≤ x2.toInt ∧ x2.toInt ≤ 5) ∧ 0 ≤ x3.toInt ∧ x3.toInt ≤ 9)) → I2 (t + 15) (Int32.toNatClampNeg x1) = x3) ∧ (¬ (((0 ≤ x1.toInt ∧ x1.toInt ≤ 7) ∧ (1 ≤ x2.toInt ∧ x2.toInt ≤ 5) ∧ 0 ≤ x3.toInt ∧ x3.toInt ≤ 9)) → I2 (t + 15) (Int32.toNatClampNeg x1) = I (t + 15) (Int32.toNatClampNeg x1)) → K v I2 J) : Cl G mX12_coachman (n + 1) 0 0 [.ref (gb G + t), .int x1, .int x2, .int x3] Z I J (qi Z K) := by
  have e1 : (Int32.toInt64 x1).toInt = x1.toInt := Int32.toInt_toInt64 _
  have e2 : (Int32.toInt64 x2).toInt = x2.toInt := Int32.toInt_toInt64 _
  have e3 : (Int32.toInt64 x3).toInt = x3.toInt := Int32.toInt_toInt64 _
  have z0 : (0 : Int64).toInt = 0 := rfl
  have z1 : (1 : Int64).toInt = 1 := rfl
  have z5 : (5 : Int64).toInt = 5 := rfl
  have z7 : (7 : Int64).toInt = 7 := rfl
  have z9 : (9 : Int64).toInt = 9 := rfl
  have q2 : (2 : Int32).toInt = 2 := rfl
  have hw := WM_f hW
  have no : ¬ (((0 ≤ x1.toInt ∧ x1.toInt ≤ 7) ∧ (1 ≤ x2.toInt ∧ x2.toInt ≤ 5) ∧ 0 ≤ x3.toInt ∧ x3.toInt ≤ 9)) → Cl G mX12_refuse n 0 0 [.ref (gb G + t), .int (-2)] Z I J (qi Z K) := fun hn => sfX12_refuse ht (by decide) hW (by decide) (fun v I3 hW3 hF3 hp3 => hK v I3 hW3 (Fr.tr Fr.rf hF3 (by intro a k h; omega)) (Or.inr ⟨hp3, hn, by rw [hF3 (t + 1) _ (by omega)], by rw [hF3 (t + 14) _ (by omega)]⟩) ⟨fun q => absurd q hn, fun _ => hF3 (t + 15) _ (by omega)⟩)
  refine eX12_coachman ht ?_
  refine sfX12_in trivial (fun v2 p2 => ⟨fun c2 => ?_, fun c2 => ?_⟩)
  · have c2 := i0 c2
    exact no (by omega)
  · have c2 := i1 c2
    refine sfX12_in trivial (fun v6 p6 => ⟨fun c6 => ?_, fun c6 => ?_⟩)
    · have c6 := i0 c6
      exact no (by omega)
    · have c6 := i1 c6
      refine sfX12_in trivial (fun v10 p10 => ⟨fun c10 => ?_, fun c10 => ?_⟩)
      · have c10 := i1 c10
        refine ⟨vp_of (by omega) (by omega), vp_of (by omega) (by omega), vp_of (by omega) (by omega), ?_⟩
        have w1 : WM 7 t (uI I (t + 1) (Int32.toNatClampNeg x1) 2) := WM_uI hW (by first | exact okMo (by decide) (by decide) (by decide) (by decide) (by decide) | exact okMf (by decide) (by decide) (by decide) (by decide) (by decide) (by decide) (by decide) (by decide) | exact okM30 (by omega) | exact okM42 (by omega) | exact okM33 (by omega) | exact okM10 (by omega) | exact okM8 (by omega) | exact okM22 (by omega) | exact okM24 (by omega) | exact okM14 (by omega) | exact okMa31 (by omega) | exact okMa35 (by omega) | exact okMa36 (by omega) | exact okMa3 (by omega) | exact okMr (by omega) | (unfold okM; refine ⟨?_, ?_, ?_, ?_, ?_, ?_, ?_, ?_, ?_, ?_, ?_, ?_⟩ <;> intro h <;> omega))
        have w2 : WM 7 t (uI (uI I (t + 1) (Int32.toNatClampNeg x1) 2) (t + 14) (Int32.toNatClampNeg x1) x2) := WM_uI w1 (by first | exact okMo (by decide) (by decide) (by decide) (by decide) (by decide) | exact okMf (by decide) (by decide) (by decide) (by decide) (by decide) (by decide) (by decide) (by decide) | exact okM30 (by omega) | exact okM42 (by omega) | exact okM33 (by omega) | exact okM10 (by omega) | exact okM8 (by omega) | exact okM22 (by omega) | exact okM24 (by omega) | exact okM14 (by omega) | exact okMa31 (by omega) | exact okMa35 (by omega) | exact okMa36 (by omega) | exact okMa3 (by omega) | exact okMr (by omega) | (unfold okM; refine ⟨?_, ?_, ?_, ?_, ?_, ?_, ?_, ?_, ?_, ?_, ?_, ?_⟩ <;> intro h <;> omega))
        refine hK 1 _ (WM_uI w2 (by first | exact okMo (by decide) (by decide) (by decide) (by decide) (by decide) | exact okMf (by decide) (by decide) (by decide) (by decide) (by decide) (by decide) (by decide) (by decide) | exact okM30 (by omega) | exact okM42 (by omega) | exact okM33 (by omega) | exact okM10 (by omega) | exact okM8 (by omega) | exact okM22 (by omega) | exact okM24 (by omega) | exact okM14 (by omega) | exact okMa31 (by omega) | exact okMa35 (by omega) | exact okMa36 (by omega) | exact okMa3 (by omega) | exact okMr (by omega) | (unfold okM; refine ⟨?_, ?_, ?_, ?_, ?_, ?_, ?_, ?_, ?_, ?_, ?_, ?_⟩ <;> intro h <;> omega))) (Fr_uI (Fr_uI (Fr_uI Fr.rf (by omega)) (by omega)) (by omega)) (Or.inl ⟨rfl, by omega, ?_, ?_⟩) ⟨fun _ => by rw [uI_ap, if_pos ⟨rfl, rfl⟩], fun q => absurd (by omega) q⟩
        · rw [uI_ap, if_neg (by omega), uI_ap, if_neg (by omega), uI_ap, if_pos ⟨rfl, rfl⟩]
          rfl
        · rw [uI_ap, if_neg (by omega), uI_ap, if_pos ⟨rfl, rfl⟩]
      · have c10 := i0 c10
        exact no (by omega)
theorem qX11_newCoachman {G : jdG} {n : Nat} {Z : jdL} {I : jdI} {J : jdJ} {Q : jdQ} {x0 x1 : Int32} (h : IV Z I) (hQ : ∀ (w : Nat) (Z2 : jdL) (I2 : jdI), IV Z2 I2 → zMan Z2 w → NX Z I Z2 I2 → ((∀ a k, a < Z.2.2 → I2 a k = I a k) ∧ (∀ i, i < 8 → mk Z2 i = mk Z i) ∧ (1 ≤ x0.toInt → x0.toInt ≤ 5 → ckI (Z2.1 w) = x0.toInt) ∧ 82 < w ∧ I2 w 0 = x1 ∧ ∀ i, i < 8 → Z2.2.1 (29 + 2 * i) 3 = Z.2.1 (29 + 2 * i) 3) → Q (some (.ref (gb G + w))) Z2 I2 J) : Cl G mX11_newCoachman (n + 4) 1 1 [.int x0, .int x1] Z I J Q := by
  have hb := h.2.2.2.2.2.1
  refine eX11_newCoachman ⟨fun hc => ?_, fun hc => ?_, fun hc => ?_, fun hc => ?_, fun hc => ?_⟩
  · refine ⟨0, 0, Nat.le_refl _, Nat.le_refl _, 0, 0, 0, 0, Nat.le_refl _, Nat.le_refl _, ?_⟩
    refine v_X0_init_0 (by rw [nZ_ap, if_pos rfl]) ⟨rfl, hQ _ _ _ (IV_nZ (IV_hi h (p := fun a _ => a = Z.2.2) (Fr_uI (Fr_zI Fr.rf (fun _ => rfl)) rfl) (by intro a k h; omega))) ⟨0, by decide, by rw [nZ_ap, if_pos rfl]⟩ (NX.tr (NX_fr (p := fun a _ => a = Z.2.2) (Fr_uI (Fr_zI Fr.rf (fun _ => rfl)) rfl) (by omega) (by omega) (by omega)) (NX_nZ (IV_hi h (p := fun a _ => a = Z.2.2) (Fr_uI (Fr_zI Fr.rf (fun _ => rfl)) rfl) (by intro a k h; omega)))) ⟨fun a k ha => by rw [uI_ap, if_neg (by omega), zI_ap, if_neg (by omega)], fun i hi => mk_nZ h hi, fun q1 q2 => by rw [nZ_ap, if_pos rfl]; show (5 : Int) = _; omega, by omega, by rw [uI_ap, if_pos ⟨rfl, rfl⟩], fun i hi => by rw [nZ_ap2, if_neg (by omega)]⟩⟩
  · refine ⟨0, 0, Nat.le_refl _, Nat.le_refl _, 0, 0, 0, 0, Nat.le_refl _, Nat.le_refl _, ?_⟩
    refine v_X4_init_3 (by rw [nZ_ap, if_pos rfl]) ⟨rfl, hQ _ _ _ (IV_nZ (IV_hi h (p := fun a _ => a = Z.2.2) (Fr_uI (Fr_zI Fr.rf (fun _ => rfl)) rfl) (by intro a k h; omega))) ⟨3, by decide, by rw [nZ_ap, if_pos rfl]⟩ (NX.tr (NX_fr (p := fun a _ => a = Z.2.2) (Fr_uI (Fr_zI Fr.rf (fun _ => rfl)) rfl) (by omega) (by omega) (by omega)) (NX_nZ (IV_hi h (p := fun a _ => a = Z.2.2) (Fr_uI (Fr_zI Fr.rf (fun _ => rfl)) rfl) (by intro a k h; omega)))) ⟨fun a k ha => by rw [uI_ap, if_neg (by omega), zI_ap, if_neg (by omega)], fun i hi => mk_nZ h hi, fun q1 q2 => by rw [nZ_ap, if_pos rfl]; show (1 : Int) = _; omega, by omega, by rw [uI_ap, if_pos ⟨rfl, rfl⟩], fun i hi => by rw [nZ_ap2, if_neg (by omega)]⟩⟩
  · refine ⟨0, 0, Nat.le_refl _, Nat.le_refl _, 0, 0, 0, 0, Nat.le_refl _, Nat.le_refl _, ?_⟩
    refine v_X1_init_1 (by rw [nZ_ap, if_pos rfl]) ⟨rfl, hQ _ _ _ (IV_nZ (IV_hi h (p := fun a _ => a = Z.2.2) (Fr_uI (Fr_zI Fr.rf (fun _ => rfl)) rfl) (by intro a k h; omega))) ⟨1, by decide, by rw [nZ_ap, if_pos rfl]⟩ (NX.tr (NX_fr (p := fun a _ => a = Z.2.2) (Fr_uI (Fr_zI Fr.rf (fun _ => rfl)) rfl) (by omega) (by omega) (by omega)) (NX_nZ (IV_hi h (p := fun a _ => a = Z.2.2) (Fr_uI (Fr_zI Fr.rf (fun _ => rfl)) rfl) (by intro a k h; omega)))) ⟨fun a k ha => by rw [uI_ap, if_neg (by omega), zI_ap, if_neg (by omega)], fun i hi => mk_nZ h hi, fun q1 q2 => by rw [nZ_ap, if_pos rfl]; show (2 : Int) = _; omega, by omega, by rw [uI_ap, if_pos ⟨rfl, rfl⟩], fun i hi => by rw [nZ_ap2, if_neg (by omega)]⟩⟩
  · refine ⟨0, 0, Nat.le_refl _, Nat.le_refl _, 0, 0, 0, 0, Nat.le_refl _, Nat.le_refl _, ?_⟩
    refine v_X10_init_9 (by rw [nZ_ap, if_pos rfl]) ⟨rfl, hQ _ _ _ (IV_nZ (IV_hi h (p := fun a _ => a = Z.2.2) (Fr_uI (Fr_zI Fr.rf (fun _ => rfl)) rfl) (by intro a k h; omega))) ⟨9, by decide, by rw [nZ_ap, if_pos rfl]⟩ (NX.tr (NX_fr (p := fun a _ => a = Z.2.2) (Fr_uI (Fr_zI Fr.rf (fun _ => rfl)) rfl) (by omega) (by omega) (by omega)) (NX_nZ (IV_hi h (p := fun a _ => a = Z.2.2) (Fr_uI (Fr_zI Fr.rf (fun _ => rfl)) rfl) (by intro a k h; omega)))) ⟨fun a k ha => by rw [uI_ap, if_neg (by omega), zI_ap, if_neg (by omega)], fun i hi => mk_nZ h hi, fun q1 q2 => by rw [nZ_ap, if_pos rfl]; show (3 : Int) = _; omega, by omega, by rw [uI_ap, if_pos ⟨rfl, rfl⟩], fun i hi => by rw [nZ_ap2, if_neg (by omega)]⟩⟩
  · refine ⟨0, 0, Nat.le_refl _, Nat.le_refl _, 0, 0, 0, 0, Nat.le_refl _, Nat.le_refl _, ?_⟩
    refine v_X7_init_6 (by rw [nZ_ap, if_pos rfl]) ⟨rfl, hQ _ _ _ (IV_nZ (IV_hi h (p := fun a _ => a = Z.2.2) (Fr_uI (Fr_zI Fr.rf (fun _ => rfl)) rfl) (by intro a k h; omega))) ⟨6, by decide, by rw [nZ_ap, if_pos rfl]⟩ (NX.tr (NX_fr (p := fun a _ => a = Z.2.2) (Fr_uI (Fr_zI Fr.rf (fun _ => rfl)) rfl) (by omega) (by omega) (by omega)) (NX_nZ (IV_hi h (p := fun a _ => a = Z.2.2) (Fr_uI (Fr_zI Fr.rf (fun _ => rfl)) rfl) (by intro a k h; omega)))) ⟨fun a k ha => by rw [uI_ap, if_neg (by omega), zI_ap, if_neg (by omega)], fun i hi => mk_nZ h hi, fun q1 q2 => by rw [nZ_ap, if_pos rfl]; show (4 : Int) = _; omega, by omega, by rw [uI_ap, if_pos ⟨rfl, rfl⟩], fun i hi => by rw [nZ_ap2, if_neg (by omega)]⟩⟩
theorem qX11_row {G : jdG} {n : Nat} {Z : jdL} {I : jdI} {J : jdJ} {Q : jdQ} {x1 x2 x3 : Int32} (h : IV Z I) (hQ : ∀ (v : Int32) (Z2 : jdL) (I2 : jdI) (J2 : jdJ), IV Z2 I2 → ((v.toInt = 1 ∧ ((0 ≤ x1.toInt ∧ x1.toInt ≤ 7) ∧ (0 ≤ x2.toInt ∧ x2.toInt ≤ 4) ∧ 0 ≤ x3.toInt ∧ x3.toInt ≤ 40)) ∨ (v.toInt = -2 ∧ ¬ ((0 ≤ x1.toInt ∧ x1.toInt ≤ 7) ∧ (0 ≤ x2.toInt ∧ x2.toInt ≤ 4) ∧ 0 ≤ x3.toInt ∧ x3.toInt ≤ 40))) → NX Z I Z2 I2 → XS (((0 ≤ x1.toInt ∧ x1.toInt ≤ 7) ∧ (0 ≤ x2.toInt ∧ x2.toInt ≤ 4) ∧ 0 ≤ x3.toInt ∧ x3.toInt ≤ 40)) x1 x2.toInt x3.toInt 0 Z I Z2 I2 → XA (((0 ≤ x1.toInt ∧ x1.toInt ≤ 7) ∧ (0 ≤ x2.toInt ∧ x2.toInt ≤ 4) ∧ 0 ≤ x3.toInt ∧ x3.toInt ≤ 40)) x1 none Z I Z2 I2 → (((((0 ≤ x1.toInt ∧ x1.toInt ≤ 7) ∧ (0 ≤ x2.toInt ∧ x2.toInt ≤ 4) ∧ 0 ≤ x3.toInt ∧ x3.toInt ≤ 40)) → (∀ q : Nat, q < 40 → J2 (29 + 2 * (Int32.toNatClampNeg x1) + 1) q = 0) ∧ ∀ a, a ≠ 29 + 2 * (Int32.toNatClampNeg x1) + 1 → J2 a = J a) ∧ (¬ (((0 ≤ x1.toInt ∧ x1.toInt ≤ 7) ∧ (0 ≤ x2.toInt ∧ x2.toInt ≤ 4) ∧ 0 ≤ x3.toInt ∧ x3.toInt ≤ 40)) → J2 = J)) → NT Z I Z2 I2 → Q (some (.int v)) Z2 I2 J2) : Cl G mX11_row (n + 1) 0 0 [.ref (gb G + 0), .int x1, .int x2, .int x3] Z I J Q := by
  have q0 : (0 : Int32).toInt = 0 := rfl
  have q1 : (1 : Int32).toInt = 1 := rfl
  have q2 : (-2 : Int32).toInt = -2 := rfl
  have q5 : (5 : Int32).toInt = 5 := rfl
  have q6 : (6 : Int32).toInt = 6 := rfl
  have q9 : (9 : Int32).toInt = 9 := rfl
  have q40 : (40 : Int32).toInt = 40 := rfl
  refine eX11_row h.1 ?_
  refine sfX11_isShelf h.2.2.1 (fun v2 hp => ⟨fun hc => ?_, fun hc => ?_⟩)
  · have hc := i0 hc
    refine sfX11_refuse h.1 h.2.2.1 (fun v4 I3 hW3 hF3 hp3 => ?_)
    exact hQ _ _ _ _ (IV_x h hW3 hF3 (by intro a k h; omega)) (by rw [hp3]; omega) (NX_fr hF3 (by omega) (by omega) (by omega)) (XS_no hF3 (fun a k q => q) (by omega)) (XA_no hF3 (fun a k q => q) (by omega)) ⟨fun q => absurd q (by omega), fun _ => rfl⟩ (NT_fr h hF3 (by intro a k h; omega))
  · have hc := i1 hc
    refine ⟨fun hc2 => ?_, fun hc2 => ⟨fun hc3 => ?_, fun hc3 => ⟨fun hc4 => ?_, fun hc4 => ⟨fun hc5 => ?_, fun hc5 => ?_⟩⟩⟩⟩
    · have hc2 := Int32.lt_iff_toInt_lt.mp hc2
      refine sfX11_refuse h.1 h.2.2.1 (fun v4 I3 hW3 hF3 hp3 => ?_)
      exact hQ _ _ _ _ (IV_x h hW3 hF3 (by intro a k h; omega)) (by rw [hp3]; omega) (NX_fr hF3 (by omega) (by omega) (by omega)) (XS_no hF3 (fun a k q => q) (by omega)) (XA_no hF3 (fun a k q => q) (by omega)) ⟨fun q => absurd q (by omega), fun _ => rfl⟩ (NT_fr h hF3 (by intro a k h; omega))
    · have hc3 := Int32.le_iff_toInt_le.mp hc3
      refine sfX11_refuse h.1 h.2.2.1 (fun v4 I3 hW3 hF3 hp3 => ?_)
      exact hQ _ _ _ _ (IV_x h hW3 hF3 (by intro a k h; omega)) (by rw [hp3]; omega) (NX_fr hF3 (by omega) (by omega) (by omega)) (XS_no hF3 (fun a k q => q) (by omega)) (XA_no hF3 (fun a k q => q) (by omega)) ⟨fun q => absurd q (by omega), fun _ => rfl⟩ (NT_fr h hF3 (by intro a k h; omega))
    · have hc4 := Int32.lt_iff_toInt_lt.mp hc4
      refine sfX11_refuse h.1 h.2.2.1 (fun v4 I3 hW3 hF3 hp3 => ?_)
      exact hQ _ _ _ _ (IV_x h hW3 hF3 (by intro a k h; omega)) (by rw [hp3]; omega) (NX_fr hF3 (by omega) (by omega) (by omega)) (XS_no hF3 (fun a k q => q) (by omega)) (XA_no hF3 (fun a k q => q) (by omega)) ⟨fun q => absurd q (by omega), fun _ => rfl⟩ (NT_fr h hF3 (by intro a k h; omega))
    · have hc2 := mt Int32.lt_iff_toInt_lt.mpr hc2
      have hc3 := mt Int32.le_iff_toInt_le.mpr hc3
      have hc4 := mt Int32.lt_iff_toInt_lt.mpr hc4
      have hc5 := Int32.le_iff_toInt_le.mp hc5
      refine ⟨vp_of (by omega) (by omega), ?_⟩
      refine ⟨0, 0, 0, 0, Nat.zero_le _, Nat.zero_le _, ?_⟩
      have hn := tn_eq x1
      have hz := zX_shelf h.1 (i := Int32.toNatClampNeg x1) (by omega)
      have w1 : WX (uI I (29 + 2 * (Int32.toNatClampNeg x1)) 1 x2) := WX_uI h.2.2.1 (by first | exact okXo (by decide) | (unfold okX; refine ⟨?_, ?_, ?_, ?_, ?_, ?_, ?_, ?_, ?_, ?_⟩ <;> intro h <;> omega))
      have w2 : WX (uI (uI I (29 + 2 * (Int32.toNatClampNeg x1)) 1 x2) (29 + 2 * (Int32.toNatClampNeg x1)) 2 x3) := WX_uI w1 (by first | exact okXo (by decide) | (unfold okX; refine ⟨?_, ?_, ?_, ?_, ?_, ?_, ?_, ?_, ?_, ?_⟩ <;> intro h <;> omega))
      refine qX6_takeRow hz (fun J2 hj1 hj2 => ?_)
      have h2 := IV_uP (IV_x h w2 (p := fun a _ => a < 45) (Fr_uI (Fr_uI Fr.rf (by omega)) (by omega)) (fun a k h => h)) (i := Int32.toNatClampNeg x1) (v := none) (by omega) (fun w e => by cases e)
      have hxs : XS (((0 ≤ x1.toInt ∧ x1.toInt ≤ 7) ∧ (0 ≤ x2.toInt ∧ x2.toInt ≤ 4) ∧ 0 ≤ x3.toInt ∧ x3.toInt ≤ 40)) x1 x2.toInt x3.toInt 0 Z I (uP Z (29 + 2 * (Int32.toNatClampNeg x1)) 3 none) (uI (uI I (29 + 2 * (Int32.toNatClampNeg x1)) 1 x2) (29 + 2 * (Int32.toNatClampNeg x1)) 2 x3) := by
        refine ⟨fun a k ha _ => by rw [uI_ap, if_neg (by omega), uI_ap, if_neg (by omega)], fun i hi => ⟨fun q => ?_, fun q1 q2 => ?_⟩⟩
        · have hne : i ≠ Int32.toNatClampNeg x1 := fun e => q ⟨by omega, e⟩
          exact ⟨by rw [uI_ap, if_neg (by omega), uI_ap, if_neg (by omega)], by rw [uI_ap, if_neg (by omega), uI_ap, if_neg (by omega)], mk_uP_ne hne⟩
        · rw [q2]
          exact ⟨by rw [uI_ap, if_neg (by omega), uI_ap, if_pos ⟨rfl, rfl⟩], by rw [uI_ap, if_pos ⟨rfl, rfl⟩], mk_uP_none⟩
      have hxa : XA (((0 ≤ x1.toInt ∧ x1.toInt ≤ 7) ∧ (0 ≤ x2.toInt ∧ x2.toInt ≤ 4) ∧ 0 ≤ x3.toInt ∧ x3.toInt ≤ 40)) x1 none Z I (uP Z (29 + 2 * (Int32.toNatClampNeg x1)) 3 none) (uI (uI I (29 + 2 * (Int32.toNatClampNeg x1)) 1 x2) (29 + 2 * (Int32.toNatClampNeg x1)) 2 x3) := fun i hi => by
        refine ⟨fun q => ?_, fun q1 q2 w hw => ?_⟩
        · have hne : i ≠ Int32.toNatClampNeg x1 := fun e => q ⟨by omega, e⟩
          exact ⟨by rw [uP_ap, if_neg (by omega)], fun w hw hl => by rw [uI_ap, if_neg (by omega), uI_ap, if_neg (by omega)]⟩
        · rw [q2, uP_ap, if_pos ⟨rfl, rfl⟩] at hw
          cases hw
      exact ⟨rfl, h2.1, hQ _ _ _ _ h2 (by omega) (NX.tr (NX_fr (p := fun a _ => 29 ≤ a ∧ a < 45) (Fr_uI (Fr_uI Fr.rf (by omega)) (by omega)) (by omega) (by omega) (by omega)) (NX_uP (by omega))) hxs hxa ⟨fun _ => ⟨hj1, hj2⟩, fun q => absurd (by omega) q⟩ (NT_all h (fun a k ha => by rw [uI_ap, if_neg (by omega), uI_ap, if_neg (by omega)]) (by rw [uP_ap, if_neg (by omega)]))⟩
    · have hc5 := mt Int32.le_iff_toInt_le.mpr hc5
      refine sfX11_refuse h.1 h.2.2.1 (fun v4 I3 hW3 hF3 hp3 => ?_)
      exact hQ _ _ _ _ (IV_x h hW3 hF3 (by intro a k h; omega)) (by rw [hp3]; omega) (NX_fr hF3 (by omega) (by omega) (by omega)) (XS_no hF3 (fun a k q => q) (by omega)) (XA_no hF3 (fun a k q => q) (by omega)) ⟨fun q => absurd q (by omega), fun _ => rfl⟩ (NT_fr h hF3 (by intro a k h; omega))
theorem qX11_coachman {G : jdG} {n : Nat} {Z : jdL} {I : jdI} {J : jdJ} {Q : jdQ} {x1 x2 x3 : Int32} (h : IV Z I) (hQ : ∀ (v : Int32) (Z2 : jdL) (I2 : jdI) (J2 : jdJ), IV Z2 I2 → ((v.toInt = 1 ∧ ((0 ≤ x1.toInt ∧ x1.toInt ≤ 7) ∧ (1 ≤ x2.toInt ∧ x2.toInt ≤ 5) ∧ 0 ≤ x3.toInt ∧ x3.toInt ≤ 9)) ∨ (v.toInt = -2 ∧ ¬ ((0 ≤ x1.toInt ∧ x1.toInt ≤ 7) ∧ (1 ≤ x2.toInt ∧ x2.toInt ≤ 5) ∧ 0 ≤ x3.toInt ∧ x3.toInt ≤ 9))) → NX Z I Z2 I2 → XS (((0 ≤ x1.toInt ∧ x1.toInt ≤ 7) ∧ (1 ≤ x2.toInt ∧ x2.toInt ≤ 5) ∧ 0 ≤ x3.toInt ∧ x3.toInt ≤ 9)) x1 (-1) 0 x2.toInt Z I Z2 I2 → XA (((0 ≤ x1.toInt ∧ x1.toInt ≤ 7) ∧ (1 ≤ x2.toInt ∧ x2.toInt ≤ 5) ∧ 0 ≤ x3.toInt ∧ x3.toInt ≤ 9)) x1 (some x3) Z I Z2 I2 → J2 = J → NT Z I Z2 I2 → Q (some (.int v)) Z2 I2 J2) : Cl G mX11_coachman (n + 5) 1 1 [.ref (gb G + 0), .int x1, .int x2, .int x3] Z I J Q := by
  have q0 : (0 : Int32).toInt = 0 := rfl
  have q1 : (1 : Int32).toInt = 1 := rfl
  have q2 : (-2 : Int32).toInt = -2 := rfl
  have q5 : (5 : Int32).toInt = 5 := rfl
  have q6 : (6 : Int32).toInt = 6 := rfl
  have q9 : (9 : Int32).toInt = 9 := rfl
  have q40 : (40 : Int32).toInt = 40 := rfl
  refine eX11_coachman h.1 ?_
  refine sfX11_isShelf h.2.2.1 (fun v2 hp => ⟨fun hc => ?_, fun hc => ?_⟩)
  · have hc := i0 hc
    refine sfX11_refuse h.1 h.2.2.1 (fun v4 I3 hW3 hF3 hp3 => ?_)
    exact hQ _ _ _ _ (IV_x h hW3 hF3 (by intro a k h; omega)) (by rw [hp3]; omega) (NX_fr hF3 (by omega) (by omega) (by omega)) (XS_no hF3 (fun a k q => q) (by omega)) (XA_no hF3 (fun a k q => q) (by omega)) rfl (NT_fr h hF3 (by intro a k h; omega))
  · have hc := i1 hc
    refine ⟨fun hc2 => ?_, fun hc2 => ⟨fun hc3 => ?_, fun hc3 => ⟨fun hc4 => ?_, fun hc4 => ⟨fun hc5 => ?_, fun hc5 => ?_⟩⟩⟩⟩
    · have hc2 := Int32.lt_iff_toInt_lt.mp hc2
      refine sfX11_refuse h.1 h.2.2.1 (fun v4 I3 hW3 hF3 hp3 => ?_)
      exact hQ _ _ _ _ (IV_x h hW3 hF3 (by intro a k h; omega)) (by rw [hp3]; omega) (NX_fr hF3 (by omega) (by omega) (by omega)) (XS_no hF3 (fun a k q => q) (by omega)) (XA_no hF3 (fun a k q => q) (by omega)) rfl (NT_fr h hF3 (by intro a k h; omega))
    · have hc3 := Int32.le_iff_toInt_le.mp hc3
      refine sfX11_refuse h.1 h.2.2.1 (fun v4 I3 hW3 hF3 hp3 => ?_)
      exact hQ _ _ _ _ (IV_x h hW3 hF3 (by intro a k h; omega)) (by rw [hp3]; omega) (NX_fr hF3 (by omega) (by omega) (by omega)) (XS_no hF3 (fun a k q => q) (by omega)) (XA_no hF3 (fun a k q => q) (by omega)) rfl (NT_fr h hF3 (by intro a k h; omega))
    · have hc4 := Int32.lt_iff_toInt_lt.mp hc4
      refine sfX11_refuse h.1 h.2.2.1 (fun v4 I3 hW3 hF3 hp3 => ?_)
      exact hQ _ _ _ _ (IV_x h hW3 hF3 (by intro a k h; omega)) (by rw [hp3]; omega) (NX_fr hF3 (by omega) (by omega) (by omega)) (XS_no hF3 (fun a k q => q) (by omega)) (XA_no hF3 (fun a k q => q) (by omega)) rfl (NT_fr h hF3 (by intro a k h; omega))
    · have hc2 := mt Int32.lt_iff_toInt_lt.mpr hc2
      have hc3 := mt Int32.le_iff_toInt_le.mpr hc3
      have hc4 := mt Int32.lt_iff_toInt_lt.mpr hc4
      have hc5 := Int32.le_iff_toInt_le.mp hc5
      refine ⟨vp_of (by omega) (by omega), ?_⟩
      refine ⟨1, 1, 0, 0, Nat.le_refl _, Nat.le_refl _, ?_⟩
      have hn := tn_eq x1
      refine qX11_newCoachman h (fun w Z2 I2 h2 hm hnx hnw => ⟨w, rfl, h2.1, 0, 0, 0, 0, Nat.le_refl _, Nat.le_refl _, ?_⟩)
      have hz := zX_shelf h2.1 (i := Int32.toNatClampNeg x1) (by omega)
      have w1 : WX (uI I2 (29 + 2 * (Int32.toNatClampNeg x1)) 1 (-1)) := WX_uI h2.2.2.1 (by first | exact okXo (by decide) | (unfold okX; refine ⟨?_, ?_, ?_, ?_, ?_, ?_, ?_, ?_, ?_, ?_⟩ <;> intro h <;> omega))
      have w2 : WX (uI (uI I2 (29 + 2 * (Int32.toNatClampNeg x1)) 1 (-1)) (29 + 2 * (Int32.toNatClampNeg x1)) 2 0) := WX_uI w1 (by first | exact okXo (by decide) | (unfold okX; refine ⟨?_, ?_, ?_, ?_, ?_, ?_, ?_, ?_, ?_, ?_⟩ <;> intro h <;> omega))
      refine qX6_takeMan hz ?_
      have h3 := IV_uP (IV_x h2 w2 (p := fun a _ => a < 45) (Fr_uI (Fr_uI Fr.rf (by omega)) (by omega)) (fun a k h => h)) (i := Int32.toNatClampNeg x1) (v := some w) (by omega) (fun w' e => by cases e; exact hm)
      have hb := h.2.2.2.2.2.1
      have hxs : XS (((0 ≤ x1.toInt ∧ x1.toInt ≤ 7) ∧ (1 ≤ x2.toInt ∧ x2.toInt ≤ 5) ∧ 0 ≤ x3.toInt ∧ x3.toInt ≤ 9)) x1 (-1) 0 x2.toInt Z I (uP Z2 (29 + 2 * (Int32.toNatClampNeg x1)) 3 (some w)) (uI (uI I2 (29 + 2 * (Int32.toNatClampNeg x1)) 1 (-1)) (29 + 2 * (Int32.toNatClampNeg x1)) 2 0) := by
        refine ⟨fun a k ha hz => by rw [uI_ap, if_neg (by omega), uI_ap, if_neg (by omega)]; exact hnw.1 a k hz, fun i hi => ⟨fun q => ?_, fun q1 q2 => ?_⟩⟩
        · have hne : i ≠ Int32.toNatClampNeg x1 := fun e => q ⟨by omega, e⟩
          exact ⟨by rw [uI_ap, if_neg (by omega), uI_ap, if_neg (by omega)]; exact hnw.1 _ _ (by omega), by rw [uI_ap, if_neg (by omega), uI_ap, if_neg (by omega)]; exact hnw.1 _ _ (by omega), (mk_uP_ne hne).trans (hnw.2.1 i hi)⟩
        · rw [q2]
          exact ⟨by rw [uI_ap, if_neg (by omega), uI_ap, if_pos ⟨rfl, rfl⟩]; rfl, by rw [uI_ap, if_pos ⟨rfl, rfl⟩]; rfl, mk_uP_some.trans (hnw.2.2.1 (by omega) (by omega))⟩
      have hxa : XA (((0 ≤ x1.toInt ∧ x1.toInt ≤ 7) ∧ (1 ≤ x2.toInt ∧ x2.toInt ≤ 5) ∧ 0 ≤ x3.toInt ∧ x3.toInt ≤ 9)) x1 (some x3) Z I (uP Z2 (29 + 2 * (Int32.toNatClampNeg x1)) 3 (some w)) (uI (uI I2 (29 + 2 * (Int32.toNatClampNeg x1)) 1 (-1)) (29 + 2 * (Int32.toNatClampNeg x1)) 2 0) := fun i hi => by
        have hwl := hnw.2.2.2.1
        refine ⟨fun q => ?_, fun q1 q2 v hv => ?_⟩
        · have hne : i ≠ Int32.toNatClampNeg x1 := fun e => q ⟨by omega, e⟩
          refine ⟨by rw [uP_ap, if_neg (by omega)]; exact hnw.2.2.2.2.2 i hi, fun v hv hl => ?_⟩
          obtain ⟨ci, hci, hz9⟩ := h.2.1 i hi v hv
          rw [uI_ap, if_neg (by omega), uI_ap, if_neg (by omega)]
          exact hnw.1 _ _ (h.2.2.2.2.2.2.1 _ _ hz9)
        · rw [q2, uP_ap, if_pos ⟨rfl, rfl⟩] at hv
          cases hv
          exact ⟨hnw.2.2.2.1, by rw [uI_ap, if_neg (by omega), uI_ap, if_neg (by omega), hnw.2.2.2.2.1]⟩
      exact ⟨rfl, h3.1, hQ _ _ _ _ h3 (by omega) (NX.tr hnx (NX.tr (NX_fr (p := fun a _ => 29 ≤ a ∧ a < 45) (Fr_uI (Fr_uI Fr.rf (by omega)) (by omega)) (by omega) (by omega) (by omega)) (NX_uP (by omega)))) hxs hxa rfl (NT_all h (fun a k ha => by rw [uI_ap, if_neg (by omega), uI_ap, if_neg (by omega)]; exact hnw.1 a k (by omega)) (by rw [uP_ap, if_neg (by omega)]; exact hnx.2.2.2))⟩
    · have hc5 := mt Int32.le_iff_toInt_le.mpr hc5
      refine sfX11_refuse h.1 h.2.2.1 (fun v4 I3 hW3 hF3 hp3 => ?_)
      exact hQ _ _ _ _ (IV_x h hW3 hF3 (by intro a k h; omega)) (by rw [hp3]; omega) (NX_fr hF3 (by omega) (by omega) (by omega)) (XS_no hF3 (fun a k q => q) (by omega)) (XA_no hF3 (fun a k q => q) (by omega)) rfl (NT_fr h hF3 (by intro a k h; omega))
