/-! in thought: acquainting, days, behind -/
theorem relW_acq (w : Tw) (s : Int32) (p q : Nat) : relW (acqT w s) p q = (relW w p q && !(bt s p && bt s q)) := by
  unfold relW
  show decide ((if bt s p = true ∧ bt s q = true then 0 else w.2.2.2.2.2 p q) = -1) = _
  by_cases c : bt s p = true ∧ bt s q = true
  · rw [if_pos c, c.1, c.2, Bool.and_self, Bool.not_true, Bool.and_false]
    rfl
  · rw [if_neg c]
    cases a : bt s p with
    | false => rw [Bool.false_and, Bool.not_false, Bool.and_true]
    | true =>
      cases b : bt s q with
      | false => rw [Bool.and_false, Bool.not_false, Bool.and_true]
      | true => exact absurd ⟨a, b⟩ c
theorem sset_acq {w : Tw} {s : Int32} {p N : Nat} (hp : p < 8) (hN : N ≤ 8) : sset (relW (acqT w s)) p N = if bt s p = true then sset (relW w) p N &&& ~~~s else sset (relW w) p N := by
  have r1 := sset_r (relW (acqT w s)) p N hN
  have r2 := sset_r (relW w) p N hN
  by_cases c : bt s p = true
  · rw [if_pos c]
    have r3 := i32_and' (sset (relW w) p N) (~~~s) r2.1
    refine bt_ext ⟨r1.1, by omega⟩ ⟨r3.1, by omega⟩ (fun q hq => ?_)
    rw [sset_bt _ _ _ hN q hq, bt_an _ _ _ (by omega), bt_no _ _ (by omega), sset_bt _ _ _ hN q hq, relW_acq, c, Bool.true_and]
    cases decide (q < N) <;> cases decide (q ≠ p) <;> cases relW w p q <;> cases bt s q <;> rfl
  · rw [if_neg c]
    have c : bt s p = false := by
      cases z : bt s p with
      | false => rfl
      | true => exact absurd z c
    refine bt_ext ⟨r1.1, by omega⟩ ⟨r2.1, by omega⟩ (fun q hq => ?_)
    rw [sset_bt _ _ _ hN q hq, sset_bt _ _ _ hN q hq, relW_acq, c, Bool.false_and, Bool.not_false, Bool.and_true]
theorem SYM_acq {w : Tw} {s : Int32} (h : SYM w) : SYM (acqT w s) := fun i j => by
  show (if bt s i = true ∧ bt s j = true then 0 else w.2.2.2.2.2 i j) = (if bt s j = true ∧ bt s i = true then 0 else w.2.2.2.2.2 j i)
  by_cases c : bt s i = true ∧ bt s j = true
  · rw [if_pos c, if_pos ⟨c.2, c.1⟩]
  · rw [if_neg c, if_neg (fun z => c ⟨z.2, z.1⟩)]
    exact h i j
theorem pX8_acquaint_2 {G : jdG} {n rc rs : Nat} {Z : jdL} {J : jdJ} {K : jdI → jdJ → Prop} {I0 : jdI} {w : Tw} {x1 : Int32} (ht : zTies Z 13) (hsy : SYM w) (hb : (0 ≤ w.1 ∧ w.1 ≤ 7) ∧ 2 ≤ w.2.2.2.1 ∧ w.2.2.2.1 ≤ 4) (hT0 : TL I0 w) (hK : ∀ I2, WX I2 → Fr (fun a k => (a = 13 ∧ (k = 8 ∨ k = 10)) ∨ a = 14 ∨ a = 16) I0 I2 → TL I2 (acqT w x1) → (I2 13 10).toInt = 0 → K I2 J) : ∀ f : Nat, ∀ (I : jdI) (x2 : Int32), WX I → Fr (fun a k => a = 14) I0 I → 0 ≤ x2.toInt → x2.toInt + (f : Int) = w.1 → (∀ p : Nat, (p : Int) < x2.toInt → I (13 + 1) p = sset (relW (acqT w x1)) p w.1.toNat) → (∀ p : Nat, x2.toInt ≤ (p : Int) → I (13 + 1) p = I0 (13 + 1) p) → Jd G mX8_acquaint (jdFm G (qv Z K)) (n + 7) rc rs 2 [(0, .ref (gb G + 13)), (1, .int x1), (2, .int x2)] [] Z I J := by
  have h6 : (I0 13 6).toInt = (w.1.toNat : Int) := hT0.1.1
  intro f
  induction f with
  | zero =>
    intro I x2 hW hF h2 hf ha hz
    have e6 : (I 13 6).toInt = (w.1.toNat : Int) := by rw [hF 13 6 (by omega)]; exact h6
    refine rX8_acquaint_2 ht ⟨fun _ => ?_, fun h => absurd (Int32.le_iff_toInt_le.mpr (by omega)) h⟩
    have hg : GX I w.1.toNat w.2.2.2.1.toNat (relW (acqT w x1)) := ⟨e6, by rw [hF 13 7 (by omega)]; exact hT0.1.2.1, fun p hp => ha p (by omega)⟩
    refine pX8_list ht hW hg (by omega) (by omega) (relW_s (SYM_acq hsy)) (fun I2 hW2 hF2 hc2 hL2 h10 => hK I2 hW2 (Fr.tr (Fr.tr Fr.rf hF (by intro a k h; omega)) hF2 (by intro a k h; omega)) ⟨GX_fr hg hF2 (by omega) (by omega) (by intro k; omega), fun p hp => ?_, hc2, hL2⟩ h10)
    rw [hF2 (13 + 2) p (by omega), hF (13 + 2) p (by omega)]
    exact hT0.2.1 p hp
  | succ f ih =>
    intro I x2 hW hF h2 hf ha hz
    have e6 : (I 13 6).toInt = (w.1.toNat : Int) := by rw [hF 13 6 (by omega)]; exact h6
    have q1 : (1 : Int32).toInt = 1 := rfl
    have e2 := i32_add x2 1 (by omega) (by omega)
    have n2 := tn_eq x2
    have hw := WX_f hW
    have b := bt_iff x1 (x := x2) h2
    have es := sset_acq (w := w) (s := x1) (p := x2.toInt.toNat) (N := w.1.toNat) (by omega) (by omega)
    have ec : I (13 + 1) x2.toInt.toNat = sset (relW w) x2.toInt.toNat w.1.toNat := (hz _ (by omega)).trans (hT0.1.2.2 _ (by omega))
    refine rX8_acquaint_2 ht ⟨fun h => by have := Int32.le_iff_toInt_le.mp h; omega, fun _ => ⟨fun hv => ?_, fun hv => ⟨vp_of (by omega) (by omega), vp_of (by omega) (by omega), ?_⟩⟩⟩
    · rw [if_neg (fun z => b.mp z hv)] at es
      refine ih I (x2 + 1) hW hF (by omega) (by omega) (fun p hp => ?_) (fun p hp => hz p (by omega))
      by_cases c : (p : Int) < x2.toInt
      · exact ha p c
      · rw [show p = x2.toInt.toNat by omega, es]
        exact ec
    · rw [if_pos (b.mpr hv)] at es
      refine ih _ (x2 + 1) (WX_uI hW (by unfold okX; refine ⟨?_, ?_, ?_, ?_, ?_, ?_, ?_, ?_, ?_, ?_⟩ <;> intro h <;> omega)) (Fr_uI hF (by omega)) (by omega) (by omega) (fun p hp => ?_) (fun p hp => ?_)
      · rw [uI_ap]
        by_cases c : p = Int32.toNatClampNeg x2
        · rw [if_pos ⟨rfl, c⟩, c, xo_m1, n2, es, ec]
        · rw [if_neg (fun z => c z.2)]
          exact ha p (by omega)
      · rw [uI_ap, if_neg (by omega)]
        exact hz p (by omega)
theorem pX8_acquaint {G : jdG} {n : Nat} {Z : jdL} {J : jdJ} {K : jdI → jdJ → Prop} {I : jdI} {w : Tw} {x1 : Int32} (ht : zTies Z 13) (hW : WX I) (hsy : SYM w) (hb : (0 ≤ w.1 ∧ w.1 ≤ 7) ∧ 2 ≤ w.2.2.2.1 ∧ w.2.2.2.1 ≤ 4) (hT : TL I w) (hK : ∀ I2, WX I2 → Fr (fun a k => (a = 13 ∧ (k = 8 ∨ k = 10)) ∨ a = 14 ∨ a = 16) I I2 → TL I2 (acqT w x1) → (I2 13 10).toInt = 0 → K I2 J) : Cl G mX8_acquaint (n + 7) 0 0 [.ref (gb G + 13), .int x1] Z I J (qv Z K) :=
  eX8_acquaint ht (pX8_acquaint_2 ht hsy hb hT hK w.1.toNat I 0 hW Fr.rf (by decide) (by show (0 : Int) + _ = _; omega) (fun p hp => by have : (p : Int) < 0 := hp; omega) (fun p _ => rfl))
theorem acqL_1 : ∀ (L : List Int32) (w : Tw), (acqL w L).1 = w.1 ∧ (acqL w L).2.1 = w.2.1 ∧ (acqL w L).2.2.1 = w.2.2.1 ∧ (acqL w L).2.2.2.1 = w.2.2.2.1
  | [], _ => ⟨rfl, rfl, rfl, rfl⟩
  | g :: L, w => acqL_1 L (acqT w g)
/-! days, one after the other -/
/-- on how many days a coach goes, f at most -/
def dsN (kd : Int) (a : Int32) : Nat → Tw → Nat
  | 0, _ => 0
  | f + 1, w => if (dyS w kd a).1.length = 0 then 0 else 1 + dsN kd a f (acqL w ((dyS w kd a).1.map Prod.fst))
def oDays (w : Tw) (kd : Int) (a : Int32) : Int := (dsN kd a 30 w : Int)
theorem pX11_days_70 {G : jdG} {n rc rs : Nat} {Z : jdL} {J : jdJ} {K : Int32 → jdI → jdJ → Prop} {I0 : jdI} {u2 : Nat} {x1 x3 : Int32} {S : List (Int32 × Int32)} {y : Int32} {R : Tw} (hX : zX Z) (hS : S.length ≤ 7) (hb : (0 ≤ R.1 ∧ R.1 ≤ 7) ∧ 2 ≤ R.2.2.2.1 ∧ R.2.2.2.1 ≤ 4) (hO : ∀ I2 : jdI, WX I2 → Fr (fun a k => 13 ≤ a ∧ a ≤ 24) I0 I2 → TL I2 R → (I2 13 10).toInt = 0 → Jd G mX11_days (jdFm G (qi Z K)) (n + 8) rc rs 33 [(0, .ref (gb G + 0)), (1, .int x1), (2, .ref (gb G + u2)), (3, .int (x3 + 1))] [] Z I2 J) : ∀ f : Nat, ∀ (I : jdI) (x4 : Int32) (w : Tw), WX I → Fr (fun a k => 13 ≤ a ∧ a ≤ 24) I0 I → DX I S y → TL I w → OKT w → (f = 0 → (I 13 10).toInt = 0) → 0 ≤ x4.toInt → x4.toInt + (f : Int) = (S.length : Int) → acqL w ((S.map Prod.fst).drop x4.toInt.toNat) = R → Jd G mX11_days (jdFm G (qi Z K)) (n + 8) rc rs 70 [(0, .ref (gb G + 0)), (1, .int x1), (2, .ref (gb G + u2)), (3, .int x3), (4, .int x4)] [] Z I J := by
  intro f
  induction f with
  | zero =>
    intro I x4 w hW hF hD hT hk h10 h4 hf hr
    have hl := hD.1
    rw [List.drop_eq_nil_of_le (by rw [List.length_map]; omega)] at hr
    have hr : w = R := hr
    subst hr
    exact rX11_days_70 hX ⟨fun _ => hO I hW hF hT (h10 rfl), fun hc => absurd (Int32.le_iff_toInt_le.mpr (by omega)) hc⟩
  | succ f ih =>
    intro I x4 w hW hF hD hT hk h10 h4 hf hr
    have q1 : (1 : Int32).toInt = 1 := rfl
    have q0 : (0 : Int32).toInt = 0 := rfl
    have hl := hD.1
    have hwx := WX_f hW
    have e4 := i32_add x4 1 (by omega) (by omega)
    have n4 := tn_eq x4
    rw [DX_at hD h4 (by omega)] at hr
    have hr : acqL (acqT w (I (20 + 1) (Int32.toNatClampNeg x4))) ((S.map Prod.fst).drop (x4.toInt.toNat + 1)) = R := hr
    rw [show x4.toInt.toNat + 1 = (x4 + 1).toInt.toNat by omega] at hr
    have hb2 : (0 ≤ w.1 ∧ w.1 ≤ 7) ∧ 2 ≤ w.2.2.2.1 ∧ w.2.2.2.1 ≤ 4 := by
      have e := acqL_1 ((S.map Prod.fst).drop (x4 + 1).toInt.toNat) (acqT w (I (20 + 1) (Int32.toNatClampNeg x4)))
      rw [hr] at e
      have e1 : R.1 = w.1 := e.1
      have e2 : R.2.2.2.1 = w.2.2.2.1 := e.2.2.2
      omega
    refine rX11_days_70 hX ⟨fun hc => by have := Int32.le_iff_toInt_le.mp hc; omega, fun _ => ?_⟩
    refine eX3_coachAt (zX_o4 hX) ⟨fun hc => by have := Int32.lt_iff_toInt_lt.mp hc; omega, fun _ => ⟨fun hc => by have := Int32.le_iff_toInt_le.mp hc; omega, fun _ => ⟨vp_of (by omega) (by omega), ?_⟩⟩⟩
    refine pX8_acquaint (zX_o3 hX) hW (OKT_sy hk) hb2 hT (fun I3 hW3 hF3 hT3 h3 => ?_)
    exact ih I3 (x4 + 1) _ hW3 (Fr.tr hF hF3 (by intro a k h; omega)) ⟨by rw [hF3 20 4 (by omega)]; exact hD.1, LiS_fr hD.2.1 hF3 (by intro k; omega), LiS_fr hD.2.2.1 hF3 (by intro k; omega), by rw [hF3 20 5 (by omega)]; exact hD.2.2.2⟩ hT3 (OKT_acq hk) (fun _ => h3) (by omega) (by omega) hr
theorem pX11_days_33 {G : jdG} {n rc rs : Nat} {Z : jdL} {J : jdJ} {K : Int32 → jdI → jdJ → Prop} {I0 : jdI} {u2 ci : Nat} {x1 : Int32} {w0 : Tw} {R : Int} (hX : zX Z) (hz : Z.1 u2 = some (ci + 10, 0)) (hci : ci = 0 ∨ ci = 1 ∨ ci = 3 ∨ ci = 6 ∨ ci = 9) (hu : 44 < u2) (hw0 : RX I0 1 w0) (hb : (0 ≤ w0.1 ∧ w0.1 ≤ 7) ∧ 2 ≤ w0.2.2.2.1 ∧ w0.2.2.2.1 ≤ 4) (hK : ∀ (v : Int32) (I2 : jdI), WX I2 → Fr (fun a k => 13 ≤ a ∧ a ≤ 24) I0 I2 → v.toInt = R → K v I2 J) : ∀ f : Nat, ∀ (I : jdI) (x3 : Int32) (w : Tw), WX I → Fr (fun a k => 13 ≤ a ∧ a ≤ 24) I0 I → TL I w → (I 13 10).toInt = 0 → OKT w → w.1 = w0.1 → w.2.1 = w0.2.1 → w.2.2.2.1 = w0.2.2.2.1 → 0 ≤ x3.toInt → x3.toInt + (f : Int) = 30 → x3.toInt + (dsN (ckI (Z.1 u2)) (I0 u2 0) f w : Int) = R → Jd G mX11_days (jdFm G (qi Z K)) (n + 8) rc rs 33 [(0, .ref (gb G + 0)), (1, .int x1), (2, .ref (gb G + u2)), (3, .int x3)] [] Z I J := by
  have q30 : (30 : Int32).toInt = 30 := rfl
  intro f
  induction f with
  | zero =>
    intro I x3 w hW hF hT hc hk e1 e2 e3 h3 hf hr
    have hr : x3.toInt + ((0 : Nat) : Int) = R := hr
    exact rX11_days_33 hX ⟨fun _ => hK 30 I hW hF (by omega), fun h => absurd (Int32.le_iff_toInt_le.mpr (by omega)) h⟩
  | succ f ih =>
    intro I x3 w hW hF hT hc hk e1 e2 e3 h3 hf hr
    have q1 : (1 : Int32).toInt = 1 := rfl
    have e4 := i32_add x3 1 (by omega) (by omega)
    have eu : I u2 0 = I0 u2 0 := hF u2 0 (by omega)
    have h13 : (I 1 3).toInt = w0.1 := by rw [hF 1 3 (by omega)]; exact hw0.1
    refine rX11_days_33 hX ⟨fun h => by have := Int32.le_iff_toInt_le.mp h; omega, fun _ => ?_⟩
    refine pX3_pass (N := w.1.toNat) (hr := w.2.1) (zX_o4 hX) (zX_o0 hX) (Or.inl rfl) (zX_o3 hX) hz hci hu (GG_DL (relW w) (by omega) (by omega)) (by omega) (DL_70 (relW w) (by omega) (by omega)) (by omega) (fun p hp => by rw [hF (1 + 1) p (by omega), e2]; exact (hw0.2.1 p (by omega)).1) (fun p hp => (hk.1 p (by omega)).1) hW (PT_TL hT hc) (fun I1 hW1 hP1 hF1 hD1 => ?_)
    rw [eu] at hD1
    have hD1 : DX I1 (dyS w (ckI (Z.1 u2)) (I0 u2 0)).1 (dyS w (ckI (Z.1 u2)) (I0 u2 0)).2 := hD1
    have hl := hD1.1
    have hT1 : TL I1 w := ⟨hP1.2.1, fun p hp => hP1.2.2 p (by omega), hP1.1.2.1, hP1.1.2.2.1⟩
    have hr : x3.toInt + ((if (dyS w (ckI (Z.1 u2)) (I0 u2 0)).1.length = 0 then 0 else 1 + dsN (ckI (Z.1 u2)) (I0 u2 0) f (acqL w ((dyS w (ckI (Z.1 u2)) (I0 u2 0)).1.map Prod.fst)) : Nat) : Int) = R := hr
    refine ⟨fun h4 => ?_, fun h4 => ?_⟩
    · have h4 := i1 h4
      rw [if_neg (by omega)] at hr
      have ea := acqL_1 ((dyS w (ckI (Z.1 u2)) (I0 u2 0)).1.map Prod.fst) w
      refine pX11_days_70 (R := acqL w ((dyS w (ckI (Z.1 u2)) (I0 u2 0)).1.map Prod.fst)) hX (dyS_len hW1 hD1) (by omega) (fun I3 hW3 hF3 hT3 hc3 => ?_) (dyS w (ckI (Z.1 u2)) (I0 u2 0)).1.length I1 0 w hW1 (Fr.tr hF hF1 (by intro a k h; omega)) hD1 hT1 hk (fun z => by omega) (by decide) (by show (0 : Int) + _ = _; omega) rfl
      exact ih I3 (x3 + 1) _ hW3 hF3 hT3 hc3 (acqL_ok _ _ hk) (ea.1.trans e1) (ea.2.1.trans e2) (ea.2.2.2.trans e3) (by omega) (by omega) (by omega)
    · have h4 := i0 h4
      rw [if_pos (by omega)] at hr
      exact hK x3 I1 hW1 (Fr.tr hF hF1 (by intro a k h; omega)) (by omega)
theorem pX11_days {G : jdG} {n : Nat} {Z : jdL} {J : jdJ} {K : Int32 → jdI → jdJ → Prop} {I : jdI} {s : Sd} {x1 : Int32} (hX : zX Z) (hM : zMen Z) (hA : zHi Z) (hW : WX I) (hs : TX I 1 s) (hk : OKT s.1) (hK : ∀ (v : Int32) (I2 : jdI), WX I2 → Fr (fun a k => (13 ≤ a ∧ a ≤ 24) ∨ a = 28) I I2 → v.toInt = anM (cX Z I x1) (oDays s.1 (mk Z (Int32.toNatClampNeg x1)) (aX Z I x1)) → K v I2 J) : Cl G mX11_days (n + 8) 0 0 [.ref (gb G + 0), .int x1] Z I J (qi Z K) := by
  have n1 := tn_eq x1
  have hb := RX_b hW hs.1
  refine eX11_days hX (pX_man hX hW (fun v I2 hc hW2 hF2 hv => hK v I2 hW2 (Fr.tr Fr.rf hF2 (by intro a k h; omega)) (by rw [hv]; exact (if_neg hc).symm)) (fun w hx hc hw => ?_))
  obtain ⟨ci, hci, hz⟩ := hM _ (by omega) w hw
  have hu := hA _ (by omega) w hw
  refine pX8_load (zX_o3 hX) (zX_o0 hX) (Or.inl rfl) hW hs.1 (OKT_sy hk) (fun I1 hW1 hF1 hT1 hc1 => ?_)
  refine pX11_days_33 (I0 := I) (w0 := s.1) (R := oDays s.1 (ckI (Z.1 w)) (I w 0)) hX hz hci (by omega) hs.1 hb (fun v I2 hW2 hF2 hv => hK v I2 hW2 (Fr.tr Fr.rf hF2 (by intro a k h; omega)) ?_) 30 I1 0 s.1 hW1 (Fr.tr Fr.rf hF1 (by intro a k h; omega)) hT1 hc1 hk rfl rfl rfl (by decide) (by decide) ?_
  · unfold anM
    rw [if_pos hc, mk_some hw, aX_some hw]
    exact hv
  · unfold oDays
    show (0 : Int) + _ = _
    omega
theorem pqX12_days_20 {G : jdG} {n rc rs : Nat} {Z0 Z : jdL} {I0 : jdI} {J0 J : jdJ} {Q : jdQ} {t u3 : Nat} {x1 x2 : Int32} {R kd : Int} {a : Int32} (hx1 : 0 ≤ x1.toInt ∧ x1.toInt ≤ 7) (hu : Z.2.1 t 21 = some u3) (hkd : (I0 (t + 14) (Int32.toNatClampNeg x1)).toInt = kd) (ha : I0 (t + 15) (Int32.toNatClampNeg x1) = a) (hQ : ∀ (v : Int32) (Z2 : jdL) (I2 : jdI) (J2 : jdJ), ST t 21 20 Z0 I0 J0 Z2 I2 J2 → v.toInt = R → Q (some (.int v)) Z2 I2 J2) : ∀ f : Nat, ∀ (I : jdI) (x4 : Int32) (w : Tw), ST t 21 20 Z0 I0 J0 Z I J → WM 7 u3 I → RM I u3 w → OKT w → 0 ≤ x4.toInt → x4.toInt + (f : Int) = 30 → x4.toInt + (dsN kd a f w : Int) = R → Jd G mX12_days (jdFm G Q) (n + 261) rc rs 20 [(0, .ref (gb G + t)), (1, .int x1), (2, .int x2), (3, .ref (gb G + u3)), (4, .int x4)] [] Z I J := by
  have q30 : (30 : Int32).toInt = 30 := rfl
  intro f
  induction f with
  | zero =>
    intro I x4 w hS hU hw hk h4 hf hr
    obtain ⟨c0, c1, c2, c3⟩ := hS.1.2.2.2.2.2.1 u3 hu
    have hr : x4.toInt + ((0 : Nat) : Int) = R := hr
    exact rX12_days_20 hS.1.1 c0 ⟨fun _ => hQ _ _ _ _ hS (by omega), fun h => absurd (Int32.le_iff_toInt_le.mpr (by omega)) h⟩
  | succ f ih =>
    intro I x4 w hS hU hw hk h4 hf hr
    obtain ⟨c0, c1, c2, c3⟩ := hS.1.2.2.2.2.2.1 u3 hu
    have q1 : (1 : Int32).toInt = 1 := rfl
    have q0 : (0 : Int32).toInt = 0 := rfl
    have e1 := i32_add x4 1 (by omega) (by omega)
    have hF := hS.2.2.2.2.1
    refine rX12_days_20 hS.1.1 c0 ⟨fun h => by have := Int32.le_iff_toInt_le.mp h; omega, fun _ => ⟨vp_of (by omega) (by omega), vp_of (by omega) (by omega), ?_⟩⟩
    rw [hF (t + 14) _ (by omega), hF (t + 15) _ (by omega), ha]
    refine pX12_dayOf c0 hU hw hk (fun v I3 hW3 hF3 hR3 hv => ?_)
    rw [hkd] at hR3 hv
    have hS3 := ST_u hS hu (WM_mono hW3 (by decide)) hF3 (by intro a k h; omega)
    have hr : x4.toInt + ((if (dyS w kd a).1.length = 0 then 0 else 1 + dsN kd a f (acqL w ((dyS w kd a).1.map Prod.fst)) : Nat) : Int) = R := hr
    refine ⟨fun h => ?_, fun h => ?_⟩
    · have h := Int32.le_iff_toInt_le.mp h
      rw [if_pos (by omega)] at hr
      exact hQ _ _ _ _ hS3 (by omega)
    · have h := mt Int32.le_iff_toInt_le.mpr h
      rw [if_neg (by omega)] at hr
      exact ih I3 (x4 + 1) _ hS3 hW3 hR3 (acqL_ok _ _ hk) (by omega) (by omega) (by omega)
theorem pqX12_days {G : jdG} {n : Nat} {Z : jdL} {I : jdI} {J : jdJ} {Q : jdQ} {t : Nat} {s : Sd} {x1 : Int32} {sA sV : Nat → Nat} (hG : gOK G sA sV) (hM : MI Z I t) (hs : TM I t s) (hk : OKT s.1) (hQ : ∀ (v : Int32) (Z2 : jdL) (I2 : jdI) (J2 : jdJ), ST t 21 20 Z I J Z2 I2 J2 → v.toInt = anM (cM I t x1) (oDays s.1 (I (t + 14) (Int32.toNatClampNeg x1)).toInt (I (t + 15) (Int32.toNatClampNeg x1))) → Q (some (.int v)) Z2 I2 J2) : Cl G mX12_days (n + 261) (fC Z t) (fS Z t) [.ref (gb G + t), .int x1] Z I J Q := by
  have hb := RM_b hM.2.1 hs.1
  refine eX12_days hM.1 ?_
  refine pX12_noMan hM.1 hM.2.1 (fun v I1 hW1 hF1 hv hr => ?_)
  have hS1 := ST_t (ST.rf (x := 21) (y := 20) (J := J) hM) hW1 hF1 (by intro a k h; omega)
  refine ⟨fun hc => ?_, fun hc => hQ _ _ _ _ hS1 ?_⟩
  · have hc := i0 hc
    have hr := hr (by omega)
    refine ⟨fC Z t, fS Z t, 0, 0, Nat.le_refl _, Nat.le_refl _, ?_⟩
    refine qX12_fresh hG hS1.1 (fun u Z3 I3 J3 hS hu c0 c2 c3 hU hF3 hC3 => ⟨u, rfl, hS.1.1, c0, ?_⟩)
    have hs1 := RM_fr hs.1 (by omega) hF1 (by omega) (by omega) (by omega) (by intro a k h1 h2 h3; omega)
    refine pqX12_days_20 (I0 := I) (R := anM (cM I t x1) (oDays s.1 (I (t + 14) (Int32.toNatClampNeg x1)).toInt (I (t + 15) (Int32.toNatClampNeg x1)))) (by omega) hu rfl rfl hQ 30 I3 0 s.1 (ST.tr hS1 hS) hU (RM_cm hs1 (by omega) hC3) hk (by decide) (by decide) ?_
    unfold anM oDays
    rw [if_pos (by omega)]
    show (0 : Int) + _ = _
    omega
  · have hc := i1 hc
    unfold anM
    rw [if_neg (by omega)]
    exact hv
/-! behind -/
def dlL : Int32 → List Int32 → Int32
  | y, [] => y
  | y, g :: L => dlL (dl y g) L
theorem dl_dl (y a b : Int32) : dl (dl y a) b = dl y (a ||| b) := bt_all (fun i hi => by
  rw [dl_bt _ _ hi, dl_bt _ _ hi, dl_bt _ _ hi, bt_or _ _ _ hi]
  cases bt y i <;> cases bt a i <;> cases bt b i <;> rfl)
theorem dlL_ro (r : Nat → Int64) : ∀ (f i : Nat) (y ro : Int32), dlL (dl y ro) (rowL r f i) = dl y (roN r f i ro)
  | 0, _, _, _ => rfl
  | f + 1, i, y, ro => by
    show dlL (dl (dl y ro) (Int64.toInt32 (r i))) (rowL r f (i + 1)) = dl y (roN r f (i + 1) (ro ||| Int64.toInt32 (r i)))
    rw [dl_dl]
    exact dlL_ro r f (i + 1) y _
theorem dl_0 (y : Int32) : dl y 0 = y := bt_all (fun i hi => by
  rw [dl_bt _ _ hi, bt_ze i hi, Bool.not_false, Bool.and_true])
def evW (w : Tw) : Int32 := ((1 : Int32) <<< (Int32.ofInt w.1 &&& 31)) - 1
def oBeh (w : Tw) (c : Int) (r : Nat → Int64) (m : Nat) (x3 : Int) : Int := if x3 = 0 ∨ x3 = 1 then (if c = 0 then (if wrg (LW w) w.1.toNat r m 0 0 = -1 then (if x3 = 0 then (dlL (evW w) (rowL r m 0)).toInt else (cnt (evW w) (LW (acqL w (rowL r m 0))) 0).toInt) else -5) else c) else -2
theorem evX {I : jdI} {w : Tw} (h : RX I 1 w) : ((1 : Int32) <<< ((I 1 3) &&& 31)) - 1 = evW w := by
  unfold evW
  rw [← h.1, ofI]
theorem evM {I : jdI} {t : Nat} {w : Tw} (h : RM I t w) : ((1 : Int32) <<< ((I t 10) &&& 31)) - 1 = evW w := by
  unfold evW
  rw [← h.1, ofI]
theorem pX11_behind_48 {G : jdG} {n rc rs : Nat} {Z : jdL} {J : jdJ} {K : Int32 → jdI → jdJ → Prop} {I0 : jdI} {x1 x2 x3 x4 : Int32} {w0 R : Tw} {Y : Int32} (hX : zX Z) (hx1 : 0 ≤ x1.toInt ∧ x1.toInt < 8) (hx2 : x2.toInt ≤ 7) (hw0 : RX I0 1 w0) (hb : (0 ≤ R.1 ∧ R.1 ≤ 7) ∧ 2 ≤ R.2.2.2.1 ∧ R.2.2.2.1 ≤ 4) (hK : ∀ (v : Int32) (I2 : jdI), WX I2 → Fr (fun a k => 13 ≤ a ∧ a ≤ 24) I0 I2 → v = (if x3 = 0 then Y else cnt (evW w0) (LW R) 0) → K v I2 J) : ∀ f : Nat, ∀ (I : jdI) (x5 x6 : Int32) (w : Tw), WX I → Fr (fun a k => 13 ≤ a ∧ a ≤ 24) I0 I → TL I w → OKT w → 0 ≤ x6.toInt → x6.toInt + (f : Int) = x2.toInt → acqL w (rowL (J (29 + 2 * (Int32.toNatClampNeg x1) + 1)) f x6.toInt.toNat) = R → dlL x5 (rowL (J (29 + 2 * (Int32.toNatClampNeg x1) + 1)) f x6.toInt.toNat) = Y → Jd G mX11_behind (jdFm G (qi Z K)) (n + 8) rc rs 48 [(0, .ref (gb G + 0)), (1, .int x1), (2, .int x2), (3, .int x3), (4, .int x4), (5, .int x5), (6, .int x6)] [] Z I J := by
  intro f
  induction f with
  | zero =>
    intro I x5 x6 w hW hF hT hk h6 hf hr hy
    have hr : w = R := hr
    have hy : x5 = Y := hy
    subst hr
    subst hy
    refine rX11_behind_48 hX ⟨fun _ => ⟨fun c => ?_, fun c => hK x5 I hW hF (by rw [if_pos c])⟩, fun h => absurd (Int32.le_iff_toInt_le.mpr (by omega)) h⟩
    refine eX9_everybody (zX_o0 hX) ?_
    rw [evX (RX_fr hw0 hF (by intro a k h1 h2; omega))]
    exact pX8_countIn (L := LW w) (zX_o3 hX) hT.2.2.1 (LW_70 hb) hT.2.2.2 (hK _ I hW hF (by rw [if_neg c]))
  | succ f ih =>
    intro I x5 x6 w hW hF hT hk h6 hf hr hy
    have q1 : (1 : Int32).toInt = 1 := rfl
    have e6 := i32_add x6 1 (by omega) (by omega)
    have n6 := tn_eq x6
    have n1 := tn_eq x1
    have hr : acqL (acqT w (Int64.toInt32 (J (29 + 2 * (Int32.toNatClampNeg x1) + 1) x6.toInt.toNat))) (rowL (J (29 + 2 * (Int32.toNatClampNeg x1) + 1)) f (x6.toInt.toNat + 1)) = R := hr
    have hy : dlL (dl x5 (Int64.toInt32 (J (29 + 2 * (Int32.toNatClampNeg x1) + 1) x6.toInt.toNat))) (rowL (J (29 + 2 * (Int32.toNatClampNeg x1) + 1)) f (x6.toInt.toNat + 1)) = Y := hy
    rw [show x6.toInt.toNat + 1 = (x6 + 1).toInt.toNat by omega] at hr hy
    have hb2 : (0 ≤ w.1 ∧ w.1 ≤ 7) ∧ 2 ≤ w.2.2.2.1 ∧ w.2.2.2.1 ≤ 4 := by
      have e := acqL_1 (rowL (J (29 + 2 * (Int32.toNatClampNeg x1) + 1)) f (x6 + 1).toInt.toNat) (acqT w (Int64.toInt32 (J (29 + 2 * (Int32.toNatClampNeg x1) + 1) x6.toInt.toNat)))
      rw [hr] at e
      have e1 : R.1 = w.1 := e.1
      have e2 : R.2.2.2.1 = w.2.2.2.1 := e.2.2.2
      omega
    refine rX11_behind_48 hX ⟨fun h => by have := Int32.le_iff_toInt_le.mp h; omega, fun _ => ⟨vp_of (by omega) (by omega), vp_of (by omega) (by omega), ?_⟩⟩
    refine pX8_acquaint (zX_o3 hX) hW (OKT_sy hk) hb2 hT (fun I3 hW3 hF3 hT3 _ => ?_)
    rw [xo_m1]
    exact ih I3 _ (x6 + 1) _ hW3 (Fr.tr hF hF3 (by intro a k h; omega)) hT3 (OKT_acq hk) (by omega) (by omega) hr hy
theorem pX11_behind {G : jdG} {n : Nat} {Z : jdL} {J : jdJ} {K : Int32 → jdI → jdJ → Prop} {I : jdI} {s : Sd} {x1 x2 x3 : Int32} (hX : zX Z) (hM : zMen Z) (hW : WX I) (hs : TX I 1 s) (hk : OKT s.1) (hK : ∀ (v : Int32) (I2 : jdI), WX I2 → Fr (fun a k => (13 ≤ a ∧ a ≤ 24) ∨ a = 28) I I2 → v.toInt = oBeh s.1 (tX Z I x1 x2) (J (29 + 2 * (Int32.toNatClampNeg x1) + 1)) x2.toInt.toNat x3.toInt → K v I2 J) : Cl G mX11_behind (n + 10) 0 0 [.ref (gb G + 0), .int x1, .int x2, .int x3] Z I J (qi Z K) := by
  have hb := RX_b hW hs.1
  have q1 : (1 : Int32).toInt = 1 := rfl
  have main : (x3.toInt = 0 ∨ x3.toInt = 1) → Cl G mX11_whyNotRidden (n + 9) 0 0 [.ref (gb G + 0), .int x1, .int x2] Z I J (qi Z (fun v2 I1 J1 => ((v2 = 0 → Cl G mX9_everybody (n + 9) 0 0 [.ref (gb G + 1)] Z I1 J1 (qi Z (fun v4 I3 J3 => Jd G mX11_behind (jdFm G (qi Z K)) (n + 9 + 1) 0 0 48 [(0, .ref (gb G + 0)), (1, .int x1), (2, .int x2), (3, .int x3), (4, .int v2), (5, .int v4), (6, .int 0)] [] Z I3 J3))) ∧ (¬ v2 = 0 → Cl G mX11_refuse (n + 9) 0 0 [.ref (gb G + 0), .int v2] Z I1 J1 (qi Z (fun v6 I5 J5 => K v6 I5 J5)))))) := fun ok => by
    refine pX11_whyNotRidden hX hM hW hs hk (fun v2 I1 hW1 hF1 hv hT1 => ⟨fun c2 => ?_, fun c2 => ?_⟩)
    · have c2 := i0 c2
      have hT1 := hT1 c2
      have hc : tX Z I x1 x2 = 0 := by
        by_cases c : tX Z I x1 x2 = 0
        · exact c
        · rw [if_neg c] at hv
          omega
      have hd : wrg (LW s.1) s.1.1.toNat (J (29 + 2 * (Int32.toNatClampNeg x1) + 1)) x2.toInt.toNat 0 0 = -1 := by
        by_cases d : wrg (LW s.1) s.1.1.toNat (J (29 + 2 * (Int32.toNatClampNeg x1) + 1)) x2.toInt.toNat 0 0 = -1
        · exact d
        · rw [if_pos hc, if_neg d] at hv
          omega
      have hr := tX_0 hc
      have ea := acqL_1 (rowL (J (29 + 2 * (Int32.toNatClampNeg x1) + 1)) x2.toInt.toNat 0) s.1
      refine eX9_everybody (zX_o0 hX) ?_
      rw [evX (RX_fr hs.1 hF1 (by intro a k h1 h2; omega))]
      refine pX11_behind_48 (w0 := s.1) (R := acqL s.1 (rowL (J (29 + 2 * (Int32.toNatClampNeg x1) + 1)) x2.toInt.toNat 0)) (Y := dlL (evW s.1) (rowL (J (29 + 2 * (Int32.toNatClampNeg x1) + 1)) x2.toInt.toNat 0)) hX hr.1 hr.2.2 (RX_fr hs.1 hF1 (by intro a k h1 h2; omega)) (by omega) (fun v I2 hW2 hF2 hv2 => hK v I2 hW2 (Fr.tr (Fr.tr Fr.rf hF1 (by intro a k h; omega)) hF2 (by intro a k h; omega)) ?_) x2.toInt.toNat I1 (evW s.1) 0 s.1 hW1 Fr.rf hT1 hk (by decide) (by show (0 : Int) + _ = _; omega) rfl rfl
      unfold oBeh
      rw [if_pos ok, if_pos hc, if_pos hd, hv2]
      by_cases c : x3 = 0
      · rw [if_pos c, if_pos (by rw [c]; rfl)]
      · rw [if_neg c, if_neg (i1 c)]
    · have c2 := i1 c2
      refine sfX11_refuse hX hW1 (fun v I3 hW3 hF3 hp3 => hK v I3 hW3 (Fr.tr (Fr.tr Fr.rf hF1 (by intro a k h; omega)) hF3 (by intro a k h; omega)) ?_)
      unfold oBeh
      rw [if_pos ok, hp3]
      by_cases c : tX Z I x1 x2 = 0
      · by_cases d : wrg (LW s.1) s.1.1.toNat (J (29 + 2 * (Int32.toNatClampNeg x1) + 1)) x2.toInt.toNat 0 0 = -1
        · rw [if_pos c, if_pos d] at hv
          omega
        · rw [if_pos c, if_neg d] at hv
          rw [if_pos c, if_neg d]
          exact hv
      · rw [if_neg c] at hv
        rw [if_neg c]
        exact hv
  refine eX11_behind hX ⟨fun h3 => main (Or.inl (by rw [h3]; rfl)), fun h3 => ⟨fun h4 => main (Or.inr (by rw [h4]; rfl)), fun h4 => ?_⟩⟩
  have h3 := i1 h3
  have h4 : ¬ x3.toInt = 1 := fun z => h4 (Int32.toInt_inj.mp (z.trans q1.symm))
  exact rfX hX hW (if_neg (by omega)) (by intro a k h; omega) hK
theorem pqX12_behind_80 {G : jdG} {n rc rs : Nat} {Z0 Z : jdL} {I0 : jdI} {J0 J : jdJ} {Q : jdQ} {t u5 : Nat} {x1 x2 x3 x4 : Int32} {w0 R : Tw} (hx1 : 0 ≤ x1.toInt ∧ x1.toInt < 8) (hx2 : x2.toInt ≤ 7) (hu : Z.2.1 t 21 = some u5) (hw0 : RM I0 t w0) (hw8 : w0.1 ≤ 8) (hb : (0 ≤ R.1 ∧ R.1 ≤ 7) ∧ 2 ≤ R.2.2.2.1 ∧ R.2.2.2.1 ≤ 4) (hQ : ∀ (v : Int32) (Z2 : jdL) (I2 : jdI) (J2 : jdJ), ST t 21 20 Z0 I0 J0 Z2 I2 J2 → v = cnt (evW w0) (LW R) 0 → Q (some (.int v)) Z2 I2 J2) : ∀ f : Nat, ∀ (I : jdI) (x6 : Int32) (w : Tw), ST t 21 20 Z0 I0 J0 Z I J → WM 7 u5 I → RM I u5 w → 0 ≤ x6.toInt → x6.toInt + (f : Int) = x2.toInt → acqL w (rowL (J (t + 5 + (Int32.toNatClampNeg x1))) f x6.toInt.toNat) = R → Jd G mX12_behind (jdFm G Q) (n + 12) rc rs 80 [(0, .ref (gb G + t)), (1, .int x1), (2, .int x2), (3, .int x3), (4, .int x4), (5, .ref (gb G + u5)), (6, .int x6)] [] Z I J := by
  intro f
  induction f with
  | zero =>
    intro I x6 w hS hU hw h6 hf hr
    obtain ⟨c0, c1, c2, c3⟩ := hS.1.2.2.2.2.2.1 u5 hu
    have hr : w = R := hr
    subst hr
    have hF := hS.2.2.2.2.1
    refine rX12_behind_80 hS.1.1 c0 ⟨fun _ => eX12_all hS.1.1 ?_, fun h => absurd (Int32.le_iff_toInt_le.mpr (by omega)) h⟩
    have hwt : RM I t w0 := RM_fr hw0 hw8 hF (by omega) (by omega) (by omega) (by intro a k h1 h2 h3 h4; omega)
    rw [evM hwt]
    refine pX12_groupsOf c0 hU (GM_RM hw (by omega) (by omega)) (by omega) (by omega) (fun I3 hW3 hF3 => ?_)
    exact hQ _ _ _ _ (ST_u hS hu (WM_mono hW3 (by decide)) hF3 (by intro a k h; omega)) rfl
  | succ f ih =>
    intro I x6 w hS hU hw h6 hf hr
    obtain ⟨c0, c1, c2, c3⟩ := hS.1.2.2.2.2.2.1 u5 hu
    have q1 : (1 : Int32).toInt = 1 := rfl
    have e1 := i32_add x6 1 (by omega) (by omega)
    have n6 := tn_eq x6
    have n1 := tn_eq x1
    have hr : acqL (acqT w (Int64.toInt32 (J (t + 5 + (Int32.toNatClampNeg x1)) x6.toInt.toNat))) (rowL (J (t + 5 + (Int32.toNatClampNeg x1))) f (x6.toInt.toNat + 1)) = R := hr
    rw [show x6.toInt.toNat + 1 = (x6 + 1).toInt.toNat by omega] at hr
    refine rX12_behind_80 hS.1.1 c0 ⟨fun h => by have := Int32.le_iff_toInt_le.mp h; omega, fun _ => ⟨vp_of (by omega) (by omega), vp_of (by omega) (by omega), ?_⟩⟩
    exact pX12_meets c0 hU hw (fun v8 I7 hW7 hF7 hR7 _ => ih I7 (x6 + 1) _ (ST_u hS hu (WM_mono hW7 (by decide)) hF7 (by intro a k h; omega)) hW7 hR7 (by omega) (by omega) hr)
theorem pqX12_behind {G : jdG} {n : Nat} {Z : jdL} {I : jdI} {J : jdJ} {Q : jdQ} {t : Nat} {s : Sd} {x1 x2 x3 : Int32} {sA sV : Nat → Nat} (hG : gOK G sA sV) (hM : MI Z I t) (hs : TM I t s) (hQ : ∀ (v : Int32) (Z2 : jdL) (I2 : jdI) (J2 : jdJ), ST t 21 20 Z I J Z2 I2 J2 → v.toInt = oBeh s.1 (tM I t x1 x2) (J (t + 5 + (Int32.toNatClampNeg x1))) x2.toInt.toNat x3.toInt → Q (some (.int v)) Z2 I2 J2) : Cl G mX12_behind (n + 12) (fC Z t) (fS Z t) [.ref (gb G + t), .int x1, .int x2, .int x3] Z I J Q := by
  have hb := RM_b hM.2.1 hs.1
  have n1 := tn_eq x1
  have hMs := hM.2.2.1
  have e3 : (Int32.toInt64 x3).toInt = x3.toInt := Int32.toInt_toInt64 _
  have z0 : (0 : Int64).toInt = 0 := rfl
  have z1 : (1 : Int64).toInt = 1 := rfl
  have qm : (-1 : Int32).toInt = -1 := rfl
  refine eX12_behind hM.1 ?_
  refine sfX12_in trivial (fun v2 p2 => ⟨fun c2 => ?_, fun c2 => ?_⟩)
  · have c2 := i1 c2
    have ok : x3.toInt = 0 ∨ x3.toInt = 1 := by omega
    refine pX12_noDay hM.1 hM.2.1 (fun v4 I3 hW3 hF3 hv4 => ?_)
    have hS3 := ST_t (ST.rf (x := 21) (y := 20) (J := J) hM) hW3 hF3 (by intro a k h; omega)
    refine ⟨fun hc4 => ?_, fun hc4 => hQ _ _ _ _ hS3 ?_⟩
    · have hc4 := i0 hc4
      have hc : tM I t x1 x2 = 0 := by omega
      have hr := tM_0 hc
      have hw3 := RM_fr hs.1 (by omega) hF3 (by omega) (by omega) (by omega) (by intro a k h1 h2 h3; omega)
      refine ⟨vp_of (by omega) (by omega), ?_⟩
      refine pX12_wrongCoach hM.1 (zModel_rowsA hM.1 (i := Int32.toNatClampNeg x1) (by omega)) hW3 hw3 hr.2.1 (by omega) (by decide) (fun v7 I6 hW6 hF6 hv7 hro => ?_)
      have hS6 := ST_t hS3 hW6 hF6 (by intro a k h; omega)
      have hw6 := RM_fr hw3 (by omega) hF6 (by omega) (by omega) (by omega) (by intro a k h1 h2 h3; omega)
      refine ⟨fun h7 => ⟨fun h3 => ?_, fun h3 => ?_⟩, fun h7 => ?_⟩
      · have h7 : v7.toInt = -1 := by rw [h7]; rfl
        have h3 := i1 h3
        refine ⟨fC Z t, fS Z t, 0, 0, Nat.le_refl _, Nat.le_refl _, ?_⟩
        refine qX12_fresh hG hS6.1 (fun u Z8 I8 J8 hS hu c0 c2 c3 hU hF8 hC8 => ⟨u, rfl, hS.1.1, c0, ?_⟩)
        have eJ : J8 (t + 5 + (Int32.toNatClampNeg x1)) = J (t + 5 + (Int32.toNatClampNeg x1)) := hS.2.2.2.2.2.1 _ (by omega)
        have ea := acqL_1 (rowL (J (t + 5 + (Int32.toNatClampNeg x1))) x2.toInt.toNat 0) s.1
        refine pqX12_behind_80 (w0 := s.1) (R := acqL s.1 (rowL (J (t + 5 + (Int32.toNatClampNeg x1))) x2.toInt.toNat 0)) hr.1 hr.2.2 hu hs.1 (by omega) (by omega) (fun v Z2 I2 J2 hS2 hv => hQ v Z2 I2 J2 hS2 ?_) x2.toInt.toNat I8 0 s.1 (ST.tr hS6 hS) hU (RM_cm hw6 (by omega) hC8) (by decide) (by show (0 : Int) + _ = _; omega) (by rw [eJ]; rfl)
        unfold oBeh
        rw [if_pos ok, if_pos hc, if_pos (by omega), if_neg h3, hv]
      · have h7 : v7.toInt = -1 := by rw [h7]; rfl
        have h3 : x3.toInt = 0 := by rw [h3]; rfl
        refine eX12_all hS6.1.1 (hQ _ _ _ _ hS6 ?_)
        rw [evM hw6, hro h7, xo_m1]
        unfold oBeh
        rw [if_pos ok, if_pos hc, if_pos (by omega), if_pos h3]
        have e := dlL_ro (J (t + 5 + (Int32.toNatClampNeg x1))) x2.toInt.toNat 0 (evW s.1) 0
        rw [dl_0] at e
        rw [e]
        rfl
      · have h7 : ¬ v7.toInt = -1 := fun z => h7 (Int32.toInt_inj.mp (z.trans qm.symm))
        refine sfX12_refuse hS6.1.1 (by decide) hS6.1.2.1 (by decide) (fun v5 I4 hW4 hF4 hp4 => hQ _ _ _ _ (ST_t hS6 hW4 hF4 (by intro a k h; omega)) ?_)
        unfold oBeh
        rw [if_pos ok, if_pos hc, if_neg (by omega)]
        exact hp4
    · have hc4 := i1 hc4
      unfold oBeh
      rw [if_pos ok, if_neg (by omega)]
      exact hv4
  · have c2 := i0 c2
    refine sfX12_refuse hM.1 (by decide) hM.2.1 (by decide) (fun v5 I4 hW4 hF4 hp4 => hQ _ _ _ _ (ST_t (ST.rf hM) hW4 hF4 (by intro a k h; omega)) ?_)
    unfold oBeh
    rw [if_neg (by omega)]
    exact hp4
theorem oBeh_c {w : Tw} {c : Int} {r r2 : Nat → Int64} {m : Nat} {x : Int} (h : c = 0 → ∀ j, j < m → r j = r2 j) : oBeh w c r m x = oBeh w c r2 m x := by
  unfold oBeh
  by_cases d : c = 0
  · rw [wrg_c m 0 0 (fun j _ hj => h d j (by omega)), rowL_c m 0 (fun j _ hj => h d j (by omega))]
  · rw [if_neg d, if_neg d]
