/-! the coachman on a shelf; a day in thought and in truth -/
def dyS (w : Tw) (kd : Int) (a : Int32) : List (Int32 × Int32) × Int32 := dy (rule w.1.toNat (relW w) w.2.2.1 (DL (relW w) w.1.toNat 0 w.2.2.2.1.toNat 0) kd a) w.2.1 (coA w.2.1 w.1.toNat 24 0) (w.1.toNat : Int) [] 0
theorem PT_TL {I : jdI} {w : Tw} (h : TL I w) (hc : (I 13 10).toInt = 0) : PT w.1.toNat w.2.2.2.1.toNat (relW w) w.2.2.1 (DL (relW w) w.1.toNat 0 w.2.2.2.1.toNat 0) I := ⟨⟨h.1.1, h.2.2.1, h.2.2.2, fun z => absurd hc z⟩, h.1, fun p hp => h.2.1 p (by omega)⟩
theorem GM_RM {I : jdI} {t : Nat} {w : Tw} (h : RM I t w) (h0 : 0 ≤ w.1) (h1 : 0 ≤ w.2.2.2.1) : GM I t w.1.toNat w.2.2.2.1.toNat (relW w) := ⟨by rw [h.1]; omega, by rw [h.2.2.1]; omega, fun p q hp hq hne => by rw [h.2.2.2.2 p q (by omega) (by omega) hne]; exact decide_eq_true_iff.symm⟩
theorem pX11_think {G : jdG} {n : Nat} {Z : jdL} {J : jdJ} {K : jdI → jdJ → Prop} {I : jdI} {u1 ci : Nat} {w : Tw} (hX : zX Z) (hz : Z.1 u1 = some (ci + 10, 0)) (hci : ci = 0 ∨ ci = 1 ∨ ci = 3 ∨ ci = 6 ∨ ci = 9) (hu : 44 < u1) (hW : WX I) (hw : RX I 1 w) (hk : OKT w) (hK : ∀ I2, WX I2 → Fr (fun a k => 13 ≤ a ∧ a ≤ 24) I I2 → DX I2 (dyS w (ckI (Z.1 u1)) (I u1 0)).1 (dyS w (ckI (Z.1 u1)) (I u1 0)).2 → K I2 J) : Cl G mX11_think (n + 8) 0 0 [.ref (gb G + 0), .ref (gb G + u1)] Z I J (qv Z K) := by
  have hp := WX_f hW
  have h1 : (I 1 3).toInt = w.1 := hw.1
  have h4 : (I 1 4).toInt = w.2.2.2.1 := hw.2.2.1
  refine eX11_think hX ?_
  refine pX8_load (zX_o3 hX) (zX_o0 hX) (Or.inl rfl) hW hw (OKT_sy hk) (fun I1 hW1 hF1 hT1 hc1 => ?_)
  have e : I1 u1 0 = I u1 0 := hF1 u1 0 (by omega)
  refine pX3_pass (N := w.1.toNat) (hr := w.2.1) (zX_o4 hX) (zX_o0 hX) (Or.inl rfl) (zX_o3 hX) hz hci hu (GG_DL (relW w) (by omega) (by omega)) (by omega) (DL_70 (relW w) (by omega) (by omega)) (by rw [hF1 1 3 (by omega)]; omega) (fun p hp => by rw [hF1 (1 + 1) p (by omega)]; exact (hw.2.1 p (by omega)).1) (fun p hp => (hk.1 p (by omega)).1) hW1 (PT_TL hT1 hc1) (fun I2 hW2 hP2 hF2 hD2 => ?_)
  rw [e] at hD2
  exact hK I2 hW2 (Fr.tr (Fr.tr Fr.rf hF1 (by intro a k h; omega)) hF2 (by intro a k h; omega)) hD2
theorem pX12_goesT {G : jdG} {n : Nat} {Z : jdL} {J : jdJ} {K : jdI → jdJ → Prop} {I : jdI} {t : Nat} {w : Tw} {x1 x2 : Int32} (ht : zModel Z t) (hW : WM 7 t I) (hw : RM I t w) (hk : OKT w) (hK : ∀ I2, WM 7 t I2 → Fr (fun a k => (a = t ∧ (k = 30 ∨ k = 33 ∨ k = 34)) ∨ (t + 30 ≤ a ∧ a ≤ t + 33)) I I2 → DMd I2 t (dyS w x1.toInt x2).1 → I2 t 34 = (dyS w x1.toInt x2).2 → (∀ p, p < w.1.toNat → I2 (t + 33) p = if bt (dyS w x1.toInt x2).2 p = true then w.2.2.1 p * (24 - w.2.1 p) else wtv w.2.2.1 w.2.1 p (dyS w x1.toInt x2).1 (I (t + 33) p)) → K I2 J) : Cl G mX12_goesBy (n + 259) 0 0 [.ref (gb G + t), .int x1, .int x2] Z I J (qv Z K) := by
  have hp := WM_f hW
  have h1 : (I t 10).toInt = w.1 := hw.1
  have h4 : (I t 14).toInt = w.2.2.2.1 := hw.2.2.1
  exact pX12_goesBy (N := w.1.toNat) (st := w.2.2.2.1.toNat) (rel := relW w) (c := w.2.2.1) (hr := w.2.1) ht hW (by omega) ⟨by omega, by omega⟩ (GM_RM hw (by omega) (by omega)) (fun p hp => (hw.2.1 p (by omega)).2) (fun p hp => (hw.2.1 p (by omega)).1) (fun p hp => (hk.1 p (by omega)).1) hK
/-- what a shelf holds where a coachman is wanted: 0, or the refusal -/
def cX (Z : jdL) (I : jdI) (x : Int32) : Int := if 0 ≤ x.toInt ∧ x.toInt < 8 then (if Z.2.1 (29 + 2 * (Int32.toNatClampNeg x)) 3 = none then (if (I (29 + 2 * (Int32.toNatClampNeg x)) 1).toInt = -1 then -4 else -3) else 0) else -2
def cM (I : jdI) (t : Nat) (x : Int32) : Int := if 0 ≤ x.toInt ∧ x.toInt < 8 then (if (I (t + 1) (Int32.toNatClampNeg x)).toInt = 1 then -3 else if (I (t + 1) (Int32.toNatClampNeg x)).toInt = 0 then -4 else 0) else -2
def aX (Z : jdL) (I : jdI) (x : Int32) : Int32 := match Z.2.1 (29 + 2 * (Int32.toNatClampNeg x)) 3 with
  | none => 0
  | some w => I w 0
theorem aX_some {Z : jdL} {I : jdI} {x : Int32} {w : Nat} (h : Z.2.1 (29 + 2 * (Int32.toNatClampNeg x)) 3 = some w) : aX Z I x = I w 0 := by
  unfold aX
  rw [h]
/-- coachmen's cells lie behind the two objects -/
def zHi (Z : jdL) : Prop := ∀ i, i < 8 → ∀ w, Z.2.1 (29 + 2 * i) 3 = some w → 82 < w
theorem pX_man {G : jdG} {n : Nat} {Z : jdL} {J : jdJ} {K : Int32 → jdI → jdJ → Prop} {T : Nat → jdI → jdJ → Prop} {I : jdI} {x1 : Int32} (hX : zX Z) (hW : WX I) (h0 : ∀ (v : Int32) (I2 : jdI), ¬ cX Z I x1 = 0 → WX I2 → Fr (fun a k => a = 28) I I2 → v.toInt = cX Z I x1 → K v I2 J) (h1 : ∀ w, (0 ≤ x1.toInt ∧ x1.toInt < 8) → cX Z I x1 = 0 → Z.2.1 (29 + 2 * (Int32.toNatClampNeg x1)) 3 = some w → T w I J) : Cl G mX11_manIn (n + 1) 0 0 [.ref (gb G + 0), .int x1] Z I J (qm G Z (fun o I1 J1 => (o = none → Cl G mX11_whyNoMan (n + 1) 0 0 [.ref (gb G + 0), .int x1] Z I1 J1 (qi Z (fun v4 I3 J3 => Cl G mX11_refuse (n + 1) 0 0 [.ref (gb G + 0), .int v4] Z I3 J3 (qi Z (fun v6 I5 J5 => K v6 I5 J5))))) ∧ (∀ w2, o = some w2 → T w2 I1 J1))) := by
  have n1 := tn_eq x1
  have why : (¬ (0 ≤ x1.toInt ∧ x1.toInt < 8) ∨ Z.2.1 (29 + 2 * (Int32.toNatClampNeg x1)) 3 = none) → Cl G mX11_whyNoMan (n + 1) 0 0 [.ref (gb G + 0), .int x1] Z I J (qi Z (fun v4 I3 J3 => Cl G mX11_refuse (n + 1) 0 0 [.ref (gb G + 0), .int v4] Z I3 J3 (qi Z (fun v6 I5 J5 => K v6 I5 J5)))) := fun hh => by
    refine eX11_whyNoMan hX ?_
    refine sfX11_isShelf hW (fun v2 p2 => ⟨fun c2 => ?_, fun c2 => ?_⟩)
    · have c2 := i1 c2
      have hn : Z.2.1 (29 + 2 * (Int32.toNatClampNeg x1)) 3 = none := hh.elim (fun z => absurd (by omega) z) id
      refine ⟨vp_of (by omega) (by omega), ?_⟩
      refine sfX6_isRow (zX_shelf hX (i := Int32.toNatClampNeg x1) (by omega)) (by omega) hW (fun v5 p5 => ⟨fun c5 => ?_, fun c5 => ?_⟩)
      · have c5 := i0 c5
        have e : cX Z I x1 = -4 := by
          unfold cX
          rw [if_pos (by omega), if_pos hn, if_pos (by omega)]
        exact sfX11_refuse hX hW (fun v I3 hW3 hF3 hp3 => h0 v I3 (by omega) hW3 hF3 (by rw [hp3, e]; rfl))
      · have c5 := i1 c5
        have e : cX Z I x1 = -3 := by
          unfold cX
          rw [if_pos (by omega), if_pos hn, if_neg (by omega)]
        exact sfX11_refuse hX hW (fun v I3 hW3 hF3 hp3 => h0 v I3 (by omega) hW3 hF3 (by rw [hp3, e]; rfl))
    · have c2 := i0 c2
      have e : cX Z I x1 = -2 := if_neg (by omega)
      exact sfX11_refuse hX hW (fun v I3 hW3 hF3 hp3 => h0 v I3 (by omega) hW3 hF3 (by rw [hp3, e]; rfl))
  refine eX11_manIn hX ?_
  refine sfX11_isShelf hW (fun v2 p2 => ⟨fun c2 => ?_, fun c2 => ?_⟩)
  · have c2 := i0 c2
    exact ⟨none, rfl, rfl, fun _ => why (Or.inl (by omega)), fun w e => (by cases e)⟩
  · have c2 := i1 c2
    refine ⟨vp_of (by omega) (by omega), fun hn => ⟨none, rfl, rfl, fun _ => why (Or.inr hn), fun w e => (by cases e)⟩, fun w5 hw5 => ⟨some w5, rfl, rfl, fun e => (by cases e), fun w e => ?_⟩⟩
    cases e
    refine h1 w5 (by omega) ?_ hw5
    unfold cX
    rw [if_pos (by omega), if_neg (by rw [hw5]; exact fun e => (by cases e))]
theorem pX12_noMan {G : jdG} {n : Nat} {Z : jdL} {J : jdJ} {K : Int32 → jdI → jdJ → Prop} {I : jdI} {t : Nat} {x1 : Int32} (ht : zModel Z t) (hW : WM 7 t I) (hK : ∀ (v : Int32) (I2 : jdI), WM 7 t I2 → Fr (fun a k => a = t + 17) I I2 → v.toInt = cM I t x1 → (cM I t x1 = 0 → 0 ≤ x1.toInt ∧ x1.toInt < 8) → K v I2 J) : Cl G mX12_noMan (n + 1) 0 0 [.ref (gb G + t), .int x1] Z I J (qi Z K) := by
  have n1 := tn_eq x1
  have e1 : (Int32.toInt64 x1).toInt = x1.toInt := Int32.toInt_toInt64 _
  have z0 : (0 : Int64).toInt = 0 := rfl
  have z7 : (7 : Int64).toInt = 7 := rfl
  have q1 : (1 : Int32).toInt = 1 := rfl
  have q0 : (0 : Int32).toInt = 0 := rfl
  refine eX12_noMan ht ?_
  refine sfX12_in trivial (fun v2 p2 => ⟨fun c2 => ?_, fun c2 => ?_⟩)
  · have c2 := i1 c2
    refine ⟨vp_of (by omega) (by omega), fun h1 => ⟨vp_of (by omega) (by omega), fun h0 => ?_, fun h0 => ?_⟩, fun h1 => ?_⟩
    · have h0 := i1 h0
      have h1 : ¬ (I (t + 1) (Int32.toNatClampNeg x1)).toInt = 1 := fun z => h1 (Int32.toInt_inj.mp (z.trans q1.symm))
      have e : cM I t x1 = 0 := by
        unfold cM
        rw [if_pos (by omega), if_neg h1, if_neg h0]
      exact hK 0 I hW Fr.rf (by rw [e]; rfl) (fun _ => by omega)
    · have h0 := i0 h0
      have e : cM I t x1 = -4 := by
        unfold cM
        rw [if_pos (by omega), if_neg (by omega), if_pos h0]
      exact sfX12_refuse ht (by decide) hW (by decide) (fun v I3 hW3 hF3 hp3 => hK v I3 hW3 hF3 (by rw [e]; exact hp3) (fun z => by omega))
    · have h1 : (I (t + 1) (Int32.toNatClampNeg x1)).toInt = 1 := by rw [h1]; rfl
      have e : cM I t x1 = -3 := by
        unfold cM
        rw [if_pos (by omega), if_pos h1]
      exact sfX12_refuse ht (by decide) hW (by decide) (fun v I3 hW3 hF3 hp3 => hK v I3 hW3 hF3 (by rw [e]; exact hp3) (fun z => by omega))
  · have c2 := i0 c2
    have e : cM I t x1 = -2 := if_neg (by omega)
    exact sfX12_refuse ht (by decide) hW (by decide) (fun v I3 hW3 hF3 hp3 => hK v I3 hW3 hF3 (by rw [e]; exact hp3) (fun z => by omega))
/-- an answer behind a shelf: its refusal, or what the coachman of that kind and number makes -/
def anM (c : Int) (f : Int) : Int := if c = 0 then f else c
def oRun (w : Tw) (kd : Int) (a : Int32) : Int := ((dyS w kd a).1.length : Int)
def oLeft (w : Tw) (kd : Int) (a : Int32) : Int := (dyS w kd a).2.toInt
theorem pX11_run {G : jdG} {n : Nat} {Z : jdL} {J : jdJ} {K : Int32 → jdI → jdJ → Prop} {I : jdI} {s : Sd} {x1 : Int32} (hX : zX Z) (hM : zMen Z) (hA : zHi Z) (hW : WX I) (hs : TX I 1 s) (hk : OKT s.1) (hK : ∀ (v : Int32) (I2 : jdI), WX I2 → Fr (fun a k => (13 ≤ a ∧ a ≤ 24) ∨ a = 28) I I2 → v.toInt = anM (cX Z I x1) (oRun s.1 (mk Z (Int32.toNatClampNeg x1)) (aX Z I x1)) → K v I2 J) : Cl G mX11_run (n + 9) 0 0 [.ref (gb G + 0), .int x1] Z I J (qi Z K) := by
  have n1 := tn_eq x1
  refine eX11_run hX (pX_man hX hW (fun v I2 hc hW2 hF2 hv => hK v I2 hW2 (Fr.tr Fr.rf hF2 (by intro a k h; omega)) (by rw [hv]; exact (if_neg hc).symm)) (fun w hx hc hw => ?_))
  obtain ⟨ci, hci, hz⟩ := hM _ (by omega) w hw
  have hu := hA _ (by omega) w hw
  refine pX11_think hX hz hci (by omega) hW hs.1 hk (fun I2 hW2 hF2 hD2 => ?_)
  refine hK _ I2 hW2 (Fr.tr Fr.rf hF2 (by intro a k h; omega)) ?_
  unfold anM
  rw [if_pos hc, mk_some hw, aX_some hw]
  exact hD2.1
theorem pX11_left {G : jdG} {n : Nat} {Z : jdL} {J : jdJ} {K : Int32 → jdI → jdJ → Prop} {I : jdI} {s : Sd} {x1 : Int32} (hX : zX Z) (hM : zMen Z) (hA : zHi Z) (hW : WX I) (hs : TX I 1 s) (hk : OKT s.1) (hK : ∀ (v : Int32) (I2 : jdI), WX I2 → Fr (fun a k => (13 ≤ a ∧ a ≤ 24) ∨ a = 28) I I2 → v.toInt = anM (cX Z I x1) (oLeft s.1 (mk Z (Int32.toNatClampNeg x1)) (aX Z I x1)) → K v I2 J) : Cl G mX11_left (n + 9) 0 0 [.ref (gb G + 0), .int x1] Z I J (qi Z K) := by
  have n1 := tn_eq x1
  refine eX11_left hX (pX_man hX hW (fun v I2 hc hW2 hF2 hv => hK v I2 hW2 (Fr.tr Fr.rf hF2 (by intro a k h; omega)) (by rw [hv]; exact (if_neg hc).symm)) (fun w hx hc hw => ?_))
  obtain ⟨ci, hci, hz⟩ := hM _ (by omega) w hw
  have hu := hA _ (by omega) w hw
  refine pX11_think hX hz hci (by omega) hW hs.1 hk (fun I2 hW2 hF2 hD2 => ?_)
  refine hK _ I2 hW2 (Fr.tr Fr.rf hF2 (by intro a k h; omega)) ?_
  unfold anM
  rw [if_pos hc, mk_some hw, aX_some hw]
  exact congrArg Int32.toInt hD2.2.2.2
theorem pX12_run {G : jdG} {n : Nat} {Z : jdL} {J : jdJ} {K : Int32 → jdI → jdJ → Prop} {I : jdI} {t : Nat} {s : Sd} {x1 : Int32} (ht : zModel Z t) (hW : WM 7 t I) (hs : TM I t s) (hk : OKT s.1) (hK : ∀ (v : Int32) (I2 : jdI), WM 7 t I2 → Fr (fun a k => (a = t ∧ (k = 30 ∨ k = 33 ∨ k = 34)) ∨ (t + 30 ≤ a ∧ a ≤ t + 33) ∨ a = t + 17) I I2 → v.toInt = anM (cM I t x1) (oRun s.1 (I (t + 14) (Int32.toNatClampNeg x1)).toInt (I (t + 15) (Int32.toNatClampNeg x1))) → K v I2 J) : Cl G mX12_run (n + 260) 0 0 [.ref (gb G + t), .int x1] Z I J (qi Z K) := by
  have n1 := tn_eq x1
  have hwm := WM_f hW
  have h1 := hs.1.1
  refine eX12_run ht (pX12_noMan ht hW (fun v2 I1 hW1 hF1 hv hr => ⟨fun c2 => ?_, fun c2 => ?_⟩))
  · have c2 := i0 c2
    have hr := hr (by omega)
    refine ⟨vp_of (by omega) (by omega), vp_of (by omega) (by omega), ?_⟩
    rw [hF1 (t + 14) _ (by omega), hF1 (t + 15) _ (by omega)]
    refine pX12_goesT ht hW1 (RM_fr hs.1 (by omega) hF1 (by omega) (by omega) (by omega) (by intro a k h1 h2 h3; omega)) hk (fun I2 hW2 hF2 hD2 _ _ => hK _ I2 hW2 (Fr.tr (Fr.tr Fr.rf hF1 (by intro a k h; omega)) hF2 (by intro a k h; omega)) ?_)
    unfold anM
    rw [if_pos (by omega)]
    exact hD2.1
  · have c2 := i1 c2
    refine hK v2 I1 hW1 (Fr.tr Fr.rf hF1 (by intro a k h; omega)) ?_
    unfold anM
    rw [if_neg (by omega)]
    exact hv
theorem pX12_left {G : jdG} {n : Nat} {Z : jdL} {J : jdJ} {K : Int32 → jdI → jdJ → Prop} {I : jdI} {t : Nat} {s : Sd} {x1 : Int32} (ht : zModel Z t) (hW : WM 7 t I) (hs : TM I t s) (hk : OKT s.1) (hK : ∀ (v : Int32) (I2 : jdI), WM 7 t I2 → Fr (fun a k => (a = t ∧ (k = 30 ∨ k = 33 ∨ k = 34)) ∨ (t + 30 ≤ a ∧ a ≤ t + 33) ∨ a = t + 17) I I2 → v.toInt = anM (cM I t x1) (oLeft s.1 (I (t + 14) (Int32.toNatClampNeg x1)).toInt (I (t + 15) (Int32.toNatClampNeg x1))) → K v I2 J) : Cl G mX12_left (n + 260) 0 0 [.ref (gb G + t), .int x1] Z I J (qi Z K) := by
  have n1 := tn_eq x1
  have hwm := WM_f hW
  have h1 := hs.1.1
  refine eX12_left ht (pX12_noMan ht hW (fun v2 I1 hW1 hF1 hv hr => ⟨fun c2 => ?_, fun c2 => ?_⟩))
  · have c2 := i0 c2
    have hr := hr (by omega)
    refine ⟨vp_of (by omega) (by omega), vp_of (by omega) (by omega), ?_⟩
    rw [hF1 (t + 14) _ (by omega), hF1 (t + 15) _ (by omega)]
    refine pX12_goesT ht hW1 (RM_fr hs.1 (by omega) hF1 (by omega) (by omega) (by omega) (by intro a k h1 h2 h3; omega)) hk (fun I2 hW2 hF2 _ h34 _ => hK _ I2 hW2 (Fr.tr (Fr.tr Fr.rf hF1 (by intro a k h; omega)) hF2 (by intro a k h; omega)) ?_)
    unfold anM
    rw [if_pos (by omega)]
    exact congrArg Int32.toInt h34
  · have c2 := i1 c2
    refine hK v2 I1 hW1 (Fr.tr Fr.rf hF1 (by intro a k h; omega)) ?_
    unfold anM
    rw [if_neg (by omega)]
    exact hv
/-! a day in truth -/
def acqL (w : Tw) : List Int32 → Tw
  | [] => w
  | g :: L => acqL (acqT w g) L
theorem acqL_ok : ∀ (L : List Int32) (w : Tw), OKT w → OKT (acqL w L)
  | [], _, h => h
  | g :: L, w, h => acqL_ok L (acqT w g) (OKT_acq h)
def oDay (s : Sd) (c kd : Int) (a : Int32) : Int × Sd := if c = 0 then (((dyS s.1 kd a).1.length : Int), (acqL s.1 ((dyS s.1 kd a).1.map Prod.fst), s.2)) else (c, s)
theorem oDay_ok {s : Sd} {c kd : Int} {a : Int32} (h : OKT s.1) : OKT (oDay s c kd a).2.1 := by
  unfold oDay
  by_cases e : c = 0
  · rw [if_pos e]
    exact acqL_ok _ _ h
  · rw [if_neg e]
    exact h
theorem DX_at {I : jdI} {S : List (Int32 × Int32)} {y x : Int32} (h : DX I S y) (h0 : 0 ≤ x.toInt) (h1 : x.toInt < (S.length : Int)) : (S.map Prod.fst).drop x.toInt.toNat = I (20 + 1) (Int32.toNatClampNeg x) :: (S.map Prod.fst).drop (x.toInt.toNat + 1) := LiS_drop h.2.1 (by rw [List.length_map]; omega)
theorem pX11_day_27 {G : jdG} {n rc rs : Nat} {Z : jdL} {J : jdJ} {K : Int32 → jdI → jdJ → Prop} {I0 : jdI} {u2 : Nat} {x1 : Int32} {S : List (Int32 × Int32)} {y : Int32} {R : Tw} (hX : zX Z) (hS : S.length ≤ 7) (hK : ∀ (v : Int32) (I2 : jdI), WX I2 → Fr (fun a k => (a = 1 ∧ (k = 7 ∨ k = 8)) ∨ a = 4) I0 I2 → RX I2 1 R → v.toInt = (S.length : Int) → K v I2 J) : ∀ f : Nat, ∀ (I : jdI) (x3 : Int32) (w : Tw), WX I → Fr (fun a k => a = 4) I0 I → DX I S y → RX I 1 w → 0 ≤ x3.toInt → x3.toInt + (f : Int) = (S.length : Int) → acqL w ((S.map Prod.fst).drop x3.toInt.toNat) = R → Jd G mX11_day (jdFm G (qi Z K)) (n + 2) rc rs 27 [(0, .ref (gb G + 0)), (1, .int x1), (2, .ref (gb G + u2)), (3, .int x3)] [] Z I J := by
  intro f
  induction f with
  | zero =>
    intro I x3 w hW hF hD hw h3 hf hr
    have hl := hD.1
    rw [List.drop_eq_nil_of_le (by rw [List.length_map]; omega)] at hr
    have hr : w = R := hr
    subst hr
    have hwx := WX_f hW
    refine rX11_day_27 hX ⟨fun _ => ?_, fun hc => absurd (Int32.le_iff_toInt_le.mpr (by omega)) hc⟩
    have f0 : Fr (fun a k => a = 1 ∧ (k = 7 ∨ k = 8)) I (uI (uI I 1 7 ((I 1 7) + (I 20 4))) 1 8 ((I 1 8) + 1)) := Fr_uI (Fr_uI Fr.rf (by omega)) (by omega)
    have w1 : WX (uI I 1 7 ((I 1 7) + (I 20 4))) := WX_uI hW (by first | exact okXo (by decide) | (unfold okX; refine ⟨?_, ?_, ?_, ?_, ?_, ?_, ?_, ?_, ?_, ?_⟩ <;> intro h <;> omega))
    refine eX9_endDay (zX_o0 hX) ?_
    refine hK _ _ (WX_uI w1 (by first | exact okXo (by decide) | (unfold okX; refine ⟨?_, ?_, ?_, ?_, ?_, ?_, ?_, ?_, ?_, ?_⟩ <;> intro h <;> omega))) (Fr.tr (Fr.tr Fr.rf hF (by intro a k h; omega)) f0 (by intro a k h; omega)) (RX_fk hw (fun a k q => f0 a k (by omega))) ?_
    rw [f0 20 4 (by omega)]
    exact hl
  | succ f ih =>
    intro I x3 w hW hF hD hw h3 hf hr
    have q1 : (1 : Int32).toInt = 1 := rfl
    have q0 : (0 : Int32).toInt = 0 := rfl
    have hl := hD.1
    have hwx := WX_f hW
    have e3 := i32_add x3 1 (by omega) (by omega)
    have n3 := tn_eq x3
    rw [DX_at hD h3 (by omega)] at hr
    have hr : acqL (acqT w (I (20 + 1) (Int32.toNatClampNeg x3))) ((S.map Prod.fst).drop (x3.toInt.toNat + 1)) = R := hr
    rw [show x3.toInt.toNat + 1 = (x3 + 1).toInt.toNat by omega] at hr
    refine rX11_day_27 hX ⟨fun hc => by have := Int32.le_iff_toInt_le.mp hc; omega, fun _ => ?_⟩
    refine eX3_coachAt (zX_o4 hX) ⟨fun hc => by have := Int32.lt_iff_toInt_lt.mp hc; omega, fun _ => ⟨fun hc => by have := Int32.le_iff_toInt_le.mp hc; omega, fun _ => ⟨vp_of (by omega) (by omega), ?_⟩⟩⟩
    refine pX9_acquaint (zX_o0 hX) (Or.inl rfl) hW hw (fun v6 I3 hW3 hF3 hR3 _ => ?_)
    exact ih I3 (x3 + 1) _ hW3 (Fr.tr hF hF3 (by intro a k h; omega)) ⟨by rw [hF3 20 4 (by omega)]; exact hD.1, LiS_fr hD.2.1 hF3 (by intro k; omega), LiS_fr hD.2.2.1 hF3 (by intro k; omega), by rw [hF3 20 5 (by omega)]; exact hD.2.2.2⟩ hR3 (by omega) (by omega) hr
theorem dyS_len {w : Tw} {kd : Int} {a : Int32} {I : jdI} {y : Int32} (hW : WX I) (h : DX I (dyS w kd a).1 y) : (dyS w kd a).1.length ≤ 7 := by
  have hw := WX_f hW
  have := h.1
  omega
theorem pX11_day {G : jdG} {n : Nat} {Z : jdL} {J : jdJ} {K : Int32 → jdI → jdJ → Prop} {I : jdI} {s : Sd} {x1 : Int32} (hX : zX Z) (hM : zMen Z) (hA : zHi Z) (hW : WX I) (hs : TX I 1 s) (hk : OKT s.1) (hK : ∀ (v : Int32) (I2 : jdI), WX I2 → Fr (fun a k => (a = 1 ∧ (k = 7 ∨ k = 8)) ∨ a = 4 ∨ (13 ≤ a ∧ a ≤ 24) ∨ a = 28) I I2 → (v.toInt = (oDay s (cX Z I x1) (mk Z (Int32.toNatClampNeg x1)) (aX Z I x1)).1 ∧ TX I2 1 (oDay s (cX Z I x1) (mk Z (Int32.toNatClampNeg x1)) (aX Z I x1)).2) → K v I2 J) : Cl G mX11_day (n + 9) 0 0 [.ref (gb G + 0), .int x1] Z I J (qi Z K) := by
  have n1 := tn_eq x1
  refine eX11_day hX (pX_man hX hW (fun v I2 hc hW2 hF2 hv => hK v I2 hW2 (Fr.tr Fr.rf hF2 (by intro a k h; omega)) ?_) (fun w hx hc hw => ?_))
  · have e : oDay s (cX Z I x1) (mk Z (Int32.toNatClampNeg x1)) (aX Z I x1) = (cX Z I x1, s) := if_neg hc
    rw [e]
    exact ⟨hv, TX_fr hs hF2 (by intro a k h1 h2; omega)⟩
  · obtain ⟨ci, hci, hz⟩ := hM _ (by omega) w hw
    have hu := hA _ (by omega) w hw
    refine pX11_think hX hz hci (by omega) hW hs.1 hk (fun I2 hW2 hF2 hD2 => ?_)
    have e : oDay s (cX Z I x1) (mk Z (Int32.toNatClampNeg x1)) (aX Z I x1) = (((dyS s.1 (ckI (Z.1 w)) (I w 0)).1.length : Int), (acqL s.1 ((dyS s.1 (ckI (Z.1 w)) (I w 0)).1.map Prod.fst), s.2)) := by
      rw [mk_some hw, aX_some hw]
      exact if_pos hc
    refine pX11_day_27 (R := acqL s.1 ((dyS s.1 (ckI (Z.1 w)) (I w 0)).1.map Prod.fst)) hX (dyS_len hW2 hD2) (fun v I3 hW3 hF3 hR3 hv => ?_) (dyS s.1 (ckI (Z.1 w)) (I w 0)).1.length I2 0 s.1 hW2 Fr.rf hD2 (RX_fr hs.1 hF2 (by intro a k h1 h2; omega)) (by decide) (by show (0 : Int) + _ = _; omega) rfl
    refine hK v I3 hW3 (Fr.tr (Fr.tr Fr.rf hF2 (by intro a k h; omega)) hF3 (by intro a k h; omega)) ?_
    rw [e]
    exact ⟨hv, hR3, by rw [hF3 1 6 (by omega), hF2 1 6 (by omega)]; exact hs.2⟩
theorem pX12_dayOf_8 {G : jdG} {n rc rs : Nat} {Z : jdL} {J : jdJ} {K : Int32 → jdI → jdJ → Prop} {I0 : jdI} {t : Nat} {x1 x2 : Int32} {S : List (Int32 × Int32)} {R : Tw} (ht : zModel Z t) (hS : S.length ≤ 7) (hK : ∀ (v : Int32) (I2 : jdI), WM 7 t I2 → Fr (fun a k => t + 21 ≤ a ∧ a ≤ t + 28) I0 I2 → RM I2 t R → v.toInt = (S.length : Int) → K v I2 J) : ∀ f : Nat, ∀ (I : jdI) (x3 : Int32) (w : Tw), WM 7 t I → Fr (fun a k => t + 21 ≤ a ∧ a ≤ t + 28) I0 I → DMd I t S → RM I t w → 0 ≤ x3.toInt → x3.toInt + (f : Int) = (S.length : Int) → acqL w ((S.map Prod.fst).drop x3.toInt.toNat) = R → Jd G mX12_dayOf (jdFm G (qi Z K)) (n + 2) rc rs 8 [(0, .ref (gb G + t)), (1, .int x1), (2, .int x2), (3, .int x3)] [] Z I J := by
  intro f
  induction f with
  | zero =>
    intro I x3 w hW hF hD hw h3 hf hr
    have hl := hD.1
    rw [List.drop_eq_nil_of_le (by rw [List.length_map]; omega)] at hr
    have hr : w = R := hr
    subst hr
    exact rX12_dayOf_8 ht ⟨fun _ => hK _ I hW hF hw hl, fun hc => absurd (Int32.le_iff_toInt_le.mpr (by omega)) hc⟩
  | succ f ih =>
    intro I x3 w hW hF hD hw h3 hf hr
    have q1 : (1 : Int32).toInt = 1 := rfl
    have hl := hD.1
    have e3 := i32_add x3 1 (by omega) (by omega)
    have n3 := tn_eq x3
    have ed : (S.map Prod.fst).drop x3.toInt.toNat = I (t + 32) (Int32.toNatClampNeg x3) :: (S.map Prod.fst).drop (x3.toInt.toNat + 1) := LiS_drop hD.2 (by rw [List.length_map]; omega)
    rw [ed] at hr
    have hr : acqL (acqT w (I (t + 32) (Int32.toNatClampNeg x3))) ((S.map Prod.fst).drop (x3.toInt.toNat + 1)) = R := hr
    rw [show x3.toInt.toNat + 1 = (x3 + 1).toInt.toNat by omega] at hr
    refine rX12_dayOf_8 ht ⟨fun hc => by have := Int32.le_iff_toInt_le.mp hc; omega, fun _ => ⟨vp_of (by omega) (by omega), ?_⟩⟩
    refine pX12_meets ht hW hw (fun v6 I3 hW3 hF3 hR3 _ => ?_)
    exact ih I3 (x3 + 1) _ hW3 (Fr.tr hF hF3 (fun _ _ h => h)) (DMd_fr hD hF3 (by omega) (by intro k; omega)) hR3 (by omega) (by omega) hr
theorem DMd_len {t : Nat} {I : jdI} {S : List (Int32 × Int32)} (hW : WM 7 t I) (h : DMd I t S) : S.length ≤ 7 := by
  have hw := WM_f hW
  have := h.1
  omega
theorem pX12_dayOf {G : jdG} {n : Nat} {Z : jdL} {J : jdJ} {K : Int32 → jdI → jdJ → Prop} {I : jdI} {t : Nat} {w : Tw} {x1 x2 : Int32} (ht : zModel Z t) (hW : WM 7 t I) (hw : RM I t w) (hk : OKT w) (hK : ∀ (v : Int32) (I2 : jdI), WM 7 t I2 → Fr (fun a k => (a = t ∧ (k = 30 ∨ k = 33 ∨ k = 34)) ∨ (t + 30 ≤ a ∧ a ≤ t + 33) ∨ (t + 21 ≤ a ∧ a ≤ t + 28)) I I2 → RM I2 t (acqL w ((dyS w x1.toInt x2).1.map Prod.fst)) → v.toInt = ((dyS w x1.toInt x2).1.length : Int) → K v I2 J) : Cl G mX12_dayOf (n + 260) 0 0 [.ref (gb G + t), .int x1, .int x2] Z I J (qi Z K) := by
  have hwm := WM_f hW
  have h1 := hw.1
  refine eX12_dayOf ht ?_
  refine pX12_goesT ht hW hw hk (fun I1 hW1 hF1 hD1 _ _ => ?_)
  exact pX12_dayOf_8 (R := acqL w ((dyS w x1.toInt x2).1.map Prod.fst)) ht (DMd_len hW1 hD1) (fun v I2 hW2 hF2 hR2 hv => hK v I2 hW2 (Fr.tr (Fr.tr Fr.rf hF1 (by intro a k h; omega)) hF2 (by intro a k h; omega)) hR2 hv) (dyS w x1.toInt x2).1.length I1 0 w hW1 Fr.rf hD1 (RM_fr hw (by omega) hF1 (by omega) (by omega) (by omega) (by intro a k h1 h2 h3; omega)) (by decide) (by show (0 : Int) + _ = _; omega) rfl
theorem pX12_day {G : jdG} {n : Nat} {Z : jdL} {J : jdJ} {K : Int32 → jdI → jdJ → Prop} {I : jdI} {t : Nat} {s : Sd} {x1 : Int32} (ht : zModel Z t) (hW : WM 7 t I) (hs : TM I t s) (hk : OKT s.1) (hK : ∀ (v : Int32) (I2 : jdI), WM 7 t I2 → Fr (fun a k => (a = t ∧ (k = 30 ∨ k = 33 ∨ k = 34)) ∨ (t + 30 ≤ a ∧ a ≤ t + 33) ∨ (t + 21 ≤ a ∧ a ≤ t + 28) ∨ a = t + 17 ∨ (a = t ∧ (k = 16 ∨ k = 17))) I I2 → (v.toInt = (oDay s (cM I t x1) (I (t + 14) (Int32.toNatClampNeg x1)).toInt (I (t + 15) (Int32.toNatClampNeg x1))).1 ∧ TM I2 t (oDay s (cM I t x1) (I (t + 14) (Int32.toNatClampNeg x1)).toInt (I (t + 15) (Int32.toNatClampNeg x1))).2) → K v I2 J) : Cl G mX12_day (n + 261) 0 0 [.ref (gb G + t), .int x1] Z I J (qi Z K) := by
  have n1 := tn_eq x1
  have hwm := WM_f hW
  have h1 := hs.1.1
  refine eX12_day ht (pX12_noMan ht hW (fun v2 I1 hW1 hF1 hv hr => ⟨fun c2 => ?_, fun c2 => ?_⟩))
  · have c2 := i0 c2
    have hr := hr (by omega)
    have hs1 := TM_fr hs (show s.1.1 ≤ 8 by omega) hF1 (by omega) (by omega) (by omega) (by omega) (by intro a k h1 h2 h3; omega)
    have e : oDay s (cM I t x1) (I (t + 14) (Int32.toNatClampNeg x1)).toInt (I (t + 15) (Int32.toNatClampNeg x1)) = (((dyS s.1 (I (t + 14) (Int32.toNatClampNeg x1)).toInt (I (t + 15) (Int32.toNatClampNeg x1))).1.length : Int), (acqL s.1 ((dyS s.1 (I (t + 14) (Int32.toNatClampNeg x1)).toInt (I (t + 15) (Int32.toNatClampNeg x1))).1.map Prod.fst), s.2)) := if_pos (by omega)
    refine ⟨vp_of (by omega) (by omega), vp_of (by omega) (by omega), ?_⟩
    rw [hF1 (t + 14) _ (by omega), hF1 (t + 15) _ (by omega)]
    refine pX12_dayOf ht hW1 hs1.1 hk (fun v6 I5 hW5 hF5 hR5 hv5 => ?_)
    have hw5 := WM_f hW5
    have f0 : Fr (fun a k => a = t ∧ (k = 16 ∨ k = 17)) I5 (uI (uI I5 t 16 ((I5 t 16) + v6)) t 17 ((I5 t 17) + 1)) := Fr_uI (Fr_uI Fr.rf (by omega)) (by omega)
    have w1 : WM 7 t (uI I5 t 16 ((I5 t 16) + v6)) := WM_uI hW5 (by first | exact okMo (by decide) (by decide) (by decide) (by decide) (by decide) | exact okMf (by decide) (by decide) (by decide) (by decide) (by decide) (by decide) (by decide) (by decide) | exact okM30 (by omega) | exact okM42 (by omega) | exact okM33 (by omega) | exact okM10 (by omega) | exact okM8 (by omega) | exact okM22 (by omega) | exact okM24 (by omega) | exact okM14 (by omega) | exact okMa31 (by omega) | exact okMa35 (by omega) | exact okMa36 (by omega) | exact okMa3 (by omega) | exact okMr (by omega) | (unfold okM; refine ⟨?_, ?_, ?_, ?_, ?_, ?_, ?_, ?_, ?_, ?_, ?_, ?_⟩ <;> intro h <;> omega))
    have hr5 := hR5.1
    have hR6 := RM_fr hR5 (by omega) f0 (by omega) (by omega) (by omega) (by intro a k h1 h2 h3; omega)
    refine hK v6 _ (WM_uI w1 (by first | exact okMo (by decide) (by decide) (by decide) (by decide) (by decide) | exact okMf (by decide) (by decide) (by decide) (by decide) (by decide) (by decide) (by decide) (by decide) | exact okM30 (by omega) | exact okM42 (by omega) | exact okM33 (by omega) | exact okM10 (by omega) | exact okM8 (by omega) | exact okM22 (by omega) | exact okM24 (by omega) | exact okM14 (by omega) | exact okMa31 (by omega) | exact okMa35 (by omega) | exact okMa36 (by omega) | exact okMa3 (by omega) | exact okMr (by omega) | (unfold okM; refine ⟨?_, ?_, ?_, ?_, ?_, ?_, ?_, ?_, ?_, ?_, ?_, ?_⟩ <;> intro h <;> omega))) (Fr.tr (Fr.tr (Fr.tr Fr.rf hF1 (by intro a k h; omega)) hF5 (by intro a k h; omega)) f0 (by intro a k h; omega)) ?_
    rw [e]
    exact ⟨hv5, hR6, by rw [f0 t 19 (by omega), hF5 t 19 (by omega)]; exact hs1.2⟩
  · have c2 := i1 c2
    have e : oDay s (cM I t x1) (I (t + 14) (Int32.toNatClampNeg x1)).toInt (I (t + 15) (Int32.toNatClampNeg x1)) = (cM I t x1, s) := if_neg (by omega)
    refine hK v2 I1 hW1 (Fr.tr Fr.rf hF1 (by intro a k h; omega)) ?_
    rw [e]
    exact ⟨hv, TM_fr hs (show s.1.1 ≤ 8 by omega) hF1 (by omega) (by omega) (by omega) (by omega) (by intro a k h1 h2 h3; omega)⟩
