theorem pX11_person {G : jdG} {n : Nat} {Z : jdL} {J : jdJ} {K : Int32 → jdI → jdJ → Prop} {I : jdI} {s : Sd} {x1 x2 : Int32} (hX : zX Z) (hW : WX I) (hs : TX I 1 s) (hK : ∀ (v : Int32) (I2 : jdI), WX I2 → Fr (fun a k => (1 ≤ a ∧ a ≤ 4) ∨ a = 28) I I2 → (v.toInt = (oPerson s x1 x2).1 ∧ TX I2 1 (oPerson s x1 x2).2) → K v I2 J) : Cl G mX11_person (n + 2) 0 0 [.ref (gb G + 0), .int x1, .int x2] Z I J (qi Z K) := by
  have h1 := hs.1.1
  have hw := WX_f hW
  have q7 : (7 : Int32).toInt = 7 := rfl
  refine eX11_person hX ?_
  refine sfX11_isHour hW (fun v2 p2 => ⟨fun c2 => ?_, fun c2 => ?_⟩)
  · have c2 := i0 c2
    have e : oPerson s x1 x2 = (-2, s) := if_neg (by omega)
    refine sfX11_refuse hX hW (fun v4 I3 hW3 hF3 hp3 => ?_)
    refine hK v4 I3 hW3 (Fr.tr Fr.rf hF3 (by intro a k h; omega)) ?_
    rw [e]
    exact ⟨by rw [hp3]; rfl, TX_fr hs hF3 (by intro a k h1 h2; omega)⟩
  · have c2 := i1 c2
    refine sfX11_isCost hW (fun v6 p6 => ⟨fun c6 => ⟨fun c7 => ?_, fun c7 => ?_⟩, fun c6 => ?_⟩)
    · have c6 := i1 c6
      have c7 := Int32.lt_iff_toInt_lt.mp c7
      have e : oPerson s x1 x2 = (s.1.1, (addT s.1 x1 x2, s.2)) := by
        unfold oPerson
        rw [if_pos (by omega), if_pos (by omega)]
      refine pX9_add (zX_o0 hX) (Or.inl rfl) hW hs.1 (by omega) (fun v8 I7 hW7 hF7 hR7 hv => ?_)
      refine hK v8 I7 hW7 (Fr.tr Fr.rf hF7 (by intro a k h; omega)) ?_
      rw [e]
      exact ⟨hv, hR7, by rw [hF7 1 6 (by omega)]; exact hs.2⟩
    · have c6 := i1 c6
      have c7 := mt Int32.lt_iff_toInt_lt.mpr c7
      have e : oPerson s x1 x2 = (-6, s) := by unfold oPerson; rw [if_pos (by omega), if_neg (by omega)]
      refine sfX11_refuse hX hW (fun v4 I3 hW3 hF3 hp3 => ?_)
      refine hK v4 I3 hW3 (Fr.tr Fr.rf hF3 (by intro a k h; omega)) ?_
      rw [e]
      exact ⟨by rw [hp3]; rfl, TX_fr hs hF3 (by intro a k h1 h2; omega)⟩
    · have c6 := i0 c6
      have e : oPerson s x1 x2 = (-2, s) := if_neg (by omega)
      refine sfX11_refuse hX hW (fun v4 I3 hW3 hF3 hp3 => ?_)
      refine hK v4 I3 hW3 (Fr.tr Fr.rf hF3 (by intro a k h; omega)) ?_
      rw [e]
      exact ⟨by rw [hp3]; rfl, TX_fr hs hF3 (by intro a k h1 h2; omega)⟩
theorem pX12_personS {G : jdG} {n : Nat} {Z : jdL} {J : jdJ} {K : Int32 → jdI → jdJ → Prop} {I : jdI} {t : Nat} {s : Sd} {x1 x2 : Int32} (ht : zModel Z t) (hW : WM 7 t I) (hs : TM I t s) (hK : ∀ (v : Int32) (I2 : jdI), WM 7 t I2 → Fr (fun a k => (a = t ∧ k = 10) ∨ a = t + 18 ∨ a = t + 19 ∨ (t + 21 ≤ a ∧ a ≤ t + 28) ∨ a = t + 17) I I2 → (v.toInt = (oPerson s x1 x2).1 ∧ TM I2 t (oPerson s x1 x2).2) → K v I2 J) : Cl G mX12_person (n + 1) 0 0 [.ref (gb G + t), .int x1, .int x2] Z I J (qi Z K) := by
  have h1 := hs.1.1
  have hw := WM_f hW
  have q1 : (1 : Int32).toInt = 1 := rfl
  have e1 : (Int32.toInt64 x1).toInt = x1.toInt := Int32.toInt_toInt64 _
  have e2 : (Int32.toInt64 x2).toInt = x2.toInt := Int32.toInt_toInt64 _
  have z0 : (0 : Int64).toInt = 0 := rfl
  have z23 : (23 : Int64).toInt = 23 := rfl
  have z9 : (9 : Int64).toInt = 9 := rfl
  refine eX12_person ht ?_
  refine sfX12_in trivial (fun v2 p2 => ⟨fun c2 => ?_, fun c2 => ?_⟩)
  · have c2 := i0 c2
    have e : oPerson s x1 x2 = (-2, s) := if_neg (by omega)
    refine sfX12_refuse ht (by decide) hW (by decide) (fun v4 I3 hW3 hF3 hp3 => ?_)
    refine hK v4 I3 hW3 (Fr.tr Fr.rf hF3 (by intro a k h; omega)) ?_
    rw [e]
    exact ⟨hp3, TM_fr hs (show s.1.1 ≤ 8 by omega) hF3 (by omega) (by omega) (by omega) (by omega) (by intro a k h1 h2 h3; omega)⟩
  · have c2 := i1 c2
    refine sfX12_in trivial (fun v6 p6 => ⟨fun c6 => ⟨fun c7 => ?_, fun c7 => ?_⟩, fun c6 => ?_⟩)
    · have c6 := i1 c6
      have c7 : ¬ (I t 10).toInt = 7 := fun z => c7 (Int32.toInt_inj.mp z)
      have e : oPerson s x1 x2 = (s.1.1, (addT s.1 x1 x2, s.2)) := by
        unfold oPerson
        rw [if_pos (by omega), if_pos (by omega)]
      refine pX12_addOne ht hW hs.1 (by omega) (fun I7 hW7 hF7 hR7 => ?_)
      refine hK _ I7 hW7 (Fr.tr Fr.rf hF7 (by intro a k h; omega)) ?_
      rw [e]
      have r1 : (I7 t 10).toInt = s.1.1 + 1 := hR7.1
      have r2 := i32_sub (I7 t 10) 1 (by omega) (by omega)
      exact ⟨show ((I7 t 10) - 1).toInt = s.1.1 by omega, hR7, by rw [hF7 t 19 (by omega)]; exact hs.2⟩
    · have c6 := i1 c6
      have c7 : (I t 10).toInt = 7 := by rw [c7]; rfl
      have e : oPerson s x1 x2 = (-6, s) := by unfold oPerson; rw [if_pos (by omega), if_neg (by omega)]
      refine sfX12_refuse ht (by decide) hW (by decide) (fun v4 I3 hW3 hF3 hp3 => ?_)
      refine hK v4 I3 hW3 (Fr.tr Fr.rf hF3 (by intro a k h; omega)) ?_
      rw [e]
      exact ⟨hp3, TM_fr hs (show s.1.1 ≤ 8 by omega) hF3 (by omega) (by omega) (by omega) (by omega) (by intro a k h1 h2 h3; omega)⟩
    · have c6 := i0 c6
      have e : oPerson s x1 x2 = (-2, s) := if_neg (by omega)
      refine sfX12_refuse ht (by decide) hW (by decide) (fun v4 I3 hW3 hF3 hp3 => ?_)
      refine hK v4 I3 hW3 (Fr.tr Fr.rf hF3 (by intro a k h; omega)) ?_
      rw [e]
      exact ⟨hp3, TM_fr hs (show s.1.1 ≤ 8 by omega) hF3 (by omega) (by omega) (by omega) (by omega) (by intro a k h1 h2 h3; omega)⟩
theorem RX_f6 {I I2 : jdI} {t : Nat} {w : Tw} (h : RX I t w) (f0 : Fr (fun a k => a = t ∧ k = 6) I I2) : RX I2 t w := by
  obtain ⟨w1, w2, w3, w4, w5⟩ := h
  exact ⟨by rw [f0 t 3 (by omega)]; exact w1, fun i hi => by rw [f0 (t + 1) i (by omega), f0 (t + 2) i (by omega)]; exact w2 i hi, by rw [f0 t 4 (by omega)]; exact w3, by rw [f0 t 5 (by omega)]; exact w4, fun i j hi hj hne => by rw [f0 (t + 3) _ (by omega)]; exact w5 i j hi hj hne⟩
theorem RM_f19 {I I2 : jdI} {t : Nat} {w : Tw} (h : RM I t w) (f0 : Fr (fun a k => a = t ∧ k = 19) I I2) : RM I2 t w := by
  obtain ⟨w1, w2, w3, w4, w5⟩ := h
  exact ⟨by rw [f0 t 10 (by omega)]; exact w1, fun i hi => by rw [f0 (t + 18) i (by omega), f0 (t + 19) i (by omega)]; exact w2 i hi, by rw [f0 t 14 (by omega)]; exact w3, by rw [f0 t 15 (by omega)]; exact w4, fun i j hi hj hne => by rw [f0 (t + 21 + i) _ (by omega)]; exact w5 i j hi hj hne⟩
theorem pX9_draw {G : jdG} {n : Nat} {Z : jdL} {J : jdJ} {K : Int32 → jdI → jdJ → Prop} {I : jdI} {t : Nat} {s : Sd} {b : Int32} (ht : zTown Z t) (hts : t = 1 ∨ t = 5 ∨ t = 9) (hW : WX I) (hs : TX I t s) (hb : 1 ≤ b.toInt) (hK : ∀ I2 : jdI, WX I2 → Fr (fun a k => a = t ∧ k = 6) I I2 → TX I2 t (s.1, nx s.2) → K (vd (nx s.2) b) I2 J) : Cl G mX9_draw n 0 0 [.ref (gb G + t), .int b] Z I J (qi Z K) := by
  refine eX9_draw ht ⟨fun _ => ⟨fun e => by rw [e] at hb; exact absurd hb (by decide), ?_⟩, fun h => absurd (Int32.le_iff_toInt_le.mpr (show (1 : Int32).toInt ≤ b.toInt from hb)) h⟩
  have f0 : Fr (fun a k => a = t ∧ k = 6) I (uI I t 6 (nx s.2)) := Fr_uI Fr.rf ⟨rfl, rfl⟩
  have key := hK (uI I t 6 (nx s.2)) (WX_uI hW (by first | exact okXo (by decide) | (unfold okX; refine ⟨?_, ?_, ?_, ?_, ?_, ?_, ?_, ?_, ?_, ?_⟩ <;> intro h <;> omega))) f0 ⟨RX_f6 hs.1 f0, by rw [uI_ap, if_pos ⟨rfl, rfl⟩]⟩
  rw [hs.2]
  exact key
theorem pX12_below {G : jdG} {n : Nat} {Z : jdL} {J : jdJ} {K : Int32 → jdI → jdJ → Prop} {I : jdI} {t : Nat} {s : Sd} {b : Int32} (ht : zModel Z t) (hW : WM 7 t I) (hs : TM I t s) (hb : 1 ≤ b.toInt) (hK : ∀ I2 : jdI, WM 7 t I2 → Fr (fun a k => a = t ∧ k = 19) I I2 → TM I2 t (s.1, nx s.2) → K (vd (nx s.2) b) I2 J) : Cl G mX12_below n 0 0 [.ref (gb G + t), .int b] Z I J (qi Z K) := by
  refine eX12_below ht ⟨fun e => by rw [e] at hb; exact absurd hb (by decide), ?_⟩
  have f0 : Fr (fun a k => a = t ∧ k = 19) I (uI I t 19 (nx s.2)) := Fr_uI Fr.rf ⟨rfl, rfl⟩
  have key := hK (uI I t 19 (nx s.2)) (WM_uI hW (by first | exact okMo (by decide) (by decide) (by decide) (by decide) (by decide) | exact okMf (by decide) (by decide) (by decide) (by decide) (by decide) (by decide) (by decide) (by decide) | exact okM30 (by omega) | exact okM42 (by omega) | exact okM33 (by omega) | exact okM10 (by omega) | exact okM8 (by omega) | exact okM22 (by omega) | exact okM24 (by omega) | exact okM14 (by omega) | exact okMa31 (by omega) | exact okMa35 (by omega) | exact okMa36 (by omega) | exact okMa3 (by omega) | exact okMr (by omega) | (unfold okM; refine ⟨?_, ?_, ?_, ?_, ?_, ?_, ?_, ?_, ?_, ?_, ?_, ?_⟩ <;> intro h <;> omega))) f0 ⟨RM_f19 hs.1 f0, by rw [uI_ap, if_pos ⟨rfl, rfl⟩]⟩
  rw [hs.2]
  exact key
theorem drK_1 (f j : Nat) (s : Sd) : (drK f j s).1.1 = s.1.1 := drG_1 nx bz f j s
theorem addD_1 (s : Sd) : (addD s).1.1 = s.1.1 + 1 := drK_1 _ _ _
theorem drK_n {f j : Nat} {s : Sd} (h : ¬ vd (nx s.2) 3 = 0) : drK (f + 1) j s = drK f (j + 1) (s.1, nx s.2) := drG_n (fun e => h (of_decide_eq_true e))
theorem drK_y {f j : Nat} {s : Sd} (h : vd (nx s.2) 3 = 0) : drK (f + 1) j s = drK f (j + 1) (tieT s.1 (s.1.1 - 1).toNat j 0, nx s.2) := drG_y (decide_eq_true h)
theorem pX9_addByDraws_24 {G : jdG} {n rc rs : Nat} {Z : jdL} {J : jdJ} {K : jdI → jdJ → Prop} {I0 : jdI} {t : Nat} {R : Sd} {x1 x2 x3 : Int32} (ht : zTown Z t) (hts : t = 1 ∨ t = 5 ∨ t = 9) (hK : ∀ I2 : jdI, WX I2 → Fr (fun a k => t ≤ a ∧ a ≤ t + 3) I0 I2 → TX I2 t R → K I2 J) : ∀ f : Nat, ∀ (I : jdI) (x4 : Int32) (s : Sd), WX I → Fr (fun a k => t ≤ a ∧ a ≤ t + 3) I0 I → TX I t s → x3.toInt = s.1.1 - 1 → 0 ≤ x4.toInt → x4.toInt + (f : Int) = x3.toInt → drK f x4.toInt.toNat s = R → Jd G mX9_addByDraws (jdFm G (qv Z K)) (n + 2) rc rs 24 [(0, .ref (gb G + t)), (1, .int x1), (2, .int x2), (3, .int x3), (4, .int x4)] [] Z I J := by
  intro f
  induction f with
  | zero =>
    intro I x4 s hW hF hs h3 h4 hf hr
    refine rX9_addByDraws_24 ht ⟨fun hc => ?_, fun hc => ?_⟩
    · have hr : s = R := hr
      rw [hr] at hs
      exact hK I hW hF hs
    · exact absurd (Int32.le_iff_toInt_le.mpr (by omega)) hc
  | succ f ih =>
    intro I x4 s hW hF hs h3 h4 hf hr
    have hp := WX_town hW hts
    have hs1 := hs.1.1
    have q1 : (1 : Int32).toInt = 1 := rfl
    have e4 := i32_add x4 1 (by omega) (by omega)
    have n3 := tn_eq x3
    have n4 := tn_eq x4
    have en : (x4 + 1).toInt.toNat = x4.toInt.toNat + 1 := by omega
    refine rX9_addByDraws_24 ht ⟨fun hc => by have := Int32.le_iff_toInt_le.mp hc; omega, fun hc => ?_⟩
    refine pX9_draw ht hts hW hs (by decide) (fun I1 hW1 hF1 hs1' => ⟨fun hv => ?_, fun hv => ?_⟩)
    · refine ih I1 (x4 + 1) (s.1, nx s.2) hW1 (Fr.tr hF hF1 (by intro a k h; omega)) hs1' h3 (by omega) (by omega) ?_
      rw [en, ← drK_n hv]
      exact hr
    · refine pX9_tie ht hts hW1 hs1'.1 ⟨by omega, by show x3.toInt < s.1.1; omega⟩ ⟨h4, by show x4.toInt < s.1.1; omega⟩ (fun I3 hW3 hF3 hR3 => ?_)
      refine ih I3 (x4 + 1) (tieT s.1 (s.1.1 - 1).toNat x4.toInt.toNat 0, nx s.2) hW3 (Fr.tr (Fr.tr hF hF1 (by intro a k h; omega)) hF3 (by intro a k h; omega)) ⟨?_, by rw [hF3 t 6 (by omega)]; exact hs1'.2⟩ h3 (by omega) (by omega) ?_
      · rw [show (s.1.1 - 1).toNat = Int32.toNatClampNeg x3 by omega]
        exact hR3
      · rw [en, ← drK_y hv]
        exact hr
theorem pX9_addByDraws {G : jdG} {n : Nat} {Z : jdL} {J : jdJ} {K : jdI → jdJ → Prop} {I : jdI} {t : Nat} {s : Sd} (ht : zTown Z t) (hts : t = 1 ∨ t = 5 ∨ t = 9) (hW : WX I) (hs : TX I t s) (h7 : s.1.1 < 7) (hK : ∀ I2 : jdI, WX I2 → Fr (fun a k => t ≤ a ∧ a ≤ t + 3) I I2 → TX I2 t (addD s) → K I2 J) : Cl G mX9_addByDraws (n + 2) 0 0 [.ref (gb G + t)] Z I J (qv Z K) := by
  have hp := WX_town hW hts
  have hs1 := hs.1.1
  refine eX9_addByDraws ht ?_
  refine pX9_draw ht hts hW hs (by decide) (fun I1 hW1 hF1 hs1 => ?_)
  refine pX9_draw ht hts hW1 hs1 (by decide) (fun I3 hW3 hF3 hs3 => ?_)
  refine pX9_add ht hts hW3 hs3.1 h7 (fun v6 I5 hW5 hF5 hR5 hv => ?_)
  have hv : v6.toInt = s.1.1 := hv
  refine pX9_addByDraws_24 ht hts hK s.1.1.toNat I5 0 (addT s.1 (vd (nx s.2) 24) (vd (nx (nx s.2)) 10), nx (nx s.2)) hW5 (Fr.tr (Fr.tr (Fr.tr Fr.rf hF1 (by intro a k h; omega)) hF3 (by intro a k h; omega)) hF5 (by intro a k h; omega)) ⟨hR5, by rw [hF5 t 6 (by omega)]; exact hs3.2⟩ ?_ (by decide) ?_ rfl
  · show v6.toInt = s.1.1 + 1 - 1
    omega
  · show (0 : Int) + (s.1.1.toNat : Int) = v6.toInt
    omega
theorem comeN_s (f : Nat) (s : Sd) : comeN (f + 1) s = comeN f (addD s) := rfl
theorem pX11_come_35 {G : jdG} {n rc rs : Nat} {Z : jdL} {J : jdJ} {K : Int32 → jdI → jdJ → Prop} {I0 : jdI} {R : Sd} {x1 x2 : Int32} (hX : zX Z) (hK : ∀ I2 : jdI, WX I2 → Fr (fun a k => (1 ≤ a ∧ a ≤ 4) ∨ a = 28) I0 I2 → TX I2 1 R → K x2 I2 J) : ∀ f : Nat, ∀ (I : jdI) (x3 : Int32) (s : Sd), WX I → Fr (fun a k => (1 ≤ a ∧ a ≤ 4) ∨ a = 28) I0 I → TX I 1 s → 0 ≤ x3.toInt → x3.toInt + (f : Int) = x2.toInt → s.1.1 + (f : Int) ≤ 7 → comeN f s = R → Jd G mX11_come (jdFm G (qi Z K)) (n + 3) rc rs 35 [(0, .ref (gb G + 0)), (1, .int x1), (2, .int x2), (3, .int x3)] [] Z I J := by
  intro f
  induction f with
  | zero =>
    intro I x3 s hW hF hs h3 hf h7 hr
    refine rX11_come_35 hX ⟨fun hc => ?_, fun hc => absurd (Int32.le_iff_toInt_le.mpr (by omega)) hc⟩
    have hr : s = R := hr
    rw [hr] at hs
    exact hK I hW hF hs
  | succ f ih =>
    intro I x3 s hW hF hs h3 hf h7 hr
    have q1 : (1 : Int32).toInt = 1 := rfl
    have hp := WX_f hW
    have hs1 := hs.1.1
    have hl := i32_lo x2
    have e3 := i32_add x3 1 (by omega) (by omega)
    refine rX11_come_35 hX ⟨fun hc => by have := Int32.le_iff_toInt_le.mp hc; omega, fun hc => ?_⟩
    refine pX9_addByDraws (zX_o0 hX) (Or.inl rfl) hW hs (by omega) (fun I1 hW1 hF1 hs1 => ?_)
    exact ih I1 (x3 + 1) (addD s) hW1 (Fr.tr hF hF1 (by intro a k h; omega)) hs1 (by omega) (by omega) (by rw [addD_1]; omega) hr
theorem pX11_come {G : jdG} {n : Nat} {Z : jdL} {J : jdJ} {K : Int32 → jdI → jdJ → Prop} {I : jdI} {s : Sd} {x1 : Int32} (hX : zX Z) (hW : WX I) (hs : TX I 1 s) (hK : ∀ (v : Int32) (I2 : jdI), WX I2 → Fr (fun a k => (1 ≤ a ∧ a ≤ 4) ∨ a = 28) I I2 → (v.toInt = (oCome s x1).1 ∧ TX I2 1 (oCome s x1).2) → K v I2 J) : Cl G mX11_come (n + 3) 0 0 [.ref (gb G + 0), .int x1] Z I J (qi Z K) := by
  have h1 := hs.1.1
  have hw := WX_f hW
  have q7 : (7 : Int32).toInt = 7 := rfl
  have q1 : (1 : Int32).toInt = 1 := rfl
  have s7 := i32_sub 7 (I 1 3) (by omega) (by omega)
  refine eX11_come hX ⟨fun c => ?_, fun c => ⟨fun d => ?_, fun d => ?_⟩⟩
  · have c := Int32.lt_iff_toInt_lt.mp c
    have e : oCome s x1 = (-2, s) := if_neg (by omega)
    refine sfX11_refuse hX hW (fun v4 I3 hW3 hF3 hp3 => ?_)
    refine hK v4 I3 hW3 (Fr.tr Fr.rf hF3 (by intro a k h; omega)) ?_
    rw [e]
    exact ⟨by rw [hp3]; rfl, TX_fr hs hF3 (by intro a k h1 h2; omega)⟩
  · have c := mt Int32.lt_iff_toInt_lt.mpr c
    have d := Int32.le_iff_toInt_le.mp d
    by_cases g : (7 - (I 1 3)) < x1
    · rw [if_pos g]
      have g := Int32.lt_iff_toInt_lt.mp g
      have e : oCome s x1 = (7 - s.1.1, comeN (7 - s.1.1).toNat s) := by
        unfold oCome
        rw [if_pos (by omega), if_pos (by omega)]
      refine pX11_come_35 hX (fun I2 hW2 hF2 hs2 => hK _ I2 hW2 hF2 ?_) (7 - s.1.1).toNat I 0 s hW Fr.rf hs (by decide) ?_ (by omega) rfl
      · rw [e]
        exact ⟨show (7 - (I 1 3)).toInt = 7 - s.1.1 by omega, hs2⟩
      · show (0 : Int) + ((7 - s.1.1).toNat : Int) = (7 - (I 1 3)).toInt
        omega
    · rw [if_neg g]
      have g := mt Int32.lt_iff_toInt_lt.mpr g
      have e : oCome s x1 = (x1.toInt, comeN x1.toInt.toNat s) := by
        unfold oCome
        rw [if_pos (by omega), if_neg (by omega)]
      refine pX11_come_35 hX (fun I2 hW2 hF2 hs2 => hK _ I2 hW2 hF2 ?_) x1.toInt.toNat I 0 s hW Fr.rf hs (by decide) ?_ (by omega) rfl
      · rw [e]
        exact ⟨rfl, hs2⟩
      · show (0 : Int) + (x1.toInt.toNat : Int) = x1.toInt
        omega
  · have d := mt Int32.le_iff_toInt_le.mpr d
    have e : oCome s x1 = (-2, s) := if_neg (by omega)
    refine sfX11_refuse hX hW (fun v4 I3 hW3 hF3 hp3 => ?_)
    refine hK v4 I3 hW3 (Fr.tr Fr.rf hF3 (by intro a k h; omega)) ?_
    rw [e]
    exact ⟨by rw [hp3]; rfl, TX_fr hs hF3 (by intro a k h1 h2; omega)⟩
theorem pX12_come_56 {G : jdG} {n rc rs : Nat} {Z : jdL} {J : jdJ} {K : Int32 → jdI → jdJ → Prop} {I0 : jdI} {t : Nat} {R : Sd} {x1 x2 x3 : Int32} (ht : zModel Z t) (hO : ∀ I2 : jdI, WM 7 t I2 → Fr (fun a k => (a = t ∧ k = 10) ∨ a = t + 18 ∨ a = t + 19 ∨ (t + 21 ≤ a ∧ a ≤ t + 28) ∨ (a = t ∧ k = 19) ∨ a = t + 17) I0 I2 → TM I2 t R → Jd G mX12_come (jdFm G (qi Z K)) (n + 1) rc rs 21 [(0, .ref (gb G + t)), (1, .int x1), (2, .int (x2 + 1))] [] Z I2 J) : ∀ f : Nat, ∀ (I : jdI) (x4 : Int32) (s : Sd), WM 7 t I → Fr (fun a k => (a = t ∧ k = 10) ∨ a = t + 18 ∨ a = t + 19 ∨ (t + 21 ≤ a ∧ a ≤ t + 28) ∨ (a = t ∧ k = 19) ∨ a = t + 17) I0 I → TM I t s → 0 ≤ x4.toInt → x4.toInt + (f : Int) = s.1.1 - 1 → drK f x4.toInt.toNat s = R → Jd G mX12_come (jdFm G (qi Z K)) (n + 1) rc rs 56 [(0, .ref (gb G + t)), (1, .int x1), (2, .int x2), (3, .int x3), (4, .int x4)] [] Z I J := by
  intro f
  induction f with
  | zero =>
    intro I x4 s hW hF hs h4 hf hr
    have hp := WM_f hW
    have hs1 := hs.1.1
    have q1 : (1 : Int32).toInt = 1 := rfl
    have e1 := i32_sub (I t 10) 1 (by omega) (by omega)
    refine rX12_come_56 ht ⟨fun hc => ?_, fun hc => absurd (Int32.le_iff_toInt_le.mpr (by omega)) hc⟩
    have hr : s = R := hr
    rw [hr] at hs
    exact hO I hW hF hs
  | succ f ih =>
    intro I x4 s hW hF hs h4 hf hr
    have hp := WM_f hW
    have hs1 := hs.1.1
    have q1 : (1 : Int32).toInt = 1 := rfl
    have e1 := i32_sub (I t 10) 1 (by omega) (by omega)
    have e4 := i32_add x4 1 (by omega) (by omega)
    have n4 := tn_eq x4
    have en : (x4 + 1).toInt.toNat = x4.toInt.toNat + 1 := by omega
    refine rX12_come_56 ht ⟨fun hc => by have := Int32.le_iff_toInt_le.mp hc; omega, fun hc => ?_⟩
    refine pX12_below ht hW hs (by decide) (fun I1 hW1 hF1 hs1' => ⟨fun hv => ?_, fun hv => ?_⟩)
    · refine ih I1 (x4 + 1) (s.1, nx s.2) hW1 (Fr.tr hF hF1 (by intro a k h; omega)) hs1' (by omega) (by show _ = s.1.1 - 1; omega) ?_
      rw [en, ← drK_n hv]
      exact hr
    · have hp1 := WM_f hW1
      have r1 : (I1 t 10).toInt = s.1.1 := hs1'.1.1
      have e2 := i32_sub (I1 t 10) 1 (by omega) (by omega)
      have n2 := tn_eq ((I1 t 10) - 1)
      refine pX12_knows ht hW1 hs1'.1 ⟨by omega, by show ((I1 t 10) - 1).toInt < s.1.1; omega⟩ ⟨h4, by show x4.toInt < s.1.1; omega⟩ (fun I3 hW3 hF3 hR3 => ?_)
      refine ih I3 (x4 + 1) (tieT s.1 (s.1.1 - 1).toNat x4.toInt.toNat 0, nx s.2) hW3 (Fr.tr (Fr.tr hF hF1 (by intro a k h; omega)) hF3 (by intro a k h; omega)) ⟨?_, by rw [hF3 t 19 (by omega)]; exact hs1'.2⟩ (by omega) (by show _ = s.1.1 - 1; omega) ?_
      · rw [show (s.1.1 - 1).toNat = Int32.toNatClampNeg ((I1 t 10) - 1) by omega]
        exact hR3
      · rw [en, ← drK_y hv]
        exact hr
theorem pX12_come_21 {G : jdG} {n rc rs : Nat} {Z : jdL} {J : jdJ} {K : Int32 → jdI → jdJ → Prop} {I0 : jdI} {t : Nat} {R : Sd} {x1 : Int32} {c : Int} (ht : zModel Z t) (hx : x1.toInt ≤ 7) (hK : ∀ (v : Int32) (I2 : jdI), WM 7 t I2 → Fr (fun a k => (a = t ∧ k = 10) ∨ a = t + 18 ∨ a = t + 19 ∨ (t + 21 ≤ a ∧ a ≤ t + 28) ∨ (a = t ∧ k = 19) ∨ a = t + 17) I0 I2 → TM I2 t R → v.toInt = c → K v I2 J) : ∀ f : Nat, ∀ (I : jdI) (x2 : Int32) (s : Sd), WM 7 t I → Fr (fun a k => (a = t ∧ k = 10) ∨ a = t + 18 ∨ a = t + 19 ∨ (t + 21 ≤ a ∧ a ≤ t + 28) ∨ (a = t ∧ k = 19) ∨ a = t + 17) I0 I → TM I t s → 0 ≤ x2.toInt → x2.toInt + (f : Int) = c → x2.toInt + (f : Int) ≤ x1.toInt → s.1.1 + (f : Int) ≤ 7 → (x1.toInt = x2.toInt + (f : Int) ∨ s.1.1 + (f : Int) = 7) → comeN f s = R → Jd G mX12_come (jdFm G (qi Z K)) (n + 1) rc rs 21 [(0, .ref (gb G + t)), (1, .int x1), (2, .int x2)] [] Z I J := by
  intro f
  induction f with
  | zero =>
    intro I x2 s hW hF hs h2 hf h1 h7 hm hr
    have hp := WM_f hW
    have hs1 := hs.1.1
    have q7 : (7 : Int32).toInt = 7 := rfl
    have hr : s = R := hr
    rw [hr] at hs
    refine rX12_come_21 ht ⟨fun hc => hK x2 I hW hF hs (by omega), fun hc => ⟨fun hd => hK x2 I hW hF hs (by omega), fun hd => ?_⟩⟩
    have hc := mt Int32.le_iff_toInt_le.mpr hc
    have hd := mt Int32.le_iff_toInt_le.mpr hd
    omega
  | succ f ih =>
    intro I x2 s hW hF hs h2 hf h1 h7 hm hr
    have hp := WM_f hW
    have hs1 := hs.1.1
    have q7 : (7 : Int32).toInt = 7 := rfl
    have q1 : (1 : Int32).toInt = 1 := rfl
    have e2 := i32_add x2 1 (by omega) (by omega)
    refine rX12_come_21 ht ⟨fun hc => by have := Int32.le_iff_toInt_le.mp hc; omega, fun hc => ⟨fun hd => by have := Int32.le_iff_toInt_le.mp hd; omega, fun hd => ?_⟩⟩
    refine pX12_below ht hW hs (by decide) (fun I1 hW1 hF1 hs1' => ?_)
    refine pX12_below ht hW1 hs1' (by decide) (fun I3 hW3 hF3 hs3 => ?_)
    refine pX12_addOne ht hW3 hs3.1 (by show s.1.1 < 7; omega) (fun I5 hW5 hF5 hR5 => ?_)
    refine pX12_come_56 (R := addD s) ht (fun I7 hW7 hF7 hs7 => ?_) s.1.1.toNat I5 0 (addT s.1 (vd (nx s.2) 24) (vd (nx (nx s.2)) 10), nx (nx s.2)) hW5 (Fr.tr (Fr.tr (Fr.tr hF hF1 (by intro a k h; omega)) hF3 (by intro a k h; omega)) hF5 (by intro a k h; omega)) ⟨hR5, by rw [hF5 t 19 (by omega)]; exact hs3.2⟩ (by decide) ?_ rfl
    · exact ih I7 (x2 + 1) (addD s) hW7 hF7 hs7 (by omega) (by omega) (by omega) (by rw [addD_1]; omega) (by rw [addD_1]; omega) hr
    · show (0 : Int) + (s.1.1.toNat : Int) = s.1.1 + 1 - 1
      omega
theorem pX12_come {G : jdG} {n : Nat} {Z : jdL} {J : jdJ} {K : Int32 → jdI → jdJ → Prop} {I : jdI} {t : Nat} {s : Sd} {x1 : Int32} (ht : zModel Z t) (hW : WM 7 t I) (hs : TM I t s) (hK : ∀ (v : Int32) (I2 : jdI), WM 7 t I2 → Fr (fun a k => (a = t ∧ k = 10) ∨ a = t + 18 ∨ a = t + 19 ∨ (t + 21 ≤ a ∧ a ≤ t + 28) ∨ (a = t ∧ k = 19) ∨ a = t + 17) I I2 → (v.toInt = (oCome s x1).1 ∧ TM I2 t (oCome s x1).2) → K v I2 J) : Cl G mX12_come (n + 1) 0 0 [.ref (gb G + t), .int x1] Z I J (qi Z K) := by
  have h1 := hs.1.1
  have hw := WM_f hW
  have e1 : (Int32.toInt64 x1).toInt = x1.toInt := Int32.toInt_toInt64 _
  have z1 : (1 : Int64).toInt = 1 := rfl
  have z7 : (7 : Int64).toInt = 7 := rfl
  refine eX12_come ht ?_
  refine sfX12_in trivial (fun v2 p2 => ⟨fun c2 => ?_, fun c2 => ?_⟩)
  · have c2 := i1 c2
    by_cases g : 7 - s.1.1 < x1.toInt
    · have e : oCome s x1 = (7 - s.1.1, comeN (7 - s.1.1).toNat s) := by
        unfold oCome
        rw [if_pos (by omega), if_pos g]
      refine pX12_come_21 (c := 7 - s.1.1) ht (by omega) (fun v I2 hW2 hF2 hs2 hv => hK v I2 hW2 hF2 ?_) (7 - s.1.1).toNat I 0 s hW Fr.rf hs (by decide) ?_ ?_ (by omega) (Or.inr (by omega)) rfl
      · rw [e]
        exact ⟨hv, hs2⟩
      · show (0 : Int) + _ = _
        omega
      · show (0 : Int) + _ ≤ _
        omega
    · have e : oCome s x1 = (x1.toInt, comeN x1.toInt.toNat s) := by
        unfold oCome
        rw [if_pos (by omega), if_neg g]
      refine pX12_come_21 (c := x1.toInt) ht (by omega) (fun v I2 hW2 hF2 hs2 hv => hK v I2 hW2 hF2 ?_) x1.toInt.toNat I 0 s hW Fr.rf hs (by decide) ?_ ?_ (by omega) (Or.inl ?_) rfl
      · rw [e]
        exact ⟨hv, hs2⟩
      · show (0 : Int) + _ = _
        omega
      · show (0 : Int) + _ ≤ _
        omega
      · show _ = (0 : Int) + _
        omega
  · have c2 := i0 c2
    have e : oCome s x1 = (-2, s) := if_neg (by omega)
    refine sfX12_refuse ht (by decide) hW (by decide) (fun v4 I3 hW3 hF3 hp3 => ?_)
    refine hK v4 I3 hW3 (Fr.tr Fr.rf hF3 (by intro a k h; omega)) ?_
    rw [e]
    exact ⟨hp3, TM_fr hs (show s.1.1 ≤ 8 by omega) hF3 (by omega) (by omega) (by omega) (by omega) (by intro a k h1 h2 h3; omega)⟩
theorem pX11_image {G : jdG} {n : Nat} {Z : jdL} {J : jdJ} {K : Int32 → jdI → jdJ → Prop} {I : jdI} {s : Sd} (hX : zX Z) (hW : WX I) (hs : TX I 1 s) (hK : ∀ (v : Int32) (I2 : jdI), WX I2 → Fr (fun a k => (5 ≤ a ∧ a ≤ 8) ∨ a = 0) I I2 → (v.toInt = 1 ∧ (I2 0 8).toInt = 1) → TX I2 5 s → K v I2 J) : Cl G mX11_image (n + 2) 0 0 [.ref (gb G + 0)] Z I J (qi Z K) := by
  have h1 := hs.1.1
  have hw := WX_f hW
  refine eX11_image hX ?_
  refine pX9_become (zX_o1 hX) (zX_o0 hX) (Or.inr (Or.inl rfl)) (Or.inl rfl) (by decide) hW (fun I1 hW1 hF1 hC => ?_)
  have hw1 := WX_f hW1
  have f0 : Fr (fun a k => a = 0 ∧ k = 8) I1 (uI I1 0 8 1) := Fr_uI Fr.rf ⟨rfl, rfl⟩
  refine hK 1 _ (WX_uI hW1 (by first | exact okXo (by decide) | (unfold okX; refine ⟨?_, ?_, ?_, ?_, ?_, ?_, ?_, ?_, ?_, ?_⟩ <;> intro h <;> omega))) (Fr.tr (Fr.tr Fr.rf hF1 (by intro a k h; omega)) f0 (by intro a k h; omega)) ⟨rfl, by rw [uI_ap, if_pos ⟨rfl, rfl⟩]; rfl⟩ ⟨RX_fr (RX_ct hs.1 (by omega) hC) f0 (by intro a k h1 h2; omega), ?_⟩
  rw [f0 5 6 (by omega), hC.1 6 (by omega) (by omega)]
  exact hs.2
theorem pX11_back {G : jdG} {n : Nat} {Z : jdL} {J : jdJ} {K : Int32 → jdI → jdJ → Prop} {I : jdI} (hX : zX Z) (hW : WX I) (hK : ∀ (v : Int32) (I2 : jdI), WX I2 → Fr (fun a k => (1 ≤ a ∧ a ≤ 4) ∨ a = 28) I I2 → ((v.toInt = 1 ∧ ¬ (I 0 8).toInt = 0) ∨ (v.toInt = -5 ∧ (I 0 8).toInt = 0)) → (¬ (I 0 8).toInt = 0 → ∀ s, TX I 5 s → TX I2 1 s) → ((I 0 8).toInt = 0 → ∀ s, TX I 1 s → TX I2 1 s) → K v I2 J) : Cl G mX11_back (n + 2) 0 0 [.ref (gb G + 0)] Z I J (qi Z K) := by
  have hw := WX_f hW
  refine eX11_back hX ⟨fun hc => ?_, fun hc => ?_⟩
  · have hc := i1 hc
    refine pX9_become (zX_o0 hX) (zX_o1 hX) (Or.inl rfl) (Or.inr (Or.inl rfl)) (by decide) hW (fun I1 hW1 hF1 hC => ?_)
    refine hK 1 I1 hW1 (Fr.tr Fr.rf hF1 (by intro a k h; omega)) (Or.inl ⟨rfl, hc⟩) (fun _ s hs => ?_) (fun h => absurd h hc)
    have h1 := hs.1.1
    exact ⟨RX_ct hs.1 (by omega) hC, by rw [hC.1 6 (by omega) (by omega)]; exact hs.2⟩
  · have hc := i0 hc
    refine sfX11_refuse hX hW (fun v4 I3 hW3 hF3 hp3 => ?_)
    exact hK v4 I3 hW3 (Fr.tr Fr.rf hF3 (by intro a k h; omega)) (Or.inr ⟨by rw [hp3]; rfl, hc⟩) (fun h => absurd hc h) (fun _ s hs => TX_fr hs hF3 (by intro a k h1 h2; omega))
theorem pX11_town {G : jdG} {n : Nat} {Z : jdL} {J : jdJ} {K : Int32 → jdI → jdJ → Prop} {I : jdI} {s : Sd} {sA sV : Nat → Nat} (hG : gOK G sA sV) (hX : zX Z) (hW : WX I) (hs : TX I 1 s) (hK : ∀ (v : Int32) (I2 : jdI), WX I2 → Fr (fun a k => (1 ≤ a ∧ a ≤ 4) ∨ (9 ≤ a ∧ a ≤ 12) ∨ a = 25 ∨ a = 28) I I2 → (I2 25 1).toInt = 0 → XTn (rd (I (25 + 1)) (I 25 1).toInt 63 s.1 (adv (I (25 + 1)) (I 25 1).toInt 0) 1) s.1 v I2 1 → I2 1 6 = s.2 → K v I2 J) : Cl G mX11_town (n + 8) 0 0 [.ref (gb G + 0)] Z I J (qi Z K) := by
  have h1 := hs.1.1
  have hw := WX_f hW
  refine eX11_town hX ?_
  refine pX9_become (zX_o2 hX) (zX_o0 hX) (Or.inr (Or.inr rfl)) (Or.inl rfl) (by decide) hW (fun I1 hW1 hF1 hC1 => ?_)
  have r9 := RX_ct hs.1 (by omega) hC1
  have r1 := RX_fr hs.1 hF1 (by intro a k h1 h2; omega)
  have e26 : I1 (25 + 1) = I (25 + 1) := funext (fun k => hF1 (25 + 1) k (by omega))
  have e251 : (I1 25 1).toInt = (I 25 1).toInt := congrArg Int32.toInt (hF1 25 1 (by omega))
  refine pX5_read hG (zX_o5 hX) (zX_o2 hX) (Or.inr (Or.inr rfl)) hW1 e26 e251 r9 (fun v3 I3 hW3 hF3 hp3 => ?_)
  have r13 := RX_fr r1 hF3 (by intro a k h1 h2; omega)
  have e96 : I3 9 6 = s.2 := by rw [hF3 9 6 (by omega), hC1.1 6 (by omega) (by omega)]; exact hs.2
  have e16 : I3 1 6 = s.2 := by rw [hF3 1 6 (by omega), hF1 1 6 (by omega)]; exact hs.2
  refine eX5_clear (zX_o5 hX) ?_
  have hw3 := WX_f hW3
  have q0 : (0 : Int32).toInt = 0 := rfl
  have hF5 : Fr (fun a k => a = 25 ∧ k = 1) I3 (uI I3 25 1 0) := Fr_uI Fr.rf ⟨rfl, rfl⟩
  have hW5 : WX (uI I3 25 1 0) := WX_uI hW3 (by first | exact okXo (by decide) | (unfold okX; refine ⟨?_, ?_, ?_, ?_, ?_, ?_, ?_, ?_, ?_, ?_⟩ <;> intro h <;> omega))
  have hp5 : ((uI I3 25 1 0) 25 1).toInt = 0 := by rw [uI_ap, if_pos ⟨rfl, rfl⟩]; rfl
  generalize (uI I3 25 1 0) = I5 at hF5 hW5 hp5 ⊢
  have fA : Fr (fun a k => (1 ≤ a ∧ a ≤ 4) ∨ (9 ≤ a ∧ a ≤ 12) ∨ a = 25 ∨ a = 28) I I5 := Fr.tr (Fr.tr (Fr.tr Fr.rf hF1 (by intro a k h; omega)) hF3 (by intro a k h; omega)) hF5 (by intro a k h; omega)
  refine ⟨fun hc => ?_, fun hc => ?_⟩
  · rcases hp3 with ⟨w2, q1, q2, q3⟩ | ⟨q1, q2⟩
    · refine pX9_become (zX_o0 hX) (zX_o2 hX) (Or.inl rfl) (Or.inr (Or.inr rfl)) (by decide) hW5 (fun I7 hW7 hF7 hC7 => ?_)
      have r95 := RX_fr q2 hF5 (by intro a k h1 h2; omega)
      have hw5 := WX_f hW5
      have l7 := r95.1
      refine hK v3 I7 hW7 (Fr.tr fA hF7 (by intro a k h; omega)) ?_ (Or.inl ⟨w2, q1, RX_ct r95 (by omega) hC7⟩) ?_
      · rw [hF7 25 1 (by omega)]
        exact hp5
      · rw [hC7.1 6 (by omega) (by omega), hF5 9 6 (by omega)]
        exact e96
    · exact absurd (Int32.toInt_inj.mp q1) hc
  · have hc : v3.toInt = -1 := by rw [hc]; rfl
    rcases hp3 with ⟨w2, q1, q2, q3⟩ | ⟨q1, q2⟩
    · omega
    · refine sfX11_refuse hX hW5 (fun v4 I9 hW9 hF9 hp9 => ?_)
      refine hK _ I9 hW9 (Fr.tr fA hF9 (by intro a k h; omega)) ?_ (Or.inr ⟨_, q2, ?_, RX_fr (RX_fr r13 hF5 (by intro a k h1 h2; omega)) hF9 (by intro a k h1 h2; omega)⟩) ?_
      · rw [hF9 25 1 (by omega)]
        exact hp5
      · rw [ofI, hF9 25 5 (by omega), hF5 25 5 (by omega)]
      · rw [hF9 1 6 (by omega), hF5 1 6 (by omega)]
        exact e16
