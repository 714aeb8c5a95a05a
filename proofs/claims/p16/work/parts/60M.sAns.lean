/-! answers about people, groups, and what a coachman would send -/
theorem rfX {G : jdG} {n : Nat} {Z : jdL} {J : jdJ} {K : Int32 → jdI → jdJ → Prop} {I : jdI} {num : Int32} {P : Nat → Nat → Prop} {o : Int} (hX : zX Z) (hW : WX I) (e : o = num.toInt) (hp : ∀ a k, a = 28 → P a k) (hK : ∀ (v : Int32) (I2 : jdI), WX I2 → Fr P I I2 → v.toInt = o → K v I2 J) : Cl G mX11_refuse n 0 0 [.ref (gb G + 0), .int num] Z I J (qi Z K) :=
  sfX11_refuse hX hW (fun v4 I3 hW3 hF3 hp3 => hK v4 I3 hW3 (Fr.tr Fr.rf hF3 (fun a k h => hp a k h)) (by rw [e, hp3]))
theorem rfM {G : jdG} {n : Nat} {Z : jdL} {J : jdJ} {K : Int32 → jdI → jdJ → Prop} {I : jdI} {t : Nat} {num : Int32} {P : Nat → Nat → Prop} {o : Int} (ht : zModel Z t) (hW : WM 7 t I) (hn : -7 ≤ num.toInt ∧ num.toInt ≤ 0) (e : o = num.toInt) (hp : ∀ a k, a = t + 17 → P a k) (hK : ∀ (v : Int32) (I2 : jdI), WM 7 t I2 → Fr P I I2 → v.toInt = o → K v I2 J) : Cl G mX12_refuse n 0 0 [.ref (gb G + t), .int num] Z I J (qi Z K) :=
  sfX12_refuse ht (by decide) hW hn (fun v4 I3 hW3 hF3 hp3 => hK v4 I3 hW3 (Fr.tr Fr.rf hF3 (fun a k h => hp a k h)) (by rw [e]; exact hp3))
theorem RX_b {I : jdI} {w : Tw} (hW : WX I) (h : RX I 1 w) : (0 ≤ w.1 ∧ w.1 ≤ 7) ∧ 2 ≤ w.2.2.2.1 ∧ w.2.2.2.1 ≤ 4 := by
  have hw := WX_f hW
  have h1 := h.1
  have h2 := h.2.2.1
  omega
theorem RM_b {I : jdI} {t : Nat} {w : Tw} (hW : WM 7 t I) (h : RM I t w) : (0 ≤ w.1 ∧ w.1 ≤ 7) ∧ 2 ≤ w.2.2.2.1 ∧ w.2.2.2.1 ≤ 4 := by
  have hw := WM_f hW
  have h1 := h.1
  have h2 := h.2.2.1
  omega
/-! knownOf, personOf -/
def oKnown (w : Tw) (x1 x2 : Int32) : Int := if (0 ≤ x1.toInt ∧ x1.toInt < w.1) ∧ (0 ≤ x2.toInt ∧ x2.toInt < w.1) ∧ ¬ x1.toInt = x2.toInt then (w.2.2.2.2.2 x1.toInt.toNat x2.toInt.toNat).toInt else -2
theorem pX11_knownOf {G : jdG} {n : Nat} {Z : jdL} {J : jdJ} {K : Int32 → jdI → jdJ → Prop} {I : jdI} {s : Sd} {x1 x2 : Int32} (hX : zX Z) (hW : WX I) (hs : TX I 1 s) (hK : ∀ (v : Int32) (I2 : jdI), WX I2 → Fr (fun a k => a = 28) I I2 → v.toInt = oKnown s.1 x1 x2 → K v I2 J) : Cl G mX11_knownOf (n + 2) 0 0 [.ref (gb G + 0), .int x1, .int x2] Z I J (qi Z K) := by
  have h1 := hs.1.1
  refine eX11_knownOf hX ?_
  refine sfX9_hasTwo (zX_o0 hX) (Or.inl rfl) hW (fun v2 p2 => ⟨fun c2 => ?_, fun c2 => ?_⟩)
  · have c2 := i0 c2
    exact rfX hX hW (if_neg (by omega)) (by intro a k h; omega) hK
  · have c2 := i1 c2
    refine pX9_since (zX_o0 hX) (Or.inl rfl) hW hs.1 (by omega) (by omega) (by omega) (hK _ I hW Fr.rf ?_)
    unfold oKnown
    rw [if_pos (by omega)]
theorem pX12_knownOf {G : jdG} {n : Nat} {Z : jdL} {J : jdJ} {K : Int32 → jdI → jdJ → Prop} {I : jdI} {t : Nat} {s : Sd} {x1 x2 : Int32} (ht : zModel Z t) (hW : WM 7 t I) (hs : TM I t s) (hK : ∀ (v : Int32) (I2 : jdI), WM 7 t I2 → Fr (fun a k => a = t + 17) I I2 → v.toInt = oKnown s.1 x1 x2 → K v I2 J) : Cl G mX12_knownOf (n + 3) 0 0 [.ref (gb G + t), .int x1, .int x2] Z I J (qi Z K) := by
  have h1 := hs.1.1
  have hw := WM_f hW
  refine eX12_knownOf ht ?_
  refine sfX12_areTwo ht hW (fun v2 p2 => ⟨fun c2 => ?_, fun c2 => ?_⟩)
  · have c2 := i0 c2
    exact rfM ht hW (by decide) (if_neg (by omega)) (by intro a k h; omega) hK
  · have c2 := i1 c2
    refine ⟨vp_of (by omega) (by omega), vp_of (by omega) (by omega), hK _ I hW Fr.rf ?_⟩
    unfold oKnown
    rw [if_pos (by omega)]
    exact congrArg Int32.toInt (hs.1.2.2.2.2 x1.toInt.toNat x2.toInt.toNat (by omega) (by omega) (by omega))
def oPers (w : Tw) (x1 x2 : Int32) : Int := if (0 ≤ x1.toInt ∧ x1.toInt < w.1) ∧ 0 ≤ x2.toInt ∧ x2.toInt ≤ 3 then (if x2.toInt = 0 then (w.2.1 x1.toInt.toNat).toInt else if x2.toInt = 1 then (w.2.2.1 x1.toInt.toNat).toInt else if x2.toInt = 2 then (sset (relW w) x1.toInt.toNat w.1.toNat).toInt else (bs (sset (relW w) x1.toInt.toNat w.1.toNat) 8).toInt) else -2
theorem pX11_personOf {G : jdG} {n : Nat} {Z : jdL} {J : jdJ} {K : Int32 → jdI → jdJ → Prop} {I : jdI} {s : Sd} {x1 x2 : Int32} (hX : zX Z) (hW : WX I) (hs : TX I 1 s) (hK : ∀ (v : Int32) (I2 : jdI), WX I2 → Fr (fun a k => a = 28) I I2 → v.toInt = oPers s.1 x1 x2 → K v I2 J) : Cl G mX11_personOf (n + 2) 0 0 [.ref (gb G + 0), .int x1, .int x2] Z I J (qi Z K) := by
  have h1 := hs.1.1
  have hb := RX_b hW hs.1
  have n1 := tn_eq x1
  refine eX11_personOf hX ?_
  refine sfX9_has (zX_o0 hX) (Or.inl rfl) hW (fun v2 p2 => ⟨fun c2 => ?_, fun c2 => ?_⟩)
  · have c2 := i1 c2
    have e9 := hs.1.2.1 x1.toInt.toNat (by omega)
    refine ⟨fun c => ?_, fun c => ⟨vp_of (by omega) (by omega), hK _ I hW Fr.rf ?_⟩, fun c => ⟨vp_of (by omega) (by omega), hK _ I hW Fr.rf ?_⟩, fun c => ?_, fun c => ?_⟩
    · exact rfX hX hW (if_neg (by omega)) (by intro a k h; omega) hK
    · unfold oPers
      rw [if_pos (by omega), if_pos c]
      exact congrArg Int32.toInt e9.1
    · unfold oPers
      rw [if_pos (by omega), if_neg (by omega), if_pos c]
      exact congrArg Int32.toInt e9.2
    · refine pX9_strangersTo (a := x1.toInt.toNat) (zX_o0 hX) (Or.inl rfl) hW hs.1 (by omega) (by omega) (hK _ I hW Fr.rf ?_)
      unfold oPers
      rw [if_pos (by omega), if_neg (by omega), if_neg (by omega), if_pos c]
    · refine pX9_strangersTo (a := x1.toInt.toNat) (zX_o0 hX) (Or.inl rfl) hW hs.1 (by omega) (by omega) ?_
      refine pJ6_bitCount (sset_r _ _ _ (by omega)) (hK _ I hW Fr.rf ?_)
      unfold oPers
      rw [if_pos (by omega), if_neg (by omega), if_neg (by omega), if_neg (by omega)]
  · have c2 := i0 c2
    exact rfX hX hW (if_neg (by omega)) (by intro a k h; omega) hK
theorem pX12_personOf {G : jdG} {n : Nat} {Z : jdL} {J : jdJ} {K : Int32 → jdI → jdJ → Prop} {I : jdI} {t : Nat} {s : Sd} {x1 x2 : Int32} (ht : zModel Z t) (hW : WM 7 t I) (hs : TM I t s) (hK : ∀ (v : Int32) (I2 : jdI), WM 7 t I2 → Fr (fun a k => a = t + 17) I I2 → v.toInt = oPers s.1 x1 x2 → K v I2 J) : Cl G mX12_personOf (n + 2) 0 0 [.ref (gb G + t), .int x1, .int x2] Z I J (qi Z K) := by
  have h1 := hs.1.1
  have hw := WM_f hW
  have hb := RM_b hW hs.1
  have n1 := tn_eq x1
  have e2 : (Int32.toInt64 x2).toInt = x2.toInt := Int32.toInt_toInt64 _
  have z0 : (0 : Int64).toInt = 0 := rfl
  have z3 : (3 : Int64).toInt = 3 := rfl
  have hg := GM_RM hs.1 (by omega) (by omega)
  refine eX12_personOf ht ?_
  refine sfX12_isOne ht hW (fun v2 p2 => ⟨fun c2 => ?_, fun c2 => ?_⟩)
  · have c2 := i0 c2
    exact rfM ht hW (by decide) (if_neg (by omega)) (by intro a k h; omega) hK
  · have c2 := i1 c2
    have e9 := hs.1.2.1 x1.toInt.toNat (by omega)
    refine sfX12_in trivial (fun v6 p6 => ⟨fun c6 => ?_, fun c6 => ?_⟩)
    · have c6 := i1 c6
      refine ⟨fun c => ?_, fun c => ⟨vp_of (by omega) (by omega), hK _ I hW Fr.rf ?_⟩, fun c => ⟨vp_of (by omega) (by omega), hK _ I hW Fr.rf ?_⟩, fun c => ?_⟩
      · refine pX12_strangersOf (a := x1.toInt.toNat) ht hg (by omega) (by omega) (by omega) ?_
        refine sfX12_bits trivial (fun v10 p10 => hK v10 I hW Fr.rf ?_)
        unfold oPers
        rw [if_pos (by omega), if_neg (by omega), if_neg (by omega), if_neg (by omega), p10]
      · unfold oPers
        rw [if_pos (by omega), if_pos c]
        exact congrArg Int32.toInt e9.1
      · unfold oPers
        rw [if_pos (by omega), if_neg (by omega), if_pos c]
        exact congrArg Int32.toInt e9.2
      · refine pX12_strangersOf (a := x1.toInt.toNat) ht hg (by omega) (by omega) (by omega) (hK _ I hW Fr.rf ?_)
        unfold oPers
        rw [if_pos (by omega), if_neg (by omega), if_neg (by omega), if_pos c]
    · have c6 := i0 c6
      exact rfM ht hW (by decide) (if_neg (by omega)) (by intro a k h; omega) hK
/-! sets: isGroup, groups, firstOf, most -/
def oSet (w : Tw) (x : Int32) (f : Int) : Int := if 0 ≤ x.toInt ∧ x.toInt < 2 ^ w.1.toNat then f else -2
theorem pX_set {G : jdG} {n : Nat} {Z : jdL} {J : jdJ} {K : Int32 → jdI → jdJ → Prop} {T : jdI → jdJ → Prop} {I : jdI} {w : Tw} {x1 : Int32} {f : Int} (hX : zX Z) (hW : WX I) (hw : RX I 1 w) (hk : OKT w) (hK : ∀ (v : Int32) (I2 : jdI), WX I2 → Fr (fun a k => (13 ≤ a ∧ a ≤ 24) ∨ a = 28) I I2 → v.toInt = oSet w x1 f → K v I2 J) (hT : ∀ I2, 0 ≤ x1.toInt → x1.toInt < 2 ^ w.1.toNat → WX I2 → Fr (fun a k => (13 ≤ a ∧ a ≤ 24) ∨ a = 28) I I2 → TL I2 w → (I2 13 10).toInt = 0 → T I2 J) : Cl G mX9_hasAll (n + 7) 0 0 [.ref (gb G + 1), .int x1] Z I J (qi Z (fun v2 I1 J1 => ((¬ v2 = 0 → Cl G mX8_load (n + 7) 0 0 [.ref (gb G + 13), .ref (gb G + 1)] Z I1 J1 (qv Z (fun I3 J3 => T I3 J3))) ∧ (v2 = 0 → Cl G mX11_refuse (n + 7) 0 0 [.ref (gb G + 0), .int (-2)] Z I1 J1 (qi Z (fun v8 I7 J7 => K v8 I7 J7)))))) := by
  refine pX9_hasAll (zX_o0 hX) (Or.inl rfl) hW hw.1 (fun v2 p2 => ⟨fun c2 => ?_, fun c2 => ?_⟩)
  · have c2 := i1 c2
    exact pX8_load (zX_o3 hX) (zX_o0 hX) (Or.inl rfl) hW hw (OKT_sy hk) (fun I1 hW1 hF1 hT1 hc1 => hT I1 (by omega) (by omega) hW1 (Fr.tr Fr.rf hF1 (by intro a k h; omega)) hT1 hc1)
  · have c2 := i0 c2
    exact rfX hX hW (if_neg (by omega)) (by intro a k h; omega) hK
theorem oSet_y {w : Tw} {x : Int32} {f : Int} (h0 : 0 ≤ x.toInt) (h1 : x.toInt < 2 ^ w.1.toNat) : oSet w x f = f := if_pos ⟨h0, h1⟩
def oIsG (w : Tw) (x : Int32) : Int := oSet w x (if x ∈ LW w then 1 else 0)
theorem LW_70 {w : Tw} (h : (0 ≤ w.1 ∧ w.1 ≤ 7) ∧ 2 ≤ w.2.2.2.1 ∧ w.2.2.2.1 ≤ 4) : (LW w).length ≤ 70 := DL_70 (relW w) (by omega) (by omega)
theorem LW_g {w : Tw} (h : (0 ≤ w.1 ∧ w.1 ≤ 7) ∧ 2 ≤ w.2.2.2.1 ∧ w.2.2.2.1 ≤ 4) : GG (LW w) := GG_DL (relW w) (by omega) (by omega)
theorem pX11_isGroup {G : jdG} {n : Nat} {Z : jdL} {J : jdJ} {K : Int32 → jdI → jdJ → Prop} {I : jdI} {s : Sd} {x1 : Int32} (hX : zX Z) (hW : WX I) (hs : TX I 1 s) (hk : OKT s.1) (hK : ∀ (v : Int32) (I2 : jdI), WX I2 → Fr (fun a k => (13 ≤ a ∧ a ≤ 24) ∨ a = 28) I I2 → v.toInt = oIsG s.1 x1 → K v I2 J) : Cl G mX11_isGroup (n + 8) 0 0 [.ref (gb G + 0), .int x1] Z I J (qi Z K) := by
  have hb := RX_b hW hs.1
  refine eX11_isGroup hX (pX_set (f := if x1 ∈ LW s.1 then 1 else 0) hX hW hs.1 hk hK (fun I2 h0 h1 hW2 hF2 hT2 _ => ?_))
  refine pX8_isOne (L := LW s.1) (zX_o3 hX) hT2.2.2.1 (LW_70 hb) hT2.2.2.2 (fun v p => ⟨fun c => hK 0 I2 hW2 hF2 ?_, fun c => hK 1 I2 hW2 hF2 ?_⟩)
  · have c := i0 c
    unfold oIsG
    rw [oSet_y h0 h1, if_neg (p.elim (fun q => by omega) (fun q => q.2))]
    rfl
  · have c := i1 c
    unfold oIsG
    rw [oSet_y h0 h1, if_pos (p.elim (fun q => q.2) (fun q => by omega))]
    rfl
theorem pX12_isGroup {G : jdG} {n : Nat} {Z : jdL} {J : jdJ} {K : Int32 → jdI → jdJ → Prop} {I : jdI} {t : Nat} {s : Sd} {x1 : Int32} (ht : zModel Z t) (hW : WM 7 t I) (hs : TM I t s) (hK : ∀ (v : Int32) (I2 : jdI), WM 7 t I2 → Fr (fun a k => a = t + 17) I I2 → v.toInt = oIsG s.1 x1 → K v I2 J) : Cl G mX12_isGroup (n + 2) 0 0 [.ref (gb G + t), .int x1] Z I J (qi Z K) := by
  have hb := RM_b hW hs.1
  refine eX12_isGroup ht ?_
  refine pX12_isSet ht hW hs.1.1 (fun v2 p2 => ⟨fun c2 => ?_, fun c2 => ?_⟩)
  · have c2 := i1 c2
    have hIG : x1 ∈ LW s.1 ↔ IG (relW s.1) s.1.1.toNat s.1.2.2.2.1.toNat x1 := IG_mem (relW s.1) (N := s.1.1.toNat) (st := s.1.2.2.2.1.toNat) (g := x1) (by omega) (by omega) (by omega)
    refine pX12_isGroupNow ht (GM_RM hs.1 (by omega) (by omega)) (by omega) (fun v p => ⟨fun c => hK 0 I hW Fr.rf ?_, fun c => hK 1 I hW Fr.rf ?_⟩)
    · have c := i0 c
      unfold oIsG
      rw [oSet_y (by omega) (by omega), if_neg (fun z => (p.elim (fun q => by omega) (fun q => q.2)) (hIG.mp z))]
      rfl
    · have c := i1 c
      unfold oIsG
      rw [oSet_y (by omega) (by omega), if_pos (hIG.mpr (p.elim (fun q => q.2) (fun q => by omega)))]
      rfl
  · have c2 := i0 c2
    exact rfM ht hW (by decide) (if_neg (by omega)) (by intro a k h; omega) hK
/-- how many of a list are in a set, c before -/
def cnt (s : Int32) : List Int32 → Int32 → Int32
  | [], c => c
  | g :: L, c => cnt s L (if sbs s g = true then c + 1 else c)
theorem cnt_y {s g : Int32} {L : List Int32} {c : Int32} (h : sbs s g = true) : cnt s (g :: L) c = cnt s L (c + 1) := by
  show cnt s L (if sbs s g = true then c + 1 else c) = _
  rw [if_pos h]
theorem cnt_n {s g : Int32} {L : List Int32} {c : Int32} (h : ¬ sbs s g = true) : cnt s (g :: L) c = cnt s L c := by
  show cnt s L (if sbs s g = true then c + 1 else c) = _
  rw [if_neg h]
theorem pX8_countIn_4 {G : jdG} {n rc rs : Nat} {Z : jdL} {J : jdJ} {K : Int32 → jdI → jdJ → Prop} {I : jdI} {L : List Int32} {x1 R : Int32} (ht : zTies Z 13) (hc : (I 13 8).toInt = (L.length : Int)) (h70 : L.length ≤ 70) (hL : LiS I (13 + 3) L) (hK : K R I J) : ∀ f : Nat, ∀ x2 x3 : Int32, 0 ≤ x3.toInt → x3.toInt + (f : Int) = (L.length : Int) → cnt x1 (L.drop x3.toInt.toNat) x2 = R → Jd G mX8_countIn (jdFm G (qi Z K)) n rc rs 4 [(0, .ref (gb G + 13)), (1, .int x1), (2, .int x2), (3, .int x3)] [] Z I J := by
  intro f
  induction f with
  | zero =>
    intro x2 x3 h3 hf hr
    rw [drop_end (show L.length ≤ x3.toInt.toNat by omega)] at hr
    have hr : x2 = R := hr
    subst hr
    exact rX8_countIn_4 ht ⟨fun _ => hK, fun h => absurd (Int32.le_iff_toInt_le.mpr (by omega)) h⟩
  | succ f ih =>
    intro x2 x3 h3 hf hr
    have q1 : (1 : Int32).toInt = 1 := rfl
    have e3 := i32_add x3 1 (by omega) (by omega)
    have n3 := tn_eq x3
    rw [LiS_drop hL (k := x3.toInt.toNat) (by omega)] at hr
    have en : (x3 + 1).toInt.toNat = x3.toInt.toNat + 1 := by omega
    refine rX8_countIn_4 ht ⟨fun h => by have := Int32.le_iff_toInt_le.mp h; omega, fun _ => ⟨vp_of (by omega) (by omega), vp_of (by omega) (by omega), fun hv => ?_, fun hv => ?_⟩⟩
    · rw [Int32.add_zero]
      rw [n3] at hv
      rw [cnt_n (fun z => hv (sbs_x.mpr z)), ← en] at hr
      exact ih _ (x3 + 1) (by omega) (by omega) hr
    · rw [n3] at hv
      rw [cnt_y (sbs_x.mp hv), ← en] at hr
      exact ih _ (x3 + 1) (by omega) (by omega) hr
theorem pX8_countIn {G : jdG} {n : Nat} {Z : jdL} {J : jdJ} {K : Int32 → jdI → jdJ → Prop} {I : jdI} {L : List Int32} {x1 : Int32} (ht : zTies Z 13) (hc : (I 13 8).toInt = (L.length : Int)) (h70 : L.length ≤ 70) (hL : LiS I (13 + 3) L) (hK : K (cnt x1 L 0) I J) : Cl G mX8_countIn n 0 0 [.ref (gb G + 13), .int x1] Z I J (qi Z K) :=
  eX8_countIn ht (pX8_countIn_4 ht hc h70 hL hK L.length 0 0 (by decide) (by show (0 : Int) + _ = _; omega) rfl)
theorem pX12_groupsOf_8 {G : jdG} {n rc rs : Nat} {Z : jdL} {J : jdJ} {K : Int32 → jdI → jdJ → Prop} {I : jdI} {t : Nat} {L : List Int32} {x1 R : Int32} (ht : zModel Z t) (hc : (I t 30).toInt = (L.length : Int)) (h70 : L.length ≤ 70) (hL : LiS I (t + 30) L) (hK : K R I J) : ∀ f : Nat, ∀ x2 x3 : Int32, 0 ≤ x3.toInt → x3.toInt + (f : Int) = (L.length : Int) → cnt x1 (L.drop x3.toInt.toNat) x2 = R → Jd G mX12_groupsOf (jdFm G (qi Z K)) (n + 1) rc rs 8 [(0, .ref (gb G + t)), (1, .int x1), (2, .int x2), (3, .int x3)] [] Z I J := by
  intro f
  induction f with
  | zero =>
    intro x2 x3 h3 hf hr
    rw [drop_end (show L.length ≤ x3.toInt.toNat by omega)] at hr
    have hr : x2 = R := hr
    subst hr
    exact rX12_groupsOf_8 ht ⟨fun _ => hK, fun h => absurd (Int32.le_iff_toInt_le.mpr (by omega)) h⟩
  | succ f ih =>
    intro x2 x3 h3 hf hr
    have q1 : (1 : Int32).toInt = 1 := rfl
    have e3 := i32_add x3 1 (by omega) (by omega)
    have n3 := tn_eq x3
    rw [LiS_drop hL (k := x3.toInt.toNat) (by omega)] at hr
    have en : (x3 + 1).toInt.toNat = x3.toInt.toNat + 1 := by omega
    refine rX12_groupsOf_8 ht ⟨fun h => by have := Int32.le_iff_toInt_le.mp h; omega, fun _ => ⟨vp_of (by omega) (by omega), fun hv => ?_, fun hv => ?_⟩⟩
    · rw [Int32.add_zero]
      rw [n3] at hv
      rw [cnt_n (fun z => hv (sbs_m.mpr z)), ← en] at hr
      exact ih _ (x3 + 1) (by omega) (by omega) hr
    · rw [n3] at hv
      rw [cnt_y (sbs_m.mp hv), ← en] at hr
      exact ih _ (x3 + 1) (by omega) (by omega) hr
theorem pX12_groupsOf {G : jdG} {n : Nat} {Z : jdL} {J : jdJ} {K : Int32 → jdI → jdJ → Prop} {I : jdI} {c : Int} {t N st : Nat} {rel : Nat → Nat → Bool} {x1 : Int32} (ht : zModel Z t) (hW : WM c t I) (hg : GM I t N st rel) (hN : N ≤ 8) (hst : st ≤ 4) (hK : ∀ I2 : jdI, WM c t I2 → Fr (fun a k => (a = t ∧ k = 30) ∨ a = t + 30) I I2 → K (cnt x1 (DL rel N 0 st 0) 0) I2 J) : Cl G mX12_groupsOf (n + 7) 0 0 [.ref (gb G + t), .int x1] Z I J (qi Z K) := by
  refine eX12_groupsOf ht ?_
  refine pX12_listAll ht hW hg hN hst (fun I1 hW1 hF1 hc1 hL1 => ?_)
  exact pX12_groupsOf_8 ht hc1 (DL_70 rel hN hst) hL1 (hK I1 hW1 hF1) (DL rel N 0 st 0).length 0 0 (by decide) (by show (0 : Int) + _ = _; omega) rfl
def oGrps (w : Tw) (x : Int32) : Int := oSet w x (cnt x (LW w) 0).toInt
theorem pX11_groups {G : jdG} {n : Nat} {Z : jdL} {J : jdJ} {K : Int32 → jdI → jdJ → Prop} {I : jdI} {s : Sd} {x1 : Int32} (hX : zX Z) (hW : WX I) (hs : TX I 1 s) (hk : OKT s.1) (hK : ∀ (v : Int32) (I2 : jdI), WX I2 → Fr (fun a k => (13 ≤ a ∧ a ≤ 24) ∨ a = 28) I I2 → v.toInt = oGrps s.1 x1 → K v I2 J) : Cl G mX11_groups (n + 8) 0 0 [.ref (gb G + 0), .int x1] Z I J (qi Z K) := by
  have hb := RX_b hW hs.1
  refine eX11_groups hX (pX_set (f := (cnt x1 (LW s.1) 0).toInt) hX hW hs.1 hk hK (fun I2 h0 h1 hW2 hF2 hT2 _ => ?_))
  exact pX8_countIn (L := LW s.1) (zX_o3 hX) hT2.2.2.1 (LW_70 hb) hT2.2.2.2 (hK _ I2 hW2 hF2 (oSet_y h0 h1).symm)
theorem pX12_groups {G : jdG} {n : Nat} {Z : jdL} {J : jdJ} {K : Int32 → jdI → jdJ → Prop} {I : jdI} {t : Nat} {s : Sd} {x1 : Int32} (ht : zModel Z t) (hW : WM 7 t I) (hs : TM I t s) (hK : ∀ (v : Int32) (I2 : jdI), WM 7 t I2 → Fr (fun a k => (a = t ∧ k = 30) ∨ a = t + 30 ∨ a = t + 17) I I2 → v.toInt = oGrps s.1 x1 → K v I2 J) : Cl G mX12_groups (n + 12) 0 0 [.ref (gb G + t), .int x1] Z I J (qi Z K) := by
  have hb := RM_b hW hs.1
  refine eX12_groups ht ?_
  refine pX12_isSet ht hW hs.1.1 (fun v2 p2 => ⟨fun c2 => ?_, fun c2 => ?_⟩)
  · have c2 := i0 c2
    exact rfM ht hW (by decide) (if_neg (by omega)) (by intro a k h; omega) hK
  · have c2 := i1 c2
    exact pX12_groupsOf ht hW (GM_RM hs.1 (by omega) (by omega)) (by omega) (by omega) (fun I2 hW2 hF2 => hK _ I2 hW2 (Fr.tr Fr.rf hF2 (by intro a k h; omega)) (oSet_y (by omega) (by omega)).symm)
def oFst (w : Tw) (x : Int32) : Int := oSet w x (fstIn x (LW w)).toInt
theorem pX11_firstOf {G : jdG} {n : Nat} {Z : jdL} {J : jdJ} {K : Int32 → jdI → jdJ → Prop} {I : jdI} {s : Sd} {x1 : Int32} (hX : zX Z) (hW : WX I) (hs : TX I 1 s) (hk : OKT s.1) (hK : ∀ (v : Int32) (I2 : jdI), WX I2 → Fr (fun a k => (13 ≤ a ∧ a ≤ 24) ∨ a = 28) I I2 → v.toInt = oFst s.1 x1 → K v I2 J) : Cl G mX11_firstOf (n + 8) 0 0 [.ref (gb G + 0), .int x1] Z I J (qi Z K) := by
  have hb := RX_b hW hs.1
  refine eX11_firstOf hX (pX_set (f := (fstIn x1 (LW s.1)).toInt) hX hW hs.1 hk hK (fun I2 h0 h1 hW2 hF2 hT2 _ => ?_))
  exact pX8_firstIn (L := LW s.1) (zX_o3 hX) hT2.2.2.1 (LW_70 hb) hT2.2.2.2 (hK _ I2 hW2 hF2 (oSet_y h0 h1).symm)
theorem pX12_firstOf {G : jdG} {n : Nat} {Z : jdL} {J : jdJ} {K : Int32 → jdI → jdJ → Prop} {I : jdI} {t : Nat} {s : Sd} {x1 : Int32} (ht : zModel Z t) (hW : WM 7 t I) (hs : TM I t s) (hK : ∀ (v : Int32) (I2 : jdI), WM 7 t I2 → Fr (fun a k => (a = t ∧ k = 30) ∨ a = t + 30 ∨ a = t + 17) I I2 → v.toInt = oFst s.1 x1 → K v I2 J) : Cl G mX12_firstOf (n + 11) 0 0 [.ref (gb G + t), .int x1] Z I J (qi Z K) := by
  have hb := RM_b hW hs.1
  refine eX12_firstOf ht ?_
  refine pX12_isSet ht hW hs.1.1 (fun v2 p2 => ⟨fun c2 => ?_, fun c2 => ?_⟩)
  · have c2 := i1 c2
    refine pX12_listAll ht hW (GM_RM hs.1 (by omega) (by omega)) (by omega) (by omega) (fun I2 hW2 hF2 hc hL => ?_)
    exact pX12_firstIn (L := LW s.1) ht hc (LW_70 hb) hL (hK _ I2 hW2 (Fr.tr Fr.rf hF2 (by intro a k h; omega)) (oSet_y (by omega) (by omega)).symm)
  · have c2 := i0 c2
    exact rfM ht hW (by decide) (if_neg (by omega)) (by intro a k h; omega) hK
def oMost (w : Tw) (x : Int32) : Int := oSet w x (MS (LW w) x)
theorem pX11_most {G : jdG} {n : Nat} {Z : jdL} {J : jdJ} {K : Int32 → jdI → jdJ → Prop} {I : jdI} {s : Sd} {x1 : Int32} (hX : zX Z) (hW : WX I) (hs : TX I 1 s) (hk : OKT s.1) (hK : ∀ (v : Int32) (I2 : jdI), WX I2 → Fr (fun a k => (13 ≤ a ∧ a ≤ 24) ∨ a = 28) I I2 → v.toInt = oMost s.1 x1 → K v I2 J) : Cl G mX11_most (n + 8) 0 0 [.ref (gb G + 0), .int x1] Z I J (qi Z K) := by
  have hb := RX_b hW hs.1
  refine eX11_most hX (pX_set (f := MS (LW s.1) x1) hX hW hs.1 hk hK (fun I2 h0 h1 hW2 hF2 hT2 hc2 => ?_))
  exact pX8_mostFrom (L := LW s.1) (N := s.1.1.toNat) (zX_o3 hX) hW2 (PT_TL hT2 hc2).1 (LW_g hb) (by omega) (LW_70 hb) h0 h1 (fun v I3 hW3 _ hF3 hv => hK v I3 hW3 (Fr.tr hF2 hF3 (by intro a k h; omega)) (by rw [hv]; exact (oSet_y h0 h1).symm))
theorem pX12_most {G : jdG} {n : Nat} {Z : jdL} {J : jdJ} {K : Int32 → jdI → jdJ → Prop} {I : jdI} {t : Nat} {s : Sd} {x1 : Int32} (ht : zModel Z t) (hW : WM 7 t I) (hs : TM I t s) (hK : ∀ (v : Int32) (I2 : jdI), WM 7 t I2 → Fr (fun a k => (a = t ∧ k = 30) ∨ a = t + 30 ∨ a = t + 17) I I2 → v.toInt = oMost s.1 x1 → K v I2 J) : Cl G mX12_most (n + 257) 0 0 [.ref (gb G + t), .int x1] Z I J (qi Z K) := by
  have hb := RM_b hW hs.1
  have hp2 := (pw2 ⟨s.1.1.toNat, by omega⟩).2
  have hp2 : (2 : Int) ^ s.1.1.toNat ≤ 256 := hp2
  refine eX12_most ht ?_
  refine pX12_isSet ht hW hs.1.1 (fun v2 p2 => ⟨fun c2 => ?_, fun c2 => ?_⟩)
  · have c2 := i1 c2
    refine pX12_listAll ht hW (GM_RM hs.1 (by omega) (by omega)) (by omega) (by omega) (fun I2 hW2 hF2 hc hL => ?_)
    exact pX12_mostIn (L := LW s.1) ht (LW_g hb) hc (LW_70 hb) hL 255 n _ x1 (by omega) (by omega) (by omega) (fun v hv => hK v I2 hW2 (Fr.tr Fr.rf hF2 (by intro a k h; omega)) (by rw [hv]; exact (oSet_y (by omega) (by omega)).symm))
  · have c2 := i0 c2
    exact rfM ht hW (by decide) (if_neg (by omega)) (by intro a k h; omega) hK
/-! sends, says -/
def pkW (w : Tw) (kd : Int) (a y : Int32) (tc : Int) : Int := (pk w.1.toNat (relW w) w.2.2.1 (LW w) kd a y tc).toInt
def oSends (w : Tw) (c kd : Int) (a x2 x3 : Int32) : Int := if (0 ≤ x2.toInt ∧ x2.toInt < 2 ^ w.1.toNat) ∧ 0 ≤ x3.toInt ∧ x3.toInt ≤ 7 then anM c (pkW w kd a x2 x3.toInt) else -2
theorem pX11_sends {G : jdG} {n : Nat} {Z : jdL} {J : jdJ} {K : Int32 → jdI → jdJ → Prop} {I : jdI} {s : Sd} {x1 x2 x3 : Int32} (hX : zX Z) (hM : zMen Z) (hA : zHi Z) (hW : WX I) (hs : TX I 1 s) (hk : OKT s.1) (hK : ∀ (v : Int32) (I2 : jdI), WX I2 → Fr (fun a k => (13 ≤ a ∧ a ≤ 24) ∨ a = 28) I I2 → v.toInt = oSends s.1 (cX Z I x1) (mk Z (Int32.toNatClampNeg x1)) (aX Z I x1) x2 x3 → K v I2 J) : Cl G mX11_sends (n + 8) 0 0 [.ref (gb G + 0), .int x1, .int x2, .int x3] Z I J (qi Z K) := by
  have n1 := tn_eq x1
  have q0 : (0 : Int32).toInt = 0 := rfl
  have q7 : (7 : Int32).toInt = 7 := rfl
  have hb := RX_b hW hs.1
  refine eX11_sends hX ?_
  refine pX9_hasAll (zX_o0 hX) (Or.inl rfl) hW hs.1.1 (fun v2 p2 => ⟨fun c2 => ?_, fun c2 => ⟨fun c3 => ?_, fun c3 => ⟨fun c4 => ?_, fun c4 => ?_⟩⟩⟩)
  · have c2 := i0 c2
    exact rfX hX hW (if_neg (by omega)) (by intro a k h; omega) hK
  · have c3 := Int32.lt_iff_toInt_lt.mp c3
    exact rfX hX hW (if_neg (by omega)) (by intro a k h; omega) hK
  · have c2 := i1 c2
    have c3 := mt Int32.lt_iff_toInt_lt.mpr c3
    have c4 := Int32.le_iff_toInt_le.mp c4
    have ok : (0 ≤ x2.toInt ∧ x2.toInt < 2 ^ s.1.1.toNat) ∧ 0 ≤ x3.toInt ∧ x3.toInt ≤ 7 := by omega
    refine pX_man hX hW (fun v I2 hc hW2 hF2 hv => hK v I2 hW2 (Fr.tr Fr.rf hF2 (by intro a k h; omega)) ?_) (fun w hx hc hw => ?_)
    · unfold oSends anM
      rw [if_pos ok, if_neg hc]
      exact hv
    · obtain ⟨ci, hci, hz⟩ := hM _ (by omega) w hw
      have hu := hA _ (by omega) w hw
      refine pX8_load (zX_o3 hX) (zX_o0 hX) (Or.inl rfl) hW hs.1 (OKT_sy hk) (fun I1 hW1 hF1 hT1 hc1 => ⟨⟨ci, hci, hz⟩, ?_⟩)
      refine p_pick (N := s.1.1.toNat) (zX_o3 hX) hz hci (LW_g hb) (by omega) (LW_70 hb) ok.1.1 ok.1.2 ok.2.1 hW1 (PT_TL hT1 hc1) (fun I2 hW2 hP2 hF2 => hK _ I2 hW2 (Fr.tr (Fr.tr Fr.rf hF1 (by intro a k h; omega)) hF2 (by intro a k h; omega)) ?_)
      unfold oSends anM
      rw [if_pos ok, if_pos hc, mk_some hw, aX_some hw, hF1 w 0 (by omega)]
      rfl
  · have c4 := mt Int32.le_iff_toInt_le.mpr c4
    exact rfX hX hW (if_neg (by omega)) (by intro a k h; omega) hK
theorem cM_out {I : jdI} {t : Nat} {x : Int32} (h : ¬ (0 ≤ x.toInt ∧ x.toInt < 8)) : cM I t x = -2 := if_neg h
theorem pX12_sends {G : jdG} {n : Nat} {Z : jdL} {J : jdJ} {K : Int32 → jdI → jdJ → Prop} {I : jdI} {t : Nat} {s : Sd} {x1 x2 x3 : Int32} (ht : zModel Z t) (hW : WM 7 t I) (hs : TM I t s) (hK : ∀ (v : Int32) (I2 : jdI), WM 7 t I2 → Fr (fun a k => (a = t ∧ k = 30) ∨ a = t + 30 ∨ a = t + 17) I I2 → v.toInt = oSends s.1 (cM I t x1) (I (t + 14) (Int32.toNatClampNeg x1)).toInt (I (t + 15) (Int32.toNatClampNeg x1)) x2 x3 → K v I2 J) : Cl G mX12_sends (n + 259) 0 0 [.ref (gb G + t), .int x1, .int x2, .int x3] Z I J (qi Z K) := by
  have n1 := tn_eq x1
  have hb := RM_b hW hs.1
  have hwm := WM_f hW
  have e1 : (Int32.toInt64 x1).toInt = x1.toInt := Int32.toInt_toInt64 _
  have e3 : (Int32.toInt64 x3).toInt = x3.toInt := Int32.toInt_toInt64 _
  have z0 : (0 : Int64).toInt = 0 := rfl
  have z7 : (7 : Int64).toInt = 7 := rfl
  have hp2 := (pw2 ⟨s.1.1.toNat, by omega⟩).2
  have hp2 : (2 : Int) ^ s.1.1.toNat ≤ 256 := hp2
  refine eX12_sends ht ?_
  refine sfX12_in trivial (fun v2 p2 => ⟨fun c2 => ?_, fun c2 => ?_⟩)
  · have c2 := i0 c2
    refine rfM ht hW (by decide) ?_ (by intro a k h; omega) hK
    unfold oSends
    rw [cM_out (by omega)]
    split
    · exact if_neg (by decide)
    · rfl
  · have c2 := i1 c2
    refine pX12_isSet ht hW hs.1.1 (fun v6 p6 => ⟨fun c6 => ?_, fun c6 => ?_⟩)
    · have c6 := i0 c6
      exact rfM ht hW (by decide) (if_neg (by omega)) (by intro a k h; omega) hK
    · have c6 := i1 c6
      refine sfX12_in trivial (fun v10 p10 => ⟨fun c10 => ?_, fun c10 => ?_⟩)
      · have c10 := i1 c10
        have ok : (0 ≤ x2.toInt ∧ x2.toInt < 2 ^ s.1.1.toNat) ∧ 0 ≤ x3.toInt ∧ x3.toInt ≤ 7 := by omega
        refine pX12_noMan ht hW (fun v12 I1 hW1 hF1 hv hr => ⟨fun c12 => ?_, fun c12 => ?_⟩)
        · have c12 := i0 c12
          have hr := hr (by omega)
          refine ⟨vp_of (by omega) (by omega), vp_of (by omega) (by omega), ?_⟩
          rw [hF1 (t + 14) _ (by omega), hF1 (t + 15) _ (by omega)]
          have hs1 := RM_fr hs.1 (by omega) hF1 (by omega) (by omega) (by omega) (by intro a k h1 h2 h3; omega)
          refine pX12_sentBy (c := s.1.2.2.1) ht hW1 (GM_RM hs1 (by omega) (by omega)) (by omega) ⟨by omega, by omega⟩ (fun p hp => (hs1.2.1 p (by omega)).2) ok.1.1 (by omega) (fun I2 hW2 hF2 => hK _ I2 hW2 (Fr.tr (Fr.tr Fr.rf hF1 (by intro a k h; omega)) hF2 (by intro a k h; omega)) ?_)
          unfold oSends anM
          rw [if_pos ok, if_pos (by omega)]
          rfl
        · have c12 := i1 c12
          refine hK v12 I1 hW1 (Fr.tr Fr.rf hF1 (by intro a k h; omega)) ?_
          unfold oSends anM
          rw [if_pos ok, if_neg (by omega)]
          exact hv
      · have c10 := i0 c10
        exact rfM ht hW (by decide) (if_neg (by omega)) (by intro a k h; omega) hK
/-- whether one of a kind is taken for another -/
def und (m o : Int) : Prop := o = 0 ∨ m = o ∨ (o = 1 ∧ m = 3) ∨ (o = 2 ∧ 4 ≤ m)
def undD (m o : Int) : Decidable (und m o) := by
  unfold und
  exact inferInstance
def oSays (w : Tw) (c kd : Int) (a x2 : Int32) : Int := if 0 ≤ x2.toInt ∧ x2.toInt ≤ 5 then anM c (@ite _ (und kd x2.toInt) (undD kd x2.toInt) (if x2.toInt = 0 then a.toInt else pkW w kd a (((1 : Int32) <<< (Int32.ofInt w.1 &&& 31)) - 1) 0) (-3)) else -2
theorem isOf_u {ci : Nat} {x : Int32} {o : Option (Nat × Nat)} (ho : o = some (ci + 10, 0)) (hci : ci = 0 ∨ ci = 1 ∨ ci = 3 ∨ ci = 6 ∨ ci = 9) (hx : 0 ≤ x.toInt ∧ x.toInt ≤ 5) : (isOfF ci x = 0 ↔ ¬ und (ckI o) x.toInt) := by
  have hx2 : x = 0 ∨ x = 1 ∨ x = 2 ∨ x = 3 ∨ x = 4 ∨ x = 5 := by
    rcases (by omega : x.toInt = 0 ∨ x.toInt = 1 ∨ x.toInt = 2 ∨ x.toInt = 3 ∨ x.toInt = 4 ∨ x.toInt = 5) with h | h | h | h | h | h
    · exact Or.inl (Int32.toInt_inj.mp h)
    · exact Or.inr (Or.inl (Int32.toInt_inj.mp h))
    · exact Or.inr (Or.inr (Or.inl (Int32.toInt_inj.mp h)))
    · exact Or.inr (Or.inr (Or.inr (Or.inl (Int32.toInt_inj.mp h))))
    · exact Or.inr (Or.inr (Or.inr (Or.inr (Or.inl (Int32.toInt_inj.mp h)))))
    · exact Or.inr (Or.inr (Or.inr (Or.inr (Or.inr (Int32.toInt_inj.mp h)))))
  rw [ho]
  unfold und
  rcases hci with rfl | rfl | rfl | rfl | rfl <;> rcases hx2 with rfl | rfl | rfl | rfl | rfl | rfl <;> decide
theorem pX11_says {G : jdG} {n : Nat} {Z : jdL} {J : jdJ} {K : Int32 → jdI → jdJ → Prop} {I : jdI} {sA sV : Nat → Nat} {s : Sd} {x1 x2 : Int32} (hG : gOK G sA sV) (hX : zX Z) (hM : zMen Z) (hA : zHi Z) (hW : WX I) (hs : TX I 1 s) (hk : OKT s.1) (hK : ∀ (v : Int32) (I2 : jdI), WX I2 → Fr (fun a k => (13 ≤ a ∧ a ≤ 24) ∨ a = 28) I I2 → v.toInt = oSays s.1 (cX Z I x1) (mk Z (Int32.toNatClampNeg x1)) (aX Z I x1) x2 → K v I2 J) : Cl G mX11_says (n + 8) 0 0 [.ref (gb G + 0), .int x1, .int x2] Z I J (qi Z K) := by
  have n1 := tn_eq x1
  have q0 : (0 : Int32).toInt = 0 := rfl
  have q6 : (6 : Int32).toInt = 6 := rfl
  have hb := RX_b hW hs.1
  have h1 : (I 1 3).toInt = s.1.1 := hs.1.1
  refine eX11_says hX ?_
  refine sfX11_isShelf hW (fun v2 p2 => ⟨fun c2 => ?_, fun c2 => ⟨fun c3 => ?_, fun c3 => ⟨fun c4 => ?_, fun c4 => ?_⟩⟩⟩)
  · have c2 := i0 c2
    refine rfX hX hW ?_ (by intro a k h; omega) hK
    have e : cX Z I x1 = -2 := if_neg (by omega)
    unfold oSays
    rw [e]
    split
    · exact if_neg (by decide)
    · rfl
  · have c3 := Int32.lt_iff_toInt_lt.mp c3
    exact rfX hX hW (if_neg (by omega)) (by intro a k h; omega) hK
  · have c2 := i1 c2
    have c3 := mt Int32.lt_iff_toInt_lt.mpr c3
    have c4 := Int32.lt_iff_toInt_lt.mp c4
    have ok : 0 ≤ x2.toInt ∧ x2.toInt ≤ 5 := by omega
    refine pX_man hX hW (fun v I2 hc hW2 hF2 hv => hK v I2 hW2 (Fr.tr Fr.rf hF2 (by intro a k h; omega)) ?_) (fun w hx hc hw => ?_)
    · unfold oSays anM
      rw [if_pos ok, if_neg hc]
      exact hv
    · obtain ⟨ci, hci, hz⟩ := hM _ (by omega) w hw
      have hu := hA _ (by omega) w hw
      have hun := isOf_u (x := x2) hz hci ok
      refine ⟨⟨ci, hci, hz⟩, fun q hq hq2 => ?_⟩
      have go : Cl G mX2_isOf (n + 7) 0 0 [.ref (gb G + w), .int x2] Z I J (qi Z (fun v14 I13 J13 => ((¬ v14 = 0 → ((¬ x2 = 0 → Cl G mX8_load (n + 7) 0 0 [.ref (gb G + 13), .ref (gb G + 1)] Z I13 J13 (qv Z (fun I16 J16 => Cl G mX9_everybody (n + 7) 0 0 [.ref (gb G + 1)] Z I16 J16 (qi Z (fun v19 I18 J18 => (zMan Z w ∧ ∀ q ∈ a_pick, (Z).1 w = some (q.1 + 10, 0) → Cl G q.2 (n + 7) 0 0 [.ref (gb G + w), .ref (gb G + 13), .int v19, .int 0] Z I18 J18 (qi Z (fun v21 I20 J20 => K v21 I20 J20)))))))) ∧ (x2 = 0 → (zMan Z w ∧ ∀ q ∈ a_number, (Z).1 w = some (q.1 + 10, 0) → Cl G q.2 (n + 7) 0 0 [.ref (gb G + w)] Z I13 J13 (qi Z (fun v24 I23 J23 => K v24 I23 J23)))))) ∧ (v14 = 0 → Cl G mX11_refuse (n + 7) 0 0 [.ref (gb G + 0), .int (-3)] Z I13 J13 (qi Z (fun v27 I26 J26 => K v27 I26 J26)))))) := by
        have main : (¬ isOfF ci x2 = 0 → ((¬ x2 = 0 → Cl G mX8_load (n + 7) 0 0 [.ref (gb G + 13), .ref (gb G + 1)] Z I J (qv Z (fun I16 J16 => Cl G mX9_everybody (n + 7) 0 0 [.ref (gb G + 1)] Z I16 J16 (qi Z (fun v19 I18 J18 => (zMan Z w ∧ ∀ q ∈ a_pick, (Z).1 w = some (q.1 + 10, 0) → Cl G q.2 (n + 7) 0 0 [.ref (gb G + w), .ref (gb G + 13), .int v19, .int 0] Z I18 J18 (qi Z (fun v21 I20 J20 => K v21 I20 J20)))))))) ∧ (x2 = 0 → (zMan Z w ∧ ∀ q ∈ a_number, (Z).1 w = some (q.1 + 10, 0) → Cl G q.2 (n + 7) 0 0 [.ref (gb G + w)] Z I J (qi Z (fun v24 I23 J23 => K v24 I23 J23)))))) ∧ (isOfF ci x2 = 0 → Cl G mX11_refuse (n + 7) 0 0 [.ref (gb G + 0), .int (-3)] Z I J (qi Z (fun v27 I26 J26 => K v27 I26 J26))) := by
          refine ⟨fun hi => ⟨fun h2 => ?_, fun h2 => ⟨⟨ci, hci, hz⟩, fun q hq _ => ?_⟩⟩, fun hi => ?_⟩
          · have hy : und (ckI (Z.1 w)) x2.toInt := Classical.not_not.mp (fun z => hi (hun.mpr z))
            have h2 := i1 h2
            refine pX8_load (zX_o3 hX) (zX_o0 hX) (Or.inl rfl) hW hs.1 (OKT_sy hk) (fun I1 hW1 hF1 hT1 hc1 => ?_)
            refine eX9_everybody (zX_o0 hX) ⟨⟨ci, hci, hz⟩, ?_⟩
            have e3 : I1 1 3 = Int32.ofInt s.1.1 := by rw [hF1 1 3 (by omega), ← h1, ofI]
            rw [e3]
            have ev := (ev_of (x := Int32.ofInt s.1.1) (by rw [← h1, ofI]; omega) (by rw [← h1, ofI]; omega)).2
            rw [show (Int32.ofInt s.1.1).toInt = s.1.1 by rw [← h1, ofI]] at ev
            have hp1 := (pw2 ⟨s.1.1.toNat, by omega⟩).1
            have hp1 : 1 ≤ (2 : Int) ^ s.1.1.toNat := hp1
            refine p_pick (N := s.1.1.toNat) (zX_o3 hX) hz hci (LW_g hb) (by omega) (LW_70 hb) (by omega) (by omega) (by decide) hW1 (PT_TL hT1 hc1) (fun I2 hW2 hP2 hF2 => hK _ I2 hW2 (Fr.tr (Fr.tr Fr.rf hF1 (by intro a k h; omega)) hF2 (by intro a k h; omega)) ?_)
            unfold oSays anM
            rw [if_pos ok, if_pos hc, mk_some hw, aX_some hw, if_pos hy, if_neg h2, hF1 w 0 (by omega)]
            rfl
          · have hy : und (ckI (Z.1 w)) x2.toInt := Classical.not_not.mp (fun z => hi (hun.mpr z))
            have e : q.2 = mX2_number := by
              simp only [a_number, List.mem_cons, List.not_mem_nil, or_false] at hq
              rcases hq with rfl | rfl | rfl | rfl | rfl <;> rfl
            rw [e]
            refine v_number ⟨ci, hci, hz⟩ (hK _ I hW Fr.rf ?_)
            unfold oSays anM
            rw [if_pos ok, if_pos hc, mk_some hw, aX_some hw, if_pos hy, if_pos (by rw [h2]; rfl)]
          · have hy : ¬ und (ckI (Z.1 w)) x2.toInt := hun.mp hi
            refine rfX hX hW ?_ (by intro a k h; omega) hK
            unfold oSays anM
            rw [if_pos ok, if_pos hc, mk_some hw, if_neg hy]
            rfl
        rcases hci with rfl | rfl | rfl | rfl | rfl
        · exact v_isOf_0 hG hz main
        · exact v_isOf_1 hG hz main
        · exact v_isOf_3 hG hz main
        · exact v_isOf_6 hG hz main
        · exact v_isOf_9 hG hz main
      have e : q.2 = mX2_isOf := by
        simp only [a_isOf, List.mem_cons, List.not_mem_nil, or_false] at hq
        rcases hq with rfl | rfl | rfl | rfl | rfl <;> rfl
      rw [e]
      exact go
  · have c4 := mt Int32.lt_iff_toInt_lt.mpr c4
    exact rfX hX hW (if_neg (by omega)) (by intro a k h; omega) hK
theorem pX12_isUnder {G : jdG} {n : Nat} {Z : jdL} {J : jdJ} {K : Int32 → jdI → jdJ → Prop} {I : jdI} {x0 x1 : Int32} (hK : ∀ v : Int32, ((v.toInt = 1 ∧ und x0.toInt x1.toInt) ∨ (v.toInt = 0 ∧ ¬ und x0.toInt x1.toInt)) → K v I J) : Cl G mX12_isUnder n 0 0 [.int x0, .int x1] Z I J (qi Z K) := by
  have nq1 : ¬ x1 = 1 → ¬ x1.toInt = 1 := fun h z => h (Int32.toInt_inj.mp z)
  have nq2 : ¬ x1 = 2 → ¬ x1.toInt = 2 := fun h z => h (Int32.toInt_inj.mp z)
  have q4 : (4 : Int32).toInt = 4 := rfl
  have y : und x0.toInt x1.toInt → K 1 I J := fun h => hK 1 (Or.inl ⟨rfl, h⟩)
  have no : ¬ und x0.toInt x1.toInt → K 0 I J := fun h => hK 0 (Or.inr ⟨rfl, h⟩)
  refine eX12_isUnder ⟨fun h0 => y (Or.inl (by rw [h0]; rfl)), fun h0 => ⟨fun h01 => ⟨fun h1 => ⟨fun h2 => no ?_, fun h2 => ⟨fun h4 => no ?_, fun h4 => y ?_⟩⟩, fun h1 => ⟨fun h3 => no ?_, fun h3 => y ?_⟩⟩, fun h01 => y (Or.inr (Or.inl (by rw [h01])))⟩⟩
  · have h0 := i1 h0
    have h01 : ¬ x0.toInt = x1.toInt := fun z => h01 (Int32.toInt_inj.mp z)
    have h1 := nq1 h1
    have h2 := nq2 h2
    unfold und
    omega
  · have h0 := i1 h0
    have h01 : ¬ x0.toInt = x1.toInt := fun z => h01 (Int32.toInt_inj.mp z)
    have h1 := nq1 h1
    have h4 := Int32.lt_iff_toInt_lt.mp h4
    unfold und
    omega
  · have h2 : x1.toInt = 2 := by rw [h2]; rfl
    have h4 := mt Int32.lt_iff_toInt_lt.mpr h4
    unfold und
    omega
  · have h0 := i1 h0
    have h1 : x1.toInt = 1 := by rw [h1]; rfl
    have h01 : ¬ x0.toInt = x1.toInt := fun z => h01 (Int32.toInt_inj.mp z)
    have h3 : ¬ x0.toInt = 3 := fun z => h3 (Int32.toInt_inj.mp z)
    unfold und
    omega
  · have h1 : x1.toInt = 1 := by rw [h1]; rfl
    have h3 : x0.toInt = 3 := by rw [h3]; rfl
    unfold und
    omega
theorem pX12_says {G : jdG} {n : Nat} {Z : jdL} {J : jdJ} {K : Int32 → jdI → jdJ → Prop} {I : jdI} {t : Nat} {s : Sd} {x1 x2 : Int32} (ht : zModel Z t) (hW : WM 7 t I) (hs : TM I t s) (hc3 : 0 ≤ x1.toInt → x1.toInt < 8 → (I (t + 1) (Int32.toNatClampNeg x1)).toInt = 0 ∨ (I (t + 1) (Int32.toNatClampNeg x1)).toInt = 1 ∨ (I (t + 1) (Int32.toNatClampNeg x1)).toInt = 2) (hK : ∀ (v : Int32) (I2 : jdI), WM 7 t I2 → Fr (fun a k => (a = t ∧ k = 30) ∨ a = t + 30 ∨ a = t + 17) I I2 → v.toInt = oSays s.1 (cM I t x1) (I (t + 14) (Int32.toNatClampNeg x1)).toInt (I (t + 15) (Int32.toNatClampNeg x1)) x2 → K v I2 J) : Cl G mX12_says (n + 259) 0 0 [.ref (gb G + t), .int x1, .int x2] Z I J (qi Z K) := by
  have n1 := tn_eq x1
  have hb := RM_b hW hs.1
  have hwm := WM_f hW
  have h10 : (I t 10).toInt = s.1.1 := hs.1.1
  have e1 : (Int32.toInt64 x1).toInt = x1.toInt := Int32.toInt_toInt64 _
  have e2 : (Int32.toInt64 x2).toInt = x2.toInt := Int32.toInt_toInt64 _
  have z0 : (0 : Int64).toInt = 0 := rfl
  have z7 : (7 : Int64).toInt = 7 := rfl
  have z5 : (5 : Int64).toInt = 5 := rfl
  have q1 : (1 : Int32).toInt = 1 := rfl
  have q2 : (2 : Int32).toInt = 2 := rfl
  have hp2 := pw2 ⟨s.1.1.toNat, by omega⟩
  have hp2 : 1 ≤ (2 : Int) ^ s.1.1.toNat ∧ (2 : Int) ^ s.1.1.toNat ≤ 256 := hp2
  refine eX12_says ht ?_
  refine sfX12_in trivial (fun v2 p2 => ⟨fun c2 => ?_, fun c2 => ?_⟩)
  · have c2 := i0 c2
    refine rfM ht hW (by decide) ?_ (by intro a k h; omega) hK
    unfold oSays
    rw [cM_out (by omega)]
    split
    · exact if_neg (by decide)
    · rfl
  · have c2 := i1 c2
    have hc3 := hc3 (by omega) (by omega)
    refine sfX12_in trivial (fun v6 p6 => ⟨fun c6 => ?_, fun c6 => ?_⟩)
    · have c6 := i1 c6
      have ok : 0 ≤ x2.toInt ∧ x2.toInt ≤ 5 := by omega
      refine ⟨vp_of (by omega) (by omega), fun h1 => ?_, fun h1 => ⟨vp_of (by omega) (by omega), fun h2 => ⟨vp_of (by omega) (by omega), fun h0 => ?_, fun h0 => ?_⟩, fun h2 => ⟨vp_of (by omega) (by omega), ?_⟩⟩⟩
      · have h1 : (I (t + 1) (Int32.toNatClampNeg x1)).toInt = 1 := by rw [h1]; rfl
        refine rfM ht hW (by decide) ?_ (by intro a k h; omega) hK
        have e : cM I t x1 = -3 := by
          unfold cM
          rw [if_pos (by omega), if_pos h1]
        unfold oSays anM
        rw [if_pos ok, e]
        rfl
      · have h0 := i1 h0
        have h1 : ¬ (I (t + 1) (Int32.toNatClampNeg x1)).toInt = 1 := fun z => h1 (Int32.toInt_inj.mp z)
        have h2 : ¬ (I (t + 1) (Int32.toNatClampNeg x1)).toInt = 2 := fun z => h2 (Int32.toInt_inj.mp z)
        omega
      · have h0 := i0 h0
        refine rfM ht hW (by decide) ?_ (by intro a k h; omega) hK
        have e : cM I t x1 = -4 := by
          unfold cM
          rw [if_pos (by omega), if_neg (by omega), if_pos h0]
        unfold oSays anM
        rw [if_pos ok, e]
        rfl
      · have h2 : (I (t + 1) (Int32.toNatClampNeg x1)).toInt = 2 := by rw [h2]; rfl
        have e : cM I t x1 = 0 := by
          unfold cM
          rw [if_pos (by omega), if_neg (by omega), if_neg (by omega)]
        refine pX12_isUnder (fun v23 p23 => ⟨fun c23 => ⟨vp_of (by omega) (by omega), fun h0 => ⟨fun hx => ⟨vp_of (by omega) (by omega), vp_of (by omega) (by omega), ?_⟩, fun hx => ⟨vp_of (by omega) (by omega), hK _ I hW Fr.rf ?_⟩⟩, fun h0 => ?_⟩, fun c23 => ?_⟩)
        · have c23 := i1 c23
          have hx := i1 hx
          have hy : und (I (t + 14) (Int32.toNatClampNeg x1)).toInt x2.toInt := p23.elim (fun q => q.2) (fun q => by omega)
          refine eX12_all ht ?_
          have e3 : I t 10 = Int32.ofInt s.1.1 := by rw [← h10, ofI]
          rw [e3]
          have ev := (ev_of (x := Int32.ofInt s.1.1) (by rw [← h10, ofI]; omega) (by rw [← h10, ofI]; omega)).2
          rw [show (Int32.ofInt s.1.1).toInt = s.1.1 by rw [← h10, ofI]] at ev
          refine pX12_sentBy (c := s.1.2.2.1) ht hW (GM_RM hs.1 (by omega) (by omega)) (by omega) ⟨by omega, by omega⟩ (fun p hp => (hs.1.2.1 p (by omega)).2) (by omega) (by omega) (fun I2 hW2 hF2 => hK _ I2 hW2 (Fr.tr Fr.rf hF2 (by intro a k h; omega)) ?_)
          unfold oSays anM
          rw [if_pos ok, if_pos e, if_pos hy, if_neg hx]
          rfl
        · have c23 := i1 c23
          have hy : und (I (t + 14) (Int32.toNatClampNeg x1)).toInt x2.toInt := p23.elim (fun q => q.2) (fun q => by omega)
          unfold oSays anM
          rw [if_pos ok, if_pos e, if_pos hy, if_pos (by rw [hx]; rfl)]
        · have h0 := i0 h0
          omega
        · have c23 := i0 c23
          have hy : ¬ und (I (t + 14) (Int32.toNatClampNeg x1)).toInt x2.toInt := p23.elim (fun q => by omega) (fun q => q.2)
          refine rfM ht hW (by decide) ?_ (by intro a k h; omega) hK
          unfold oSays anM
          rw [if_pos ok, if_pos e, if_neg hy]
          rfl
    · have c6 := i0 c6
      exact rfM ht hW (by decide) (if_neg (by omega)) (by intro a k h; omega) hK
theorem oSends_c {w : Tw} {c kd kd2 : Int} {a a2 x2 x3 : Int32} (h : c = 0 → kd = kd2 ∧ a = a2) : oSends w c kd a x2 x3 = oSends w c kd2 a2 x2 x3 := by
  unfold oSends anM
  by_cases d : c = 0
  · rw [(h d).1, (h d).2]
  · rw [if_neg d, if_neg d]
theorem oSays_c {w : Tw} {c kd kd2 : Int} {a a2 x2 : Int32} (h : c = 0 → kd = kd2 ∧ a = a2) : oSays w c kd a x2 = oSays w c kd2 a2 x2 := by
  unfold oSays anM
  by_cases d : c = 0
  · rw [(h d).1, (h d).2]
  · rw [if_neg d, if_neg d]
