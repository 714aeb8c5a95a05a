/-! towns with seeds, and operations on them -/
abbrev Sd : Type := Tw × Int32
def TX (I : jdI) (b : Nat) (s : Sd) : Prop := RX I b s.1 ∧ I b 6 = s.2
def TM (I : jdI) (t : Nat) (s : Sd) : Prop := RM I t s.1 ∧ I t 19 = s.2
theorem TX_fr {I I2 : jdI} {b : Nat} {s : Sd} {p : Nat → Nat → Prop} (h : TX I b s) (hF : Fr p I I2) (hp : ∀ a k, b ≤ a → a ≤ b + 3 → ¬ p a k) : TX I2 b s := ⟨RX_fr h.1 hF hp, by rw [hF b 6 (hp b 6 (by omega) (by omega))]; exact h.2⟩
theorem TM_fr {I I2 : jdI} {t : Nat} {s : Sd} {p : Nat → Nat → Prop} (h : TM I t s) (hP : s.1.1 ≤ 8) (hF : Fr p I I2) (h1 : ¬ p t 10) (h2 : ¬ p t 14) (h3 : ¬ p t 15) (h4 : ¬ p t 19) (hp : ∀ a k, t + 18 ≤ a → a ≤ t + 28 → ¬ a = t + 20 → ¬ p a k) : TM I2 t s := ⟨RM_fr h.1 hP hF h1 h2 h3 hp, by rw [hF t 19 h4]; exact h.2⟩
def hourT (w : Tw) (i : Nat) (v : Int32) : Tw := (w.1, (fun j => if j = i then v else w.2.1 j), w.2.2)
def costT (w : Tw) (i : Nat) (v : Int32) : Tw := (w.1, w.2.1, (fun j => if j = i then v else w.2.2.1 j), w.2.2.2)
def oPerson (s : Sd) (x1 x2 : Int32) : Int × Sd := if (0 ≤ x1.toInt ∧ x1.toInt < 24) ∧ 0 ≤ x2.toInt ∧ x2.toInt < 10 then (if s.1.1 < 7 then (s.1.1, (addT s.1 x1 x2, s.2)) else (-6, s)) else (-2, s)
def oChange (s : Sd) (x1 x2 x3 : Int32) : Int × Sd := if (0 ≤ x1.toInt ∧ x1.toInt < s.1.1) ∧ ((x2.toInt = 0 ∧ 0 ≤ x3.toInt ∧ x3.toInt < 24) ∨ (x2.toInt = 1 ∧ 0 ≤ x3.toInt ∧ x3.toInt < 10)) then (if x2.toInt = 0 then ((s.1.2.1 x1.toInt.toNat).toInt, (hourT s.1 x1.toInt.toNat x3, s.2)) else ((s.1.2.2.1 x1.toInt.toNat).toInt, (costT s.1 x1.toInt.toNat x3, s.2))) else (-2, s)
def oAsk (s : Sd) (x1 x2 : Int32) : Int × Sd := if x1.toInt = 0 ∧ 2 ≤ x2.toInt ∧ x2.toInt ≤ 4 then (s.1.2.2.2.1, (seatT s.1 x2.toInt, s.2)) else if x1.toInt = 1 ∧ 0 ≤ x2.toInt ∧ x2.toInt ≤ 99 then (s.1.2.2.2.2.1, (memT s.1 x2.toInt, s.2)) else (-2, s)
def oSeed (s : Sd) (x1 : Int32) : Int × Sd := (s.2.toInt, (s.1, x1))
def nx (x : Int32) : Int32 := (x * 1103515245) + 12345
def vd (x b : Int32) : Int32 := ((Int32.toUInt32 x >>> (Int32.toUInt32 16 &&& Int32.toUInt32 31)).toInt32 - (Int32.toUInt32 x >>> (Int32.toUInt32 16 &&& Int32.toUInt32 31)).toInt32 / b * b)
/-- whom somebody drawn knows, from j on -/
def drG (g : Int32 → Int32) (b : Int32 → Bool) : Nat → Nat → Sd → Sd
  | 0, _, s => s
  | f + 1, j, s => drG g b f (j + 1) (if b (g s.2) = true then tieT s.1 (s.1.1 - 1).toNat j 0 else s.1, g s.2)
theorem drG_1 (g : Int32 → Int32) (b : Int32 → Bool) : ∀ (f j : Nat) (s : Sd), (drG g b f j s).1.1 = s.1.1
  | 0, _, s => rfl
  | f + 1, j, s => by
    show (drG g b f (j + 1) (if b (g s.2) = true then tieT s.1 (s.1.1 - 1).toNat j 0 else s.1, g s.2)).1.1 = _
    rw [drG_1 g b f]
    show (if b (g s.2) = true then tieT s.1 (s.1.1 - 1).toNat j 0 else s.1).1 = _
    split <;> rfl
theorem drG_n {g : Int32 → Int32} {b : Int32 → Bool} {f j : Nat} {s : Sd} (h : ¬ b (g s.2) = true) : drG g b (f + 1) j s = drG g b f (j + 1) (s.1, g s.2) := by
  show drG g b f (j + 1) (if b (g s.2) = true then tieT s.1 (s.1.1 - 1).toNat j 0 else s.1, g s.2) = _
  rw [if_neg h]
theorem drG_y {g : Int32 → Int32} {b : Int32 → Bool} {f j : Nat} {s : Sd} (h : b (g s.2) = true) : drG g b (f + 1) j s = drG g b f (j + 1) (tieT s.1 (s.1.1 - 1).toNat j 0, g s.2) := by
  show drG g b f (j + 1) (if b (g s.2) = true then tieT s.1 (s.1.1 - 1).toNat j 0 else s.1, g s.2) = _
  rw [if_pos h]
def bz (x : Int32) : Bool := decide (vd x 3 = 0)
def drK : Nat → Nat → Sd → Sd := drG nx bz
def addD (s : Sd) : Sd := drK s.1.1.toNat 0 (addT s.1 (vd (nx s.2) 24) (vd (nx (nx s.2)) 10), nx (nx s.2))
def comeN : Nat → Sd → Sd
  | 0, s => s
  | f + 1, s => comeN f (addD s)
def oCome (s : Sd) (x1 : Int32) : Int × Sd := if 1 ≤ x1.toInt ∧ x1.toInt ≤ 7 then (if 7 - s.1.1 < x1.toInt then (7 - s.1.1, comeN (7 - s.1.1).toNat s) else (x1.toInt, comeN x1.toInt.toNat s)) else (-2, s)
theorem chX_no {I I2 : jdI} {s : Sd} {x1 x2 x3 v : Int32} (hs : TX I 1 s) (hF : Fr (fun a k => a = 28) I I2) (hv : v.toInt = -2) (hc : ¬ ((0 ≤ x1.toInt ∧ x1.toInt < (I 1 3).toInt) ∧ ((x2.toInt = 0 ∧ 0 ≤ x3.toInt ∧ x3.toInt < 24) ∨ (x2.toInt = 1 ∧ 0 ≤ x3.toInt ∧ x3.toInt < 10)))) : v.toInt = (oChange s x1 x2 x3).1 ∧ TX I2 1 (oChange s x1 x2 x3).2 := by
  have h1 := hs.1.1
  have e : oChange s x1 x2 x3 = (-2, s) := if_neg (by omega)
  rw [e]
  exact ⟨hv, TX_fr hs hF (by intro a k h1 h2; omega)⟩
theorem chX_h {I : jdI} {s : Sd} {x1 x2 x3 : Int32} (hs : TX I 1 s) (hc : 0 ≤ x1.toInt ∧ x1.toInt < (I 1 3).toInt) (h2 : x2.toInt = 0 ∧ 0 ≤ x3.toInt ∧ x3.toInt < 24) : (I (1 + 1) (Int32.toNatClampNeg x1)).toInt = (oChange s x1 x2 x3).1 ∧ TX (uI I (1 + 1) (Int32.toNatClampNeg x1) x3) 1 (oChange s x1 x2 x3).2 := by
  have h1 := hs.1.1
  have e : oChange s x1 x2 x3 = ((s.1.2.1 x1.toInt.toNat).toInt, (hourT s.1 x1.toInt.toNat x3, s.2)) := by
    unfold oChange
    rw [if_pos (by omega), if_pos h2.1]
  rw [e]
  obtain ⟨⟨w1, w2, w3, w4, w5⟩, w6⟩ := hs
  have n1 := tn_eq x1
  refine ⟨by rw [n1, (w2 _ (by omega)).1], ⟨by rw [uI_n _ _ _ (by omega)]; exact w1, fun i hi => ⟨?_, ?_⟩, by rw [uI_n _ _ _ (by omega)]; exact w3, by rw [uI_n _ _ _ (by omega)]; exact w4, fun i j hi hj hne => by rw [uI_n _ _ _ (by omega)]; exact w5 i j hi hj hne⟩, by rw [uI_n _ _ _ (by omega)]; exact w6⟩
  · have hi : (i : Int) < s.1.1 := hi
    show _ = if i = x1.toInt.toNat then x3 else s.1.2.1 i
    rw [uI_ap]
    by_cases c : i = x1.toInt.toNat
    · rw [if_pos ⟨rfl, c⟩, if_pos c]
    · rw [if_neg (fun q => c q.2), if_neg c]
      exact (w2 i hi).1
  · rw [uI_n _ _ _ (by omega)]
    exact (w2 i hi).2
theorem chX_c {I : jdI} {s : Sd} {x1 x2 x3 : Int32} (hs : TX I 1 s) (hc : 0 ≤ x1.toInt ∧ x1.toInt < (I 1 3).toInt) (h2 : x2.toInt = 1 ∧ 0 ≤ x3.toInt ∧ x3.toInt < 10) : (I (1 + 2) (Int32.toNatClampNeg x1)).toInt = (oChange s x1 x2 x3).1 ∧ TX (uI I (1 + 2) (Int32.toNatClampNeg x1) x3) 1 (oChange s x1 x2 x3).2 := by
  have h1 := hs.1.1
  have e : oChange s x1 x2 x3 = ((s.1.2.2.1 x1.toInt.toNat).toInt, (costT s.1 x1.toInt.toNat x3, s.2)) := by
    unfold oChange
    rw [if_pos (by omega), if_neg (by omega)]
  rw [e]
  obtain ⟨⟨w1, w2, w3, w4, w5⟩, w6⟩ := hs
  have n1 := tn_eq x1
  refine ⟨by rw [n1, (w2 _ (by omega)).2], ⟨by rw [uI_n _ _ _ (by omega)]; exact w1, fun i hi => ⟨?_, ?_⟩, by rw [uI_n _ _ _ (by omega)]; exact w3, by rw [uI_n _ _ _ (by omega)]; exact w4, fun i j hi hj hne => by rw [uI_n _ _ _ (by omega)]; exact w5 i j hi hj hne⟩, by rw [uI_n _ _ _ (by omega)]; exact w6⟩
  · rw [uI_n _ _ _ (by omega)]
    exact (w2 i hi).1
  · have hi : (i : Int) < s.1.1 := hi
    show _ = if i = x1.toInt.toNat then x3 else s.1.2.2.1 i
    rw [uI_ap]
    by_cases c : i = x1.toInt.toNat
    · rw [if_pos ⟨rfl, c⟩, if_pos c]
    · rw [if_neg (fun q => c q.2), if_neg c]
      exact (w2 i hi).2
theorem asX_no {I I2 : jdI} {s : Sd} {x1 x2 v : Int32} (hs : TX I 1 s) (hF : Fr (fun a k => a = 28) I I2) (hv : v.toInt = -2) (h1 : ¬ (x1.toInt = 0 ∧ 2 ≤ x2.toInt ∧ x2.toInt ≤ 4)) (h2 : ¬ (x1.toInt = 1 ∧ 0 ≤ x2.toInt ∧ x2.toInt ≤ 99)) : v.toInt = (oAsk s x1 x2).1 ∧ TX I2 1 (oAsk s x1 x2).2 := by
  have e : oAsk s x1 x2 = (-2, s) := by
    unfold oAsk
    rw [if_neg h1, if_neg h2]
  rw [e]
  exact ⟨hv, TX_fr hs hF (by intro a k h1 h2; omega)⟩
theorem asX_s {I : jdI} {s : Sd} {x1 x2 : Int32} (hs : TX I 1 s) (h1 : x1.toInt = 0 ∧ 2 ≤ x2.toInt ∧ x2.toInt ≤ 4) : (I 1 4).toInt = (oAsk s x1 x2).1 ∧ TX (uI I 1 4 x2) 1 (oAsk s x1 x2).2 := by
  have e : oAsk s x1 x2 = (s.1.2.2.2.1, (seatT s.1 x2.toInt, s.2)) := if_pos h1
  rw [e]
  obtain ⟨⟨w1, w2, w3, w4, w5⟩, w6⟩ := hs
  have f0 : Fr (fun a k => a = 1 ∧ k = 4) I (uI I 1 4 x2) := Fr_uI Fr.rf ⟨rfl, rfl⟩
  exact ⟨w3, ⟨by rw [f0 1 3 (by omega)]; exact w1, fun i hi => by rw [f0 (1 + 1) i (by omega), f0 (1 + 2) i (by omega)]; exact w2 i hi, by rw [uI_ap, if_pos ⟨rfl, rfl⟩]; rfl, by rw [f0 1 5 (by omega)]; exact w4, fun i j hi hj hne => by rw [f0 (1 + 3) _ (by omega)]; exact w5 i j hi hj hne⟩, by rw [f0 1 6 (by omega)]; exact w6⟩
theorem asX_m {I : jdI} {s : Sd} {x1 x2 : Int32} (hs : TX I 1 s) (h1 : x1.toInt = 1 ∧ 0 ≤ x2.toInt ∧ x2.toInt ≤ 99) : (I 1 5).toInt = (oAsk s x1 x2).1 ∧ TX (uI I 1 5 x2) 1 (oAsk s x1 x2).2 := by
  have e : oAsk s x1 x2 = (s.1.2.2.2.2.1, (memT s.1 x2.toInt, s.2)) := by
    unfold oAsk
    rw [if_neg (by omega), if_pos h1]
  rw [e]
  obtain ⟨⟨w1, w2, w3, w4, w5⟩, w6⟩ := hs
  have f0 : Fr (fun a k => a = 1 ∧ k = 5) I (uI I 1 5 x2) := Fr_uI Fr.rf ⟨rfl, rfl⟩
  exact ⟨w4, ⟨by rw [f0 1 3 (by omega)]; exact w1, fun i hi => by rw [f0 (1 + 1) i (by omega), f0 (1 + 2) i (by omega)]; exact w2 i hi, by rw [f0 1 4 (by omega)]; exact w3, by rw [uI_ap, if_pos ⟨rfl, rfl⟩]; rfl, fun i j hi hj hne => by rw [f0 (1 + 3) _ (by omega)]; exact w5 i j hi hj hne⟩, by rw [f0 1 6 (by omega)]; exact w6⟩
theorem seX {I : jdI} {s : Sd} {x1 : Int32} (hs : TX I 1 s) : (I 1 6).toInt = (oSeed s x1).1 ∧ TX (uI I 1 6 x1) 1 (oSeed s x1).2 := by
  obtain ⟨⟨w1, w2, w3, w4, w5⟩, w6⟩ := hs
  have f0 : Fr (fun a k => a = 1 ∧ k = 6) I (uI I 1 6 x1) := Fr_uI Fr.rf ⟨rfl, rfl⟩
  exact ⟨congrArg Int32.toInt w6, ⟨by rw [f0 1 3 (by omega)]; exact w1, fun i hi => by rw [f0 (1 + 1) i (by omega), f0 (1 + 2) i (by omega)]; exact w2 i hi, by rw [f0 1 4 (by omega)]; exact w3, by rw [f0 1 5 (by omega)]; exact w4, fun i j hi hj hne => by rw [f0 (1 + 3) _ (by omega)]; exact w5 i j hi hj hne⟩, by rw [uI_ap, if_pos ⟨rfl, rfl⟩]; rfl⟩
theorem chM_no {I I2 : jdI} {t : Nat} {s : Sd} {x1 x2 x3 v : Int32} (hs : TM I t s) (hp : (I t 10).toInt ≤ 7) (hF : Fr (fun a k => a = t + 17) I I2) (hv : v.toInt = -2) (hc : ¬ ((0 ≤ x1.toInt ∧ x1.toInt < (I t 10).toInt) ∧ ((x2.toInt = 0 ∧ 0 ≤ x3.toInt ∧ x3.toInt < 24) ∨ (x2.toInt = 1 ∧ 0 ≤ x3.toInt ∧ x3.toInt < 10)))) : v.toInt = (oChange s x1 x2 x3).1 ∧ TM I2 t (oChange s x1 x2 x3).2 := by
  have h1 := hs.1.1
  have e : oChange s x1 x2 x3 = (-2, s) := if_neg (by omega)
  rw [e]
  exact ⟨hv, TM_fr hs (show s.1.1 ≤ 8 by omega) hF (by omega) (by omega) (by omega) (by omega) (by intro a k h1 h2 h3; omega)⟩
theorem chM_h {I : jdI} {t : Nat} {s : Sd} {x1 x2 x3 : Int32} (hs : TM I t s) (hc : 0 ≤ x1.toInt ∧ x1.toInt < (I t 10).toInt) (h2 : x2.toInt = 0 ∧ 0 ≤ x3.toInt ∧ x3.toInt < 24) : (I (t + 18) (Int32.toNatClampNeg x1)).toInt = (oChange s x1 x2 x3).1 ∧ TM (uI I (t + 18) (Int32.toNatClampNeg x1) x3) t (oChange s x1 x2 x3).2 := by
  have h1 := hs.1.1
  have e : oChange s x1 x2 x3 = ((s.1.2.1 x1.toInt.toNat).toInt, (hourT s.1 x1.toInt.toNat x3, s.2)) := by
    unfold oChange
    rw [if_pos (by omega), if_pos h2.1]
  rw [e]
  obtain ⟨⟨w1, w2, w3, w4, w5⟩, w6⟩ := hs
  have n1 := tn_eq x1
  refine ⟨by rw [n1, (w2 _ (by omega)).1], ⟨by rw [uI_n _ _ _ (by omega)]; exact w1, fun i hi => ⟨?_, ?_⟩, by rw [uI_n _ _ _ (by omega)]; exact w3, by rw [uI_n _ _ _ (by omega)]; exact w4, fun i j hi hj hne => by rw [uI_n _ _ _ (by omega)]; exact w5 i j hi hj hne⟩, by rw [uI_n _ _ _ (by omega)]; exact w6⟩
  · have hi : (i : Int) < s.1.1 := hi
    show _ = if i = x1.toInt.toNat then x3 else s.1.2.1 i
    rw [uI_ap]
    by_cases c : i = x1.toInt.toNat
    · rw [if_pos ⟨rfl, c⟩, if_pos c]
    · rw [if_neg (fun q => c q.2), if_neg c]
      exact (w2 i hi).1
  · rw [uI_n _ _ _ (by omega)]
    exact (w2 i hi).2
theorem chM_c {I : jdI} {t : Nat} {s : Sd} {x1 x2 x3 : Int32} (hs : TM I t s) (hc : 0 ≤ x1.toInt ∧ x1.toInt < (I t 10).toInt) (h2 : x2.toInt = 1 ∧ 0 ≤ x3.toInt ∧ x3.toInt < 10) : (I (t + 19) (Int32.toNatClampNeg x1)).toInt = (oChange s x1 x2 x3).1 ∧ TM (uI I (t + 19) (Int32.toNatClampNeg x1) x3) t (oChange s x1 x2 x3).2 := by
  have h1 := hs.1.1
  have e : oChange s x1 x2 x3 = ((s.1.2.2.1 x1.toInt.toNat).toInt, (costT s.1 x1.toInt.toNat x3, s.2)) := by
    unfold oChange
    rw [if_pos (by omega), if_neg (by omega)]
  rw [e]
  obtain ⟨⟨w1, w2, w3, w4, w5⟩, w6⟩ := hs
  have n1 := tn_eq x1
  refine ⟨by rw [n1, (w2 _ (by omega)).2], ⟨by rw [uI_n _ _ _ (by omega)]; exact w1, fun i hi => ⟨?_, ?_⟩, by rw [uI_n _ _ _ (by omega)]; exact w3, by rw [uI_n _ _ _ (by omega)]; exact w4, fun i j hi hj hne => by rw [uI_n _ _ _ (by omega)]; exact w5 i j hi hj hne⟩, by rw [uI_n _ _ _ (by omega)]; exact w6⟩
  · rw [uI_n _ _ _ (by omega)]
    exact (w2 i hi).1
  · have hi : (i : Int) < s.1.1 := hi
    show _ = if i = x1.toInt.toNat then x3 else s.1.2.2.1 i
    rw [uI_ap]
    by_cases c : i = x1.toInt.toNat
    · rw [if_pos ⟨rfl, c⟩, if_pos c]
    · rw [if_neg (fun q => c q.2), if_neg c]
      exact (w2 i hi).2
theorem asM_no {I I2 : jdI} {t : Nat} {s : Sd} {x1 x2 v : Int32} (hs : TM I t s) (hp : (I t 10).toInt ≤ 7) (hF : Fr (fun a k => a = t + 17) I I2) (hv : v.toInt = -2) (h1 : ¬ (x1.toInt = 0 ∧ 2 ≤ x2.toInt ∧ x2.toInt ≤ 4)) (h2 : ¬ (x1.toInt = 1 ∧ 0 ≤ x2.toInt ∧ x2.toInt ≤ 99)) : v.toInt = (oAsk s x1 x2).1 ∧ TM I2 t (oAsk s x1 x2).2 := by
  have e : oAsk s x1 x2 = (-2, s) := by
    unfold oAsk
    rw [if_neg h1, if_neg h2]
  have h3 := hs.1.1
  rw [e]
  exact ⟨hv, TM_fr hs (show s.1.1 ≤ 8 by omega) hF (by omega) (by omega) (by omega) (by omega) (by intro a k h1 h2 h3; omega)⟩
theorem asM_s {I : jdI} {t : Nat} {s : Sd} {x1 x2 : Int32} (hs : TM I t s) (h1 : x1.toInt = 0 ∧ 2 ≤ x2.toInt ∧ x2.toInt ≤ 4) : (I t 14).toInt = (oAsk s x1 x2).1 ∧ TM (uI I t 14 x2) t (oAsk s x1 x2).2 := by
  have e : oAsk s x1 x2 = (s.1.2.2.2.1, (seatT s.1 x2.toInt, s.2)) := if_pos h1
  rw [e]
  obtain ⟨⟨w1, w2, w3, w4, w5⟩, w6⟩ := hs
  have f0 : Fr (fun a k => a = t ∧ k = 14) I (uI I t 14 x2) := Fr_uI Fr.rf ⟨rfl, rfl⟩
  exact ⟨w3, ⟨by rw [f0 t 10 (by omega)]; exact w1, fun i hi => by rw [f0 (t + 18) i (by omega), f0 (t + 19) i (by omega)]; exact w2 i hi, by rw [uI_ap, if_pos ⟨rfl, rfl⟩]; rfl, by rw [f0 t 15 (by omega)]; exact w4, fun i j hi hj hne => by rw [f0 (t + 21 + i) _ (by omega)]; exact w5 i j hi hj hne⟩, by rw [f0 t 19 (by omega)]; exact w6⟩
theorem asM_m {I : jdI} {t : Nat} {s : Sd} {x1 x2 : Int32} (hs : TM I t s) (h1 : x1.toInt = 1 ∧ 0 ≤ x2.toInt ∧ x2.toInt ≤ 99) : (I t 15).toInt = (oAsk s x1 x2).1 ∧ TM (uI I t 15 x2) t (oAsk s x1 x2).2 := by
  have e : oAsk s x1 x2 = (s.1.2.2.2.2.1, (memT s.1 x2.toInt, s.2)) := by
    unfold oAsk
    rw [if_neg (by omega), if_pos h1]
  rw [e]
  obtain ⟨⟨w1, w2, w3, w4, w5⟩, w6⟩ := hs
  have f0 : Fr (fun a k => a = t ∧ k = 15) I (uI I t 15 x2) := Fr_uI Fr.rf ⟨rfl, rfl⟩
  exact ⟨w4, ⟨by rw [f0 t 10 (by omega)]; exact w1, fun i hi => by rw [f0 (t + 18) i (by omega), f0 (t + 19) i (by omega)]; exact w2 i hi, by rw [f0 t 14 (by omega)]; exact w3, by rw [uI_ap, if_pos ⟨rfl, rfl⟩]; rfl, fun i j hi hj hne => by rw [f0 (t + 21 + i) _ (by omega)]; exact w5 i j hi hj hne⟩, by rw [f0 t 19 (by omega)]; exact w6⟩
theorem seM {I : jdI} {t : Nat} {s : Sd} {x1 : Int32} (hs : TM I t s) : (I t 19).toInt = (oSeed s x1).1 ∧ TM (uI I t 19 x1) t (oSeed s x1).2 := by
  obtain ⟨⟨w1, w2, w3, w4, w5⟩, w6⟩ := hs
  have f0 : Fr (fun a k => a = t ∧ k = 19) I (uI I t 19 x1) := Fr_uI Fr.rf ⟨rfl, rfl⟩
  exact ⟨congrArg Int32.toInt w6, ⟨by rw [f0 t 10 (by omega)]; exact w1, fun i hi => by rw [f0 (t + 18) i (by omega), f0 (t + 19) i (by omega)]; exact w2 i hi, by rw [f0 t 14 (by omega)]; exact w3, by rw [f0 t 15 (by omega)]; exact w4, fun i j hi hj hne => by rw [f0 (t + 21 + i) _ (by omega)]; exact w5 i j hi hj hne⟩, by rw [uI_ap, if_pos ⟨rfl, rfl⟩]; rfl⟩
theorem fsfX11_change {G : jdG} {n : Nat} {Z : jdL} {J : jdJ} {K : Int32 → jdI → jdJ → Prop} {s : Sd} {I : jdI} {x1 : Int32} {x2 : Int32} {x3 : Int32} (hX : zX Z)  (hW : WX I) (hs : TX I 1 s) (hK : ∀ (v : Int32) (I2 : jdI), WX I2 → Fr (fun a k => (1 ≤ a ∧ a ≤ 4) ∨ a = 28) I I2 → (v.toInt = (oChange s x1 x2 x3).1 ∧ TX I2 1 (oChange s x1 x2 x3).2) → K v I2 J) : Cl G mX11_change (n + 1) 0 0 [.ref (gb G + 0), .int x1, .int x2, .int x3] Z I J (qi Z K) := by
  refine eX11_change hX ?_
  have hwI := WX_f hW
  refine ⟨fun hc1 => ?_, fun hc2 => ?_⟩
  · skip
    have q1 := i32_lo x2
    have q2 : (0 : Int32).toInt = 0 := rfl
    have hc1 : ¬ (x2).toInt = (0 : Int32).toInt := fun z => hc1 (Int32.toInt_inj.mp z)
    refine ⟨fun hc3 => ?_, fun hc4 => ?_⟩
    · skip
      have q3 : (1 : Int32).toInt = 1 := rfl
      have hc3 : ¬ (x2).toInt = (1 : Int32).toInt := fun z => hc3 (Int32.toInt_inj.mp z)
      have q4 := i32_lo x1
      refine sfX9_has (zX_o0 hX) (by decide) hW  (fun v2  hp5 => ?_)
      refine ⟨fun hc6 => ?_, fun hc7 => ?_⟩
      · skip
        have q5 := i32_lo v2
        have hc6 := Int32.toInt_inj.mpr hc6
        have q6 : (-2 : Int32).toInt = -2 := rfl
        refine sfX11_refuse hX hW  (fun v4 I3 hWI3 hFI3 hp8 => ?_)
        have hwI3 := WX_f hWI3
        have hvr : v4.toInt = -2 := by rw [hp8]; rfl
        exact hK _ _ hWI3 (Fr.tr Fr.rf hFI3 (by intro a k h; omega)) (by first | exact chX_no hs (by assumption) hvr (by omega) | exact chX_h hs (by omega) (by omega) | exact chX_c hs (by omega) (by omega) | (exfalso; omega))
      · skip
        have q5 := i32_lo v2
        have hc7 : ¬ (v2).toInt = (0 : Int32).toInt := fun z => hc7 (Int32.toInt_inj.mp z)
        have q6 : (-2 : Int32).toInt = -2 := rfl
        refine sfX11_refuse hX hW  (fun v6 I5 hWI5 hFI5 hp9 => ?_)
        have hwI5 := WX_f hWI5
        have hvr : v6.toInt = -2 := by rw [hp9]; rfl
        exact hK _ _ hWI5 (Fr.tr Fr.rf hFI5 (by intro a k h; omega)) (by first | exact chX_no hs (by assumption) hvr (by omega) | exact chX_h hs (by omega) (by omega) | exact chX_c hs (by omega) (by omega) | (exfalso; omega))
    · skip
      have q3 : (1 : Int32).toInt = 1 := rfl
      have hc4 := Int32.toInt_inj.mpr hc4
      have q4 := i32_lo x3
      refine sfX11_isCost  hW  (fun v8  hp10 => ?_)
      refine ⟨fun hc11 => ?_, fun hc12 => ?_⟩
      · skip
        have q5 := i32_lo v8
        have hc11 := Int32.toInt_inj.mpr hc11
        have q6 := i32_lo x1
        refine sfX9_has (zX_o0 hX) (by decide) hW  (fun v10  hp13 => ?_)
        refine ⟨fun hc14 => ?_, fun hc15 => ?_⟩
        · skip
          have q7 := i32_lo v10
          have hc14 := Int32.toInt_inj.mpr hc14
          have q8 : (-2 : Int32).toInt = -2 := rfl
          refine sfX11_refuse hX hW  (fun v12 I11 hWI11 hFI11 hp16 => ?_)
          have hwI11 := WX_f hWI11
          have hvr : v12.toInt = -2 := by rw [hp16]; rfl
          exact hK _ _ hWI11 (Fr.tr Fr.rf hFI11 (by intro a k h; omega)) (by first | exact chX_no hs (by assumption) hvr (by omega) | exact chX_h hs (by omega) (by omega) | exact chX_c hs (by omega) (by omega) | (exfalso; omega))
        · skip
          have q7 := i32_lo v10
          have hc15 : ¬ (v10).toInt = (0 : Int32).toInt := fun z => hc15 (Int32.toInt_inj.mp z)
          have q8 : (-2 : Int32).toInt = -2 := rfl
          refine sfX11_refuse hX hW  (fun v14 I13 hWI13 hFI13 hp17 => ?_)
          have hwI13 := WX_f hWI13
          have hvr : v14.toInt = -2 := by rw [hp17]; rfl
          exact hK _ _ hWI13 (Fr.tr Fr.rf hFI13 (by intro a k h; omega)) (by first | exact chX_no hs (by assumption) hvr (by omega) | exact chX_h hs (by omega) (by omega) | exact chX_c hs (by omega) (by omega) | (exfalso; omega))
      · skip
        have q5 := i32_lo v8
        have hc12 : ¬ (v8).toInt = (0 : Int32).toInt := fun z => hc12 (Int32.toInt_inj.mp z)
        have q6 := i32_lo x1
        refine sfX9_has (zX_o0 hX) (by decide) hW  (fun v16  hp18 => ?_)
        refine ⟨fun hc19 => ?_, fun hc20 => ?_⟩
        · skip
          have q7 := i32_lo v16
          have hc19 := Int32.toInt_inj.mpr hc19
          have q8 : (-2 : Int32).toInt = -2 := rfl
          refine sfX11_refuse hX hW  (fun v18 I17 hWI17 hFI17 hp21 => ?_)
          have hwI17 := WX_f hWI17
          have hvr : v18.toInt = -2 := by rw [hp21]; rfl
          exact hK _ _ hWI17 (Fr.tr Fr.rf hFI17 (by intro a k h; omega)) (by first | exact chX_no hs (by assumption) hvr (by omega) | exact chX_h hs (by omega) (by omega) | exact chX_c hs (by omega) (by omega) | (exfalso; omega))
        · skip
          have q7 := i32_lo v16
          have hc20 : ¬ (v16).toInt = (0 : Int32).toInt := fun z => hc20 (Int32.toInt_inj.mp z)
          refine ⟨fun hc22 => ?_, fun hc23 => ?_⟩
          · skip
            have hc22 : ¬ (x2).toInt = (0 : Int32).toInt := fun z => hc22 (Int32.toInt_inj.mp z)
            refine ⟨vp_of (by omega) (by omega), ?_⟩
            refine ⟨vp_of (by omega) (by omega), ?_⟩
            exact hK _ _ (WX_uI hW (by first | exact okXo (by decide) | (unfold okX; refine ⟨?_, ?_, ?_, ?_, ?_, ?_, ?_, ?_, ?_, ?_⟩ <;> intro h <;> omega))) (Fr_uI Fr.rf (by omega)) (by first | exact chX_no hs (by assumption) hvr (by omega) | exact chX_h hs (by omega) (by omega) | exact chX_c hs (by omega) (by omega) | (exfalso; omega))
          · skip
            have hc23 := Int32.toInt_inj.mpr hc23
            refine ⟨vp_of (by omega) (by omega), ?_⟩
            refine ⟨vp_of (by omega) (by omega), ?_⟩
            exact hK _ _ (WX_uI hW (by first | exact okXo (by decide) | (unfold okX; refine ⟨?_, ?_, ?_, ?_, ?_, ?_, ?_, ?_, ?_, ?_⟩ <;> intro h <;> omega))) (Fr_uI Fr.rf (by omega)) (by first | exact chX_no hs (by assumption) hvr (by omega) | exact chX_h hs (by omega) (by omega) | exact chX_c hs (by omega) (by omega) | (exfalso; omega))
  · skip
    have q1 := i32_lo x2
    have q2 : (0 : Int32).toInt = 0 := rfl
    have hc2 := Int32.toInt_inj.mpr hc2
    have q3 := i32_lo x3
    refine sfX11_isHour  hW  (fun v24  hp24 => ?_)
    have q4 := i32_lo x1
    refine sfX9_has (zX_o0 hX) (by decide) hW  (fun v26  hp25 => ?_)
    refine ⟨fun hc26 => ?_, fun hc27 => ?_⟩
    · skip
      have q5 := i32_lo v26
      have hc26 := Int32.toInt_inj.mpr hc26
      have q6 : (-2 : Int32).toInt = -2 := rfl
      refine sfX11_refuse hX hW  (fun v28 I27 hWI27 hFI27 hp28 => ?_)
      have hwI27 := WX_f hWI27
      have hvr : v28.toInt = -2 := by rw [hp28]; rfl
      exact hK _ _ hWI27 (Fr.tr Fr.rf hFI27 (by intro a k h; omega)) (by first | exact chX_no hs (by assumption) hvr (by omega) | exact chX_h hs (by omega) (by omega) | exact chX_c hs (by omega) (by omega) | (exfalso; omega))
    · skip
      have q5 := i32_lo v26
      have hc27 : ¬ (v26).toInt = (0 : Int32).toInt := fun z => hc27 (Int32.toInt_inj.mp z)
      refine ⟨fun hc29 => ?_, fun hc30 => ?_⟩
      · skip
        have q6 := i32_lo v24
        have hc29 : ¬ (v24).toInt = (0 : Int32).toInt := fun z => hc29 (Int32.toInt_inj.mp z)
        refine ⟨fun hc31 => ?_, fun hc32 => ?_⟩
        · skip
          have hc31 : ¬ (x2).toInt = (0 : Int32).toInt := fun z => hc31 (Int32.toInt_inj.mp z)
          refine ⟨vp_of (by omega) (by omega), ?_⟩
          refine ⟨vp_of (by omega) (by omega), ?_⟩
          exact hK _ _ (WX_uI hW (by first | exact okXo (by decide) | (unfold okX; refine ⟨?_, ?_, ?_, ?_, ?_, ?_, ?_, ?_, ?_, ?_⟩ <;> intro h <;> omega))) (Fr_uI Fr.rf (by omega)) (by first | exact chX_no hs (by assumption) hvr (by omega) | exact chX_h hs (by omega) (by omega) | exact chX_c hs (by omega) (by omega) | (exfalso; omega))
        · skip
          have hc32 := Int32.toInt_inj.mpr hc32
          refine ⟨vp_of (by omega) (by omega), ?_⟩
          refine ⟨vp_of (by omega) (by omega), ?_⟩
          exact hK _ _ (WX_uI hW (by first | exact okXo (by decide) | (unfold okX; refine ⟨?_, ?_, ?_, ?_, ?_, ?_, ?_, ?_, ?_, ?_⟩ <;> intro h <;> omega))) (Fr_uI Fr.rf (by omega)) (by first | exact chX_no hs (by assumption) hvr (by omega) | exact chX_h hs (by omega) (by omega) | exact chX_c hs (by omega) (by omega) | (exfalso; omega))
      · skip
        have q6 := i32_lo v24
        have hc30 := Int32.toInt_inj.mpr hc30
        have q7 : (-2 : Int32).toInt = -2 := rfl
        refine sfX11_refuse hX hW  (fun v34 I33 hWI33 hFI33 hp33 => ?_)
        have hwI33 := WX_f hWI33
        have hvr : v34.toInt = -2 := by rw [hp33]; rfl
        exact hK _ _ hWI33 (Fr.tr Fr.rf hFI33 (by intro a k h; omega)) (by first | exact chX_no hs (by assumption) hvr (by omega) | exact chX_h hs (by omega) (by omega) | exact chX_c hs (by omega) (by omega) | (exfalso; omega))
theorem fsfX11_ask {G : jdG} {n : Nat} {Z : jdL} {J : jdJ} {K : Int32 → jdI → jdJ → Prop} {s : Sd} {I : jdI} {x1 : Int32} {x2 : Int32} (hX : zX Z)  (hW : WX I) (hs : TX I 1 s) (hK : ∀ (v : Int32) (I2 : jdI), WX I2 → Fr (fun a k => (1 ≤ a ∧ a ≤ 4) ∨ a = 28) I I2 → (v.toInt = (oAsk s x1 x2).1 ∧ TX I2 1 (oAsk s x1 x2).2) → K v I2 J) : Cl G mX11_ask (n + 1) 0 0 [.ref (gb G + 0), .int x1, .int x2] Z I J (qi Z K) := by
  refine eX11_ask hX ?_
  have hwI := WX_f hW
  refine ⟨fun hc1 => ?_, fun hc2 => ?_⟩
  · skip
    have q1 := i32_lo x1
    have q2 : (0 : Int32).toInt = 0 := rfl
    have hc1 : ¬ (x1).toInt = (0 : Int32).toInt := fun z => hc1 (Int32.toInt_inj.mp z)
    refine ⟨fun hc3 => ?_, fun hc4 => ?_⟩
    · skip
      have q3 : (1 : Int32).toInt = 1 := rfl
      have hc3 : ¬ (x1).toInt = (1 : Int32).toInt := fun z => hc3 (Int32.toInt_inj.mp z)
      have q4 : (-2 : Int32).toInt = -2 := rfl
      refine sfX11_refuse hX hW  (fun v2 I1 hWI1 hFI1 hp5 => ?_)
      have hwI1 := WX_f hWI1
      have hvr : v2.toInt = -2 := by rw [hp5]; rfl
      exact hK _ _ hWI1 (Fr.tr Fr.rf hFI1 (by intro a k h; omega)) (by first | exact asX_no hs (by assumption) hvr (by omega) (by omega) | exact asX_s hs (by omega) | exact asX_m hs (by omega) | (exfalso; omega))
    · skip
      have q3 : (1 : Int32).toInt = 1 := rfl
      have hc4 := Int32.toInt_inj.mpr hc4
      refine ⟨fun hc6 => ?_, fun hc7 => ?_⟩
      · skip
        have q4 := i32_lo x2
        have hc6 := Int32.lt_iff_toInt_lt.mp hc6
        have q5 : (-2 : Int32).toInt = -2 := rfl
        refine sfX11_refuse hX hW  (fun v4 I3 hWI3 hFI3 hp8 => ?_)
        have hwI3 := WX_f hWI3
        have hvr : v4.toInt = -2 := by rw [hp8]; rfl
        exact hK _ _ hWI3 (Fr.tr Fr.rf hFI3 (by intro a k h; omega)) (by first | exact asX_no hs (by assumption) hvr (by omega) (by omega) | exact asX_s hs (by omega) | exact asX_m hs (by omega) | (exfalso; omega))
      · skip
        have q4 := i32_lo x2
        have hc7 := mt Int32.lt_iff_toInt_lt.mpr hc7
        refine ⟨fun hc9 => ?_, fun hc10 => ?_⟩
        · skip
          have q5 : (99 : Int32).toInt = 99 := rfl
          have hc9 := Int32.lt_iff_toInt_lt.mp hc9
          have q6 : (-2 : Int32).toInt = -2 := rfl
          refine sfX11_refuse hX hW  (fun v6 I5 hWI5 hFI5 hp11 => ?_)
          have hwI5 := WX_f hWI5
          have hvr : v6.toInt = -2 := by rw [hp11]; rfl
          exact hK _ _ hWI5 (Fr.tr Fr.rf hFI5 (by intro a k h; omega)) (by first | exact asX_no hs (by assumption) hvr (by omega) (by omega) | exact asX_s hs (by omega) | exact asX_m hs (by omega) | (exfalso; omega))
        · skip
          have q5 : (99 : Int32).toInt = 99 := rfl
          have hc10 := mt Int32.lt_iff_toInt_lt.mpr hc10
          exact hK _ _ (WX_uI hW (by first | exact okXo (by decide) | (unfold okX; refine ⟨?_, ?_, ?_, ?_, ?_, ?_, ?_, ?_, ?_, ?_⟩ <;> intro h <;> omega))) (Fr_uI Fr.rf (by omega)) (by first | exact asX_no hs (by assumption) hvr (by omega) (by omega) | exact asX_s hs (by omega) | exact asX_m hs (by omega) | (exfalso; omega))
  · skip
    have q1 := i32_lo x1
    have q2 : (0 : Int32).toInt = 0 := rfl
    have hc2 := Int32.toInt_inj.mpr hc2
    refine ⟨fun hc12 => ?_, fun hc13 => ?_⟩
    · skip
      have q3 := i32_lo x2
      have q4 : (2 : Int32).toInt = 2 := rfl
      have hc12 := Int32.lt_iff_toInt_lt.mp hc12
      refine ⟨fun hc14 => ?_, fun hc15 => ?_⟩
      · skip
        have q5 : (1 : Int32).toInt = 1 := rfl
        have hc14 : ¬ (x1).toInt = (1 : Int32).toInt := fun z => hc14 (Int32.toInt_inj.mp z)
        have q6 : (-2 : Int32).toInt = -2 := rfl
        refine sfX11_refuse hX hW  (fun v8 I7 hWI7 hFI7 hp16 => ?_)
        have hwI7 := WX_f hWI7
        have hvr : v8.toInt = -2 := by rw [hp16]; rfl
        exact hK _ _ hWI7 (Fr.tr Fr.rf hFI7 (by intro a k h; omega)) (by first | exact asX_no hs (by assumption) hvr (by omega) (by omega) | exact asX_s hs (by omega) | exact asX_m hs (by omega) | (exfalso; omega))
      · skip
        have q5 : (1 : Int32).toInt = 1 := rfl
        have hc15 := Int32.toInt_inj.mpr hc15
        refine ⟨fun hc17 => ?_, fun hc18 => ?_⟩
        · skip
          have hc17 := Int32.lt_iff_toInt_lt.mp hc17
          have q6 : (-2 : Int32).toInt = -2 := rfl
          refine sfX11_refuse hX hW  (fun v10 I9 hWI9 hFI9 hp19 => ?_)
          have hwI9 := WX_f hWI9
          have hvr : v10.toInt = -2 := by rw [hp19]; rfl
          exact hK _ _ hWI9 (Fr.tr Fr.rf hFI9 (by intro a k h; omega)) (by first | exact asX_no hs (by assumption) hvr (by omega) (by omega) | exact asX_s hs (by omega) | exact asX_m hs (by omega) | (exfalso; omega))
        · skip
          have hc18 := mt Int32.lt_iff_toInt_lt.mpr hc18
          refine ⟨fun hc20 => ?_, fun hc21 => ?_⟩
          · skip
            have q6 : (99 : Int32).toInt = 99 := rfl
            have hc20 := Int32.lt_iff_toInt_lt.mp hc20
            have q7 : (-2 : Int32).toInt = -2 := rfl
            refine sfX11_refuse hX hW  (fun v12 I11 hWI11 hFI11 hp22 => ?_)
            have hwI11 := WX_f hWI11
            have hvr : v12.toInt = -2 := by rw [hp22]; rfl
            exact hK _ _ hWI11 (Fr.tr Fr.rf hFI11 (by intro a k h; omega)) (by first | exact asX_no hs (by assumption) hvr (by omega) (by omega) | exact asX_s hs (by omega) | exact asX_m hs (by omega) | (exfalso; omega))
          · skip
            have q6 : (99 : Int32).toInt = 99 := rfl
            have hc21 := mt Int32.lt_iff_toInt_lt.mpr hc21
            exact hK _ _ (WX_uI hW (by first | exact okXo (by decide) | (unfold okX; refine ⟨?_, ?_, ?_, ?_, ?_, ?_, ?_, ?_, ?_, ?_⟩ <;> intro h <;> omega))) (Fr_uI Fr.rf (by omega)) (by first | exact asX_no hs (by assumption) hvr (by omega) (by omega) | exact asX_s hs (by omega) | exact asX_m hs (by omega) | (exfalso; omega))
    · skip
      have q3 := i32_lo x2
      have q4 : (2 : Int32).toInt = 2 := rfl
      have hc13 := mt Int32.lt_iff_toInt_lt.mpr hc13
      refine ⟨fun hc23 => ?_, fun hc24 => ?_⟩
      · skip
        have q5 : (4 : Int32).toInt = 4 := rfl
        have hc23 := Int32.lt_iff_toInt_lt.mp hc23
        refine ⟨fun hc25 => ?_, fun hc26 => ?_⟩
        · skip
          have q6 : (1 : Int32).toInt = 1 := rfl
          have hc25 : ¬ (x1).toInt = (1 : Int32).toInt := fun z => hc25 (Int32.toInt_inj.mp z)
          have q7 : (-2 : Int32).toInt = -2 := rfl
          refine sfX11_refuse hX hW  (fun v14 I13 hWI13 hFI13 hp27 => ?_)
          have hwI13 := WX_f hWI13
          have hvr : v14.toInt = -2 := by rw [hp27]; rfl
          exact hK _ _ hWI13 (Fr.tr Fr.rf hFI13 (by intro a k h; omega)) (by first | exact asX_no hs (by assumption) hvr (by omega) (by omega) | exact asX_s hs (by omega) | exact asX_m hs (by omega) | (exfalso; omega))
        · skip
          have q6 : (1 : Int32).toInt = 1 := rfl
          have hc26 := Int32.toInt_inj.mpr hc26
          refine ⟨fun hc28 => ?_, fun hc29 => ?_⟩
          · skip
            have hc28 := Int32.lt_iff_toInt_lt.mp hc28
            have q7 : (-2 : Int32).toInt = -2 := rfl
            refine sfX11_refuse hX hW  (fun v16 I15 hWI15 hFI15 hp30 => ?_)
            have hwI15 := WX_f hWI15
            have hvr : v16.toInt = -2 := by rw [hp30]; rfl
            exact hK _ _ hWI15 (Fr.tr Fr.rf hFI15 (by intro a k h; omega)) (by first | exact asX_no hs (by assumption) hvr (by omega) (by omega) | exact asX_s hs (by omega) | exact asX_m hs (by omega) | (exfalso; omega))
          · skip
            have hc29 := mt Int32.lt_iff_toInt_lt.mpr hc29
            refine ⟨fun hc31 => ?_, fun hc32 => ?_⟩
            · skip
              have q7 : (99 : Int32).toInt = 99 := rfl
              have hc31 := Int32.lt_iff_toInt_lt.mp hc31
              have q8 : (-2 : Int32).toInt = -2 := rfl
              refine sfX11_refuse hX hW  (fun v18 I17 hWI17 hFI17 hp33 => ?_)
              have hwI17 := WX_f hWI17
              have hvr : v18.toInt = -2 := by rw [hp33]; rfl
              exact hK _ _ hWI17 (Fr.tr Fr.rf hFI17 (by intro a k h; omega)) (by first | exact asX_no hs (by assumption) hvr (by omega) (by omega) | exact asX_s hs (by omega) | exact asX_m hs (by omega) | (exfalso; omega))
            · skip
              have q7 : (99 : Int32).toInt = 99 := rfl
              have hc32 := mt Int32.lt_iff_toInt_lt.mpr hc32
              exact hK _ _ (WX_uI hW (by first | exact okXo (by decide) | (unfold okX; refine ⟨?_, ?_, ?_, ?_, ?_, ?_, ?_, ?_, ?_, ?_⟩ <;> intro h <;> omega))) (Fr_uI Fr.rf (by omega)) (by first | exact asX_no hs (by assumption) hvr (by omega) (by omega) | exact asX_s hs (by omega) | exact asX_m hs (by omega) | (exfalso; omega))
      · skip
        have q5 : (4 : Int32).toInt = 4 := rfl
        have hc24 := mt Int32.lt_iff_toInt_lt.mpr hc24
        exact hK _ _ (WX_uI hW (by first | exact okXo (by decide) | (unfold okX; refine ⟨?_, ?_, ?_, ?_, ?_, ?_, ?_, ?_, ?_, ?_⟩ <;> intro h <;> omega))) (Fr_uI Fr.rf (by omega)) (by first | exact asX_no hs (by assumption) hvr (by omega) (by omega) | exact asX_s hs (by omega) | exact asX_m hs (by omega) | (exfalso; omega))
theorem fsfX11_seed {G : jdG} {n : Nat} {Z : jdL} {J : jdJ} {K : Int32 → jdI → jdJ → Prop} {s : Sd} {I : jdI} {x1 : Int32} (hX : zX Z)  (hW : WX I) (hs : TX I 1 s) (hK : ∀ (v : Int32) (I2 : jdI), WX I2 → Fr (fun a k => (1 ≤ a ∧ a ≤ 4) ∨ a = 28) I I2 → (v.toInt = (oSeed s x1).1 ∧ TX I2 1 (oSeed s x1).2) → K v I2 J) : Cl G mX11_seed n 0 0 [.ref (gb G + 0), .int x1] Z I J (qi Z K) := by
  refine eX11_seed hX ?_
  have hwI := WX_f hW
  exact hK _ _ (WX_uI hW (by first | exact okXo (by decide) | (unfold okX; refine ⟨?_, ?_, ?_, ?_, ?_, ?_, ?_, ?_, ?_, ?_⟩ <;> intro h <;> omega))) (Fr_uI Fr.rf (by omega)) (by first | exact seX hs | (exfalso; omega))
theorem fsfX12_change {G : jdG} {n : Nat} {Z : jdL} {J : jdJ} {K : Int32 → jdI → jdJ → Prop} {s : Sd} {I : jdI} {t : Nat} {x1 : Int32} {x2 : Int32} {x3 : Int32} (ht : zModel Z t)  (hW : WM 7 t I) (hs : TM I t s) (hK : ∀ (v : Int32) (I2 : jdI), WM 7 t I2 → Fr (fun a k => a = t + 17 ∨ a = t + 18 ∨ a = t + 19) I I2 → (v.toInt = (oChange s x1 x2 x3).1 ∧ TM I2 t (oChange s x1 x2 x3).2) → K v I2 J) : Cl G mX12_change (n + 2) 0 0 [.ref (gb G + t), .int x1, .int x2, .int x3] Z I J (qi Z K) := by
  refine eX12_change ht ?_
  have hwI := WM_f hW
  have q1 := i32_lo x1
  refine sfX12_isOne ht hW  (fun v2  hp1 => ?_)
  refine ⟨fun hc2 => ?_, fun hc3 => ?_⟩
  · skip
    have q2 := i32_lo v2
    have q3 : (0 : Int32).toInt = 0 := rfl
    have hc2 := Int32.toInt_inj.mpr hc2
    have q4 : (-2 : Int32).toInt = -2 := rfl
    refine sfX12_refuse ht (by decide) hW (by omega) (fun v4 I3 hWI3 hFI3 hp4 => ?_)
    have hwI3 := WM_f hWI3
    have hvr : v4.toInt = -2 := hp4
    exact hK _ _ hWI3 (Fr.tr Fr.rf hFI3 (by intro a k h; omega)) (by first | exact chM_no hs (by omega) (by assumption) hvr (by omega) | exact chM_h hs (by omega) (by omega) | exact chM_c hs (by omega) (by omega) | (exfalso; omega))
  · skip
    have q2 := i32_lo v2
    have q3 : (0 : Int32).toInt = 0 := rfl
    have hc3 : ¬ (v2).toInt = (0 : Int32).toInt := fun z => hc3 (Int32.toInt_inj.mp z)
    have q4 := i32_lo x2
    have q5 : (Int32.toInt64 x2).toInt = (x2).toInt := Int32.toInt_toInt64 _
    have q6 : (0 : Int64).toInt = 0 := rfl
    have q7 : (1 : Int64).toInt = 1 := rfl
    refine sfX12_in  trivial  (fun v6  hp5 => ?_)
    refine ⟨fun hc6 => ?_, fun hc7 => ?_⟩
    · skip
      have q8 := i32_lo v6
      have hc6 := Int32.toInt_inj.mpr hc6
      have q9 : (-2 : Int32).toInt = -2 := rfl
      refine sfX12_refuse ht (by decide) hW (by omega) (fun v8 I7 hWI7 hFI7 hp8 => ?_)
      have hwI7 := WM_f hWI7
      have hvr : v8.toInt = -2 := hp8
      exact hK _ _ hWI7 (Fr.tr Fr.rf hFI7 (by intro a k h; omega)) (by first | exact chM_no hs (by omega) (by assumption) hvr (by omega) | exact chM_h hs (by omega) (by omega) | exact chM_c hs (by omega) (by omega) | (exfalso; omega))
    · skip
      have q8 := i32_lo v6
      have hc7 : ¬ (v6).toInt = (0 : Int32).toInt := fun z => hc7 (Int32.toInt_inj.mp z)
      refine ⟨fun hc9 => ?_, fun hc10 => ?_⟩
      · skip
        have hc9 : ¬ (x2).toInt = (0 : Int32).toInt := fun z => hc9 (Int32.toInt_inj.mp z)
        have q9 := i32_lo x3
        have q10 : (Int32.toInt64 x3).toInt = (x3).toInt := Int32.toInt_toInt64 _
        have q11 : (9 : Int64).toInt = 9 := rfl
        refine sfX12_in  trivial  (fun v10  hp11 => ?_)
        refine ⟨fun hc12 => ?_, fun hc13 => ?_⟩
        · skip
          have q12 := i32_lo v10
          have hc12 : ¬ (v10).toInt = (0 : Int32).toInt := fun z => hc12 (Int32.toInt_inj.mp z)
          refine ⟨fun hc14 => ?_, fun hc15 => ?_⟩
          · skip
            have hc14 : ¬ (x2).toInt = (0 : Int32).toInt := fun z => hc14 (Int32.toInt_inj.mp z)
            refine ⟨vp_of (by omega) (by omega), ?_⟩
            refine ⟨fun hc16 => ?_, fun hc17 => ?_⟩
            · skip
              have hc16 : ¬ (x2).toInt = (0 : Int32).toInt := fun z => hc16 (Int32.toInt_inj.mp z)
              refine ⟨vp_of (by omega) (by omega), ?_⟩
              exact hK _ _ (WM_uI hW (by first | exact okMo (by decide) (by decide) (by decide) (by decide) (by decide) | exact okMf (by decide) (by decide) (by decide) (by decide) (by decide) (by decide) (by decide) (by decide) | exact okM30 (by omega) | exact okM42 (by omega) | exact okM33 (by omega) | exact okM10 (by omega) | exact okM8 (by omega) | exact okM22 (by omega) | exact okM24 (by omega) | exact okM14 (by omega) | exact okMa31 (by omega) | exact okMa35 (by omega) | exact okMa36 (by omega) | exact okMa3 (by omega) | exact okMr (by omega) | (unfold okM; refine ⟨?_, ?_, ?_, ?_, ?_, ?_, ?_, ?_, ?_, ?_, ?_, ?_⟩ <;> intro h <;> omega))) (Fr_uI Fr.rf (by omega)) (by first | exact chM_no hs (by omega) (by assumption) hvr (by omega) | exact chM_h hs (by omega) (by omega) | exact chM_c hs (by omega) (by omega) | (exfalso; omega))
            · skip
              have hc17 := Int32.toInt_inj.mpr hc17
              refine ⟨vp_of (by omega) (by omega), ?_⟩
              exact hK _ _ (WM_uI hW (by first | exact okMo (by decide) (by decide) (by decide) (by decide) (by decide) | exact okMf (by decide) (by decide) (by decide) (by decide) (by decide) (by decide) (by decide) (by decide) | exact okM30 (by omega) | exact okM42 (by omega) | exact okM33 (by omega) | exact okM10 (by omega) | exact okM8 (by omega) | exact okM22 (by omega) | exact okM24 (by omega) | exact okM14 (by omega) | exact okMa31 (by omega) | exact okMa35 (by omega) | exact okMa36 (by omega) | exact okMa3 (by omega) | exact okMr (by omega) | (unfold okM; refine ⟨?_, ?_, ?_, ?_, ?_, ?_, ?_, ?_, ?_, ?_, ?_, ?_⟩ <;> intro h <;> omega))) (Fr_uI Fr.rf (by omega)) (by first | exact chM_no hs (by omega) (by assumption) hvr (by omega) | exact chM_h hs (by omega) (by omega) | exact chM_c hs (by omega) (by omega) | (exfalso; omega))
          · skip
            have hc15 := Int32.toInt_inj.mpr hc15
            refine ⟨vp_of (by omega) (by omega), ?_⟩
            refine ⟨fun hc18 => ?_, fun hc19 => ?_⟩
            · skip
              have hc18 : ¬ (x2).toInt = (0 : Int32).toInt := fun z => hc18 (Int32.toInt_inj.mp z)
              refine ⟨vp_of (by omega) (by omega), ?_⟩
              exact hK _ _ (WM_uI hW (by first | exact okMo (by decide) (by decide) (by decide) (by decide) (by decide) | exact okMf (by decide) (by decide) (by decide) (by decide) (by decide) (by decide) (by decide) (by decide) | exact okM30 (by omega) | exact okM42 (by omega) | exact okM33 (by omega) | exact okM10 (by omega) | exact okM8 (by omega) | exact okM22 (by omega) | exact okM24 (by omega) | exact okM14 (by omega) | exact okMa31 (by omega) | exact okMa35 (by omega) | exact okMa36 (by omega) | exact okMa3 (by omega) | exact okMr (by omega) | (unfold okM; refine ⟨?_, ?_, ?_, ?_, ?_, ?_, ?_, ?_, ?_, ?_, ?_, ?_⟩ <;> intro h <;> omega))) (Fr_uI Fr.rf (by omega)) (by first | exact chM_no hs (by omega) (by assumption) hvr (by omega) | exact chM_h hs (by omega) (by omega) | exact chM_c hs (by omega) (by omega) | (exfalso; omega))
            · skip
              have hc19 := Int32.toInt_inj.mpr hc19
              refine ⟨vp_of (by omega) (by omega), ?_⟩
              exact hK _ _ (WM_uI hW (by first | exact okMo (by decide) (by decide) (by decide) (by decide) (by decide) | exact okMf (by decide) (by decide) (by decide) (by decide) (by decide) (by decide) (by decide) (by decide) | exact okM30 (by omega) | exact okM42 (by omega) | exact okM33 (by omega) | exact okM10 (by omega) | exact okM8 (by omega) | exact okM22 (by omega) | exact okM24 (by omega) | exact okM14 (by omega) | exact okMa31 (by omega) | exact okMa35 (by omega) | exact okMa36 (by omega) | exact okMa3 (by omega) | exact okMr (by omega) | (unfold okM; refine ⟨?_, ?_, ?_, ?_, ?_, ?_, ?_, ?_, ?_, ?_, ?_, ?_⟩ <;> intro h <;> omega))) (Fr_uI Fr.rf (by omega)) (by first | exact chM_no hs (by omega) (by assumption) hvr (by omega) | exact chM_h hs (by omega) (by omega) | exact chM_c hs (by omega) (by omega) | (exfalso; omega))
        · skip
          have q12 := i32_lo v10
          have hc13 := Int32.toInt_inj.mpr hc13
          have q13 : (-2 : Int32).toInt = -2 := rfl
          refine sfX12_refuse ht (by decide) hW (by omega) (fun v18 I17 hWI17 hFI17 hp20 => ?_)
          have hwI17 := WM_f hWI17
          have hvr : v18.toInt = -2 := hp20
          exact hK _ _ hWI17 (Fr.tr Fr.rf hFI17 (by intro a k h; omega)) (by first | exact chM_no hs (by omega) (by assumption) hvr (by omega) | exact chM_h hs (by omega) (by omega) | exact chM_c hs (by omega) (by omega) | (exfalso; omega))
      · skip
        have hc10 := Int32.toInt_inj.mpr hc10
        have q9 := i32_lo x3
        have q10 : (Int32.toInt64 x3).toInt = (x3).toInt := Int32.toInt_toInt64 _
        have q11 : (23 : Int64).toInt = 23 := rfl
        refine sfX12_in  trivial  (fun v20  hp21 => ?_)
        refine ⟨fun hc22 => ?_, fun hc23 => ?_⟩
        · skip
          have q12 := i32_lo v20
          have hc22 : ¬ (v20).toInt = (0 : Int32).toInt := fun z => hc22 (Int32.toInt_inj.mp z)
          refine ⟨fun hc24 => ?_, fun hc25 => ?_⟩
          · skip
            have hc24 : ¬ (x2).toInt = (0 : Int32).toInt := fun z => hc24 (Int32.toInt_inj.mp z)
            refine ⟨vp_of (by omega) (by omega), ?_⟩
            refine ⟨fun hc26 => ?_, fun hc27 => ?_⟩
            · skip
              have hc26 : ¬ (x2).toInt = (0 : Int32).toInt := fun z => hc26 (Int32.toInt_inj.mp z)
              refine ⟨vp_of (by omega) (by omega), ?_⟩
              exact hK _ _ (WM_uI hW (by first | exact okMo (by decide) (by decide) (by decide) (by decide) (by decide) | exact okMf (by decide) (by decide) (by decide) (by decide) (by decide) (by decide) (by decide) (by decide) | exact okM30 (by omega) | exact okM42 (by omega) | exact okM33 (by omega) | exact okM10 (by omega) | exact okM8 (by omega) | exact okM22 (by omega) | exact okM24 (by omega) | exact okM14 (by omega) | exact okMa31 (by omega) | exact okMa35 (by omega) | exact okMa36 (by omega) | exact okMa3 (by omega) | exact okMr (by omega) | (unfold okM; refine ⟨?_, ?_, ?_, ?_, ?_, ?_, ?_, ?_, ?_, ?_, ?_, ?_⟩ <;> intro h <;> omega))) (Fr_uI Fr.rf (by omega)) (by first | exact chM_no hs (by omega) (by assumption) hvr (by omega) | exact chM_h hs (by omega) (by omega) | exact chM_c hs (by omega) (by omega) | (exfalso; omega))
            · skip
              have hc27 := Int32.toInt_inj.mpr hc27
              refine ⟨vp_of (by omega) (by omega), ?_⟩
              exact hK _ _ (WM_uI hW (by first | exact okMo (by decide) (by decide) (by decide) (by decide) (by decide) | exact okMf (by decide) (by decide) (by decide) (by decide) (by decide) (by decide) (by decide) (by decide) | exact okM30 (by omega) | exact okM42 (by omega) | exact okM33 (by omega) | exact okM10 (by omega) | exact okM8 (by omega) | exact okM22 (by omega) | exact okM24 (by omega) | exact okM14 (by omega) | exact okMa31 (by omega) | exact okMa35 (by omega) | exact okMa36 (by omega) | exact okMa3 (by omega) | exact okMr (by omega) | (unfold okM; refine ⟨?_, ?_, ?_, ?_, ?_, ?_, ?_, ?_, ?_, ?_, ?_, ?_⟩ <;> intro h <;> omega))) (Fr_uI Fr.rf (by omega)) (by first | exact chM_no hs (by omega) (by assumption) hvr (by omega) | exact chM_h hs (by omega) (by omega) | exact chM_c hs (by omega) (by omega) | (exfalso; omega))
          · skip
            have hc25 := Int32.toInt_inj.mpr hc25
            refine ⟨vp_of (by omega) (by omega), ?_⟩
            refine ⟨fun hc28 => ?_, fun hc29 => ?_⟩
            · skip
              have hc28 : ¬ (x2).toInt = (0 : Int32).toInt := fun z => hc28 (Int32.toInt_inj.mp z)
              refine ⟨vp_of (by omega) (by omega), ?_⟩
              exact hK _ _ (WM_uI hW (by first | exact okMo (by decide) (by decide) (by decide) (by decide) (by decide) | exact okMf (by decide) (by decide) (by decide) (by decide) (by decide) (by decide) (by decide) (by decide) | exact okM30 (by omega) | exact okM42 (by omega) | exact okM33 (by omega) | exact okM10 (by omega) | exact okM8 (by omega) | exact okM22 (by omega) | exact okM24 (by omega) | exact okM14 (by omega) | exact okMa31 (by omega) | exact okMa35 (by omega) | exact okMa36 (by omega) | exact okMa3 (by omega) | exact okMr (by omega) | (unfold okM; refine ⟨?_, ?_, ?_, ?_, ?_, ?_, ?_, ?_, ?_, ?_, ?_, ?_⟩ <;> intro h <;> omega))) (Fr_uI Fr.rf (by omega)) (by first | exact chM_no hs (by omega) (by assumption) hvr (by omega) | exact chM_h hs (by omega) (by omega) | exact chM_c hs (by omega) (by omega) | (exfalso; omega))
            · skip
              have hc29 := Int32.toInt_inj.mpr hc29
              refine ⟨vp_of (by omega) (by omega), ?_⟩
              exact hK _ _ (WM_uI hW (by first | exact okMo (by decide) (by decide) (by decide) (by decide) (by decide) | exact okMf (by decide) (by decide) (by decide) (by decide) (by decide) (by decide) (by decide) (by decide) | exact okM30 (by omega) | exact okM42 (by omega) | exact okM33 (by omega) | exact okM10 (by omega) | exact okM8 (by omega) | exact okM22 (by omega) | exact okM24 (by omega) | exact okM14 (by omega) | exact okMa31 (by omega) | exact okMa35 (by omega) | exact okMa36 (by omega) | exact okMa3 (by omega) | exact okMr (by omega) | (unfold okM; refine ⟨?_, ?_, ?_, ?_, ?_, ?_, ?_, ?_, ?_, ?_, ?_, ?_⟩ <;> intro h <;> omega))) (Fr_uI Fr.rf (by omega)) (by first | exact chM_no hs (by omega) (by assumption) hvr (by omega) | exact chM_h hs (by omega) (by omega) | exact chM_c hs (by omega) (by omega) | (exfalso; omega))
        · skip
          have q12 := i32_lo v20
          have hc23 := Int32.toInt_inj.mpr hc23
          have q13 : (-2 : Int32).toInt = -2 := rfl
          refine sfX12_refuse ht (by decide) hW (by omega) (fun v28 I27 hWI27 hFI27 hp30 => ?_)
          have hwI27 := WM_f hWI27
          have hvr : v28.toInt = -2 := hp30
          exact hK _ _ hWI27 (Fr.tr Fr.rf hFI27 (by intro a k h; omega)) (by first | exact chM_no hs (by omega) (by assumption) hvr (by omega) | exact chM_h hs (by omega) (by omega) | exact chM_c hs (by omega) (by omega) | (exfalso; omega))
theorem fsfX12_ask {G : jdG} {n : Nat} {Z : jdL} {J : jdJ} {K : Int32 → jdI → jdJ → Prop} {s : Sd} {I : jdI} {t : Nat} {x1 : Int32} {x2 : Int32} (ht : zModel Z t)  (hW : WM 7 t I) (hs : TM I t s) (hK : ∀ (v : Int32) (I2 : jdI), WM 7 t I2 → Fr (fun a k => (a = t ∧ (k = 14 ∨ k = 15)) ∨ a = t + 17) I I2 → (v.toInt = (oAsk s x1 x2).1 ∧ TM I2 t (oAsk s x1 x2).2) → K v I2 J) : Cl G mX12_ask (n + 1) 0 0 [.ref (gb G + t), .int x1, .int x2] Z I J (qi Z K) := by
  refine eX12_ask ht ?_
  have hwI := WM_f hW
  have q1 := i32_lo x1
  have q2 : (Int32.toInt64 x1).toInt = (x1).toInt := Int32.toInt_toInt64 _
  have q3 : (0 : Int64).toInt = 0 := rfl
  have q4 : (1 : Int64).toInt = 1 := rfl
  refine sfX12_in  trivial  (fun v2  hp1 => ?_)
  refine ⟨fun hc2 => ?_, fun hc3 => ?_⟩
  · skip
    have q5 := i32_lo v2
    have q6 : (0 : Int32).toInt = 0 := rfl
    have hc2 := Int32.toInt_inj.mpr hc2
    have q7 : (-2 : Int32).toInt = -2 := rfl
    refine sfX12_refuse ht (by decide) hW (by omega) (fun v4 I3 hWI3 hFI3 hp4 => ?_)
    have hwI3 := WM_f hWI3
    have hvr : v4.toInt = -2 := hp4
    exact hK _ _ hWI3 (Fr.tr Fr.rf hFI3 (by intro a k h; omega)) (by first | exact asM_no hs (by omega) (by assumption) hvr (by omega) (by omega) | exact asM_s hs (by omega) | exact asM_m hs (by omega) | (exfalso; omega))
  · skip
    have q5 := i32_lo v2
    have q6 : (0 : Int32).toInt = 0 := rfl
    have hc3 : ¬ (v2).toInt = (0 : Int32).toInt := fun z => hc3 (Int32.toInt_inj.mp z)
    refine ⟨fun hc5 => ?_, fun hc6 => ?_⟩
    · skip
      have hc5 : ¬ (x1).toInt = (0 : Int32).toInt := fun z => hc5 (Int32.toInt_inj.mp z)
      refine ⟨fun hc7 => ?_, fun hc8 => ?_⟩
      · skip
        have hc7 : ¬ (x1).toInt = (0 : Int32).toInt := fun z => hc7 (Int32.toInt_inj.mp z)
        have q7 := i32_lo x2
        have q8 : (Int32.toInt64 x2).toInt = (x2).toInt := Int32.toInt_toInt64 _
        have q9 : (99 : Int64).toInt = 99 := rfl
        refine sfX12_in  trivial  (fun v6  hp9 => ?_)
        refine ⟨fun hc10 => ?_, fun hc11 => ?_⟩
        · skip
          have q10 := i32_lo v6
          have hc10 : ¬ (v6).toInt = (0 : Int32).toInt := fun z => hc10 (Int32.toInt_inj.mp z)
          refine ⟨fun hc12 => ?_, fun hc13 => ?_⟩
          · skip
            have hc12 : ¬ (x1).toInt = (0 : Int32).toInt := fun z => hc12 (Int32.toInt_inj.mp z)
            refine ⟨fun hc14 => ?_, fun hc15 => ?_⟩
            · skip
              have hc14 : ¬ (x1).toInt = (0 : Int32).toInt := fun z => hc14 (Int32.toInt_inj.mp z)
              exact hK _ _ (WM_uI hW (by first | exact okMo (by decide) (by decide) (by decide) (by decide) (by decide) | exact okMf (by decide) (by decide) (by decide) (by decide) (by decide) (by decide) (by decide) (by decide) | exact okM30 (by omega) | exact okM42 (by omega) | exact okM33 (by omega) | exact okM10 (by omega) | exact okM8 (by omega) | exact okM22 (by omega) | exact okM24 (by omega) | exact okM14 (by omega) | exact okMa31 (by omega) | exact okMa35 (by omega) | exact okMa36 (by omega) | exact okMa3 (by omega) | exact okMr (by omega) | (unfold okM; refine ⟨?_, ?_, ?_, ?_, ?_, ?_, ?_, ?_, ?_, ?_, ?_, ?_⟩ <;> intro h <;> omega))) (Fr_uI Fr.rf (by omega)) (by first | exact asM_no hs (by omega) (by assumption) hvr (by omega) (by omega) | exact asM_s hs (by omega) | exact asM_m hs (by omega) | (exfalso; omega))
            · skip
              have hc15 := Int32.toInt_inj.mpr hc15
              exact hK _ _ (WM_uI hW (by first | exact okMo (by decide) (by decide) (by decide) (by decide) (by decide) | exact okMf (by decide) (by decide) (by decide) (by decide) (by decide) (by decide) (by decide) (by decide) | exact okM30 (by omega) | exact okM42 (by omega) | exact okM33 (by omega) | exact okM10 (by omega) | exact okM8 (by omega) | exact okM22 (by omega) | exact okM24 (by omega) | exact okM14 (by omega) | exact okMa31 (by omega) | exact okMa35 (by omega) | exact okMa36 (by omega) | exact okMa3 (by omega) | exact okMr (by omega) | (unfold okM; refine ⟨?_, ?_, ?_, ?_, ?_, ?_, ?_, ?_, ?_, ?_, ?_, ?_⟩ <;> intro h <;> omega))) (Fr_uI Fr.rf (by omega)) (by first | exact asM_no hs (by omega) (by assumption) hvr (by omega) (by omega) | exact asM_s hs (by omega) | exact asM_m hs (by omega) | (exfalso; omega))
          · skip
            have hc13 := Int32.toInt_inj.mpr hc13
            refine ⟨fun hc16 => ?_, fun hc17 => ?_⟩
            · skip
              have hc16 : ¬ (x1).toInt = (0 : Int32).toInt := fun z => hc16 (Int32.toInt_inj.mp z)
              exact hK _ _ (WM_uI hW (by first | exact okMo (by decide) (by decide) (by decide) (by decide) (by decide) | exact okMf (by decide) (by decide) (by decide) (by decide) (by decide) (by decide) (by decide) (by decide) | exact okM30 (by omega) | exact okM42 (by omega) | exact okM33 (by omega) | exact okM10 (by omega) | exact okM8 (by omega) | exact okM22 (by omega) | exact okM24 (by omega) | exact okM14 (by omega) | exact okMa31 (by omega) | exact okMa35 (by omega) | exact okMa36 (by omega) | exact okMa3 (by omega) | exact okMr (by omega) | (unfold okM; refine ⟨?_, ?_, ?_, ?_, ?_, ?_, ?_, ?_, ?_, ?_, ?_, ?_⟩ <;> intro h <;> omega))) (Fr_uI Fr.rf (by omega)) (by first | exact asM_no hs (by omega) (by assumption) hvr (by omega) (by omega) | exact asM_s hs (by omega) | exact asM_m hs (by omega) | (exfalso; omega))
            · skip
              have hc17 := Int32.toInt_inj.mpr hc17
              exact hK _ _ (WM_uI hW (by first | exact okMo (by decide) (by decide) (by decide) (by decide) (by decide) | exact okMf (by decide) (by decide) (by decide) (by decide) (by decide) (by decide) (by decide) (by decide) | exact okM30 (by omega) | exact okM42 (by omega) | exact okM33 (by omega) | exact okM10 (by omega) | exact okM8 (by omega) | exact okM22 (by omega) | exact okM24 (by omega) | exact okM14 (by omega) | exact okMa31 (by omega) | exact okMa35 (by omega) | exact okMa36 (by omega) | exact okMa3 (by omega) | exact okMr (by omega) | (unfold okM; refine ⟨?_, ?_, ?_, ?_, ?_, ?_, ?_, ?_, ?_, ?_, ?_, ?_⟩ <;> intro h <;> omega))) (Fr_uI Fr.rf (by omega)) (by first | exact asM_no hs (by omega) (by assumption) hvr (by omega) (by omega) | exact asM_s hs (by omega) | exact asM_m hs (by omega) | (exfalso; omega))
        · skip
          have q10 := i32_lo v6
          have hc11 := Int32.toInt_inj.mpr hc11
          have q11 : (-2 : Int32).toInt = -2 := rfl
          refine sfX12_refuse ht (by decide) hW (by omega) (fun v8 I7 hWI7 hFI7 hp18 => ?_)
          have hwI7 := WM_f hWI7
          have hvr : v8.toInt = -2 := hp18
          exact hK _ _ hWI7 (Fr.tr Fr.rf hFI7 (by intro a k h; omega)) (by first | exact asM_no hs (by omega) (by assumption) hvr (by omega) (by omega) | exact asM_s hs (by omega) | exact asM_m hs (by omega) | (exfalso; omega))
      · skip
        have hc8 := Int32.toInt_inj.mpr hc8
        have q7 := i32_lo x2
        have q8 : (Int32.toInt64 x2).toInt = (x2).toInt := Int32.toInt_toInt64 _
        have q9 : (4 : Int64).toInt = 4 := rfl
        refine sfX12_in  trivial  (fun v10  hp19 => ?_)
        refine ⟨fun hc20 => ?_, fun hc21 => ?_⟩
        · skip
          have q10 := i32_lo v10
          have hc20 : ¬ (v10).toInt = (0 : Int32).toInt := fun z => hc20 (Int32.toInt_inj.mp z)
          refine ⟨fun hc22 => ?_, fun hc23 => ?_⟩
          · skip
            have hc22 : ¬ (x1).toInt = (0 : Int32).toInt := fun z => hc22 (Int32.toInt_inj.mp z)
            refine ⟨fun hc24 => ?_, fun hc25 => ?_⟩
            · skip
              have hc24 : ¬ (x1).toInt = (0 : Int32).toInt := fun z => hc24 (Int32.toInt_inj.mp z)
              exact hK _ _ (WM_uI hW (by first | exact okMo (by decide) (by decide) (by decide) (by decide) (by decide) | exact okMf (by decide) (by decide) (by decide) (by decide) (by decide) (by decide) (by decide) (by decide) | exact okM30 (by omega) | exact okM42 (by omega) | exact okM33 (by omega) | exact okM10 (by omega) | exact okM8 (by omega) | exact okM22 (by omega) | exact okM24 (by omega) | exact okM14 (by omega) | exact okMa31 (by omega) | exact okMa35 (by omega) | exact okMa36 (by omega) | exact okMa3 (by omega) | exact okMr (by omega) | (unfold okM; refine ⟨?_, ?_, ?_, ?_, ?_, ?_, ?_, ?_, ?_, ?_, ?_, ?_⟩ <;> intro h <;> omega))) (Fr_uI Fr.rf (by omega)) (by first | exact asM_no hs (by omega) (by assumption) hvr (by omega) (by omega) | exact asM_s hs (by omega) | exact asM_m hs (by omega) | (exfalso; omega))
            · skip
              have hc25 := Int32.toInt_inj.mpr hc25
              exact hK _ _ (WM_uI hW (by first | exact okMo (by decide) (by decide) (by decide) (by decide) (by decide) | exact okMf (by decide) (by decide) (by decide) (by decide) (by decide) (by decide) (by decide) (by decide) | exact okM30 (by omega) | exact okM42 (by omega) | exact okM33 (by omega) | exact okM10 (by omega) | exact okM8 (by omega) | exact okM22 (by omega) | exact okM24 (by omega) | exact okM14 (by omega) | exact okMa31 (by omega) | exact okMa35 (by omega) | exact okMa36 (by omega) | exact okMa3 (by omega) | exact okMr (by omega) | (unfold okM; refine ⟨?_, ?_, ?_, ?_, ?_, ?_, ?_, ?_, ?_, ?_, ?_, ?_⟩ <;> intro h <;> omega))) (Fr_uI Fr.rf (by omega)) (by first | exact asM_no hs (by omega) (by assumption) hvr (by omega) (by omega) | exact asM_s hs (by omega) | exact asM_m hs (by omega) | (exfalso; omega))
          · skip
            have hc23 := Int32.toInt_inj.mpr hc23
            refine ⟨fun hc26 => ?_, fun hc27 => ?_⟩
            · skip
              have hc26 : ¬ (x1).toInt = (0 : Int32).toInt := fun z => hc26 (Int32.toInt_inj.mp z)
              exact hK _ _ (WM_uI hW (by first | exact okMo (by decide) (by decide) (by decide) (by decide) (by decide) | exact okMf (by decide) (by decide) (by decide) (by decide) (by decide) (by decide) (by decide) (by decide) | exact okM30 (by omega) | exact okM42 (by omega) | exact okM33 (by omega) | exact okM10 (by omega) | exact okM8 (by omega) | exact okM22 (by omega) | exact okM24 (by omega) | exact okM14 (by omega) | exact okMa31 (by omega) | exact okMa35 (by omega) | exact okMa36 (by omega) | exact okMa3 (by omega) | exact okMr (by omega) | (unfold okM; refine ⟨?_, ?_, ?_, ?_, ?_, ?_, ?_, ?_, ?_, ?_, ?_, ?_⟩ <;> intro h <;> omega))) (Fr_uI Fr.rf (by omega)) (by first | exact asM_no hs (by omega) (by assumption) hvr (by omega) (by omega) | exact asM_s hs (by omega) | exact asM_m hs (by omega) | (exfalso; omega))
            · skip
              have hc27 := Int32.toInt_inj.mpr hc27
              exact hK _ _ (WM_uI hW (by first | exact okMo (by decide) (by decide) (by decide) (by decide) (by decide) | exact okMf (by decide) (by decide) (by decide) (by decide) (by decide) (by decide) (by decide) (by decide) | exact okM30 (by omega) | exact okM42 (by omega) | exact okM33 (by omega) | exact okM10 (by omega) | exact okM8 (by omega) | exact okM22 (by omega) | exact okM24 (by omega) | exact okM14 (by omega) | exact okMa31 (by omega) | exact okMa35 (by omega) | exact okMa36 (by omega) | exact okMa3 (by omega) | exact okMr (by omega) | (unfold okM; refine ⟨?_, ?_, ?_, ?_, ?_, ?_, ?_, ?_, ?_, ?_, ?_, ?_⟩ <;> intro h <;> omega))) (Fr_uI Fr.rf (by omega)) (by first | exact asM_no hs (by omega) (by assumption) hvr (by omega) (by omega) | exact asM_s hs (by omega) | exact asM_m hs (by omega) | (exfalso; omega))
        · skip
          have q10 := i32_lo v10
          have hc21 := Int32.toInt_inj.mpr hc21
          have q11 : (-2 : Int32).toInt = -2 := rfl
          refine sfX12_refuse ht (by decide) hW (by omega) (fun v12 I11 hWI11 hFI11 hp28 => ?_)
          have hwI11 := WM_f hWI11
          have hvr : v12.toInt = -2 := hp28
          exact hK _ _ hWI11 (Fr.tr Fr.rf hFI11 (by intro a k h; omega)) (by first | exact asM_no hs (by omega) (by assumption) hvr (by omega) (by omega) | exact asM_s hs (by omega) | exact asM_m hs (by omega) | (exfalso; omega))
    · skip
      have hc6 := Int32.toInt_inj.mpr hc6
      refine ⟨fun hc29 => ?_, fun hc30 => ?_⟩
      · skip
        have hc29 : ¬ (x1).toInt = (0 : Int32).toInt := fun z => hc29 (Int32.toInt_inj.mp z)
        have q7 := i32_lo x2
        have q8 : (Int32.toInt64 x2).toInt = (x2).toInt := Int32.toInt_toInt64 _
        have q9 : (2 : Int64).toInt = 2 := rfl
        have q10 : (99 : Int64).toInt = 99 := rfl
        refine sfX12_in  trivial  (fun v14  hp31 => ?_)
        refine ⟨fun hc32 => ?_, fun hc33 => ?_⟩
        · skip
          have q11 := i32_lo v14
          have hc32 : ¬ (v14).toInt = (0 : Int32).toInt := fun z => hc32 (Int32.toInt_inj.mp z)
          refine ⟨fun hc34 => ?_, fun hc35 => ?_⟩
          · skip
            have hc34 : ¬ (x1).toInt = (0 : Int32).toInt := fun z => hc34 (Int32.toInt_inj.mp z)
            refine ⟨fun hc36 => ?_, fun hc37 => ?_⟩
            · skip
              have hc36 : ¬ (x1).toInt = (0 : Int32).toInt := fun z => hc36 (Int32.toInt_inj.mp z)
              exact hK _ _ (WM_uI hW (by first | exact okMo (by decide) (by decide) (by decide) (by decide) (by decide) | exact okMf (by decide) (by decide) (by decide) (by decide) (by decide) (by decide) (by decide) (by decide) | exact okM30 (by omega) | exact okM42 (by omega) | exact okM33 (by omega) | exact okM10 (by omega) | exact okM8 (by omega) | exact okM22 (by omega) | exact okM24 (by omega) | exact okM14 (by omega) | exact okMa31 (by omega) | exact okMa35 (by omega) | exact okMa36 (by omega) | exact okMa3 (by omega) | exact okMr (by omega) | (unfold okM; refine ⟨?_, ?_, ?_, ?_, ?_, ?_, ?_, ?_, ?_, ?_, ?_, ?_⟩ <;> intro h <;> omega))) (Fr_uI Fr.rf (by omega)) (by first | exact asM_no hs (by omega) (by assumption) hvr (by omega) (by omega) | exact asM_s hs (by omega) | exact asM_m hs (by omega) | (exfalso; omega))
            · skip
              have hc37 := Int32.toInt_inj.mpr hc37
              exact hK _ _ (WM_uI hW (by first | exact okMo (by decide) (by decide) (by decide) (by decide) (by decide) | exact okMf (by decide) (by decide) (by decide) (by decide) (by decide) (by decide) (by decide) (by decide) | exact okM30 (by omega) | exact okM42 (by omega) | exact okM33 (by omega) | exact okM10 (by omega) | exact okM8 (by omega) | exact okM22 (by omega) | exact okM24 (by omega) | exact okM14 (by omega) | exact okMa31 (by omega) | exact okMa35 (by omega) | exact okMa36 (by omega) | exact okMa3 (by omega) | exact okMr (by omega) | (unfold okM; refine ⟨?_, ?_, ?_, ?_, ?_, ?_, ?_, ?_, ?_, ?_, ?_, ?_⟩ <;> intro h <;> omega))) (Fr_uI Fr.rf (by omega)) (by first | exact asM_no hs (by omega) (by assumption) hvr (by omega) (by omega) | exact asM_s hs (by omega) | exact asM_m hs (by omega) | (exfalso; omega))
          · skip
            have hc35 := Int32.toInt_inj.mpr hc35
            refine ⟨fun hc38 => ?_, fun hc39 => ?_⟩
            · skip
              have hc38 : ¬ (x1).toInt = (0 : Int32).toInt := fun z => hc38 (Int32.toInt_inj.mp z)
              exact hK _ _ (WM_uI hW (by first | exact okMo (by decide) (by decide) (by decide) (by decide) (by decide) | exact okMf (by decide) (by decide) (by decide) (by decide) (by decide) (by decide) (by decide) (by decide) | exact okM30 (by omega) | exact okM42 (by omega) | exact okM33 (by omega) | exact okM10 (by omega) | exact okM8 (by omega) | exact okM22 (by omega) | exact okM24 (by omega) | exact okM14 (by omega) | exact okMa31 (by omega) | exact okMa35 (by omega) | exact okMa36 (by omega) | exact okMa3 (by omega) | exact okMr (by omega) | (unfold okM; refine ⟨?_, ?_, ?_, ?_, ?_, ?_, ?_, ?_, ?_, ?_, ?_, ?_⟩ <;> intro h <;> omega))) (Fr_uI Fr.rf (by omega)) (by first | exact asM_no hs (by omega) (by assumption) hvr (by omega) (by omega) | exact asM_s hs (by omega) | exact asM_m hs (by omega) | (exfalso; omega))
            · skip
              have hc39 := Int32.toInt_inj.mpr hc39
              exact hK _ _ (WM_uI hW (by first | exact okMo (by decide) (by decide) (by decide) (by decide) (by decide) | exact okMf (by decide) (by decide) (by decide) (by decide) (by decide) (by decide) (by decide) (by decide) | exact okM30 (by omega) | exact okM42 (by omega) | exact okM33 (by omega) | exact okM10 (by omega) | exact okM8 (by omega) | exact okM22 (by omega) | exact okM24 (by omega) | exact okM14 (by omega) | exact okMa31 (by omega) | exact okMa35 (by omega) | exact okMa36 (by omega) | exact okMa3 (by omega) | exact okMr (by omega) | (unfold okM; refine ⟨?_, ?_, ?_, ?_, ?_, ?_, ?_, ?_, ?_, ?_, ?_, ?_⟩ <;> intro h <;> omega))) (Fr_uI Fr.rf (by omega)) (by first | exact asM_no hs (by omega) (by assumption) hvr (by omega) (by omega) | exact asM_s hs (by omega) | exact asM_m hs (by omega) | (exfalso; omega))
        · skip
          have q11 := i32_lo v14
          have hc33 := Int32.toInt_inj.mpr hc33
          have q12 : (-2 : Int32).toInt = -2 := rfl
          refine sfX12_refuse ht (by decide) hW (by omega) (fun v16 I15 hWI15 hFI15 hp40 => ?_)
          have hwI15 := WM_f hWI15
          have hvr : v16.toInt = -2 := hp40
          exact hK _ _ hWI15 (Fr.tr Fr.rf hFI15 (by intro a k h; omega)) (by first | exact asM_no hs (by omega) (by assumption) hvr (by omega) (by omega) | exact asM_s hs (by omega) | exact asM_m hs (by omega) | (exfalso; omega))
      · skip
        have hc30 := Int32.toInt_inj.mpr hc30
        have q7 := i32_lo x2
        have q8 : (Int32.toInt64 x2).toInt = (x2).toInt := Int32.toInt_toInt64 _
        have q9 : (2 : Int64).toInt = 2 := rfl
        have q10 : (4 : Int64).toInt = 4 := rfl
        refine sfX12_in  trivial  (fun v18  hp41 => ?_)
        refine ⟨fun hc42 => ?_, fun hc43 => ?_⟩
        · skip
          have q11 := i32_lo v18
          have hc42 : ¬ (v18).toInt = (0 : Int32).toInt := fun z => hc42 (Int32.toInt_inj.mp z)
          refine ⟨fun hc44 => ?_, fun hc45 => ?_⟩
          · skip
            have hc44 : ¬ (x1).toInt = (0 : Int32).toInt := fun z => hc44 (Int32.toInt_inj.mp z)
            refine ⟨fun hc46 => ?_, fun hc47 => ?_⟩
            · skip
              have hc46 : ¬ (x1).toInt = (0 : Int32).toInt := fun z => hc46 (Int32.toInt_inj.mp z)
              exact hK _ _ (WM_uI hW (by first | exact okMo (by decide) (by decide) (by decide) (by decide) (by decide) | exact okMf (by decide) (by decide) (by decide) (by decide) (by decide) (by decide) (by decide) (by decide) | exact okM30 (by omega) | exact okM42 (by omega) | exact okM33 (by omega) | exact okM10 (by omega) | exact okM8 (by omega) | exact okM22 (by omega) | exact okM24 (by omega) | exact okM14 (by omega) | exact okMa31 (by omega) | exact okMa35 (by omega) | exact okMa36 (by omega) | exact okMa3 (by omega) | exact okMr (by omega) | (unfold okM; refine ⟨?_, ?_, ?_, ?_, ?_, ?_, ?_, ?_, ?_, ?_, ?_, ?_⟩ <;> intro h <;> omega))) (Fr_uI Fr.rf (by omega)) (by first | exact asM_no hs (by omega) (by assumption) hvr (by omega) (by omega) | exact asM_s hs (by omega) | exact asM_m hs (by omega) | (exfalso; omega))
            · skip
              have hc47 := Int32.toInt_inj.mpr hc47
              exact hK _ _ (WM_uI hW (by first | exact okMo (by decide) (by decide) (by decide) (by decide) (by decide) | exact okMf (by decide) (by decide) (by decide) (by decide) (by decide) (by decide) (by decide) (by decide) | exact okM30 (by omega) | exact okM42 (by omega) | exact okM33 (by omega) | exact okM10 (by omega) | exact okM8 (by omega) | exact okM22 (by omega) | exact okM24 (by omega) | exact okM14 (by omega) | exact okMa31 (by omega) | exact okMa35 (by omega) | exact okMa36 (by omega) | exact okMa3 (by omega) | exact okMr (by omega) | (unfold okM; refine ⟨?_, ?_, ?_, ?_, ?_, ?_, ?_, ?_, ?_, ?_, ?_, ?_⟩ <;> intro h <;> omega))) (Fr_uI Fr.rf (by omega)) (by first | exact asM_no hs (by omega) (by assumption) hvr (by omega) (by omega) | exact asM_s hs (by omega) | exact asM_m hs (by omega) | (exfalso; omega))
          · skip
            have hc45 := Int32.toInt_inj.mpr hc45
            refine ⟨fun hc48 => ?_, fun hc49 => ?_⟩
            · skip
              have hc48 : ¬ (x1).toInt = (0 : Int32).toInt := fun z => hc48 (Int32.toInt_inj.mp z)
              exact hK _ _ (WM_uI hW (by first | exact okMo (by decide) (by decide) (by decide) (by decide) (by decide) | exact okMf (by decide) (by decide) (by decide) (by decide) (by decide) (by decide) (by decide) (by decide) | exact okM30 (by omega) | exact okM42 (by omega) | exact okM33 (by omega) | exact okM10 (by omega) | exact okM8 (by omega) | exact okM22 (by omega) | exact okM24 (by omega) | exact okM14 (by omega) | exact okMa31 (by omega) | exact okMa35 (by omega) | exact okMa36 (by omega) | exact okMa3 (by omega) | exact okMr (by omega) | (unfold okM; refine ⟨?_, ?_, ?_, ?_, ?_, ?_, ?_, ?_, ?_, ?_, ?_, ?_⟩ <;> intro h <;> omega))) (Fr_uI Fr.rf (by omega)) (by first | exact asM_no hs (by omega) (by assumption) hvr (by omega) (by omega) | exact asM_s hs (by omega) | exact asM_m hs (by omega) | (exfalso; omega))
            · skip
              have hc49 := Int32.toInt_inj.mpr hc49
              exact hK _ _ (WM_uI hW (by first | exact okMo (by decide) (by decide) (by decide) (by decide) (by decide) | exact okMf (by decide) (by decide) (by decide) (by decide) (by decide) (by decide) (by decide) (by decide) | exact okM30 (by omega) | exact okM42 (by omega) | exact okM33 (by omega) | exact okM10 (by omega) | exact okM8 (by omega) | exact okM22 (by omega) | exact okM24 (by omega) | exact okM14 (by omega) | exact okMa31 (by omega) | exact okMa35 (by omega) | exact okMa36 (by omega) | exact okMa3 (by omega) | exact okMr (by omega) | (unfold okM; refine ⟨?_, ?_, ?_, ?_, ?_, ?_, ?_, ?_, ?_, ?_, ?_, ?_⟩ <;> intro h <;> omega))) (Fr_uI Fr.rf (by omega)) (by first | exact asM_no hs (by omega) (by assumption) hvr (by omega) (by omega) | exact asM_s hs (by omega) | exact asM_m hs (by omega) | (exfalso; omega))
        · skip
          have q11 := i32_lo v18
          have hc43 := Int32.toInt_inj.mpr hc43
          have q12 : (-2 : Int32).toInt = -2 := rfl
          refine sfX12_refuse ht (by decide) hW (by omega) (fun v20 I19 hWI19 hFI19 hp50 => ?_)
          have hwI19 := WM_f hWI19
          have hvr : v20.toInt = -2 := hp50
          exact hK _ _ hWI19 (Fr.tr Fr.rf hFI19 (by intro a k h; omega)) (by first | exact asM_no hs (by omega) (by assumption) hvr (by omega) (by omega) | exact asM_s hs (by omega) | exact asM_m hs (by omega) | (exfalso; omega))
theorem fsfX12_seed {G : jdG} {n : Nat} {Z : jdL} {J : jdJ} {K : Int32 → jdI → jdJ → Prop} {s : Sd} {I : jdI} {t : Nat} {x1 : Int32} (ht : zModel Z t)  (hW : WM 7 t I) (hs : TM I t s) (hK : ∀ (v : Int32) (I2 : jdI), WM 7 t I2 → Fr (fun a k => a = t ∧ k = 19) I I2 → (v.toInt = (oSeed s x1).1 ∧ TM I2 t (oSeed s x1).2) → K v I2 J) : Cl G mX12_seed n 0 0 [.ref (gb G + t), .int x1] Z I J (qi Z K) := by
  refine eX12_seed ht ?_
  have hwI := WM_f hW
  exact hK _ _ (WM_uI hW (by first | exact okMo (by decide) (by decide) (by decide) (by decide) (by decide) | exact okMf (by decide) (by decide) (by decide) (by decide) (by decide) (by decide) (by decide) (by decide) | exact okM30 (by omega) | exact okM42 (by omega) | exact okM33 (by omega) | exact okM10 (by omega) | exact okM8 (by omega) | exact okM22 (by omega) | exact okM24 (by omega) | exact okM14 (by omega) | exact okMa31 (by omega) | exact okMa35 (by omega) | exact okMa36 (by omega) | exact okMa3 (by omega) | exact okMr (by omega) | (unfold okM; refine ⟨?_, ?_, ?_, ?_, ?_, ?_, ?_, ?_, ?_, ?_, ?_, ?_⟩ <;> intro h <;> omega))) (Fr_uI Fr.rf (by omega)) (by first | exact seM hs | (exfalso; omega))
