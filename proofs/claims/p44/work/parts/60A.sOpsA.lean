/-! towns with seeds, and operations on them -/
abbrev Sd : Type := Tw × Int32
def TX (I : jdI) (b : Nat) (s : Sd) : Prop := RX I b s.1 ∧ I b 6 = s.2
def TM (I : jdI) (t : Nat) (s : Sd) : Prop := RM I t s.1 ∧ I t 19 = s.2
theorem TX_fr {I I2 : jdI} {b : Nat} {s : Sd} {p : Nat → Nat → Prop} (h : TX I b s) (hF : Fr p I I2) (hp : ∀ a k, b ≤ a → a ≤ b + 3 → ¬ p a k) : TX I2 b s := ⟨RX_fr h.1 hF hp, by rw [hF b 6 (hp b 6 (by omega) (by omega))]; exact h.2⟩
theorem TM_fr {I I2 : jdI} {t : Nat} {s : Sd} {p : Nat → Nat → Prop} (h : TM I t s) (hP : s.1.1 ≤ 8) (hF : Fr p I I2) (h1 : ¬ p t 10) (h2 : ¬ p t 14) (h3 : ¬ p t 15) (h4 : ¬ p t 19) (hp : ∀ a k, t + 18 ≤ a → a ≤ t + 28 → ¬ a = t + 20 → ¬ p a k) : TM I2 t s := ⟨RM_fr h.1 hP hF h1 h2 h3 hp, by rw [hF t 19 h4]; exact h.2⟩
def hourT (w : Tw) (i : Nat) (v : Int32) : Tw := (w.1, (fun j => if j = i then v else w.2.1 j), w.2.2)
def costT (w : Tw) (i : Nat) (v : Int32) : Tw := (w.1, w.2.1, (fun j => if j = i then v else w.2.2.1 j), w.2.2.2)
def oPerson (s : Sd) (x1 x2 : Int32) : Int × Sd := if (0 ≤ x1.toInt ∧ x1.toInt < 24) ∧ 0 ≤ x2.toInt ∧ x2.toInt < 10 then (if s.1.1 < 7 then (s.1.1, (addT s.1 x1 x2, s.2)) else (-6, s)) else (-2, s)
def oChange (s : Sd) (x1 x2 x3 : Int32) : Int × Sd := if (0 ≤ x1.toInt ∧ x1.toInt < s.1.1) ∧ ((x2.toInt = 0 ∧ 0 ≤ x3.toInt ∧ x3.toInt < 24) ∨ (x2.toInt = 1 ∧ 0 ≤ x3.toInt ∧ x3.toInt < 10)) then (if x2.toInt = 0 then ((s.1.2.1 x1.toInt.toNat).toInt, (hourT s.1 x1.toInt.toNat x3, s.2)) else ((s.1.2.2.1 x1.toInt.toNat).toInt, (costT s.1 x1.toInt.toNat x3, s.2))) else (-2, s)
def oAsk (s : Sd) (x1 x2 : Int32) : Int × Sd := if x1.toInt = 0 ∧ 2 ≤ x2.toInt ∧ x2.toInt ≤ 4 then (s.1.2.2.2.1, (seatT s.1 x2.toInt, s.2)) else if x1.toInt = 1 ∧ 0 ≤ x2.toInt ∧ x2.toInt ≤ 99 then (s.1.2.2.2.2.1, (memT s.1 x2.toInt, s.2)) else (-2, s)
def oSeed (s : Sd) (x1 : Int32) : Int × Sd := (s.2.toInt, (s.1, x1))
def nx (x : Int32) : Int32 := (x * 1103515245) + 12345
def vd (x b : Int32) : Int32 := ((Int32.toUInt32 x >>> (Int32.toUInt32 16 &&& Int32.toUInt32 31)).toInt32 - (Int32.toUInt32 x >>> (Int32.toUInt32 16 &&& Int32.toUInt32 31)).toInt32 / b * b)
/-- whom somebody drawn knows, from j on -/
def drG (g : Int32 → Int32) (b : Int32 → Bool) : Nat → Nat → Sd → Sd
  | 0, _, s => s
  | f + 1, j, s => drG g b f (j + 1) (if b (g s.2) = true then tieT s.1 (s.1.1 - 1).toNat j 0 else s.1, g s.2)
theorem drG_1 (g : Int32 → Int32) (b : Int32 → Bool) : ∀ (f j : Nat) (s : Sd), (drG g b f j s).1.1 = s.1.1
  | 0, _, s => rfl
  | f + 1, j, s => by
    show (drG g b f (j + 1) (if b (g s.2) = true then tieT s.1 (s.1.1 - 1).toNat j 0 else s.1, g s.2)).1.1 = _
    rw [drG_1 g b f]
    show (if b (g s.2) = true then tieT s.1 (s.1.1 - 1).toNat j 0 else s.1).1 = _
    split <;> rfl
theorem drG_n {g : Int32 → Int32} {b : Int32 → Bool} {f j : Nat} {s : Sd} (h : ¬ b (g s.2) = true) : drG g b (f + 1) j s = drG g b f (j + 1) (s.1, g s.2) := by
  show drG g b f (j + 1) (if b (g s.2) = true then tieT s.1 (s.1.1 - 1).toNat j 0 else s.1, g s.2) = _
  rw [if_neg h]
theorem drG_y {g : Int32 → Int32} {b : Int32 → Bool} {f j : Nat} {s : Sd} (h : b (g s.2) = true) : drG g b (f + 1) j s = drG g b f (j + 1) (tieT s.1 (s.1.1 - 1).toNat j 0, g s.2) := by
  show drG g b f (j + 1) (if b (g s.2) = true then tieT s.1 (s.1.1 - 1).toNat j 0 else s.1, g s.2) = _
  rw [if_pos h]
def bz (x : Int32) : Bool := decide (vd x 3 = 0)
def drK : Nat → Nat → Sd → Sd := drG nx bz
def addD (s : Sd) : Sd := drK s.1.1.toNat 0 (addT s.1 (vd (nx s.2) 24) (vd (nx (nx s.2)) 10), nx (nx s.2))
def comeN : Nat → Sd → Sd
  | 0, s => s
  | f + 1, s => comeN f (addD s)
def oCome (s : Sd) (x1 : Int32) : Int × Sd := if 1 ≤ x1.toInt ∧ x1.toInt ≤ 7 then (if 7 - s.1.1 < x1.toInt then (7 - s.1.1, comeN (7 - s.1.1).toNat s) else (x1.toInt, comeN x1.toInt.toNat s)) else (-2, s)
theorem chX_no {I I2 : jdI} {s : Sd} {x1 x2 x3 v : Int32} (hs : TX I 1 s) (hF : Fr (fun a k => a = 28) I I2) (hv : v.toInt = -2) (hc : ¬ ((0 ≤ x1.toInt ∧ x1.toInt < (I 1 3).toInt) ∧ ((x2.toInt = 0 ∧ 0 ≤ x3.toInt ∧ x3.toInt < 24) ∨ (x2.toInt = 1 ∧ 0 ≤ x3.toInt ∧ x3.toInt < 10)))) : v.toInt = (oChange s x1 x2 x3).1 ∧ TX I2 1 (oChange s x1 x2 x3).2 := by
  have h1 := hs.1.1
  have e : oChange s x1 x2 x3 = (-2, s) := if_neg (by omega)
  rw [e]
  exact ⟨hv, TX_fr hs hF (by intro a k h1 h2; omega)⟩
theorem chX_h {I : jdI} {s : Sd} {x1 x2 x3 : Int32} (hs : TX I 1 s) (hc : 0 ≤ x1.toInt ∧ x1.toInt < (I 1 3).toInt) (h2 : x2.toInt = 0 ∧ 0 ≤ x3.toInt ∧ x3.toInt < 24) : (I (1 + 1) (Int32.toNatClampNeg x1)).toInt = (oChange s x1 x2 x3).1 ∧ TX (uI I (1 + 1) (Int32.toNatClampNeg x1) x3) 1 (oChange s x1 x2 x3).2 := by
  have h1 := hs.1.1
  have e : oChange s x1 x2 x3 = ((s.1.2.1 x1.toInt.toNat).toInt, (hourT s.1 x1.toInt.toNat x3, s.2)) := by
    unfold oChange
    rw [if_pos (by omega), if_pos h2.1]
  rw [e]
  obtain ⟨⟨w1, w2, w3, w4, w5⟩, w6⟩ := hs
  have n1 := tn_eq x1
  refine ⟨by rw [n1, (w2 _ (by omega)).1], ⟨by rw [uI_n _ _ _ (by omega)]; exact w1, fun i hi => ⟨?_, ?_⟩, by rw [uI_n _ _ _ (by omega)]; exact w3, by rw [uI_n _ _ _ (by omega)]; exact w4, fun i j hi hj hne => by rw [uI_n _ _ _ (by omega)]; exact w5 i j hi hj hne⟩, by rw [uI_n _ _ _ (by omega)]; exact w6⟩
  · have hi : (i : Int) < s.1.1 := hi
    show _ = if i = x1.toInt.toNat then x3 else s.1.2.1 i
    rw [uI_ap]
    by_cases c : i = x1.toInt.toNat
    · rw [if_pos ⟨rfl, c⟩, if_pos c]
    · rw [if_neg (fun q => c q.2), if_neg c]
      exact (w2 i hi).1
  · rw [uI_n _ _ _ (by omega)]
    exact (w2 i hi).2
theorem chX_c {I : jdI} {s : Sd} {x1 x2 x3 : Int32} (hs : TX I 1 s) (hc : 0 ≤ x1.toInt ∧ x1.toInt < (I 1 3).toInt) (h2 : x2.toInt = 1 ∧ 0 ≤ x3.toInt ∧ x3.toInt < 10) : (I (1 + 2) (Int32.toNatClampNeg x1)).toInt = (oChange s x1 x2 x3).1 ∧ TX (uI I (1 + 2) (Int32.toNatClampNeg x1) x3) 1 (oChange s x1 x2 x3).2 := by
  have h1 := hs.1.1
  have e : oChange s x1 x2 x3 = ((s.1.2.2.1 x1.toInt.toNat).toInt, (costT s.1 x1.toInt.toNat x3, s.2)) := by
    unfold oChange
    rw [if_pos (by omega), if_neg (by omega)]
  rw [e]
  obtain ⟨⟨w1, w2, w3, w4, w5⟩, w6⟩ := hs
  have n1 := tn_eq x1
  refine ⟨by rw [n1, (w2 _ (by omega)).2], ⟨by rw [uI_n _ _ _ (by omega)]; exact w1, fun i hi => ⟨?_, ?_⟩, by rw [uI_n _ _ _ (by omega)]; exact w3, by rw [uI_n _ _ _ (by omega)]; exact w4, fun i j hi hj hne => by rw [uI_n _ _ _ (by omega)]; exact w5 i j hi hj hne⟩, by rw [uI_n _ _ _ (by omega)]; exact w6⟩
  · rw [uI_n _ _ _ (by omega)]
    exact (w2 i hi).1
  · have hi : (i : Int) < s.1.1 := hi
    show _ = if i = x1.toInt.toNat then x3 else s.1.2.2.1 i
    rw [uI_ap]
    by_cases c : i = x1.toInt.toNat
    · rw [if_pos ⟨rfl, c⟩, if_pos c]
    · rw [if_neg (fun q => c q.2), if_neg c]
      exact (w2 i hi).2
theorem asX_no {I I2 : jdI} {s : Sd} {x1 x2 v : Int32} (hs : TX I 1 s) (hF : Fr (fun a k => a = 28) I I2) (hv : v.toInt = -2) (h1 : ¬ (x1.toInt = 0 ∧ 2 ≤ x2.toInt ∧ x2.toInt ≤ 4)) (h2 : ¬ (x1.toInt = 1 ∧ 0 ≤ x2.toInt ∧ x2.toInt ≤ 99)) : v.toInt = (oAsk s x1 x2).1 ∧ TX I2 1 (oAsk s x1 x2).2 := by
  have e : oAsk s x1 x2 = (-2, s) := by
    unfold oAsk
    rw [if_neg h1, if_neg h2]
  rw [e]
  exact ⟨hv, TX_fr hs hF (by intro a k h1 h2; omega)⟩
theorem asX_s {I : jdI} {s : Sd} {x1 x2 : Int32} (hs : TX I 1 s) (h1 : x1.toInt = 0 ∧ 2 ≤ x2.toInt ∧ x2.toInt ≤ 4) : (I 1 4).toInt = (oAsk s x1 x2).1 ∧ TX (uI I 1 4 x2) 1 (oAsk s x1 x2).2 := by
  have e : oAsk s x1 x2 = (s.1.2.2.2.1, (seatT s.1 x2.toInt, s.2)) := if_pos h1
  rw [e]
  obtain ⟨⟨w1, w2, w3, w4, w5⟩, w6⟩ := hs
  have f0 : Fr (fun a k => a = 1 ∧ k = 4) I (uI I 1 4 x2) := Fr_uI Fr.rf ⟨rfl, rfl⟩
  exact ⟨w3, ⟨by rw [f0 1 3 (by omega)]; exact w1, fun i hi => by rw [f0 (1 + 1) i (by omega), f0 (1 + 2) i (by omega)]; exact w2 i hi, by rw [uI_ap, if_pos ⟨rfl, rfl⟩]; rfl, by rw [f0 1 5 (by omega)]; exact w4, fun i j hi hj hne => by rw [f0 (1 + 3) _ (by omega)]; exact w5 i j hi hj hne⟩, by rw [f0 1 6 (by omega)]; exact w6⟩
theorem asX_m {I : jdI} {s : Sd} {x1 x2 : Int32} (hs : TX I 1 s) (h1 : x1.toInt = 1 ∧ 0 ≤ x2.toInt ∧ x2.toInt ≤ 99) : (I 1 5).toInt = (oAsk s x1 x2).1 ∧ TX (uI I 1 5 x2) 1 (oAsk s x1 x2).2 := by
  have e : oAsk s x1 x2 = (s.1.2.2.2.2.1, (memT s.1 x2.toInt, s.2)) := by
    unfold oAsk
    rw [if_neg (by omega), if_pos h1]
  rw [e]
  obtain ⟨⟨w1, w2, w3, w4, w5⟩, w6⟩ := hs
  have f0 : Fr (fun a k => a = 1 ∧ k = 5) I (uI I 1 5 x2) := Fr_uI Fr.rf ⟨rfl, rfl⟩
  exact ⟨w4, ⟨by rw [f0 1 3 (by omega)]; exact w1, fun i hi => by rw [f0 (1 + 1) i (by omega), f0 (1 + 2) i (by omega)]; exact w2 i hi, by rw [f0 1 4 (by omega)]; exact w3, by rw [uI_ap, if_pos ⟨rfl, rfl⟩]; rfl, fun i j hi hj hne => by rw [f0 (1 + 3) _ (by omega)]; exact w5 i j hi hj hne⟩, by rw [f0 1 6 (by omega)]; exact w6⟩
theorem seX {I : jdI} {s : Sd} {x1 : Int32} (hs : TX I 1 s) : (I 1 6).toInt = (oSeed s x1).1 ∧ TX (uI I 1 6 x1) 1 (oSeed s x1).2 := by
  obtain ⟨⟨w1, w2, w3, w4, w5⟩, w6⟩ := hs
  have f0 : Fr (fun a k => a = 1 ∧ k = 6) I (uI I 1 6 x1) := Fr_uI Fr.rf ⟨rfl, rfl⟩
  exact ⟨congrArg Int32.toInt w6, ⟨by rw [f0 1 3 (by omega)]; exact w1, fun i hi => by rw [f0 (1 + 1) i (by omega), f0 (1 + 2) i (by omega)]; exact w2 i hi, by rw [f0 1 4 (by omega)]; exact w3, by rw [f0 1 5 (by omega)]; exact w4, fun i j hi hj hne => by rw [f0 (1 + 3) _ (by omega)]; exact w5 i j hi hj hne⟩, by rw [uI_ap, if_pos ⟨rfl, rfl⟩]; rfl⟩
theorem chM_no {I I2 : jdI} {t : Nat} {s : Sd} {x1 x2 x3 v : Int32} (hs : TM I t s) (hp : (I t 10).toInt ≤ 7) (hF : Fr (fun a k => a = t + 17) I I2) (hv : v.toInt = -2) (hc : ¬ ((0 ≤ x1.toInt ∧ x1.toInt < (I t 10).toInt) ∧ ((x2.toInt = 0 ∧ 0 ≤ x3.toInt ∧ x3.toInt < 24) ∨ (x2.toInt = 1 ∧ 0 ≤ x3.toInt ∧ x3.toInt < 10)))) : v.toInt = (oChange s x1 x2 x3).1 ∧ TM I2 t (oChange s x1 x2 x3).2 := by
  have h1 := hs.1.1
  have e : oChange s x1 x2 x3 = (-2, s) := if_neg (by omega)
  rw [e]
  exact ⟨hv, TM_fr hs (show s.1.1 ≤ 8 by omega) hF (by omega) (by omega) (by omega) (by omega) (by intro a k h1 h2 h3; omega)⟩
theorem chM_h {I : jdI} {t : Nat} {s : Sd} {x1 x2 x3 : Int32} (hs : TM I t s) (hc : 0 ≤ x1.toInt ∧ x1.toInt < (I t 10).toInt) (h2 : x2.toInt = 0 ∧ 0 ≤ x3.toInt ∧ x3.toInt < 24) : (I (t + 18) (Int32.toNatClampNeg x1)).toInt = (oChange s x1 x2 x3).1 ∧ TM (uI I (t + 18) (Int32.toNatClampNeg x1) x3) t (oChange s x1 x2 x3).2 := by
  have h1 := hs.1.1
  have e : oChange s x1 x2 x3 = ((s.1.2.1 x1.toInt.toNat).toInt, (hourT s.1 x1.toInt.toNat x3, s.2)) := by
    unfold oChange
    rw [if_pos (by omega), if_pos h2.1]
  rw [e]
  obtain ⟨⟨w1, w2, w3, w4, w5⟩, w6⟩ := hs
  have n1 := tn_eq x1
  refine ⟨by rw [n1, (w2 _ (by omega)).1], ⟨by rw [uI_n _ _ _ (by omega)]; exact w1, fun i hi => ⟨?_, ?_⟩, by rw [uI_n _ _ _ (by omega)]; exact w3, by rw [uI_n _ _ _ (by omega)]; exact w4, fun i j hi hj hne => by rw [uI_n _ _ _ (by omega)]; exact w5 i j hi hj hne⟩, by rw [uI_n _ _ _ (by omega)]; exact w6⟩
  · have hi : (i : Int) < s.1.1 := hi
    show _ = if i = x1.toInt.toNat then x3 else s.1.2.1 i
    rw [uI_ap]
    by_cases c : i = x1.toInt.toNat
    · rw [if_pos ⟨rfl, c⟩, if_pos c]
    · rw [if_neg (fun q => c q.2), if_neg c]
      exact (w2 i hi).1
  · rw [uI_n _ _ _ (by omega)]
    exact (w2 i hi).2
theorem chM_c {I : jdI} {t : Nat} {s : Sd} {x1 x2 x3 : Int32} (hs : TM I t s) (hc : 0 ≤ x1.toInt ∧ x1.toInt < (I t 10).toInt) (h2 : x2.toInt = 1 ∧ 0 ≤ x3.toInt ∧ x3.toInt < 10) : (I (t + 19) (Int32.toNatClampNeg x1)).toInt = (oChange s x1 x2 x3).1 ∧ TM (uI I (t + 19) (Int32.toNatClampNeg x1) x3) t (oChange s x1 x2 x3).2 := by
  have h1 := hs.1.1
  have e : oChange s x1 x2 x3 = ((s.1.2.2.1 x1.toInt.toNat).toInt, (costT s.1 x1.toInt.toNat x3, s.2)) := by
    unfold oChange
    rw [if_pos (by omega), if_neg (by omega)]
  rw [e]
  obtain ⟨⟨w1, w2, w3, w4, w5⟩, w6⟩ := hs
  have n1 := tn_eq x1
  refine ⟨by rw [n1, (w2 _ (by omega)).2], ⟨by rw [uI_n _ _ _ (by omega)]; exact w1, fun i hi => ⟨?_, ?_⟩, by rw [uI_n _ _ _ (by omega)]; exact w3, by rw [uI_n _ _ _ (by omega)]; exact w4, fun i j hi hj hne => by rw [uI_n _ _ _ (by omega)]; exact w5 i j hi hj hne⟩, by rw [uI_n _ _ _ (by omega)]; exact w6⟩
  · rw [uI_n _ _ _ (by omega)]
    exact (w2 i hi).1
  · have hi : (i : Int) < s.1.1 := hi
    show _ = if i = x1.toInt.toNat then x3 else s.1.2.2.1 i
    rw [uI_ap]
    by_cases c : i = x1.toInt.toNat
    · rw [if_pos ⟨rfl, c⟩, if_pos c]
    · rw [if_neg (fun q => c q.2), if_neg c]
      exact (w2 i hi).2
theorem asM_no {I I2 : jdI} {t : Nat} {s : Sd} {x1 x2 v : Int32} (hs : TM I t s) (hp : (I t 10).toInt ≤ 7) (hF : Fr (fun a k => a = t + 17) I I2) (hv : v.toInt = -2) (h1 : ¬ (x1.toInt = 0 ∧ 2 ≤ x2.toInt ∧ x2.toInt ≤ 4)) (h2 : ¬ (x1.toInt = 1 ∧ 0 ≤ x2.toInt ∧ x2.toInt ≤ 99)) : v.toInt = (oAsk s x1 x2).1 ∧ TM I2 t (oAsk s x1 x2).2 := by
  have e : oAsk s x1 x2 = (-2, s) := by
    unfold oAsk
    rw [if_neg h1, if_neg h2]
  have h3 := hs.1.1
  rw [e]
  exact ⟨hv, TM_fr hs (show s.1.1 ≤ 8 by omega) hF (by omega) (by omega) (by omega) (by omega) (by intro a k h1 h2 h3; omega)⟩
theorem asM_s {I : jdI} {t : Nat} {s : Sd} {x1 x2 : Int32} (hs : TM I t s) (h1 : x1.toInt = 0 ∧ 2 ≤ x2.toInt ∧ x2.toInt ≤ 4) : (I t 14).toInt = (oAsk s x1 x2).1 ∧ TM (uI I t 14 x2) t (oAsk s x1 x2).2 := by
  have e : oAsk s x1 x2 = (s.1.2.2.2.1, (seatT s.1 x2.toInt, s.2)) := if_pos h1
  rw [e]
  obtain ⟨⟨w1, w2, w3, w4, w5⟩, w6⟩ := hs
  have f0 : Fr (fun a k => a = t ∧ k = 14) I (uI I t 14 x2) := Fr_uI Fr.rf ⟨rfl, rfl⟩
  exact ⟨w3, ⟨by rw [f0 t 10 (by omega)]; exact w1, fun i hi => by rw [f0 (t + 18) i (by omega), f0 (t + 19) i (by omega)]; exact w2 i hi, by rw [uI_ap, if_pos ⟨rfl, rfl⟩]; rfl, by rw [f0 t 15 (by omega)]; exact w4, fun i j hi hj hne => by rw [f0 (t + 21 + i) _ (by omega)]; exact w5 i j hi hj hne⟩, by rw [f0 t 19 (by omega)]; exact w6⟩
theorem asM_m {I : jdI} {t : Nat} {s : Sd} {x1 x2 : Int32} (hs : TM I t s) (h1 : x1.toInt = 1 ∧ 0 ≤ x2.toInt ∧ x2.toInt ≤ 99) : (I t 15).toInt = (oAsk s x1 x2).1 ∧ TM (uI I t 15 x2) t (oAsk s x1 x2).2 := by
  have e : oAsk s x1 x2 = (s.1.2.2.2.2.1, (memT s.1 x2.toInt, s.2)) := by
    unfold oAsk
    rw [if_neg (by omega), if_pos h1]
  rw [e]
  obtain ⟨⟨w1, w2, w3, w4, w5⟩, w6⟩ := hs
  have f0 : Fr (fun a k => a = t ∧ k = 15) I (uI I t 15 x2) := Fr_uI Fr.rf ⟨rfl, rfl⟩
  exact ⟨w4, ⟨by rw [f0 t 10 (by omega)]; exact w1, fun i hi => by rw [f0 (t + 18) i (by omega), f0 (t + 19) i (by omega)]; exact w2 i hi, by rw [f0 t 14 (by omega)]; exact w3, by rw [uI_ap, if_pos ⟨rfl, rfl⟩]; rfl, fun i j hi hj hne => by rw [f0 (t + 21 + i) _ (by omega)]; exact w5 i j hi hj hne⟩, by rw [f0 t 19 (by omega)]; exact w6⟩
theorem seM {I : jdI} {t : Nat} {s : Sd} {x1 : Int32} (hs : TM I t s) : (I t 19).toInt = (oSeed s x1).1 ∧ TM (uI I t 19 x1) t (oSeed s x1).2 := by
  obtain ⟨⟨w1, w2, w3, w4, w5⟩, w6⟩ := hs
  have f0 : Fr (fun a k => a = t ∧ k = 19) I (uI I t 19 x1) := Fr_uI Fr.rf ⟨rfl, rfl⟩
  exact ⟨congrArg Int32.toInt w6, ⟨by rw [f0 t 10 (by omega)]; exact w1, fun i hi => by rw [f0 (t + 18) i (by omega), f0 (t + 19) i (by omega)]; exact w2 i hi, by rw [f0 t 14 (by omega)]; exact w3, by rw [f0 t 15 (by omega)]; exact w4, fun i j hi hj hne => by rw [f0 (t + 21 + i) _ (by omega)]; exact w5 i j hi hj hne⟩, by rw [uI_ap, if_pos ⟨rfl, rfl⟩]; rfl⟩
theorem fsfX11_change {G : jdG} {n : Nat} {Z : jdL} {J : jdJ} {K : Int32 → jdI → jdJ → Prop} {s : Sd} {I : jdI} {x1 : Int32} {x2 : Int32} {x3 : Int32} (hX : zX Z)  (hW : WX I) (hs : TX I 1 s) (hK : ∀ (v : Int32) (I2 : jdI), WX I2 → Fr (fun a k => (1 ≤ a ∧ a ≤ 4) ∨ a = 28) I I2 → (v.toInt = (oChange s x1 x2 x3).1 ∧ TX I2 1 (oChange s x1 x2 x3).2) → K v I2 J) : Cl G mX11_change (n + 1) 0 0 [.ref (gb G + 0), .int x1, .int x2, .int x3] Z I J (qi Z K) := by
  refine eX11_change hX ?_
  have hwI := WX_f hW
  refine ⟨fun hc1 => ?_, fun hc2 => ?_⟩
  · skip
    have q1 := i32_lo x2
    have q2 : (0 : Int32).toInt = 0 := rfl
    have hc1 : ¬ (x2).toInt = (0 : Int32).toInt := fun z => hc1 (Int32.toInt_inj.mp z)
    refine ⟨fun hc3 => ?_, fun hc4 => ?_⟩
    · skip
      have q3 : (1 : Int32).toInt = 1 := rfl
      have hc3 : ¬ (x2).toInt = (1 : Int32).toInt := fun z => hc3 (Int32.toInt_inj.mp z)
      have q4 := i32_lo x1
      refine sfX9_has (zX_o0 hX) (by decide) hW  (fun v2  hp5 => ?_)
      refine ⟨fun hc6 => ?_, fun hc7 => ?_⟩
      · skip
        have q5 := i32_lo v2
        have hc6 := Int32.toInt_inj.mpr hc6
        have q6 : (-2 : Int32).toInt = -2 := rfl
        refine sfX11_refuse hX hW  (fun v4 I3 hWI3 hFI3 hp8 => ?_)
        have hwI3 := WX_f hWI3
        have hvr : v4.toInt = -2 := by rw [hp8]; rfl
        exact hK _ _ hWI3 (Fr.tr Fr.rf hFI3 (by intro a k h; omega)) (by first | exact chX_no hs (by assumption) hvr (by omega) | exact chX_h hs (by omega) (by omega) | exact chX_c hs (by omega) (by omega) | (exfalso; omega))
      · skip
        have q5 := i32_lo v2
        have hc7 : ¬ (v2).toInt = (0 : Int32).toInt := fun z => hc7 (Int32.toInt_inj.mp z)
        have q6 : (-2 : Int32).toInt = -2 := rfl
        refine sfX11_refuse hX hW  (fun v6 I5 hWI5 hFI5 hp9 => ?_)
        have hwI5 := WX_f hWI5
        have hvr : v6.toInt = -2 := by rw [hp9]; rfl
        exact hK _ _ hWI5 (Fr.tr Fr.rf hFI5 (by intro a k h; omega)) (by first | exact chX_no hs (by assumption) hvr (by omega) | exact chX_h hs (by omega) (by omega) | exact chX_c hs (by omega) (by omega) | (exfalso; omega))
    · skip
      have q3 : (1 : Int32).toInt = 1 := rfl
      have hc4 := Int32.toInt_inj.mpr hc4
      have q4 := i32_lo x3
      refine sfX11_isCost  hW  (fun v8  hp10 => ?_)
      refine ⟨fun hc11 => ?_, fun hc12 => ?_⟩
      · skip
        have q5 := i32_lo v8
        have hc11 := Int32.toInt_inj.mpr hc11
        have q6 := i32_lo x1
        refine sfX9_has (zX_o0 hX) (by decide) hW  (fun v10  hp13 => ?_)
        refine ⟨fun hc14 => ?_, fun hc15 => ?_⟩
        · skip
          have q7 := i32_lo v10
          have hc14 := Int32.toInt_inj.mpr hc14
          have q8 : (-2 : Int32).toInt = -2 := rfl
          refine sfX11_refuse hX hW  (fun v12 I11 hWI11 hFI11 hp16 => ?_)
          have hwI11 := WX_f hWI11
          have hvr : v12.toInt = -2 := by rw [hp16]; rfl
          exact hK _ _ hWI11 (Fr.tr Fr.rf hFI11 (by intro a k h; omega)) (by first | exact chX_no hs (by assumption) hvr (by omega) | exact chX_h hs (by omega) (by omega) | exact chX_c hs (by omega) (by omega) | (exfalso; omega))
        · skip
          have q7 := i32_lo v10
          have hc15 : ¬ (v10).toInt = (0 : Int32).toInt := fun z => hc15 (Int32.toInt_inj.mp z)
          have q8 : (-2 : Int32).toInt = -2 := rfl
          refine sfX11_refuse hX hW  (fun v14 I13 hWI13 hFI13 hp17 => ?_)
          have hwI13 := WX_f hWI13
          have hvr : v14.toInt = -2 := by rw [hp17]; rfl
          exact hK _ _ hWI13 (Fr.tr Fr.rf hFI13 (by intro a k h; omega)) (by first | exact chX_no hs (by assumption) hvr (by omega) | exact chX_h hs (by omega) (by omega) | exact chX_c hs (by omega) (by omega) | (exfalso; omega))
      · skip
        have q5 := i32_lo v8
        have hc12 : ¬ (v8).toInt = (0 : Int32).toInt := fun z => hc12 (Int32.toInt_inj.mp z)
        have q6 := i32_lo x1
        refine sfX9_has (zX_o0 hX) (by decide) hW  (fun v16  hp18 => ?_)
        refine ⟨fun hc19 => ?_, fun hc20 => ?_⟩
        · skip
          have q7 := i32_lo v16
          have hc19 := Int32.toInt_inj.mpr hc19
          have q8 : (-2 : Int32).toInt = -2 := rfl
          refine sfX11_refuse hX hW  (fun v18 I17 hWI17 hFI17 hp21 => ?_)
          have hwI17 := WX_f hWI17
          have hvr : v18.toInt = -2 := by rw [hp21]; rfl
          exact hK _ _ hWI17 (Fr.tr Fr.rf hFI17 (by intro a k h; omega)) (by first | exact chX_no hs (by assumption) hvr (by omega) | exact chX_h hs (by omega) (by omega) | exact chX_c hs (by omega) (by omega) | (exfalso; omega))
        · skip
          have q7 := i32_lo v16
          have hc20 : ¬ (v16).toInt = (0 : Int32).toInt := fun z => hc20 (Int32.toInt_inj.mp z)
          refine ⟨fun hc22 => ?_, fun hc23 => ?_⟩
          · skip
            have hc22 : ¬ (x2).toInt = (0 : Int32).toInt := fun z => hc22 (Int32.toInt_inj.mp z)
            refine ⟨vp_of (by omega) (by omega), ?_⟩
            refine ⟨vp_of (by omega) (by omega), ?_⟩
            exact hK _ _ (WX_uI hW (by first | exact okXo (by decide) | (unfold okX; refine ⟨?_, ?_, ?_, ?_, ?_, ?_, ?_, ?_, ?_, ?_⟩ <;> intro h <;> omega))) (Fr_uI Fr.rf (by omega)) (by first | exact chX_no hs (by assumption) hvr (by omega) | exact chX_h hs (by omega) (by omega) | exact chX_c hs (by omega) (by omega) | (exfalso; omega))
          · skip
            have hc23 := Int32.toInt_inj.mpr hc23
            refine ⟨vp_of (by omega) (by omega), ?_⟩
            refine ⟨vp_of (by omega) (by omega), ?_⟩
            exact hK _ _ (WX_uI hW (by first | exact okXo (by decide) | (unfold okX; refine ⟨?_, ?_, ?_, ?_, ?_, ?_, ?_, ?_, ?_, ?_⟩ <;> intro h <;> omega))) (Fr_uI Fr.rf (by omega)) (by first | exact chX_no hs (by assumption) hvr (by omega) | exact chX_h hs (by omega) (by omega) | exact chX_c hs (by omega) (by omega) | (exfalso; omega))
  · skip
    have q1 := i32_lo x2
    have q2 : (0 : Int32).toInt = 0 := rfl
    have hc2 := Int32.toInt_inj.mpr hc2
    have q3 := i32_lo x3
    refine sfX11_isHour  hW  (fun v24  hp24 => ?_)
    have q4 := i32_lo x1
    refine sfX9_has (zX_o0 hX) (by decide) hW  (fun v26  hp25 => ?_)
    refine ⟨fun hc26 => ?_, fun hc27 => ?_⟩
    · skip
      have q5 := i32_lo v26
      have hc26 := Int32.toInt_inj.mpr hc26
      have q6 : (-2 : Int32).toInt = -2 := rfl
      refine sfX11_refuse hX hW  (fun v28 I27 hWI27 hFI27 hp28 => ?_)
      have hwI27 := WX_f hWI27
      have hvr : v28.toInt = -2 := by rw [hp28]; rfl
      exact hK _ _ hWI27 (Fr.tr Fr.rf hFI27 (by intro a k h; omega)) (by first | exact chX_no hs (by assumption) hvr (by omega) | exact chX_h hs (by omega) (by omega) | exact chX_c hs (by omega) (by omega) | (exfalso; omega))
    · skip
      have q5 := i32_lo v26
      have hc27 : ¬ (v26).toInt = (0 : Int32).toInt := fun z => hc27 (Int32.toInt_inj.mp z)
      refine ⟨fun hc29 => ?_, fun hc30 => ?_⟩
      · skip
        have q6 := i32_lo v24
        have hc29 : ¬ (v24).toInt = (0 : Int32).toInt := fun z => hc29 (Int32.toInt_inj.mp z)
        refine ⟨fun hc31 => ?_, fun hc32 => ?_⟩
        · skip
          have hc31 : ¬ (x2).toInt = (0 : Int32).toInt := fun z => hc31 (Int32.toInt_inj.mp z)
          refine ⟨vp_of (by omega) (by omega), ?_⟩
          refine ⟨vp_of (by omega) (by omega), ?_⟩
          exact hK _ _ (WX_uI hW (by first | exact okXo (by decide) | (unfold okX; refine ⟨?_, ?_, ?_, ?_, ?_, ?_, ?_, ?_, ?_, ?_⟩ <;> intro h <;> omega))) (Fr_uI Fr.rf (by omega)) (by first | exact chX_no hs (by assumption) hvr (by omega) | exact chX_h hs (by omega) (by omega) | exact chX_c hs (by omega) (by omega) | (exfalso; omega))
        · skip
          have hc32 := Int32.toInt_inj.mpr hc32
          refine ⟨vp_of (by omega) (by omega), ?_⟩
          refine ⟨vp_of (by omega) (by omega), ?_⟩
          exact hK _ _ (WX_uI hW (by first | exact okXo (by decide) | (unfold okX; refine ⟨?_, ?_, ?_, ?_, ?_, ?_, ?_, ?_, ?_, ?_⟩ <;> intro h <;> omega))) (Fr_uI Fr.rf (by omega)) (by first | exact chX_no hs (by assumption) hvr (by omega) | exact chX_h hs (by omega) (by omega) | exact chX_c hs (by omega) (by omega) | (exfalso; omega))
      · skip
        have q6 := i32_lo v24
        have hc30 := Int32.toInt_inj.mpr hc30
        have q7 : (-2 : Int32).toInt = -2 := rfl
        refine sfX11_refuse hX hW  (fun v34 I33 hWI33 hFI33 hp33 => ?_)
        have hwI33 := WX_f hWI33
        have hvr : v34.toInt = -2 := by rw [hp33]; rfl
        exact hK _ _ hWI33 (Fr.tr Fr.rf hFI33 (by intro a k h; omega)) (by first | exact chX_no hs (by assumption) hvr (by omega) | exact chX_h hs (by omega) (by omega) | exact chX_c hs (by omega) (by omega) | (exfalso; omega))
theorem fsfX11_ask {G : jdG} {n : Nat} {Z : jdL} {J : jdJ} {K : Int32 → jdI → jdJ → Prop} {s : Sd} {I : jdI} {x1 : Int32} {x2 : Int32} (hX : zX Z)  (hW : WX I) (hs : TX I 1 s) (hK : ∀ (v : Int32) (I2 : jdI), WX I2 → Fr (fun a k => (1 ≤ a ∧ a ≤ 4) ∨ a = 28) I I2 → (v.toInt = (oAsk s x1 x2).1 ∧ TX I2 1 (oAsk s x1 x2).2) → K v I2 J) : Cl G mX11_ask (n + 1) 0 0 [.ref (gb G + 0), .int x1, .int x2] Z I J (qi Z K) := by
  refine eX11_ask hX ?_
  have hwI := WX_f hW
  refine ⟨fun hc1 => ?_, fun hc2 => ?_⟩
  · skip
    have q1 := i32_lo x1
    have q2 : (0 : Int32).toInt = 0 := rfl
    have hc1 : ¬ (x1).toInt = (0 : Int32).toInt := fun z => hc1 (Int32.toInt_inj.mp z)
    refine ⟨fun hc3 => ?_, fun hc4 => ?_⟩
    · skip
      have q3 : (1 : Int32).toInt = 1 := rfl
      have hc3 : ¬ (x1).toInt = (1 : Int32).toInt := fun z => hc3 (Int32.toInt_inj.mp z)
      have q4 : (-2 : Int32).toInt = -2 := rfl
      refine sfX11_refuse hX hW  (fun v2 I1 hWI1 hFI1 hp5 => ?_)
      have hwI1 := WX_f hWI1
      have hvr : v2.toInt = -2 := by rw [hp5]; rfl
      exact hK _ _ hWI1 (Fr.tr Fr.rf hFI1 (by intro a k h; omega)) (by first | exact asX_no hs (by assumption) hvr (by omega) (by omega) | exact asX_s hs (by omega) | exact asX_m hs (by omega) | (exfalso; omega))
    · skip
      have q3 : (1 : Int32).toInt = 1 := rfl
      have hc4 := Int32.toInt_inj.mpr hc4
      refine ⟨fun hc6 => ?_, fun hc7 => ?_⟩
      · skip
        have q4 := i32_lo x2
        have hc6 := Int32.lt_iff_toInt_lt.mp hc6
        have q5 : (-2 : Int32).toInt = -2 := rfl
        refine sfX11_refuse hX hW  (fun v4 I3 hWI3 hFI3 hp8 => ?_)
        have hwI3 := WX_f hWI3
        have hvr : v4.toInt = -2 := by rw [hp8]; rfl
        exact hK _ _ hWI3 (Fr.tr Fr.rf hFI3 (by intro a k h; omega)) (by first | exact asX_no hs (by assumption) hvr (by omega) (by omega) | exact asX_s hs (by omega) | exact asX_m hs (by omega) | (exfalso; omega))
      · skip
        have q4 := i32_lo x2
        have hc7 := mt Int32.lt_iff_toInt_lt.mpr hc7
        refine ⟨fun hc9 => ?_, fun hc10 => ?_⟩
        · skip
          have q5 : (99 : Int32).toInt = 99 := rfl
          have hc9 := Int32.lt_iff_toInt_lt.mp hc9
          have q6 : (-2 : Int32).toInt = -2 := rfl
          refine sfX11_refuse hX hW  (fun v6 I5 hWI5 hFI5 hp11 => ?_)
          have hwI5 := WX_f hWI5
          have hvr : v6.toInt = -2 := by rw [hp11]; rfl
          exact hK _ _ hWI5 (Fr.tr Fr.rf hFI5 (by intro a k h; omega)) (by first | exact asX_no hs (by assumption) hvr (by omega) (by omega) | exact asX_s hs (by omega) | exact asX_m hs (by omega) | (exfalso; omega))
        · skip
          have q5 : (99 : Int32).toInt = 99 := rfl
          have hc10 := mt Int32.lt_iff_toInt_lt.mpr hc10
          exact hK _ _ (WX_uI hW (by first | exact okXo (by decide) | (unfold okX; refine ⟨?_, ?_, ?_, ?_, ?_, ?_, ?_, ?_, ?_, ?_⟩ <;> intro h <;> omega))) (Fr_uI Fr.rf (by omega)) (by first | exact asX_no hs (by assumption) hvr (by omega) (by omega) | exact asX_s hs (by omega) | exact asX_m hs (by omega) | (exfalso; omega))
  · skip
    have q1 := i32_lo x1
    have q2 : (0 : Int32).toInt = 0 := rfl
    have hc2 := Int32.toInt_inj.mpr hc2
    refine ⟨fun hc12 => ?_, fun hc13 => ?_⟩
    · skip
      have q3 := i32_lo x2
      have q4 : (2 : Int32).toInt = 2 := rfl
      have hc12 := Int32.lt_iff_toInt_lt.mp hc12
      refine ⟨fun hc14 => ?_, fun hc15 => ?_⟩
      · skip
        have q5 : (1 : Int32).toInt = 1 := rfl
        have hc14 : ¬ (x1).toInt = (1 : Int32).toInt := fun z => hc14 (Int32.toInt_inj.mp z)
        have q6 : (-2 : Int32).toInt = -2 := rfl
        refine sfX11_refuse hX hW  (fun v8 I7 hWI7 hFI7 hp16 => ?_)
        have hwI7 := WX_f hWI7
        have hvr : v8.toInt = -2 := by rw [hp16]; rfl
        exact hK _ _ hWI7 (Fr.tr Fr.rf hFI7 (by intro a k h; omega)) (by first | exact asX_no hs (by assumption) hvr (by omega) (by omega) | exact asX_s hs (by omega) | exact asX_m hs (by omega) | (exfalso; omega))
      · skip
        have q5 : (1 : Int32).toInt = 1 := rfl
        have hc15 := Int32.toInt_inj.mpr hc15
        refine ⟨fun hc17 => ?_, fun hc18 => ?_⟩
        · skip
          have hc17 := Int32.lt_iff_toInt_lt.mp hc17
          have q6 : (-2 : Int32).toInt = -2 := rfl
          refine sfX11_refuse hX hW  (fun v10 I9 hWI9 hFI9 hp19 => ?_)
          have hwI9 := WX_f hWI9
          have hvr : v10.toInt = -2 := by rw [hp19]; rfl
          exact hK _ _ hWI9 (Fr.tr Fr.rf hFI9 (by intro a k h; omega)) (by first | exact asX_no hs (by assumption) hvr (by omega) (by omega) | exact asX_s hs (by omega) | exact asX_m hs (by omega) | (exfalso; omega))
        · skip
          have hc18 := mt Int32.lt_iff_toInt_lt.mpr hc18
          refine ⟨fun hc20 => ?_, fun hc21 => ?_⟩
          · skip
            have q6 : (99 : Int32).toInt = 99 := rfl
            have hc20 := Int32.lt_iff_toInt_lt.mp hc20
            have q7 : (-2 : Int32).toInt = -2 := rfl
            refine sfX11_refuse hX hW  (fun v12 I11 hWI11 hFI11 hp22 => ?_)
            have hwI11 := WX_f hWI11
            have hvr : v12.toInt = -2 := by rw [hp22]; rfl
            exact hK _ _ hWI11 (Fr.tr Fr.rf hFI11 (by intro a k h; omega)) (by first | exact asX_no hs (by assumption) hvr (by omega) (by omega) | exact asX_s hs (by omega) | exact asX_m hs (by omega) | (exfalso; omega))
          · skip
            have q6 : (99 : Int32).toInt = 99 := rfl
            have hc21 := mt Int32.lt_iff_toInt_lt.mpr hc21
            exact hK _ _ (WX_uI hW (by first | exact okXo (by decide) | (unfold okX; refine ⟨?_, ?_, ?_, ?_, ?_, ?_, ?_, ?_, ?_, ?_⟩ <;> intro h <;> omega))) (Fr_uI Fr.rf (by omega)) (by first | exact asX_no hs (by assumption) hvr (by omega) (by omega) | exact asX_s hs (by omega) | exact asX_m hs (by omega) | (exfalso; omega))
    · skip
      have q3 := i32_lo x2
      have q4 : (2 : Int32).toInt = 2 := rfl
      have hc13 := mt Int32.lt_iff_toInt_lt.mpr hc13
      refine ⟨fun hc23 => ?_, fun hc24 => ?_⟩
      · skip
        have q5 : (4 : Int32).toInt = 4 := rfl
        have hc23 := Int32.lt_iff_toInt_lt.mp hc23
        refine ⟨fun hc25 => ?_, fun hc26 => ?_⟩
        · skip
          have q6 : (1 : Int32).toInt = 1 := rfl
          have hc25 : ¬ (x1).toInt = (1 : Int32).toInt := fun z => hc25 (Int32.toInt_inj.mp z)
          have q7 : (-2 : Int32).toInt = -2 := rfl
          refine sfX11_refuse hX hW  (fun v14 I13 hWI13 hFI13 hp27 => ?_)
          have hwI13 := WX_f hWI13
          have hvr : v14.toInt = -2 := by rw [hp27]; rfl
          exact hK _ _ hWI13 (Fr.tr Fr.rf hFI13 (by intro a k h; omega)) (by first | exact asX_no hs (by assumption) hvr (by omega) (by omega) | exact asX_s hs (by omega) | exact asX_m hs (by omega) | (exfalso; omega))
        · skip
          have q6 : (1 : Int32).toInt = 1 := rfl
          have hc26 := Int32.toInt_inj.mpr hc26
          refine ⟨fun hc28 => ?_, fun hc29 => ?_⟩
          · skip
            have hc28 := Int32.lt_iff_toInt_lt.mp hc28
            have q7 : (-2 : Int32).toInt = -2 := rfl
            refine sfX11_refuse hX hW  (fun v16 I15 hWI15 hFI15 hp30 => ?_)
            have hwI15 := WX_f hWI15
            have hvr : v16.toInt = -2 := by rw [hp30]; rfl
            exact hK _ _ hWI15 (Fr.tr Fr.rf hFI15 (by intro a k h; omega)) (by first | exact asX_no hs (by assumption) hvr (by omega) (by omega) | exact asX_s hs (by omega) | exact asX_m hs (by omega) | (exfalso; omega))
          · skip
            have hc29 := mt Int32.lt_iff_toInt_lt.mpr hc29
            refine ⟨fun hc31 => ?_, fun hc32 => ?_⟩
            · skip
              have q7 : (99 : Int32).toInt = 99 := rfl
              have hc31 := Int32.lt_iff_toInt_lt.mp hc31
              have q8 : (-2 : Int32).toInt = -2 := rfl
              refine sfX11_refuse hX hW  (fun v18 I17 hWI17 hFI17 hp33 => ?_)
              have hwI17 := WX_f hWI17
              have hvr : v18.toInt = -2 := by rw [hp33]; rfl
              exact hK _ _ hWI17 (Fr.tr Fr.rf hFI17 (by intro a k h; omega)) (by first | exact asX_no hs (by assumption) hvr (by omega) (by omega) | exact asX_s hs (by omega) | exact asX_m hs (by omega) | (exfalso; omega))
            · skip
              have q7 : (99 : Int32).toInt = 99 := rfl
              have hc32 := mt Int32.lt_iff_toInt_lt.mpr hc32
              exact hK _ _ (WX_uI hW (by first | exact okXo (by decide) | (unfold okX; refine ⟨?_, ?_, ?_, ?_, ?_, ?_, ?_, ?_, ?_, ?_⟩ <;> intro h <;> omega))) (Fr_uI Fr.rf (by omega)) (by first | exact asX_no hs (by assumption) hvr (by omega) (by omega) | exact asX_s hs (by omega) | exact asX_m hs (by omega) | (exfalso; omega))
      · skip
        have q5 : (4 : Int32).toInt = 4 := rfl
        have hc24 := mt Int32.lt_iff_toInt_lt.mpr hc24
        exact hK _ _ (WX_uI hW (by first | exact okXo (by decide) | (unfold okX; refine ⟨?_, ?_, ?_, ?_, ?_, ?_, ?_, ?_, ?_, ?_⟩ <;> intro h <;> omega))) (Fr_uI Fr.rf (by omega)) (by first | exact asX_no hs (by assumption) hvr (by omega) (by omega) | exact asX_s hs (by omega) | exact asX_m hs (by omega) | (exfalso; omega))
theorem fsfX11_seed {G : jdG} {n : Nat} {Z : jdL} {J : jdJ} {K : Int32 → jdI → jdJ → Prop} {s : Sd} {I : jdI} {x1 : Int32} (hX : zX Z)  (hW : WX I) (hs : TX I 1 s) (hK : ∀ (v : Int32) (I2 : jdI), WX I2 → Fr (fun a k => (1 ≤ a ∧ a ≤ 4) ∨ a = 28) I I2 → (v.toInt = (oSeed s x1).1 ∧ TX I2 1 (oSeed s x1).2) → K v I2 J) : Cl G mX11_seed n 0 0 [.ref (gb G + 0), .int x1] Z I J (qi Z K) := by
  refine eX11_seed hX ?_
  have hwI := WX_f hW
  exact hK _ _ (WX_uI hW (by first | exact okXo (by decide) | (unfold okX; refine ⟨?_, ?_, ?_, ?_, ?_, ?_, ?_, ?_, ?_, ?_⟩ <;> intro h <;> omega))) (Fr_uI Fr.rf (by omega)) (by first | exact seX hs | (exfalso; omega))
theorem fsfX12_change {G : jdG} {n : Nat} {Z : jdL} {J : jdJ} {K : Int32 → jdI → jdJ → Prop} {s : Sd} {I : jdI} {t : Nat} {x1 : Int32} {x2 : Int32} {x3 : Int32} (ht : zModel Z t)  (hW : WM 7 t I) (hs : TM I t s) (hK : ∀ (v : Int32) (I2 : jdI), WM 7 t I2 → Fr (fun a k => a = t + 17 ∨ a = t + 18 ∨ a = t + 19) I I2 → (v.toInt = (oChange s x1 x2 x3).1 ∧ TM I2 t (oChange s x1 x2 x3).2) → K v I2 J) : Cl G mX12_change (n + 2) 0 0 [.ref (gb G + t), .int x1, .int x2, .int x3] Z I J (qi Z K) := by
  refine eX12_change ht ?_
  have hwI := WM_f hW
  have q1 := i32_lo x1
  refine sfX12_isOne ht hW  (fun v2  hp1 => ?_)
  refine ⟨fun hc2 => ?_, fun hc3 => ?_⟩
  · skip
    have q2 := i32_lo v2
    have q3 : (0 : Int32).toInt = 0 := rfl
    have hc2 := Int32.toInt_inj.mpr hc2
    have q4 : (-2 : Int32).toInt = -2 := rfl
    refine sfX12_refuse ht (by decide) hW (by omega) (fun v4 I3 hWI3 hFI3 hp4 => ?_)
    have hwI3 := WM_f hWI3
    have hvr : v4.toInt = -2 := hp4
    exact hK _ _ hWI3 (Fr.tr Fr.rf hFI3 (by intro a k h; omega)) (by first | exact chM_no hs (by omega) (by assumption) hvr (by omega) | exact chM_h hs (by omega) (by omega) | exact chM_c hs (by omega) (by omega) | (exfalso; omega))
  · skip
    have q2 := i32_lo v2
    have q3 : (0 : Int32).toInt = 0 := rfl
    have hc3 : ¬ (v2).toInt = (0 : Int32).toInt := fun z => hc3 (Int32.toInt_inj.mp z)
    have q4 := i32_lo x2
    have q5 : (Int32.toInt64 x2).toInt = (x2).toInt := Int32.toInt_toInt64 _
    have q6 : (0 : Int64).toInt = 0 := rfl
    have q7 : (1 : Int64).toInt = 1 := rfl
    refine sfX12_in  trivial  (fun v6  hp5 => ?_)
    refine ⟨fun hc6 => ?_, fun hc7 => ?_⟩
    · skip
      have q8 := i32_lo v6
      have hc6 := Int32.toInt_inj.mpr hc6
      have q9 : (-2 : Int32).toInt = -2 := rfl
      refine sfX12_refuse ht (by decide) hW (by omega) (fun v8 I7 hWI7 hFI7 hp8 => ?_)
      have hwI7 := WM_f hWI7
      have hvr : v8.toInt = -2 := hp8
      exact hK _ _ hWI7 (Fr.tr Fr.rf hFI7 (by intro a k h; omega)) (by first | exact chM_no hs (by omega) (by assumption) hvr (by omega) | exact chM_h hs (by omega) (by omega) | exact chM_c hs (by omega) (by omega) | (exfalso; omega))
    · skip
      have q8 := i32_lo v6
      have hc7 : ¬ (v6).toInt = (0 : Int32).toInt := fun z => hc7 (Int32.toInt_inj.mp z)
      refine ⟨fun hc9 => ?_, fun hc10 => ?_⟩
      · skip
        have hc9 : ¬ (x2).toInt = (0 : Int32).toInt := fun z => hc9 (Int32.toInt_inj.mp z)
        have q9 := i32_lo x3
        have q10 : (Int32.toInt64 x3).toInt = (x3).toInt := Int32.toInt_toInt64 _
        have q11 : (9 : Int64).toInt = 9 := rfl
        refine sfX12_in  trivial  (fun v10  hp11 => ?_)
        refine ⟨fun hc12 => ?_, fun hc13 => ?_⟩
        · skip
          have q12 := i32_lo v10
          have hc12 : ¬ (v10).toInt = (0 : Int32).toInt := fun z => hc12 (Int32.toInt_inj.mp z)
          refine ⟨fun hc14 => ?_, fun hc15 => ?_⟩
          · skip
            have hc14 : ¬ (x2).toInt = (0 : Int32).toInt := fun z => hc14 (Int32.toInt_inj.mp z)
            refine ⟨vp_of (by omega) (by omega), ?_⟩
            refine ⟨fun hc16 => ?_, fun hc17 => ?_⟩
            · skip
              have hc16 : ¬ (x2).toInt = (0 : Int32).toInt := fun z => hc16 (Int32.toInt_inj.mp z)
              refine ⟨vp_of (by omega) (by omega), ?_⟩
              exact hK _ _ (WM_uI hW (by first | exact okMo (by decide) (by decide) (by decide) (by decide) (by decide) | exact okMf (by decide) (by decide) (by decide) (by decide) (by decide) (by decide) (by decide) (by decide) | exact okM30 (by omega) | exact okM42 (by omega) | exact okM33 (by omega) | exact okM10 (by omega) | exact okM8 (by omega) | exact okM22 (by omega) | exact okM24 (by omega) | exact okM14 (by omega) | exact okMa31 (by omega) | exact okMa35 (by omega) | exact okMa36 (by omega) | exact okMa3 (by omega) | exact okMr (by omega) | (unfold okM; refine ⟨?_, ?_, ?_, ?_, ?_, ?_, ?_, ?_, ?_, ?_, ?_, ?_⟩ <;> intro h <;> omega))) (Fr_uI Fr.rf (by omega)) (by first | exact chM_no hs (by omega) (by assumption) hvr (by omega) | exact chM_h hs (by omega) (by omega) | exact chM_c hs (by omega) (by omega) | (exfalso; omega))
            · skip
              have hc17 := Int32.toInt_inj.mpr hc17
              refine ⟨vp_of (by omega) (by omega), ?_⟩
              exact hK _ _ (WM_uI hW (by first | exact okMo (by decide) (by decide) (by decide) (by decide) (by decide) | exact okMf (by decide) (by decide) (by decide) (by decide) (by decide) (by decide) (by decide) (by decide) | exact okM30 (by omega) | exact okM42 (by omega) | exact okM33 (by omega) | exact okM10 (by omega) | exact okM8 (by omega) | exact okM22 (by omega) | exact okM24 (by omega) | exact okM14 (by omega) | exact okMa31 (by omega) | exact okMa35 (by omega) | exact okMa36 (by omega) | exact okMa3 (by omega) | exact okMr (by omega) | (unfold okM; refine ⟨?_, ?_, ?_, ?_, ?_, ?_, ?_, ?_, ?_, ?_, ?_, ?_⟩ <;> intro h <;> omega))) (Fr_uI Fr.rf (by omega)) (by first | exact chM_no hs (by omega) (by assumption) hvr (by omega) | exact chM_h hs (by omega) (by omega) | exact chM_c hs (by omega) (by omega) | (exfalso; omega))
          · skip
            have hc15 := Int32.toInt_inj.mpr hc15
            refine ⟨vp_of (by omega) (by omega), ?_⟩
            refine ⟨fun hc18 => ?_, fun hc19 => ?_⟩
            · skip
              have hc18 : ¬ (x2).toInt = (0 : Int32).toInt := fun z => hc18 (Int32.toInt_inj.mp z)
              refine ⟨vp_of (by omega) (by omega), ?_⟩
              exact hK _ _ (WM_uI hW (by first | exact okMo (by decide) (by decide) (by decide) (by decide) (by decide) | exact okMf (by decide) (by decide) (by decide) (by decide) (by decide) (by decide) (by decide) (by decide) | exact okM30 (by omega) | exact okM42 (by omega) | exact okM33 (by omega) | exact okM10 (by omega) | exact okM8 (by omega) | exact okM22 (by omega) | exact okM24 (by omega) | exact okM14 (by omega) | exact okMa31 (by omega) | exact okMa35 (by omega) | exact okMa36 (by omega) | exact okMa3 (by omega) | exact okMr (by omega) | (unfold okM; refine ⟨?_, ?_, ?_, ?_, ?_, ?_, ?_, ?_, ?_, ?_, ?_, ?_⟩ <;> intro h <;> omega))) (Fr_uI Fr.rf (by omega)) (by first | exact chM_no hs (by omega) (by assumption) hvr (by omega) | exact chM_h hs (by omega) (by omega) | exact chM_c hs (by omega) (by omega) | (exfalso; omega))
            · skip
              have hc19 := Int32.toInt_inj.mpr hc19
              refine ⟨vp_of (by omega) (by omega), ?_⟩
              exact hK _ _ (WM_uI hW (by first | exact okMo (by decide) (by decide) (by decide) (by decide) (by decide) | exact okMf (by decide) (by decide) (by decide) (by decide) (by decide) (by decide) (by decide) (by decide) | exact okM30 (by omega) | exact okM42 (by omega) | exact okM33 (by omega) | exact okM10 (by omega) | exact okM8 (by omega) | exact okM22 (by omega) | exact okM24 (by omega) | exact okM14 (by omega) | exact okMa31 (by omega) | exact okMa35 (by omega) | exact okMa36 (by omega) | exact okMa3 (by omega) | exact okMr (by omega) | (unfold okM; refine ⟨?_, ?_, ?_, ?_, ?_, ?_, ?_, ?_, ?_, ?_, ?_, ?_⟩ <;> intro h <;> omega))) (Fr_uI Fr.rf (by omega)) (by first | exact chM_no hs (by omega) (by assumption) hvr (by omega) | exact chM_h hs (by omega) (by omega) | exact chM_c hs (by omega) (by omega) | (exfalso; omega))
        · skip
          have q12 := i32_lo v10
          have hc13 := Int32.toInt_inj.mpr hc13
          have q13 : (-2 : Int32).toInt = -2 := rfl
          refine sfX12_refuse ht (by decide) hW (by omega) (fun v18 I17 hWI17 hFI17 hp20 => ?_)
          have hwI17 := WM_f hWI17
          have hvr : v18.toInt = -2 := hp20
          exact hK _ _ hWI17 (Fr.tr Fr.rf hFI17 (by intro a k h; omega)) (by first | exact chM_no hs (by omega) (by assumption) hvr (by omega) | exact chM_h hs (by omega) (by omega) | exact chM_c hs (by omega) (by omega) | (exfalso; omega))
      · skip
        have hc10 := Int32.toInt_inj.mpr hc10
        have q9 := i32_lo x3
        have q10 : (Int32.toInt64 x3).toInt = (x3).toInt := Int32.toInt_toInt64 _
        have q11 : (23 : Int64).toInt = 23 := rfl
        refine sfX12_in  trivial  (fun v20  hp21 => ?_)
        refine ⟨fun hc22 => ?_, fun hc23 => ?_⟩
        · skip
          have q12 := i32_lo v20
          have hc22 : ¬ (v20).toInt = (0 : Int32).toInt := fun z => hc22 (Int32.toInt_inj.mp z)
          refine ⟨fun hc24 => ?_, fun hc25 => ?_⟩
          · skip
            have hc24 : ¬ (x2).toInt = (0 : Int32).toInt := fun z => hc24 (Int32.toInt_inj.mp z)
            refine ⟨vp_of (by omega) (by omega), ?_⟩
            refine ⟨fun hc26 => ?_, fun hc27 => ?_⟩
            · skip
              have hc26 : ¬ (x2).toInt = (0 : Int32).toInt := fun z => hc26 (Int32.toInt_inj.mp z)
              refine ⟨vp_of (by omega) (by omega), ?_⟩
              exact hK _ _ (WM_uI hW (by first | exact okMo (by decide) (by decide) (by decide) (by decide) (by decide) | exact okMf (by decide) (by decide) (by decide) (by decide) (by decide) (by decide) (by decide) (by decide) | exact okM30 (by omega) | exact okM42 (by omega) | exact okM33 (by omega) | exact okM10 (by omega) | exact okM8 (by omega) | exact okM22 (by omega) | exact okM24 (by omega) | exact okM14 (by omega) | exact okMa31 (by omega) | exact okMa35 (by omega) | exact okMa36 (by omega) | exact okMa3 (by omega) | exact okMr (by omega) | (unfold okM; refine ⟨?_, ?_, ?_, ?_, ?_, ?_, ?_, ?_, ?_, ?_, ?_, ?_⟩ <;> intro h <;> omega))) (Fr_uI Fr.rf (by omega)) (by first | exact chM_no hs (by omega) (by assumption) hvr (by omega) | exact chM_h hs (by omega) (by omega) | exact chM_c hs (by omega) (by omega) | (exfalso; omega))
            · skip
              have hc27 := Int32.toInt_inj.mpr hc27
              refine ⟨vp_of (by omega) (by omega), ?_⟩
              exact hK _ _ (WM_uI hW (by first | exact okMo (by decide) (by decide) (by decide) (by decide) (by decide) | exact okMf (by decide) (by decide) (by decide) (by decide) (by decide) (by decide) (by decide) (by decide) | exact okM30 (by omega) | exact okM42 (by omega) | exact okM33 (by omega) | exact okM10 (by omega) | exact okM8 (by omega) | exact okM22 (by omega) | exact okM24 (by omega) | exact okM14 (by omega) | exact okMa31 (by omega) | exact okMa35 (by omega) | exact okMa36 (by omega) | exact okMa3 (by omega) | exact okMr (by omega) | (unfold okM; refine ⟨?_, ?_, ?_, ?_, ?_, ?_, ?_, ?_, ?_, ?_, ?_, ?_⟩ <;> intro h <;> omega))) (Fr_uI Fr.rf (by omega)) (by first | exact chM_no hs (by omega) (by assumption) hvr (by omega) | exact chM_h hs (by omega) (by omega) | exact chM_c hs (by omega) (by omega) | (exfalso; omega))
          · skip
            have hc25 := Int32.toInt_inj.mpr hc25
            refine ⟨vp_of (by omega) (by omega), ?_⟩
            refine ⟨fun hc28 => ?_, fun hc29 => ?_⟩
            · skip
              have hc28 : ¬ (x2).toInt = (0 : Int32).toInt := fun z => hc28 (Int32.toInt_inj.mp z)
              refine ⟨vp_of (by omega) (by omega), ?_⟩
              exact hK _ _ (WM_uI hW (by first | exact okMo (by decide) (by decide) (by decide) (by decide) (by decide) | exact okMf (by decide) (by decide) (by decide) (by decide) (by decide) (by decide) (by decide) (by decide) | exact okM30 (by omega) | exact okM42 (by omega) | exact okM33 (by omega) | exact okM10 (by omega) | exact okM8 (by omega) | exact okM22 (by omega) | exact okM24 (by omega) | exact okM14 (by omega) | exact okMa31 (by omega) | exact okMa35 (by omega) | exact okMa36 (by omega) | exact okMa3 (by omega) | exact okMr (by omega) | (unfold okM; refine ⟨?_, ?_, ?_, ?_, ?_, ?_, ?_, ?_, ?_, ?_, ?_, ?_⟩ <;> intro h <;> omega))) (Fr_uI Fr.rf (by omega)) (by first | exact chM_no hs (by omega) (by assumption) hvr (by omega) | exact chM_h hs (by omega) (by omega) | exact chM_c hs (by omega) (by omega) | (exfalso; omega))
            · skip
              have hc29 := Int32.toInt_inj.mpr hc29
              refine ⟨vp_of (by omega) (by omega), ?_⟩
              exact hK _ _ (WM_uI hW (by first | exact okMo (by decide) (by decide) (by decide) (by decide) (by decide) | exact okMf (by decide) (by decide) (by decide) (by decide) (by decide) (by decide) (by decide) (by decide) | exact okM30 (by omega) | exact okM42 (by omega) | exact okM33 (by omega) | exact okM10 (by omega) | exact okM8 (by omega) | exact okM22 (by omega) | exact okM24 (by omega) | exact okM14 (by omega) | exact okMa31 (by omega) | exact okMa35 (by omega) | exact okMa36 (by omega) | exact okMa3 (by omega) | exact okMr (by omega) | (unfold okM; refine ⟨?_, ?_, ?_, ?_, ?_, ?_, ?_, ?_, ?_, ?_, ?_, ?_⟩ <;> intro h <;> omega))) (Fr_uI Fr.rf (by omega)) (by first | exact chM_no hs (by omega) (by assumption) hvr (by omega) | exact chM_h hs (by omega) (by omega) | exact chM_c hs (by omega) (by omega) | (exfalso; omega))
        · skip
          have q12 := i32_lo v20
          have hc23 := Int32.toInt_inj.mpr hc23
          have q13 : (-2 : Int32).toInt = -2 := rfl
          refine sfX12_refuse ht (by decide) hW (by omega) (fun v28 I27 hWI27 hFI27 hp30 => ?_)
          have hwI27 := WM_f hWI27
          have hvr : v28.toInt = -2 := hp30
          exact hK _ _ hWI27 (Fr.tr Fr.rf hFI27 (by intro a k h; omega)) (by first | exact chM_no hs (by omega) (by assumption) hvr (by omega) | exact chM_h hs (by omega) (by omega) | exact chM_c hs (by omega) (by omega) | (exfalso; omega))
theorem fsfX12_ask {G : jdG} {n : Nat} {Z : jdL} {J : jdJ} {K : Int32 → jdI → jdJ → Prop} {s : Sd} {I : jdI} {t : Nat} {x1 : Int32} {x2 : Int32} (ht : zModel Z t)  (hW : WM 7 t I) (hs : TM I t s) (hK : ∀ (v : Int32) (I2 : jdI), WM 7 t I2 → Fr (fun a k => (a = t ∧ (k = 14 ∨ k = 15)) ∨ a = t + 17) I I2 → (v.toInt = (oAsk s x1 x2).1 ∧ TM I2 t (oAsk s x1 x2).2) → K v I2 J) : Cl G mX12_ask (n + 1) 0 0 [.ref (gb G + t), .int x1, .int x2] Z I J (qi Z K) := by
  refine eX12_ask ht ?_
  have hwI := WM_f hW
  have q1 := i32_lo x1
  have q2 : (Int32.toInt64 x1).toInt = (x1).toInt := Int32.toInt_toInt64 _
  have q3 : (0 : Int64).toInt = 0 := rfl
  have q4 : (1 : Int64).toInt = 1 := rfl
  refine sfX12_in  trivial  (fun v2  hp1 => ?_)
  refine ⟨fun hc2 => ?_, fun hc3 => ?_⟩
  · skip
    have q5 := i32_lo v2
    have q6 : (0 : Int32).toInt = 0 := rfl
    have hc2 := Int32.toInt_inj.mpr hc2
    have q7 : (-2 : Int32).toInt = -2 := rfl
    refine sfX12_refuse ht (by decide) hW (by omega) (fun v4 I3 hWI3 hFI3 hp4 => ?_)
    have hwI3 := WM_f hWI3
    have hvr : v4.toInt = -2 := hp4
    exact hK _ _ hWI3 (Fr.tr Fr.rf hFI3 (by intro a k h; omega)) (by first | exact asM_no hs (by omega) (by assumption) hvr (by omega) (by omega) | exact asM_s hs (by omega) | exact asM_m hs (by omega) | (exfalso; omega))
  · skip
    have q5 := i32_lo v2
    have q6 : (0 : Int32).toInt = 0 := rfl
    have hc3 : ¬ (v2).toInt = (0 : Int32).toInt := fun z => hc3 (Int32.toInt_inj.mp z)
    refine ⟨fun hc5 => ?_, fun hc6 => ?_⟩
    · skip
      have hc5 : ¬ (x1).toInt = (0 : Int32).toInt := fun z => hc5 (Int32.toInt_inj.mp z)
      refine ⟨fun hc7 => ?_, fun hc8 => ?_⟩
      · skip
        have hc7 : ¬ (x1).toInt = (0 : Int32).toInt := fun z => hc7 (Int32.toInt_inj.mp z)
        have q7 := i32_lo x2
        have q8 : (Int32.toInt64 x2).toInt = (x2).toInt := Int32.toInt_toInt64 _
        have q9 : (99 : Int64).toInt = 99 := rfl
        refine sfX12_in  trivial  (fun v6  hp9 => ?_)
        refine ⟨fun hc10 => ?_, fun hc11 => ?_⟩
        · skip
          have q10 := i32_lo v6
          have hc10 : ¬ (v6).toInt = (0 : Int32).toInt := fun z => hc10 (Int32.toInt_inj.mp z)
          refine ⟨fun hc12 => ?_, fun hc13 => ?_⟩
          · skip
            have hc12 : ¬ (x1).toInt = (0 : Int32).toInt := fun z => hc12 (Int32.toInt_inj.mp z)
            refine ⟨fun hc14 => ?_, fun hc15 => ?_⟩
            · skip
              have hc14 : ¬ (x1).toInt = (0 : Int32).toInt := fun z => hc14 (Int32.toInt_inj.mp z)
              exact hK _ _ (WM_uI hW (by first | exact okMo (by decide) (by decide) (by decide) (by decide) (by decide) | exact okMf (by decide) (by decide) (by decide) (by decide) (by decide) (by decide) (by decide) (by decide) | exact okM30 (by omega) | exact okM42 (by omega) | exact okM33 (by omega) | exact okM10 (by omega) | exact okM8 (by omega) | exact okM22 (by omega) | exact okM24 (by omega) | exact okM14 (by omega) | exact okMa31 (by omega) | exact okMa35 (by omega) | exact okMa36 (by omega) | exact okMa3 (by omega) | exact okMr (by omega) | (unfold okM; refine ⟨?_, ?_, ?_, ?_, ?_, ?_, ?_, ?_, ?_, ?_, ?_, ?_⟩ <;> intro h <;> omega))) (Fr_uI Fr.rf (by omega)) (by first | exact asM_no hs (by omega) (by assumption) hvr (by omega) (by omega) | exact asM_s hs (by omega) | exact asM_m hs (by omega) | (exfalso; omega))
            · skip
              have hc15 := Int32.toInt_inj.mpr hc15
              exact hK _ _ (WM_uI hW (by first | exact okMo (by decide) (by decide) (by decide) (by decide) (by decide) | exact okMf (by decide) (by decide) (by decide) (by decide) (by decide) (by decide) (by decide) (by decide) | exact okM30 (by omega) | exact okM42 (by omega) | exact okM33 (by omega) | exact okM10 (by omega) | exact okM8 (by omega) | exact okM22 (by omega) | exact okM24 (by omega) | exact okM14 (by omega) | exact okMa31 (by omega) | exact okMa35 (by omega) | exact okMa36 (by omega) | exact okMa3 (by omega) | exact okMr (by omega) | (unfold okM; refine ⟨?_, ?_, ?_, ?_, ?_, ?_, ?_, ?_, ?_, ?_, ?_, ?_⟩ <;> intro h <;> omega))) (Fr_uI Fr.rf (by omega)) (by first | exact asM_no hs (by omega) (by assumption) hvr (by omega) (by omega) | exact asM_s hs (by omega) | exact asM_m hs (by omega) | (exfalso; omega))
          · skip
            have hc13 := Int32.toInt_inj.mpr hc13
            refine ⟨fun hc16 => ?_, fun hc17 => ?_⟩
            · skip
              have hc16 : ¬ (x1).toInt = (0 : Int32).toInt := fun z => hc16 (Int32.toInt_inj.mp z)
              exact hK _ _ (WM_uI hW (by first | exact okMo (by decide) (by decide) (by decide) (by decide) (by decide) | exact okMf (by decide) (by decide) (by decide) (by decide) (by decide) (by decide) (by decide) (by decide) | exact okM30 (by omega) | exact okM42 (by omega) | exact okM33 (by omega) | exact okM10 (by omega) | exact okM8 (by omega) | exact okM22 (by omega) | exact okM24 (by omega) | exact okM14 (by omega) | exact okMa31 (by omega) | exact okMa35 (by omega) | exact okMa36 (by omega) | exact okMa3 (by omega) | exact okMr (by omega) | (unfold okM; refine ⟨?_, ?_, ?_, ?_, ?_, ?_, ?_, ?_, ?_, ?_, ?_, ?_⟩ <;> intro h <;> omega))) (Fr_uI Fr.rf (by omega)) (by first | exact asM_no hs (by omega) (by assumption) hvr (by omega) (by omega) | exact asM_s hs (by omega) | exact asM_m hs (by omega) | (exfalso; omega))
            · skip
              have hc17 := Int32.toInt_inj.mpr hc17
              exact hK _ _ (WM_uI hW (by first | exact okMo (by decide) (by decide) (by decide) (by decide) (by decide) | exact okMf (by decide) (by decide) (by decide) (by decide) (by decide) (by decide) (by decide) (by decide) | exact okM30 (by omega) | exact okM42 (by omega) | exact okM33 (by omega) | exact okM10 (by omega) | exact okM8 (by omega) | exact okM22 (by omega) | exact okM24 (by omega) | exact okM14 (by omega) | exact okMa31 (by omega) | exact okMa35 (by omega) | exact okMa36 (by omega) | exact okMa3 (by omega) | exact okMr (by omega) | (unfold okM; refine ⟨?_, ?_, ?_, ?_, ?_, ?_, ?_, ?_, ?_, ?_, ?_, ?_⟩ <;> intro h <;> omega))) (Fr_uI Fr.rf (by omega)) (by first | exact asM_no hs (by omega) (by assumption) hvr (by omega) (by omega) | exact asM_s hs (by omega) | exact asM_m hs (by omega) | (exfalso; omega))
        · skip
          have q10 := i32_lo v6
          have hc11 := Int32.toInt_inj.mpr hc11
          have q11 : (-2 : Int32).toInt = -2 := rfl
          refine sfX12_refuse ht (by decide) hW (by omega) (fun v8 I7 hWI7 hFI7 hp18 => ?_)
          have hwI7 := WM_f hWI7
          have hvr : v8.toInt = -2 := hp18
          exact hK _ _ hWI7 (Fr.tr Fr.rf hFI7 (by intro a k h; omega)) (by first | exact asM_no hs (by omega) (by assumption) hvr (by omega) (by omega) | exact asM_s hs (by omega) | exact asM_m hs (by omega) | (exfalso; omega))
      · skip
        have hc8 := Int32.toInt_inj.mpr hc8
        have q7 := i32_lo x2
        have q8 : (Int32.toInt64 x2).toInt = (x2).toInt := Int32.toInt_toInt64 _
        have q9 : (4 : Int64).toInt = 4 := rfl
        refine sfX12_in  trivial  (fun v10  hp19 => ?_)
        refine ⟨fun hc20 => ?_, fun hc21 => ?_⟩
        · skip
          have q10 := i32_lo v10
          have hc20 : ¬ (v10).toInt = (0 : Int32).toInt := fun z => hc20 (Int32.toInt_inj.mp z)
          refine ⟨fun hc22 => ?_, fun hc23 => ?_⟩
          · skip
            have hc22 : ¬ (x1).toInt = (0 : Int32).toInt := fun z => hc22 (Int32.toInt_inj.mp z)
            refine ⟨fun hc24 => ?_, fun hc25 => ?_⟩
            · skip
              have hc24 : ¬ (x1).toInt = (0 : Int32).toInt := fun z => hc24 (Int32.toInt_inj.mp z)
              exact hK _ _ (WM_uI hW (by first | exact okMo (by decide) (by decide) (by decide) (by decide) (by decide) | exact okMf (by decide) (by decide) (by decide) (by decide) (by decide) (by decide) (by decide) (by decide) | exact okM30 (by omega) | exact okM42 (by omega) | exact okM33 (by omega) | exact okM10 (by omega) | exact okM8 (by omega) | exact okM22 (by omega) | exact okM24 (by omega) | exact okM14 (by omega) | exact okMa31 (by omega) | exact okMa35 (by omega) | exact okMa36 (by omega) | exact okMa3 (by omega) | exact okMr (by omega) | (unfold okM; refine ⟨?_, ?_, ?_, ?_, ?_, ?_, ?_, ?_, ?_, ?_, ?_, ?_⟩ <;> intro h <;> omega))) (Fr_uI Fr.rf (by omega)) (by first | exact asM_no hs (by omega) (by assumption) hvr (by omega) (by omega) | exact asM_s hs (by omega) | exact asM_m hs (by omega) | (exfalso; omega))
            · skip
              have hc25 := Int32.toInt_inj.mpr hc25
              exact hK _ _ (WM_uI hW (by first | exact okMo (by decide) (by decide) (by decide) (by decide) (by decide) | exact okMf (by decide) (by decide) (by decide) (by decide) (by decide) (by decide) (by decide) (by decide) | exact okM30 (by omega) | exact okM42 (by omega) | exact okM33 (by omega) | exact okM10 (by omega) | exact okM8 (by omega) | exact okM22 (by omega) | exact okM24 (by omega) | exact okM14 (by omega) | exact okMa31 (by omega) | exact okMa35 (by omega) | exact okMa36 (by omega) | exact okMa3 (by omega) | exact okMr (by omega) | (unfold okM; refine ⟨?_, ?_, ?_, ?_, ?_, ?_, ?_, ?_, ?_, ?_, ?_, ?_⟩ <;> intro h <;> omega))) (Fr_uI Fr.rf (by omega)) (by first | exact asM_no hs (by omega) (by assumption) hvr (by omega) (by omega) | exact asM_s hs (by omega) | exact asM_m hs (by omega) | (exfalso; omega))
          · skip
            have hc23 := Int32.toInt_inj.mpr hc23
            refine ⟨fun hc26 => ?_, fun hc27 => ?_⟩
            · skip
              have hc26 : ¬ (x1).toInt = (0 : Int32).toInt := fun z => hc26 (Int32.toInt_inj.mp z)
              exact hK _ _ (WM_uI hW (by first | exact okMo (by decide) (by decide) (by decide) (by decide) (by decide) | exact okMf (by decide) (by decide) (by decide) (by decide) (by decide) (by decide) (by decide) (by decide) | exact okM30 (by omega) | exact okM42 (by omega) | exact okM33 (by omega) | exact okM10 (by omega) | exact okM8 (by omega) | exact okM22 (by omega) | exact okM24 (by omega) | exact okM14 (by omega) | exact okMa31 (by omega) | exact okMa35 (by omega) | exact okMa36 (by omega) | exact okMa3 (by omega) | exact okMr (by omega) | (unfold okM; refine ⟨?_, ?_, ?_, ?_, ?_, ?_, ?_, ?_, ?_, ?_, ?_, ?_⟩ <;> intro h <;> omega))) (Fr_uI Fr.rf (by omega)) (by first | exact asM_no hs (by omega) (by assumption) hvr (by omega) (by omega) | exact asM_s hs (by omega) | exact asM_m hs (by omega) | (exfalso; omega))
            · skip
              have hc27 := Int32.toInt_inj.mpr hc27
              exact hK _ _ (WM_uI hW (by first | exact okMo (by decide) (by decide) (by decide) (by decide) (by decide) | exact okMf (by decide) (by decide) (by decide) (by decide) (by decide) (by decide) (by decide) (by decide) | exact okM30 (by omega) | exact okM42 (by omega) | exact okM33 (by omega) | exact okM10 (by omega) | exact okM8 (by omega) | exact okM22 (by omega) | exact okM24 (by omega) | exact okM14 (by omega) | exact okMa31 (by omega) | exact okMa35 (by omega) | exact okMa36 (by omega) | exact okMa3 (by omega) | exact okMr (by omega) | (unfold okM; refine ⟨?_, ?_, ?_, ?_, ?_, ?_, ?_, ?_, ?_, ?_, ?_, ?_⟩ <;> intro h <;> omega))) (Fr_uI Fr.rf (by omega)) (by first | exact asM_no hs (by omega) (by assumption) hvr (by omega) (by omega) | exact asM_s hs (by omega) | exact asM_m hs (by omega) | (exfalso; omega))
        · skip
          have q10 := i32_lo v10
          have hc21 := Int32.toInt_inj.mpr hc21
          have q11 : (-2 : Int32).toInt = -2 := rfl
          refine sfX12_refuse ht (by decide) hW (by omega) (fun v12 I11 hWI11 hFI11 hp28 => ?_)
          have hwI11 := WM_f hWI11
          have hvr : v12.toInt = -2 := hp28
          exact hK _ _ hWI11 (Fr.tr Fr.rf hFI11 (by intro a k h; omega)) (by first | exact asM_no hs (by omega) (by assumption) hvr (by omega) (by omega) | exact asM_s hs (by omega) | exact asM_m hs (by omega) | (exfalso; omega))
    · skip
      have hc6 := Int32.toInt_inj.mpr hc6
      refine ⟨fun hc29 => ?_, fun hc30 => ?_⟩
      · skip
        have hc29 : ¬ (x1).toInt = (0 : Int32).toInt := fun z => hc29 (Int32.toInt_inj.mp z)
        have q7 := i32_lo x2
        have q8 : (Int32.toInt64 x2).toInt = (x2).toInt := Int32.toInt_toInt64 _
        have q9 : (2 : Int64).toInt = 2 := rfl
        have q10 : (99 : Int64).toInt = 99 := rfl
        refine sfX12_in  trivial  (fun v14  hp31 => ?_)
        refine ⟨fun hc32 => ?_, fun hc33 => ?_⟩
        · skip
          have q11 := i32_lo v14
          have hc32 : ¬ (v14).toInt = (0 : Int32).toInt := fun z => hc32 (Int32.toInt_inj.mp z)
          refine ⟨fun hc34 => ?_, fun hc35 => ?_⟩
          · skip
            have hc34 : ¬ (x1).toInt = (0 : Int32).toInt := fun z => hc34 (Int32.toInt_inj.mp z)
            refine ⟨fun hc36 => ?_, fun hc37 => ?_⟩
            · skip
              have hc36 : ¬ (x1).toInt = (0 : Int32).toInt := fun z => hc36 (Int32.toInt_inj.mp z)
              exact hK _ _ (WM_uI hW (by first | exact okMo (by decide) (by decide) (by decide) (by decide) (by decide) | exact okMf (by decide) (by decide) (by decide) (by decide) (by decide) (by decide) (by decide) (by decide) | exact okM30 (by omega) | exact okM42 (by omega) | exact okM33 (by omega) | exact okM10 (by omega) | exact okM8 (by omega) | exact okM22 (by omega) | exact okM24 (by omega) | exact okM14 (by omega) | exact okMa31 (by omega) | exact okMa35 (by omega) | exact okMa36 (by omega) | exact okMa3 (by omega) | exact okMr (by omega) | (unfold okM; refine ⟨?_, ?_, ?_, ?_, ?_, ?_, ?_, ?_, ?_, ?_, ?_, ?_⟩ <;> intro h <;> omega))) (Fr_uI Fr.rf (by omega)) (by first | exact asM_no hs (by omega) (by assumption) hvr (by omega) (by omega) | exact asM_s hs (by omega) | exact asM_m hs (by omega) | (exfalso; omega))
            · skip
              have hc37 := Int32.toInt_inj.mpr hc37
              exact hK _ _ (WM_uI hW (by first | exact okMo (by decide) (by decide) (by decide) (by decide) (by decide) | exact okMf (by decide) (by decide) (by decide) (by decide) (by decide) (by decide) (by decide) (by decide) | exact okM30 (by omega) | exact okM42 (by omega) | exact okM33 (by omega) | exact okM10 (by omega) | exact okM8 (by omega) | exact okM22 (by omega) | exact okM24 (by omega) | exact okM14 (by omega) | exact okMa31 (by omega) | exact okMa35 (by omega) | exact okMa36 (by omega) | exact okMa3 (by omega) | exact okMr (by omega) | (unfold okM; refine ⟨?_, ?_, ?_, ?_, ?_, ?_, ?_, ?_, ?_, ?_, ?_, ?_⟩ <;> intro h <;> omega))) (Fr_uI Fr.rf (by omega)) (by first | exact asM_no hs (by omega) (by assumption) hvr (by omega) (by omega) | exact asM_s hs (by omega) | exact asM_m hs (by omega) | (exfalso; omega))
          · skip
            have hc35 := Int32.toInt_inj.mpr hc35
            refine ⟨fun hc38 => ?_, fun hc39 => ?_⟩
            · skip
              have hc38 : ¬ (x1).toInt = (0 : Int32).toInt := fun z => hc38 (Int32.toInt_inj.mp z)
              exact hK _ _ (WM_uI hW (by first | exact okMo (by decide) (by decide) (by decide) (by decide) (by decide) | exact okMf (by decide) (by decide) (by decide) (by decide) (by decide) (by decide) (by decide) (by decide) | exact okM30 (by omega) | exact okM42 (by omega) | exact okM33 (by omega) | exact okM10 (by omega) | exact okM8 (by omega) | exact okM22 (by omega) | exact okM24 (by omega) | exact okM14 (by omega) | exact okMa31 (by omega) | exact okMa35 (by omega) | exact okMa36 (by omega) | exact okMa3 (by omega) | exact okMr (by omega) | (unfold okM; refine ⟨?_, ?_, ?_, ?_, ?_, ?_, ?_, ?_, ?_, ?_, ?_, ?_⟩ <;> intro h <;> omega))) (Fr_uI Fr.rf (by omega)) (by first | exact asM_no hs (by omega) (by assumption) hvr (by omega) (by omega) | exact asM_s hs (by omega) | exact asM_m hs (by omega) | (exfalso; omega))
            · skip
              have hc39 := Int32.toInt_inj.mpr hc39
              exact hK _ _ (WM_uI hW (by first | exact okMo (by decide) (by decide) (by decide) (by decide) (by decide) | exact okMf (by decide) (by decide) (by decide) (by decide) (by decide) (by decide) (by decide) (by decide) | exact okM30 (by omega) | exact okM42 (by omega) | exact okM33 (by omega) | exact okM10 (by omega) | exact okM8 (by omega) | exact okM22 (by omega) | exact okM24 (by omega) | exact okM14 (by omega) | exact okMa31 (by omega) | exact okMa35 (by omega) | exact okMa36 (by omega) | exact okMa3 (by omega) | exact okMr (by omega) | (unfold okM; refine ⟨?_, ?_, ?_, ?_, ?_, ?_, ?_, ?_, ?_, ?_, ?_, ?_⟩ <;> intro h <;> omega))) (Fr_uI Fr.rf (by omega)) (by first | exact asM_no hs (by omega) (by assumption) hvr (by omega) (by omega) | exact asM_s hs (by omega) | exact asM_m hs (by omega) | (exfalso; omega))
        · skip
          have q11 := i32_lo v14
          have hc33 := Int32.toInt_inj.mpr hc33
          have q12 : (-2 : Int32).toInt = -2 := rfl
          refine sfX12_refuse ht (by decide) hW (by omega) (fun v16 I15 hWI15 hFI15 hp40 => ?_)
          have hwI15 := WM_f hWI15
          have hvr : v16.toInt = -2 := hp40
          exact hK _ _ hWI15 (Fr.tr Fr.rf hFI15 (by intro a k h; omega)) (by first | exact asM_no hs (by omega) (by assumption) hvr (by omega) (by omega) | exact asM_s hs (by omega) | exact asM_m hs (by omega) | (exfalso; omega))
      · skip
        have hc30 := Int32.toInt_inj.mpr hc30
        have q7 := i32_lo x2
        have q8 : (Int32.toInt64 x2).toInt = (x2).toInt := Int32.toInt_toInt64 _
        have q9 : (2 : Int64).toInt = 2 := rfl
        have q10 : (4 : Int64).toInt = 4 := rfl
        refine sfX12_in  trivial  (fun v18  hp41 => ?_)
        refine ⟨fun hc42 => ?_, fun hc43 => ?_⟩
        · skip
          have q11 := i32_lo v18
          have hc42 : ¬ (v18).toInt = (0 : Int32).toInt := fun z => hc42 (Int32.toInt_inj.mp z)
          refine ⟨fun hc44 => ?_, fun hc45 => ?_⟩
          · skip
            have hc44 : ¬ (x1).toInt = (0 : Int32).toInt := fun z => hc44 (Int32.toInt_inj.mp z)
            refine ⟨fun hc46 => ?_, fun hc47 => ?_⟩
            · skip
              have hc46 : ¬ (x1).toInt = (0 : Int32).toInt := fun z => hc46 (Int32.toInt_inj.mp z)
              exact hK _ _ (WM_uI hW (by first | exact okMo (by decide) (by decide) (by decide) (by decide) (by decide) | exact okMf (by decide) (by decide) (by decide) (by decide) (by decide) (by decide) (by decide) (by decide) | exact okM30 (by omega) | exact okM42 (by omega) | exact okM33 (by omega) | exact okM10 (by omega) | exact okM8 (by omega) | exact okM22 (by omega) | exact okM24 (by omega) | exact okM14 (by omega) | exact okMa31 (by omega) | exact okMa35 (by omega) | exact okMa36 (by omega) | exact okMa3 (by omega) | exact okMr (by omega) | (unfold okM; refine ⟨?_, ?_, ?_, ?_, ?_, ?_, ?_, ?_, ?_, ?_, ?_, ?_⟩ <;> intro h <;> omega))) (Fr_uI Fr.rf (by omega)) (by first | exact asM_no hs (by omega) (by assumption) hvr (by omega) (by omega) | exact asM_s hs (by omega) | exact asM_m hs (by omega) | (exfalso; omega))
            · skip
              have hc47 := Int32.toInt_inj.mpr hc47
              exact hK _ _ (WM_uI hW (by first | exact okMo (by decide) (by decide) (by decide) (by decide) (by decide) | exact okMf (by decide) (by decide) (by decide) (by decide) (by decide) (by decide) (by decide) (by decide) | exact okM30 (by omega) | exact okM42 (by omega) | exact okM33 (by omega) | exact okM10 (by omega) | exact okM8 (by omega) | exact okM22 (by omega) | exact okM24 (by omega) | exact okM14 (by omega) | exact okMa31 (by omega) | exact okMa35 (by omega) | exact okMa36 (by omega) | exact okMa3 (by omega) | exact okMr (by omega) | (unfold okM; refine ⟨?_, ?_, ?_, ?_, ?_, ?_, ?_, ?_, ?_, ?_, ?_, ?_⟩ <;> intro h <;> omega))) (Fr_uI Fr.rf (by omega)) (by first | exact asM_no hs (by omega) (by assumption) hvr (by omega) (by omega) | exact asM_s hs (by omega) | exact asM_m hs (by omega) | (exfalso; omega))
          · skip
            have hc45 := Int32.toInt_inj.mpr hc45
            refine ⟨fun hc48 => ?_, fun hc49 => ?_⟩
            · skip
              have hc48 : ¬ (x1).toInt = (0 : Int32).toInt := fun z => hc48 (Int32.toInt_inj.mp z)
              exact hK _ _ (WM_uI hW (by first | exact okMo (by decide) (by decide) (by decide) (by decide) (by decide) | exact okMf (by decide) (by decide) (by decide) (by decide) (by decide) (by decide) (by decide) (by decide) | exact okM30 (by omega) | exact okM42 (by omega) | exact okM33 (by omega) | exact okM10 (by omega) | exact okM8 (by omega) | exact okM22 (by omega) | exact okM24 (by omega) | exact okM14 (by omega) | exact okMa31 (by omega) | exact okMa35 (by omega) | exact okMa36 (by omega) | exact okMa3 (by omega) | exact okMr (by omega) | (unfold okM; refine ⟨?_, ?_, ?_, ?_, ?_, ?_, ?_, ?_, ?_, ?_, ?_, ?_⟩ <;> intro h <;> omega))) (Fr_uI Fr.rf (by omega)) (by first | exact asM_no hs (by omega) (by assumption) hvr (by omega) (by omega) | exact asM_s hs (by omega) | exact asM_m hs (by omega) | (exfalso; omega))
            · skip
              have hc49 := Int32.toInt_inj.mpr hc49
              exact hK _ _ (WM_uI hW (by first | exact okMo (by decide) (by decide) (by decide) (by decide) (by decide) | exact okMf (by decide) (by decide) (by decide) (by decide) (by decide) (by decide) (by decide) (by decide) | exact okM30 (by omega) | exact okM42 (by omega) | exact okM33 (by omega) | exact okM10 (by omega) | exact okM8 (by omega) | exact okM22 (by omega) | exact okM24 (by omega) | exact okM14 (by omega) | exact okMa31 (by omega) | exact okMa35 (by omega) | exact okMa36 (by omega) | exact okMa3 (by omega) | exact okMr (by omega) | (unfold okM; refine ⟨?_, ?_, ?_, ?_, ?_, ?_, ?_, ?_, ?_, ?_, ?_, ?_⟩ <;> intro h <;> omega))) (Fr_uI Fr.rf (by omega)) (by first | exact asM_no hs (by omega) (by assumption) hvr (by omega) (by omega) | exact asM_s hs (by omega) | exact asM_m hs (by omega) | (exfalso; omega))
        · skip
          have q11 := i32_lo v18
          have hc43 := Int32.toInt_inj.mpr hc43
          have q12 : (-2 : Int32).toInt = -2 := rfl
          refine sfX12_refuse ht (by decide) hW (by omega) (fun v20 I19 hWI19 hFI19 hp50 => ?_)
          have hwI19 := WM_f hWI19
          have hvr : v20.toInt = -2 := hp50
          exact hK _ _ hWI19 (Fr.tr Fr.rf hFI19 (by intro a k h; omega)) (by first | exact asM_no hs (by omega) (by assumption) hvr (by omega) (by omega) | exact asM_s hs (by omega) | exact asM_m hs (by omega) | (exfalso; omega))
theorem fsfX12_seed {G : jdG} {n : Nat} {Z : jdL} {J : jdJ} {K : Int32 → jdI → jdJ → Prop} {s : Sd} {I : jdI} {t : Nat} {x1 : Int32} (ht : zModel Z t)  (hW : WM 7 t I) (hs : TM I t s) (hK : ∀ (v : Int32) (I2 : jdI), WM 7 t I2 → Fr (fun a k => a = t ∧ k = 19) I I2 → (v.toInt = (oSeed s x1).1 ∧ TM I2 t (oSeed s x1).2) → K v I2 J) : Cl G mX12_seed n 0 0 [.ref (gb G + t), .int x1] Z I J (qi Z K) := by
  refine eX12_seed ht ?_
  have hwI := WM_f hW
  exact hK _ _ (WM_uI hW (by first | exact okMo (by decide) (by decide) (by decide) (by decide) (by decide) | exact okMf (by decide) (by decide) (by decide) (by decide) (by decide) (by decide) (by decide) (by decide) | exact okM30 (by omega) | exact okM42 (by omega) | exact okM33 (by omega) | exact okM10 (by omega) | exact okM8 (by omega) | exact okM22 (by omega) | exact okM24 (by omega) | exact okM14 (by omega) | exact okMa31 (by omega) | exact okMa35 (by omega) | exact okMa36 (by omega) | exact okMa3 (by omega) | exact okMr (by omega) | (unfold okM; refine ⟨?_, ?_, ?_, ?_, ?_, ?_, ?_, ?_, ?_, ?_, ?_, ?_⟩ <;> intro h <;> omega))) (Fr_uI Fr.rf (by omega)) (by first | exact seM hs | (exfalso; omega))
theorem pX11_person {G : jdG} {n : Nat} {Z : jdL} {J : jdJ} {K : Int32 → jdI → jdJ → Prop} {I : jdI} {s : Sd} {x1 x2 : Int32} (hX : zX Z) (hW : WX I) (hs : TX I 1 s) (hK : ∀ (v : Int32) (I2 : jdI), WX I2 → Fr (fun a k => (1 ≤ a ∧ a ≤ 4) ∨ a = 28) I I2 → (v.toInt = (oPerson s x1 x2).1 ∧ TX I2 1 (oPerson s x1 x2).2) → K v I2 J) : Cl G mX11_person (n + 2) 0 0 [.ref (gb G + 0), .int x1, .int x2] Z I J (qi Z K) := by
  have h1 := hs.1.1
  have hw := WX_f hW
  have q7 : (7 : Int32).toInt = 7 := rfl
  refine eX11_person hX ?_
  refine sfX11_isHour hW (fun v2 p2 => ⟨fun c2 => ?_, fun c2 => ?_⟩)
  · have c2 := i0 c2
    have e : oPerson s x1 x2 = (-2, s) := if_neg (by omega)
    refine sfX11_refuse hX hW (fun v4 I3 hW3 hF3 hp3 => ?_)
    refine hK v4 I3 hW3 (Fr.tr Fr.rf hF3 (by intro a k h; omega)) ?_
    rw [e]
    exact ⟨by rw [hp3]; rfl, TX_fr hs hF3 (by intro a k h1 h2; omega)⟩
  · have c2 := i1 c2
    refine sfX11_isCost hW (fun v6 p6 => ⟨fun c6 => ⟨fun c7 => ?_, fun c7 => ?_⟩, fun c6 => ?_⟩)
    · have c6 := i1 c6
      have c7 := Int32.lt_iff_toInt_lt.mp c7
      have e : oPerson s x1 x2 = (s.1.1, (addT s.1 x1 x2, s.2)) := by
        unfold oPerson
        rw [if_pos (by omega), if_pos (by omega)]
      refine pX9_add (zX_o0 hX) (Or.inl rfl) hW hs.1 (by omega) (fun v8 I7 hW7 hF7 hR7 hv => ?_)
      refine hK v8 I7 hW7 (Fr.tr Fr.rf hF7 (by intro a k h; omega)) ?_
      rw [e]
      exact ⟨hv, hR7, by rw [hF7 1 6 (by omega)]; exact hs.2⟩
    · have c6 := i1 c6
      have c7 := mt Int32.lt_iff_toInt_lt.mpr c7
      have e : oPerson s x1 x2 = (-6, s) := by unfold oPerson; rw [if_pos (by omega), if_neg (by omega)]
      refine sfX11_refuse hX hW (fun v4 I3 hW3 hF3 hp3 => ?_)
      refine hK v4 I3 hW3 (Fr.tr Fr.rf hF3 (by intro a k h; omega)) ?_
      rw [e]
      exact ⟨by rw [hp3]; rfl, TX_fr hs hF3 (by intro a k h1 h2; omega)⟩
    · have c6 := i0 c6
      have e : oPerson s x1 x2 = (-2, s) := if_neg (by omega)
      refine sfX11_refuse hX hW (fun v4 I3 hW3 hF3 hp3 => ?_)
      refine hK v4 I3 hW3 (Fr.tr Fr.rf hF3 (by intro a k h; omega)) ?_
      rw [e]
      exact ⟨by rw [hp3]; rfl, TX_fr hs hF3 (by intro a k h1 h2; omega)⟩
theorem pX12_personS {G : jdG} {n : Nat} {Z : jdL} {J : jdJ} {K : Int32 → jdI → jdJ → Prop} {I : jdI} {t : Nat} {s : Sd} {x1 x2 : Int32} (ht : zModel Z t) (hW : WM 7 t I) (hs : TM I t s) (hK : ∀ (v : Int32) (I2 : jdI), WM 7 t I2 → Fr (fun a k => (a = t ∧ k = 10) ∨ a = t + 18 ∨ a = t + 19 ∨ (t + 21 ≤ a ∧ a ≤ t + 28) ∨ a = t + 17) I I2 → (v.toInt = (oPerson s x1 x2).1 ∧ TM I2 t (oPerson s x1 x2).2) → K v I2 J) : Cl G mX12_person (n + 1) 0 0 [.ref (gb G + t), .int x1, .int x2] Z I J (qi Z K) := by
  have h1 := hs.1.1
  have hw := WM_f hW
  have q1 : (1 : Int32).toInt = 1 := rfl
  have e1 : (Int32.toInt64 x1).toInt = x1.toInt := Int32.toInt_toInt64 _
  have e2 : (Int32.toInt64 x2).toInt = x2.toInt := Int32.toInt_toInt64 _
  have z0 : (0 : Int64).toInt = 0 := rfl
  have z23 : (23 : Int64).toInt = 23 := rfl
  have z9 : (9 : Int64).toInt = 9 := rfl
  refine eX12_person ht ?_
  refine sfX12_in trivial (fun v2 p2 => ⟨fun c2 => ?_, fun c2 => ?_⟩)
  · have c2 := i0 c2
    have e : oPerson s x1 x2 = (-2, s) := if_neg (by omega)
    refine sfX12_refuse ht (by decide) hW (by decide) (fun v4 I3 hW3 hF3 hp3 => ?_)
    refine hK v4 I3 hW3 (Fr.tr Fr.rf hF3 (by intro a k h; omega)) ?_
    rw [e]
    exact ⟨hp3, TM_fr hs (show s.1.1 ≤ 8 by omega) hF3 (by omega) (by omega) (by omega) (by omega) (by intro a k h1 h2 h3; omega)⟩
  · have c2 := i1 c2
    refine sfX12_in trivial (fun v6 p6 => ⟨fun c6 => ⟨fun c7 => ?_, fun c7 => ?_⟩, fun c6 => ?_⟩)
    · have c6 := i1 c6
      have c7 : ¬ (I t 10).toInt = 7 := fun z => c7 (Int32.toInt_inj.mp z)
      have e : oPerson s x1 x2 = (s.1.1, (addT s.1 x1 x2, s.2)) := by
        unfold oPerson
        rw [if_pos (by omega), if_pos (by omega)]
      refine pX12_addOne ht hW hs.1 (by omega) (fun I7 hW7 hF7 hR7 => ?_)
      refine hK _ I7 hW7 (Fr.tr Fr.rf hF7 (by intro a k h; omega)) ?_
      rw [e]
      have r1 : (I7 t 10).toInt = s.1.1 + 1 := hR7.1
      have r2 := i32_sub (I7 t 10) 1 (by omega) (by omega)
      exact ⟨show ((I7 t 10) - 1).toInt = s.1.1 by omega, hR7, by rw [hF7 t 19 (by omega)]; exact hs.2⟩
    · have c6 := i1 c6
      have c7 : (I t 10).toInt = 7 := by rw [c7]; rfl
      have e : oPerson s x1 x2 = (-6, s) := by unfold oPerson; rw [if_pos (by omega), if_neg (by omega)]
      refine sfX12_refuse ht (by decide) hW (by decide) (fun v4 I3 hW3 hF3 hp3 => ?_)
      refine hK v4 I3 hW3 (Fr.tr Fr.rf hF3 (by intro a k h; omega)) ?_
      rw [e]
      exact ⟨hp3, TM_fr hs (show s.1.1 ≤ 8 by omega) hF3 (by omega) (by omega) (by omega) (by omega) (by intro a k h1 h2 h3; omega)⟩
    · have c6 := i0 c6
      have e : oPerson s x1 x2 = (-2, s) := if_neg (by omega)
      refine sfX12_refuse ht (by decide) hW (by decide) (fun v4 I3 hW3 hF3 hp3 => ?_)
      refine hK v4 I3 hW3 (Fr.tr Fr.rf hF3 (by intro a k h; omega)) ?_
      rw [e]
      exact ⟨hp3, TM_fr hs (show s.1.1 ≤ 8 by omega) hF3 (by omega) (by omega) (by omega) (by omega) (by intro a k h1 h2 h3; omega)⟩
theorem RX_f6 {I I2 : jdI} {t : Nat} {w : Tw} (h : RX I t w) (f0 : Fr (fun a k => a = t ∧ k = 6) I I2) : RX I2 t w := by
  obtain ⟨w1, w2, w3, w4, w5⟩ := h
  exact ⟨by rw [f0 t 3 (by omega)]; exact w1, fun i hi => by rw [f0 (t + 1) i (by omega), f0 (t + 2) i (by omega)]; exact w2 i hi, by rw [f0 t 4 (by omega)]; exact w3, by rw [f0 t 5 (by omega)]; exact w4, fun i j hi hj hne => by rw [f0 (t + 3) _ (by omega)]; exact w5 i j hi hj hne⟩
theorem RM_f19 {I I2 : jdI} {t : Nat} {w : Tw} (h : RM I t w) (f0 : Fr (fun a k => a = t ∧ k = 19) I I2) : RM I2 t w := by
  obtain ⟨w1, w2, w3, w4, w5⟩ := h
  exact ⟨by rw [f0 t 10 (by omega)]; exact w1, fun i hi => by rw [f0 (t + 18) i (by omega), f0 (t + 19) i (by omega)]; exact w2 i hi, by rw [f0 t 14 (by omega)]; exact w3, by rw [f0 t 15 (by omega)]; exact w4, fun i j hi hj hne => by rw [f0 (t + 21 + i) _ (by omega)]; exact w5 i j hi hj hne⟩
theorem pX9_draw {G : jdG} {n : Nat} {Z : jdL} {J : jdJ} {K : Int32 → jdI → jdJ → Prop} {I : jdI} {t : Nat} {s : Sd} {b : Int32} (ht : zTown Z t) (hts : t = 1 ∨ t = 5 ∨ t = 9) (hW : WX I) (hs : TX I t s) (hb : 1 ≤ b.toInt) (hK : ∀ I2 : jdI, WX I2 → Fr (fun a k => a = t ∧ k = 6) I I2 → TX I2 t (s.1, nx s.2) → K (vd (nx s.2) b) I2 J) : Cl G mX9_draw n 0 0 [.ref (gb G + t), .int b] Z I J (qi Z K) := by
  refine eX9_draw ht ⟨fun _ => ⟨fun e => by rw [e] at hb; exact absurd hb (by decide), ?_⟩, fun h => absurd (Int32.le_iff_toInt_le.mpr (show (1 : Int32).toInt ≤ b.toInt from hb)) h⟩
  have f0 : Fr (fun a k => a = t ∧ k = 6) I (uI I t 6 (nx s.2)) := Fr_uI Fr.rf ⟨rfl, rfl⟩
  have key := hK (uI I t 6 (nx s.2)) (WX_uI hW (by first | exact okXo (by decide) | (unfold okX; refine ⟨?_, ?_, ?_, ?_, ?_, ?_, ?_, ?_, ?_, ?_⟩ <;> intro h <;> omega))) f0 ⟨RX_f6 hs.1 f0, by rw [uI_ap, if_pos ⟨rfl, rfl⟩]⟩
  rw [hs.2]
  exact key
theorem pX12_below {G : jdG} {n : Nat} {Z : jdL} {J : jdJ} {K : Int32 → jdI → jdJ → Prop} {I : jdI} {t : Nat} {s : Sd} {b : Int32} (ht : zModel Z t) (hW : WM 7 t I) (hs : TM I t s) (hb : 1 ≤ b.toInt) (hK : ∀ I2 : jdI, WM 7 t I2 → Fr (fun a k => a = t ∧ k = 19) I I2 → TM I2 t (s.1, nx s.2) → K (vd (nx s.2) b) I2 J) : Cl G mX12_below n 0 0 [.ref (gb G + t), .int b] Z I J (qi Z K) := by
  refine eX12_below ht ⟨fun e => by rw [e] at hb; exact absurd hb (by decide), ?_⟩
  have f0 : Fr (fun a k => a = t ∧ k = 19) I (uI I t 19 (nx s.2)) := Fr_uI Fr.rf ⟨rfl, rfl⟩
  have key := hK (uI I t 19 (nx s.2)) (WM_uI hW (by first | exact okMo (by decide) (by decide) (by decide) (by decide) (by decide) | exact okMf (by decide) (by decide) (by decide) (by decide) (by decide) (by decide) (by decide) (by decide) | exact okM30 (by omega) | exact okM42 (by omega) | exact okM33 (by omega) | exact okM10 (by omega) | exact okM8 (by omega) | exact okM22 (by omega) | exact okM24 (by omega) | exact okM14 (by omega) | exact okMa31 (by omega) | exact okMa35 (by omega) | exact okMa36 (by omega) | exact okMa3 (by omega) | exact okMr (by omega) | (unfold okM; refine ⟨?_, ?_, ?_, ?_, ?_, ?_, ?_, ?_, ?_, ?_, ?_, ?_⟩ <;> intro h <;> omega))) f0 ⟨RM_f19 hs.1 f0, by rw [uI_ap, if_pos ⟨rfl, rfl⟩]⟩
  rw [hs.2]
  exact key
theorem drK_1 (f j : Nat) (s : Sd) : (drK f j s).1.1 = s.1.1 := drG_1 nx bz f j s
theorem addD_1 (s : Sd) : (addD s).1.1 = s.1.1 + 1 := drK_1 _ _ _
theorem drK_n {f j : Nat} {s : Sd} (h : ¬ vd (nx s.2) 3 = 0) : drK (f + 1) j s = drK f (j + 1) (s.1, nx s.2) := drG_n (fun e => h (of_decide_eq_true e))
theorem drK_y {f j : Nat} {s : Sd} (h : vd (nx s.2) 3 = 0) : drK (f + 1) j s = drK f (j + 1) (tieT s.1 (s.1.1 - 1).toNat j 0, nx s.2) := drG_y (decide_eq_true h)
theorem pX9_addByDraws_24 {G : jdG} {n rc rs : Nat} {Z : jdL} {J : jdJ} {K : jdI → jdJ → Prop} {I0 : jdI} {t : Nat} {R : Sd} {x1 x2 x3 : Int32} (ht : zTown Z t) (hts : t = 1 ∨ t = 5 ∨ t = 9) (hK : ∀ I2 : jdI, WX I2 → Fr (fun a k => t ≤ a ∧ a ≤ t + 3) I0 I2 → TX I2 t R → K I2 J) : ∀ f : Nat, ∀ (I : jdI) (x4 : Int32) (s : Sd), WX I → Fr (fun a k => t ≤ a ∧ a ≤ t + 3) I0 I → TX I t s → x3.toInt = s.1.1 - 1 → 0 ≤ x4.toInt → x4.toInt + (f : Int) = x3.toInt → drK f x4.toInt.toNat s = R → Jd G mX9_addByDraws (jdFm G (qv Z K)) (n + 2) rc rs 24 [(0, .ref (gb G + t)), (1, .int x1), (2, .int x2), (3, .int x3), (4, .int x4)] [] Z I J := by
  intro f
  induction f with
  | zero =>
    intro I x4 s hW hF hs h3 h4 hf hr
    refine rX9_addByDraws_24 ht ⟨fun hc => ?_, fun hc => ?_⟩
    · have hr : s = R := hr
      rw [hr] at hs
      exact hK I hW hF hs
    · exact absurd (Int32.le_iff_toInt_le.mpr (by omega)) hc
  | succ f ih =>
    intro I x4 s hW hF hs h3 h4 hf hr
    have hp := WX_town hW hts
    have hs1 := hs.1.1
    have q1 : (1 : Int32).toInt = 1 := rfl
    have e4 := i32_add x4 1 (by omega) (by omega)
    have n3 := tn_eq x3
    have n4 := tn_eq x4
    have en : (x4 + 1).toInt.toNat = x4.toInt.toNat + 1 := by omega
    refine rX9_addByDraws_24 ht ⟨fun hc => by have := Int32.le_iff_toInt_le.mp hc; omega, fun hc => ?_⟩
    refine pX9_draw ht hts hW hs (by decide) (fun I1 hW1 hF1 hs1' => ⟨fun hv => ?_, fun hv => ?_⟩)
    · refine ih I1 (x4 + 1) (s.1, nx s.2) hW1 (Fr.tr hF hF1 (by intro a k h; omega)) hs1' h3 (by omega) (by omega) ?_
      rw [en, ← drK_n hv]
      exact hr
    · refine pX9_tie ht hts hW1 hs1'.1 ⟨by omega, by show x3.toInt < s.1.1; omega⟩ ⟨h4, by show x4.toInt < s.1.1; omega⟩ (fun I3 hW3 hF3 hR3 => ?_)
      refine ih I3 (x4 + 1) (tieT s.1 (s.1.1 - 1).toNat x4.toInt.toNat 0, nx s.2) hW3 (Fr.tr (Fr.tr hF hF1 (by intro a k h; omega)) hF3 (by intro a k h; omega)) ⟨?_, by rw [hF3 t 6 (by omega)]; exact hs1'.2⟩ h3 (by omega) (by omega) ?_
      · rw [show (s.1.1 - 1).toNat = Int32.toNatClampNeg x3 by omega]
        exact hR3
      · rw [en, ← drK_y hv]
        exact hr
theorem pX9_addByDraws {G : jdG} {n : Nat} {Z : jdL} {J : jdJ} {K : jdI → jdJ → Prop} {I : jdI} {t : Nat} {s : Sd} (ht : zTown Z t) (hts : t = 1 ∨ t = 5 ∨ t = 9) (hW : WX I) (hs : TX I t s) (h7 : s.1.1 < 7) (hK : ∀ I2 : jdI, WX I2 → Fr (fun a k => t ≤ a ∧ a ≤ t + 3) I I2 → TX I2 t (addD s) → K I2 J) : Cl G mX9_addByDraws (n + 2) 0 0 [.ref (gb G + t)] Z I J (qv Z K) := by
  have hp := WX_town hW hts
  have hs1 := hs.1.1
  refine eX9_addByDraws ht ?_
  refine pX9_draw ht hts hW hs (by decide) (fun I1 hW1 hF1 hs1 => ?_)
  refine pX9_draw ht hts hW1 hs1 (by decide) (fun I3 hW3 hF3 hs3 => ?_)
  refine pX9_add ht hts hW3 hs3.1 h7 (fun v6 I5 hW5 hF5 hR5 hv => ?_)
  have hv : v6.toInt = s.1.1 := hv
  refine pX9_addByDraws_24 ht hts hK s.1.1.toNat I5 0 (addT s.1 (vd (nx s.2) 24) (vd (nx (nx s.2)) 10), nx (nx s.2)) hW5 (Fr.tr (Fr.tr (Fr.tr Fr.rf hF1 (by intro a k h; omega)) hF3 (by intro a k h; omega)) hF5 (by intro a k h; omega)) ⟨hR5, by rw [hF5 t 6 (by omega)]; exact hs3.2⟩ ?_ (by decide) ?_ rfl
  · show v6.toInt = s.1.1 + 1 - 1
    omega
  · show (0 : Int) + (s.1.1.toNat : Int) = v6.toInt
    omega
theorem pX11_come_35 {G : jdG} {n rc rs : Nat} {Z : jdL} {J : jdJ} {K : Int32 → jdI → jdJ → Prop} {I0 : jdI} {R : Sd} {x1 x2 : Int32} (hX : zX Z) (hK : ∀ I2 : jdI, WX I2 → Fr (fun a k => (1 ≤ a ∧ a ≤ 4) ∨ a = 28) I0 I2 → TX I2 1 R → K x2 I2 J) : ∀ f : Nat, ∀ (I : jdI) (x3 : Int32) (s : Sd), WX I → Fr (fun a k => (1 ≤ a ∧ a ≤ 4) ∨ a = 28) I0 I → TX I 1 s → 0 ≤ x3.toInt → x3.toInt + (f : Int) = x2.toInt → s.1.1 + (f : Int) ≤ 7 → comeN f s = R → Jd G mX11_come (jdFm G (qi Z K)) (n + 3) rc rs 35 [(0, .ref (gb G + 0)), (1, .int x1), (2, .int x2), (3, .int x3)] [] Z I J := by
  intro f
  induction f with
  | zero =>
    intro I x3 s hW hF hs h3 hf h7 hr
    refine rX11_come_35 hX ⟨fun hc => ?_, fun hc => absurd (Int32.le_iff_toInt_le.mpr (by omega)) hc⟩
    have hr : s = R := hr
    rw [hr] at hs
    exact hK I hW hF hs
  | succ f ih =>
    intro I x3 s hW hF hs h3 hf h7 hr
    have q1 : (1 : Int32).toInt = 1 := rfl
    have hp := WX_f hW
    have hs1 := hs.1.1
    have hl := i32_lo x2
    have e3 := i32_add x3 1 (by omega) (by omega)
    refine rX11_come_35 hX ⟨fun hc => by have := Int32.le_iff_toInt_le.mp hc; omega, fun hc => ?_⟩
    refine pX9_addByDraws (zX_o0 hX) (Or.inl rfl) hW hs (by omega) (fun I1 hW1 hF1 hs1 => ?_)
    exact ih I1 (x3 + 1) (addD s) hW1 (Fr.tr hF hF1 (by intro a k h; omega)) hs1 (by omega) (by omega) (by rw [addD_1]; omega) hr
theorem pX11_come {G : jdG} {n : Nat} {Z : jdL} {J : jdJ} {K : Int32 → jdI → jdJ → Prop} {I : jdI} {s : Sd} {x1 : Int32} (hX : zX Z) (hW : WX I) (hs : TX I 1 s) (hK : ∀ (v : Int32) (I2 : jdI), WX I2 → Fr (fun a k => (1 ≤ a ∧ a ≤ 4) ∨ a = 28) I I2 → (v.toInt = (oCome s x1).1 ∧ TX I2 1 (oCome s x1).2) → K v I2 J) : Cl G mX11_come (n + 3) 0 0 [.ref (gb G + 0), .int x1] Z I J (qi Z K) := by
  have h1 := hs.1.1
  have hw := WX_f hW
  have q7 : (7 : Int32).toInt = 7 := rfl
  have q1 : (1 : Int32).toInt = 1 := rfl
  have s7 := i32_sub 7 (I 1 3) (by omega) (by omega)
  refine eX11_come hX ⟨fun c => ?_, fun c => ⟨fun d => ?_, fun d => ?_⟩⟩
  · have c := Int32.lt_iff_toInt_lt.mp c
    have e : oCome s x1 = (-2, s) := if_neg (by omega)
    refine sfX11_refuse hX hW (fun v4 I3 hW3 hF3 hp3 => ?_)
    refine hK v4 I3 hW3 (Fr.tr Fr.rf hF3 (by intro a k h; omega)) ?_
    rw [e]
    exact ⟨by rw [hp3]; rfl, TX_fr hs hF3 (by intro a k h1 h2; omega)⟩
  · have c := mt Int32.lt_iff_toInt_lt.mpr c
    have d := Int32.le_iff_toInt_le.mp d
    by_cases g : (7 - (I 1 3)) < x1
    · rw [if_pos g]
      have g := Int32.lt_iff_toInt_lt.mp g
      have e : oCome s x1 = (7 - s.1.1, comeN (7 - s.1.1).toNat s) := by
        unfold oCome
        rw [if_pos (by omega), if_pos (by omega)]
      refine pX11_come_35 hX (fun I2 hW2 hF2 hs2 => hK _ I2 hW2 hF2 ?_) (7 - s.1.1).toNat I 0 s hW Fr.rf hs (by decide) ?_ (by omega) rfl
      · rw [e]
        exact ⟨show (7 - (I 1 3)).toInt = 7 - s.1.1 by omega, hs2⟩
      · show (0 : Int) + ((7 - s.1.1).toNat : Int) = (7 - (I 1 3)).toInt
        omega
    · rw [if_neg g]
      have g := mt Int32.lt_iff_toInt_lt.mpr g
      have e : oCome s x1 = (x1.toInt, comeN x1.toInt.toNat s) := by
        unfold oCome
        rw [if_pos (by omega), if_neg (by omega)]
      refine pX11_come_35 hX (fun I2 hW2 hF2 hs2 => hK _ I2 hW2 hF2 ?_) x1.toInt.toNat I 0 s hW Fr.rf hs (by decide) ?_ (by omega) rfl
      · rw [e]
        exact ⟨rfl, hs2⟩
      · show (0 : Int) + (x1.toInt.toNat : Int) = x1.toInt
        omega
  · have d := mt Int32.le_iff_toInt_le.mpr d
    have e : oCome s x1 = (-2, s) := if_neg (by omega)
    refine sfX11_refuse hX hW (fun v4 I3 hW3 hF3 hp3 => ?_)
    refine hK v4 I3 hW3 (Fr.tr Fr.rf hF3 (by intro a k h; omega)) ?_
    rw [e]
    exact ⟨by rw [hp3]; rfl, TX_fr hs hF3 (by intro a k h1 h2; omega)⟩
theorem pX12_come_56 {G : jdG} {n rc rs : Nat} {Z : jdL} {J : jdJ} {K : Int32 → jdI → jdJ → Prop} {I0 : jdI} {t : Nat} {R : Sd} {x1 x2 x3 : Int32} (ht : zModel Z t) (hO : ∀ I2 : jdI, WM 7 t I2 → Fr (fun a k => (a = t ∧ k = 10) ∨ a = t + 18 ∨ a = t + 19 ∨ (t + 21 ≤ a ∧ a ≤ t + 28) ∨ (a = t ∧ k = 19) ∨ a = t + 17) I0 I2 → TM I2 t R → Jd G mX12_come (jdFm G (qi Z K)) (n + 1) rc rs 21 [(0, .ref (gb G + t)), (1, .int x1), (2, .int (x2 + 1))] [] Z I2 J) : ∀ f : Nat, ∀ (I : jdI) (x4 : Int32) (s : Sd), WM 7 t I → Fr (fun a k => (a = t ∧ k = 10) ∨ a = t + 18 ∨ a = t + 19 ∨ (t + 21 ≤ a ∧ a ≤ t + 28) ∨ (a = t ∧ k = 19) ∨ a = t + 17) I0 I → TM I t s → 0 ≤ x4.toInt → x4.toInt + (f : Int) = s.1.1 - 1 → drK f x4.toInt.toNat s = R → Jd G mX12_come (jdFm G (qi Z K)) (n + 1) rc rs 56 [(0, .ref (gb G + t)), (1, .int x1), (2, .int x2), (3, .int x3), (4, .int x4)] [] Z I J := by
  intro f
  induction f with
  | zero =>
    intro I x4 s hW hF hs h4 hf hr
    have hp := WM_f hW
    have hs1 := hs.1.1
    have q1 : (1 : Int32).toInt = 1 := rfl
    have e1 := i32_sub (I t 10) 1 (by omega) (by omega)
    refine rX12_come_56 ht ⟨fun hc => ?_, fun hc => absurd (Int32.le_iff_toInt_le.mpr (by omega)) hc⟩
    have hr : s = R := hr
    rw [hr] at hs
    exact hO I hW hF hs
  | succ f ih =>
    intro I x4 s hW hF hs h4 hf hr
    have hp := WM_f hW
    have hs1 := hs.1.1
    have q1 : (1 : Int32).toInt = 1 := rfl
    have e1 := i32_sub (I t 10) 1 (by omega) (by omega)
    have e4 := i32_add x4 1 (by omega) (by omega)
    have n4 := tn_eq x4
    have en : (x4 + 1).toInt.toNat = x4.toInt.toNat + 1 := by omega
    refine rX12_come_56 ht ⟨fun hc => by have := Int32.le_iff_toInt_le.mp hc; omega, fun hc => ?_⟩
    refine pX12_below ht hW hs (by decide) (fun I1 hW1 hF1 hs1' => ⟨fun hv => ?_, fun hv => ?_⟩)
    · refine ih I1 (x4 + 1) (s.1, nx s.2) hW1 (Fr.tr hF hF1 (by intro a k h; omega)) hs1' (by omega) (by show _ = s.1.1 - 1; omega) ?_
      rw [en, ← drK_n hv]
      exact hr
    · have hp1 := WM_f hW1
      have r1 : (I1 t 10).toInt = s.1.1 := hs1'.1.1
      have e2 := i32_sub (I1 t 10) 1 (by omega) (by omega)
      have n2 := tn_eq ((I1 t 10) - 1)
      refine pX12_knows ht hW1 hs1'.1 ⟨by omega, by show ((I1 t 10) - 1).toInt < s.1.1; omega⟩ ⟨h4, by show x4.toInt < s.1.1; omega⟩ (fun I3 hW3 hF3 hR3 => ?_)
      refine ih I3 (x4 + 1) (tieT s.1 (s.1.1 - 1).toNat x4.toInt.toNat 0, nx s.2) hW3 (Fr.tr (Fr.tr hF hF1 (by intro a k h; omega)) hF3 (by intro a k h; omega)) ⟨?_, by rw [hF3 t 19 (by omega)]; exact hs1'.2⟩ (by omega) (by show _ = s.1.1 - 1; omega) ?_
      · rw [show (s.1.1 - 1).toNat = Int32.toNatClampNeg ((I1 t 10) - 1) by omega]
        exact hR3
      · rw [en, ← drK_y hv]
        exact hr
theorem pX12_come_21 {G : jdG} {n rc rs : Nat} {Z : jdL} {J : jdJ} {K : Int32 → jdI → jdJ → Prop} {I0 : jdI} {t : Nat} {R : Sd} {x1 : Int32} {c : Int} (ht : zModel Z t) (hx : x1.toInt ≤ 7) (hK : ∀ (v : Int32) (I2 : jdI), WM 7 t I2 → Fr (fun a k => (a = t ∧ k = 10) ∨ a = t + 18 ∨ a = t + 19 ∨ (t + 21 ≤ a ∧ a ≤ t + 28) ∨ (a = t ∧ k = 19) ∨ a = t + 17) I0 I2 → TM I2 t R → v.toInt = c → K v I2 J) : ∀ f : Nat, ∀ (I : jdI) (x2 : Int32) (s : Sd), WM 7 t I → Fr (fun a k => (a = t ∧ k = 10) ∨ a = t + 18 ∨ a = t + 19 ∨ (t + 21 ≤ a ∧ a ≤ t + 28) ∨ (a = t ∧ k = 19) ∨ a = t + 17) I0 I → TM I t s → 0 ≤ x2.toInt → x2.toInt + (f : Int) = c → x2.toInt + (f : Int) ≤ x1.toInt → s.1.1 + (f : Int) ≤ 7 → (x1.toInt = x2.toInt + (f : Int) ∨ s.1.1 + (f : Int) = 7) → comeN f s = R → Jd G mX12_come (jdFm G (qi Z K)) (n + 1) rc rs 21 [(0, .ref (gb G + t)), (1, .int x1), (2, .int x2)] [] Z I J := by
  intro f
  induction f with
  | zero =>
    intro I x2 s hW hF hs h2 hf h1 h7 hm hr
    have hp := WM_f hW
    have hs1 := hs.1.1
    have q7 : (7 : Int32).toInt = 7 := rfl
    have hr : s = R := hr
    rw [hr] at hs
    refine rX12_come_21 ht ⟨fun hc => hK x2 I hW hF hs (by omega), fun hc => ⟨fun hd => hK x2 I hW hF hs (by omega), fun hd => ?_⟩⟩
    have hc := mt Int32.le_iff_toInt_le.mpr hc
    have hd := mt Int32.le_iff_toInt_le.mpr hd
    omega
  | succ f ih =>
    intro I x2 s hW hF hs h2 hf h1 h7 hm hr
    have hp := WM_f hW
    have hs1 := hs.1.1
    have q7 : (7 : Int32).toInt = 7 := rfl
    have q1 : (1 : Int32).toInt = 1 := rfl
    have e2 := i32_add x2 1 (by omega) (by omega)
    refine rX12_come_21 ht ⟨fun hc => by have := Int32.le_iff_toInt_le.mp hc; omega, fun hc => ⟨fun hd => by have := Int32.le_iff_toInt_le.mp hd; omega, fun hd => ?_⟩⟩
    refine pX12_below ht hW hs (by decide) (fun I1 hW1 hF1 hs1' => ?_)
    refine pX12_below ht hW1 hs1' (by decide) (fun I3 hW3 hF3 hs3 => ?_)
    refine pX12_addOne ht hW3 hs3.1 (by show s.1.1 < 7; omega) (fun I5 hW5 hF5 hR5 => ?_)
    refine pX12_come_56 (R := addD s) ht (fun I7 hW7 hF7 hs7 => ?_) s.1.1.toNat I5 0 (addT s.1 (vd (nx s.2) 24) (vd (nx (nx s.2)) 10), nx (nx s.2)) hW5 (Fr.tr (Fr.tr (Fr.tr hF hF1 (by intro a k h; omega)) hF3 (by intro a k h; omega)) hF5 (by intro a k h; omega)) ⟨hR5, by rw [hF5 t 19 (by omega)]; exact hs3.2⟩ (by decide) ?_ rfl
    · exact ih I7 (x2 + 1) (addD s) hW7 hF7 hs7 (by omega) (by omega) (by omega) (by rw [addD_1]; omega) (by rw [addD_1]; omega) hr
    · show (0 : Int) + (s.1.1.toNat : Int) = s.1.1 + 1 - 1
      omega
theorem pX12_come {G : jdG} {n : Nat} {Z : jdL} {J : jdJ} {K : Int32 → jdI → jdJ → Prop} {I : jdI} {t : Nat} {s : Sd} {x1 : Int32} (ht : zModel Z t) (hW : WM 7 t I) (hs : TM I t s) (hK : ∀ (v : Int32) (I2 : jdI), WM 7 t I2 → Fr (fun a k => (a = t ∧ k = 10) ∨ a = t + 18 ∨ a = t + 19 ∨ (t + 21 ≤ a ∧ a ≤ t + 28) ∨ (a = t ∧ k = 19) ∨ a = t + 17) I I2 → (v.toInt = (oCome s x1).1 ∧ TM I2 t (oCome s x1).2) → K v I2 J) : Cl G mX12_come (n + 1) 0 0 [.ref (gb G + t), .int x1] Z I J (qi Z K) := by
  have h1 := hs.1.1
  have hw := WM_f hW
  have e1 : (Int32.toInt64 x1).toInt = x1.toInt := Int32.toInt_toInt64 _
  have z1 : (1 : Int64).toInt = 1 := rfl
  have z7 : (7 : Int64).toInt = 7 := rfl
  refine eX12_come ht ?_
  refine sfX12_in trivial (fun v2 p2 => ⟨fun c2 => ?_, fun c2 => ?_⟩)
  · have c2 := i1 c2
    by_cases g : 7 - s.1.1 < x1.toInt
    · have e : oCome s x1 = (7 - s.1.1, comeN (7 - s.1.1).toNat s) := by
        unfold oCome
        rw [if_pos (by omega), if_pos g]
      refine pX12_come_21 (c := 7 - s.1.1) ht (by omega) (fun v I2 hW2 hF2 hs2 hv => hK v I2 hW2 hF2 ?_) (7 - s.1.1).toNat I 0 s hW Fr.rf hs (by decide) ?_ ?_ (by omega) (Or.inr (by omega)) rfl
      · rw [e]
        exact ⟨hv, hs2⟩
      · show (0 : Int) + _ = _
        omega
      · show (0 : Int) + _ ≤ _
        omega
    · have e : oCome s x1 = (x1.toInt, comeN x1.toInt.toNat s) := by
        unfold oCome
        rw [if_pos (by omega), if_neg g]
      refine pX12_come_21 (c := x1.toInt) ht (by omega) (fun v I2 hW2 hF2 hs2 hv => hK v I2 hW2 hF2 ?_) x1.toInt.toNat I 0 s hW Fr.rf hs (by decide) ?_ ?_ (by omega) (Or.inl ?_) rfl
      · rw [e]
        exact ⟨hv, hs2⟩
      · show (0 : Int) + _ = _
        omega
      · show (0 : Int) + _ ≤ _
        omega
      · show _ = (0 : Int) + _
        omega
  · have c2 := i0 c2
    have e : oCome s x1 = (-2, s) := if_neg (by omega)
    refine sfX12_refuse ht (by decide) hW (by decide) (fun v4 I3 hW3 hF3 hp3 => ?_)
    refine hK v4 I3 hW3 (Fr.tr Fr.rf hF3 (by intro a k h; omega)) ?_
    rw [e]
    exact ⟨hp3, TM_fr hs (show s.1.1 ≤ 8 by omega) hF3 (by omega) (by omega) (by omega) (by omega) (by intro a k h1 h2 h3; omega)⟩
theorem pX11_image {G : jdG} {n : Nat} {Z : jdL} {J : jdJ} {K : Int32 → jdI → jdJ → Prop} {I : jdI} {s : Sd} (hX : zX Z) (hW : WX I) (hs : TX I 1 s) (hK : ∀ (v : Int32) (I2 : jdI), WX I2 → Fr (fun a k => (5 ≤ a ∧ a ≤ 8) ∨ a = 0) I I2 → (v.toInt = 1 ∧ (I2 0 8).toInt = 1) → TX I2 5 s → K v I2 J) : Cl G mX11_image (n + 2) 0 0 [.ref (gb G + 0)] Z I J (qi Z K) := by
  have h1 := hs.1.1
  have hw := WX_f hW
  refine eX11_image hX ?_
  refine pX9_become (zX_o1 hX) (zX_o0 hX) (Or.inr (Or.inl rfl)) (Or.inl rfl) (by decide) hW (fun I1 hW1 hF1 hC => ?_)
  have hw1 := WX_f hW1
  have f0 : Fr (fun a k => a = 0 ∧ k = 8) I1 (uI I1 0 8 1) := Fr_uI Fr.rf ⟨rfl, rfl⟩
  refine hK 1 _ (WX_uI hW1 (by first | exact okXo (by decide) | (unfold okX; refine ⟨?_, ?_, ?_, ?_, ?_, ?_, ?_, ?_, ?_, ?_⟩ <;> intro h <;> omega))) (Fr.tr (Fr.tr Fr.rf hF1 (by intro a k h; omega)) f0 (by intro a k h; omega)) ⟨rfl, by rw [uI_ap, if_pos ⟨rfl, rfl⟩]; rfl⟩ ⟨RX_fr (RX_ct hs.1 (by omega) hC) f0 (by intro a k h1 h2; omega), ?_⟩
  rw [f0 5 6 (by omega), hC.1 6 (by omega) (by omega)]
  exact hs.2
theorem pX11_back {G : jdG} {n : Nat} {Z : jdL} {J : jdJ} {K : Int32 → jdI → jdJ → Prop} {I : jdI} (hX : zX Z) (hW : WX I) (hK : ∀ (v : Int32) (I2 : jdI), WX I2 → Fr (fun a k => (1 ≤ a ∧ a ≤ 4) ∨ a = 28) I I2 → ((v.toInt = 1 ∧ ¬ (I 0 8).toInt = 0) ∨ (v.toInt = -5 ∧ (I 0 8).toInt = 0)) → (¬ (I 0 8).toInt = 0 → ∀ s, TX I 5 s → TX I2 1 s) → ((I 0 8).toInt = 0 → ∀ s, TX I 1 s → TX I2 1 s) → K v I2 J) : Cl G mX11_back (n + 2) 0 0 [.ref (gb G + 0)] Z I J (qi Z K) := by
  have hw := WX_f hW
  refine eX11_back hX ⟨fun hc => ?_, fun hc => ?_⟩
  · have hc := i1 hc
    refine pX9_become (zX_o0 hX) (zX_o1 hX) (Or.inl rfl) (Or.inr (Or.inl rfl)) (by decide) hW (fun I1 hW1 hF1 hC => ?_)
    refine hK 1 I1 hW1 (Fr.tr Fr.rf hF1 (by intro a k h; omega)) (Or.inl ⟨rfl, hc⟩) (fun _ s hs => ?_) (fun h => absurd h hc)
    have h1 := hs.1.1
    exact ⟨RX_ct hs.1 (by omega) hC, by rw [hC.1 6 (by omega) (by omega)]; exact hs.2⟩
  · have hc := i0 hc
    refine sfX11_refuse hX hW (fun v4 I3 hW3 hF3 hp3 => ?_)
    exact hK v4 I3 hW3 (Fr.tr Fr.rf hF3 (by intro a k h; omega)) (Or.inr ⟨by rw [hp3]; rfl, hc⟩) (fun h => absurd hc h) (fun _ s hs => TX_fr hs hF3 (by intro a k h1 h2; omega))
theorem pX11_town {G : jdG} {n : Nat} {Z : jdL} {J : jdJ} {K : Int32 → jdI → jdJ → Prop} {I : jdI} {s : Sd} {sA sV : Nat → Nat} (hG : gOK G sA sV) (hX : zX Z) (hW : WX I) (hs : TX I 1 s) (hK : ∀ (v : Int32) (I2 : jdI), WX I2 → Fr (fun a k => (1 ≤ a ∧ a ≤ 4) ∨ (9 ≤ a ∧ a ≤ 12) ∨ a = 25 ∨ a = 28) I I2 → (I2 25 1).toInt = 0 → XTn (rd (I (25 + 1)) (I 25 1).toInt 63 s.1 (adv (I (25 + 1)) (I 25 1).toInt 0) 1) s.1 v I2 1 → I2 1 6 = s.2 → K v I2 J) : Cl G mX11_town (n + 8) 0 0 [.ref (gb G + 0)] Z I J (qi Z K) := by
  have h1 := hs.1.1
  have hw := WX_f hW
  refine eX11_town hX ?_
  refine pX9_become (zX_o2 hX) (zX_o0 hX) (Or.inr (Or.inr rfl)) (Or.inl rfl) (by decide) hW (fun I1 hW1 hF1 hC1 => ?_)
  have r9 := RX_ct hs.1 (by omega) hC1
  have r1 := RX_fr hs.1 hF1 (by intro a k h1 h2; omega)
  have e26 : I1 (25 + 1) = I (25 + 1) := funext (fun k => hF1 (25 + 1) k (by omega))
  have e251 : (I1 25 1).toInt = (I 25 1).toInt := congrArg Int32.toInt (hF1 25 1 (by omega))
  refine pX5_read hG (zX_o5 hX) (zX_o2 hX) (Or.inr (Or.inr rfl)) hW1 e26 e251 r9 (fun v3 I3 hW3 hF3 hp3 => ?_)
  have r13 := RX_fr r1 hF3 (by intro a k h1 h2; omega)
  have e96 : I3 9 6 = s.2 := by rw [hF3 9 6 (by omega), hC1.1 6 (by omega) (by omega)]; exact hs.2
  have e16 : I3 1 6 = s.2 := by rw [hF3 1 6 (by omega), hF1 1 6 (by omega)]; exact hs.2
  refine eX5_clear (zX_o5 hX) ?_
  have hw3 := WX_f hW3
  have q0 : (0 : Int32).toInt = 0 := rfl
  have hF5 : Fr (fun a k => a = 25 ∧ k = 1) I3 (uI I3 25 1 0) := Fr_uI Fr.rf ⟨rfl, rfl⟩
  have hW5 : WX (uI I3 25 1 0) := WX_uI hW3 (by first | exact okXo (by decide) | (unfold okX; refine ⟨?_, ?_, ?_, ?_, ?_, ?_, ?_, ?_, ?_, ?_⟩ <;> intro h <;> omega))
  have hp5 : ((uI I3 25 1 0) 25 1).toInt = 0 := by rw [uI_ap, if_pos ⟨rfl, rfl⟩]; rfl
  generalize (uI I3 25 1 0) = I5 at hF5 hW5 hp5 ⊢
  have fA : Fr (fun a k => (1 ≤ a ∧ a ≤ 4) ∨ (9 ≤ a ∧ a ≤ 12) ∨ a = 25 ∨ a = 28) I I5 := Fr.tr (Fr.tr (Fr.tr Fr.rf hF1 (by intro a k h; omega)) hF3 (by intro a k h; omega)) hF5 (by intro a k h; omega)
  refine ⟨fun hc => ?_, fun hc => ?_⟩
  · rcases hp3 with ⟨w2, q1, q2, q3⟩ | ⟨q1, q2⟩
    · refine pX9_become (zX_o0 hX) (zX_o2 hX) (Or.inl rfl) (Or.inr (Or.inr rfl)) (by decide) hW5 (fun I7 hW7 hF7 hC7 => ?_)
      have r95 := RX_fr q2 hF5 (by intro a k h1 h2; omega)
      have hw5 := WX_f hW5
      have l7 := r95.1
      refine hK v3 I7 hW7 (Fr.tr fA hF7 (by intro a k h; omega)) ?_ (Or.inl ⟨w2, q1, RX_ct r95 (by omega) hC7⟩) ?_
      · rw [hF7 25 1 (by omega)]
        exact hp5
      · rw [hC7.1 6 (by omega) (by omega), hF5 9 6 (by omega)]
        exact e96
    · exact absurd (Int32.toInt_inj.mp q1) hc
  · have hc : v3.toInt = -1 := by rw [hc]; rfl
    rcases hp3 with ⟨w2, q1, q2, q3⟩ | ⟨q1, q2⟩
    · omega
    · refine sfX11_refuse hX hW5 (fun v4 I9 hW9 hF9 hp9 => ?_)
      refine hK _ I9 hW9 (Fr.tr fA hF9 (by intro a k h; omega)) ?_ (Or.inr ⟨_, q2, ?_, RX_fr (RX_fr r13 hF5 (by intro a k h1 h2; omega)) hF9 (by intro a k h1 h2; omega)⟩) ?_
      · rw [hF9 25 1 (by omega)]
        exact hp5
      · rw [ofI, hF9 25 5 (by omega), hF5 25 5 (by omega)]
      · rw [hF9 1 6 (by omega), hF5 1 6 (by omega)]
        exact e16
/-! the tape, and towns that differ in who knows whom -/
def fdT (T : Nat → Int32) (m : Int) (x : Int32) : Nat → Int32 := if (0 ≤ x.toInt ∧ x.toInt ≤ 255) ∧ m < 250 then upd T m.toNat x else T
theorem pX11_feed {G : jdG} {n : Nat} {Z : jdL} {J : jdJ} {K : Int32 → jdI → jdJ → Prop} {I : jdI} {x1 : Int32} (hX : zX Z) (hW : WX I) (hK : ∀ (v : Int32) (I2 : jdI), WX I2 → Fr (fun a k => (25 ≤ a ∧ a ≤ 26) ∨ a = 28) I I2 → (((0 ≤ x1.toInt ∧ x1.toInt ≤ 255) ∧ (I 25 1).toInt < 250 ∧ v.toInt = (I 25 1).toInt + 1 ∧ (I2 25 1).toInt = (I 25 1).toInt + 1) ∨ ((0 ≤ x1.toInt ∧ x1.toInt ≤ 255) ∧ (I 25 1).toInt = 250 ∧ v.toInt = -6 ∧ (I2 25 1).toInt = (I 25 1).toInt) ∨ (¬ (0 ≤ x1.toInt ∧ x1.toInt ≤ 255) ∧ v.toInt = -2 ∧ (I2 25 1).toInt = (I 25 1).toInt)) → I2 (25 + 1) = fdT (I (25 + 1)) (I 25 1).toInt x1 → K v I2 J) : Cl G mX11_feed (n + 1) 0 0 [.ref (gb G + 0), .int x1] Z I J (qi Z K) := by
  have hw := WX_f hW
  have q0 : (0 : Int32).toInt = 0 := rfl
  have q1 : (1 : Int32).toInt = 1 := rfl
  have q255 : (255 : Int32).toInt = 255 := rfl
  have q250 : (250 : Int32).toInt = 250 := rfl
  refine eX11_feed hX ⟨fun c => ?_, fun c => ⟨fun d => ?_, fun d => ?_⟩⟩
  · have c := Int32.lt_iff_toInt_lt.mp c
    refine sfX11_refuse hX hW (fun v4 I3 hW3 hF3 hp3 => ?_)
    have hv4 : v4.toInt = -2 := by rw [hp3]; rfl
    have e1 := congrArg Int32.toInt (hF3 25 1 (by omega))
    refine hK v4 I3 hW3 (Fr.tr Fr.rf hF3 (by intro a k h; omega)) (by omega) ?_
    unfold fdT
    rw [if_neg (by omega)]
    exact funext (fun k => hF3 (25 + 1) k (by omega))
  · have c := mt Int32.lt_iff_toInt_lt.mpr c
    have d := Int32.le_iff_toInt_le.mp d
    refine sfX5_isFull (zX_o5 hX) hW (fun v2 p2 => ⟨fun g => ?_, fun g => ?_⟩)
    · have g := i0 g
      have e1 := i32_add (I 25 1) 1 (by omega) (by omega)
      refine eX5_append (zX_o5 hX) ⟨fun h => by have := Int32.le_iff_toInt_le.mp h; omega, fun _ => ⟨vp_of (by omega) (by omega), ?_⟩⟩
      have w1 : WX (uI I (25 + 1) (Int32.toNatClampNeg (I 25 1)) x1) := WX_uI hW (by first | exact okXo (by decide) | (unfold okX; refine ⟨?_, ?_, ?_, ?_, ?_, ?_, ?_, ?_, ?_, ?_⟩ <;> intro h <;> omega))
      have f0 : Fr (fun a k => (25 ≤ a ∧ a ≤ 26) ∨ a = 28) I (uI (uI I (25 + 1) (Int32.toNatClampNeg (I 25 1)) x1) 25 1 ((I 25 1) + 1)) := Fr_uI (Fr_uI Fr.rf (by omega)) (by omega)
      have e2 : (uI (uI I (25 + 1) (Int32.toNatClampNeg (I 25 1)) x1) 25 1 ((I 25 1) + 1)) 25 1 = (I 25 1) + 1 := by rw [uI_ap, if_pos ⟨rfl, rfl⟩]
      refine hK _ _ (WX_uI w1 (by first | exact okXo (by decide) | (unfold okX; refine ⟨?_, ?_, ?_, ?_, ?_, ?_, ?_, ?_, ?_, ?_⟩ <;> intro h <;> omega))) f0 (Or.inl ⟨⟨by omega, by omega⟩, by omega, by rw [e2]; exact e1, by rw [e2]; exact e1⟩) ?_
      unfold fdT
      rw [if_pos (by omega)]
      funext k
      rw [uI_n _ _ _ (by omega), uI_s]
      rfl
    · have g := i1 g
      refine sfX11_refuse hX hW (fun v4 I3 hW3 hF3 hp3 => ?_)
      have hv4 : v4.toInt = -6 := by rw [hp3]; rfl
      have e1 := congrArg Int32.toInt (hF3 25 1 (by omega))
      refine hK v4 I3 hW3 (Fr.tr Fr.rf hF3 (by intro a k h; omega)) (by omega) ?_
      unfold fdT
      rw [if_neg (by omega)]
      exact funext (fun k => hF3 (25 + 1) k (by omega))
  · have d := mt Int32.le_iff_toInt_le.mpr d
    refine sfX11_refuse hX hW (fun v4 I3 hW3 hF3 hp3 => ?_)
    have hv4 : v4.toInt = -2 := by rw [hp3]; rfl
    have e1 := congrArg Int32.toInt (hF3 25 1 (by omega))
    refine hK v4 I3 hW3 (Fr.tr Fr.rf hF3 (by intro a k h; omega)) (by omega) ?_
    unfold fdT
    rw [if_neg (by omega)]
    exact funext (fun k => hF3 (25 + 1) k (by omega))
theorem pX12_feed {G : jdG} {n : Nat} {Z : jdL} {J : jdJ} {K : Int32 → jdI → jdJ → Prop} {I : jdI} {t : Nat} {x1 : Int32} (ht : zModel Z t) (hW : WM 7 t I) (hK : ∀ (v : Int32) (I2 : jdI), WM 7 t I2 → Fr (fun a k => (a = t ∧ k = 8) ∨ a = t + 16 ∨ a = t + 17) I I2 → (((0 ≤ x1.toInt ∧ x1.toInt ≤ 255) ∧ (I t 8).toInt < 250 ∧ v.toInt = (I t 8).toInt + 1 ∧ (I2 t 8).toInt = (I t 8).toInt + 1) ∨ ((0 ≤ x1.toInt ∧ x1.toInt ≤ 255) ∧ (I t 8).toInt = 250 ∧ v.toInt = -6 ∧ (I2 t 8).toInt = (I t 8).toInt) ∨ (¬ (0 ≤ x1.toInt ∧ x1.toInt ≤ 255) ∧ v.toInt = -2 ∧ (I2 t 8).toInt = (I t 8).toInt)) → I2 (t + 16) = fdT (I (t + 16)) (I t 8).toInt x1 → K v I2 J) : Cl G mX12_feed (n + 1) 0 0 [.ref (gb G + t), .int x1] Z I J (qi Z K) := by
  have hw := WM_f hW
  have q1 : (1 : Int32).toInt = 1 := rfl
  have e0 : (Int32.toInt64 x1).toInt = x1.toInt := Int32.toInt_toInt64 _
  have z0 : (0 : Int64).toInt = 0 := rfl
  have z255 : (255 : Int64).toInt = 255 := rfl
  refine eX12_feed ht ?_
  refine sfX12_in trivial (fun v2 p2 => ⟨fun c => ⟨fun d => ?_, fun d => ?_⟩, fun c => ?_⟩)
  · have c := i1 c
    have d : ¬ (I t 8).toInt = 250 := fun z => d (Int32.toInt_inj.mp z)
    have e1 := i32_add (I t 8) 1 (by omega) (by omega)
    refine ⟨vp_of (by omega) (by omega), ?_⟩
    have w1 : WM 7 t (uI I t 8 ((I t 8) + 1)) := WM_uI hW (by first | exact okMo (by decide) (by decide) (by decide) (by decide) (by decide) | exact okMf (by decide) (by decide) (by decide) (by decide) (by decide) (by decide) (by decide) (by decide) | exact okM30 (by omega) | exact okM42 (by omega) | exact okM33 (by omega) | exact okM10 (by omega) | exact okM8 (by omega) | exact okM22 (by omega) | exact okM24 (by omega) | exact okM14 (by omega) | exact okMa31 (by omega) | exact okMa35 (by omega) | exact okMa36 (by omega) | exact okMa3 (by omega) | exact okMr (by omega) | (unfold okM; refine ⟨?_, ?_, ?_, ?_, ?_, ?_, ?_, ?_, ?_, ?_, ?_, ?_⟩ <;> intro h <;> omega))
    have f0 : Fr (fun a k => (a = t ∧ k = 8) ∨ a = t + 16 ∨ a = t + 17) I (uI (uI I t 8 ((I t 8) + 1)) (t + 16) (Int32.toNatClampNeg (I t 8)) x1) := Fr_uI (Fr_uI Fr.rf (by omega)) (by omega)
    have e2 : (uI (uI I t 8 ((I t 8) + 1)) (t + 16) (Int32.toNatClampNeg (I t 8)) x1) t 8 = (I t 8) + 1 := by rw [uI_ap, if_neg (by omega), uI_ap, if_pos ⟨rfl, rfl⟩]
    refine hK _ _ (WM_uI w1 (by first | exact okMo (by decide) (by decide) (by decide) (by decide) (by decide) | exact okMf (by decide) (by decide) (by decide) (by decide) (by decide) (by decide) (by decide) (by decide) | exact okM30 (by omega) | exact okM42 (by omega) | exact okM33 (by omega) | exact okM10 (by omega) | exact okM8 (by omega) | exact okM22 (by omega) | exact okM24 (by omega) | exact okM14 (by omega) | exact okMa31 (by omega) | exact okMa35 (by omega) | exact okMa36 (by omega) | exact okMa3 (by omega) | exact okMr (by omega) | (unfold okM; refine ⟨?_, ?_, ?_, ?_, ?_, ?_, ?_, ?_, ?_, ?_, ?_, ?_⟩ <;> intro h <;> omega))) f0 (Or.inl ⟨⟨by omega, by omega⟩, by omega, e1, by rw [e2]; exact e1⟩) ?_
    unfold fdT
    rw [if_pos (by omega)]
    funext k
    rw [uI_s, uI_n _ _ _ (by omega)]
    rfl
  · have c := i1 c
    have d : (I t 8).toInt = 250 := by rw [d]; rfl
    refine sfX12_refuse ht (by decide) hW (by decide) (fun v4 I3 hW3 hF3 hp3 => ?_)
    have hv4 : v4.toInt = -6 := hp3
    have e1 := congrArg Int32.toInt (hF3 t 8 (by omega))
    refine hK v4 I3 hW3 (Fr.tr Fr.rf hF3 (by intro a k h; omega)) (by omega) ?_
    unfold fdT
    rw [if_neg (by omega)]
    exact funext (fun k => hF3 (t + 16) k (by omega))
  · have c := i0 c
    refine sfX12_refuse ht (by decide) hW (by decide) (fun v4 I3 hW3 hF3 hp3 => ?_)
    have hv4 : v4.toInt = -2 := hp3
    have e1 := congrArg Int32.toInt (hF3 t 8 (by omega))
    refine hK v4 I3 hW3 (Fr.tr Fr.rf hF3 (by intro a k h; omega)) (by omega) ?_
    unfold fdT
    rw [if_neg (by omega)]
    exact funext (fun k => hF3 (t + 16) k (by omega))
/-! bits of sets -/
theorem sh_all : ∀ i : Fin 32, ((Int32.ofNat i.val &&& 31).toBitVec.smod 32).toNat = i.val := by decide +kernel
theorem bt_lsb (s : Int32) (i : Nat) (h : i < 32) : bt s i = s.toBitVec.getLsbD i := by
  have e := sh_all ⟨i, h⟩
  have e1 : (s >>> (Int32.ofNat i &&& 31)).toBitVec = s.toBitVec.sshiftRight i := by
    rw [Int32.toBitVec_shiftRight, BitVec.sshiftRight_eq', e]
  have gs : (s.toBitVec.sshiftRight i).getLsbD 0 = s.toBitVec.getLsbD i := by
    rw [BitVec.getLsbD_sshiftRight, if_pos (by omega)]
    simp
  have o0 : (1 : Int32).toBitVec.getLsbD 0 = true := by decide
  have oj : ∀ j, j < 32 → ¬ j = 0 → (1 : Int32).toBitVec.getLsbD j = false := by decide
  have e2 : (s >>> (Int32.ofNat i &&& 31) &&& 1) = 0 ↔ s.toBitVec.getLsbD i = false := by
    rw [← Int32.toBitVec_inj, Int32.toBitVec_and, e1]
    constructor
    · intro hz
      have g := congrArg (fun x : BitVec 32 => x.getLsbD 0) hz
      have g : (s.toBitVec.sshiftRight i &&& (1 : Int32).toBitVec).getLsbD 0 = (0 : Int32).toBitVec.getLsbD 0 := g
      rw [BitVec.getLsbD_and, gs, o0, Bool.and_true] at g
      rw [g]
      decide
    · intro hz
      apply BitVec.eq_of_getLsbD_eq
      intro j hj
      rw [BitVec.getLsbD_and]
      have z : (0 : Int32).toBitVec.getLsbD j = false := by
        show (0#32).getLsbD j = false
        simp
      rw [z]
      by_cases c : j = 0
      · subst c
        rw [gs, hz, Bool.false_and]
      · rw [oj j hj c, Bool.and_false]
  unfold bt
  cases g : s.toBitVec.getLsbD i with
  | false => rw [decide_eq_false_iff_not]; exact fun q => q (e2.mpr g)
  | true => rw [decide_eq_true_iff]; exact fun q => by rw [e2.mp q] at g; cases g
theorem bt_an (x y : Int32) (q : Nat) (h : q < 32) : bt (x &&& y) q = (bt x q && bt y q) := by
  rw [bt_lsb _ _ h, bt_lsb _ _ h, bt_lsb _ _ h, Int32.toBitVec_and, BitVec.getLsbD_and]
theorem bt_or (x y : Int32) (q : Nat) (h : q < 32) : bt (x ||| y) q = (bt x q || bt y q) := by
  rw [bt_lsb _ _ h, bt_lsb _ _ h, bt_lsb _ _ h, Int32.toBitVec_or, BitVec.getLsbD_or]
theorem bt_xo (x y : Int32) (q : Nat) (h : q < 32) : bt (x ^^^ y) q = (bt x q ^^ bt y q) := by
  rw [bt_lsb _ _ h, bt_lsb _ _ h, bt_lsb _ _ h, Int32.toBitVec_xor, BitVec.getLsbD_xor]
theorem bt_no (x : Int32) (q : Nat) (h : q < 32) : bt (~~~x) q = !(bt x q) := by
  rw [bt_lsb _ _ h, bt_lsb _ _ h, Int32.toBitVec_not, BitVec.getLsbD_not]
  simp [h]
theorem bt_ze (q : Nat) (h : q < 32) : bt 0 q = false := by
  rw [bt_lsb _ _ h]
  show (0#32).getLsbD q = false
  simp
theorem bt_all {a b : Int32} (h : ∀ i, i < 32 → bt a i = bt b i) : a = b := by
  apply Int32.toBitVec_inj.mp
  apply BitVec.eq_of_getLsbD_eq
  intro i hi
  have := h i hi
  rw [bt_lsb _ _ hi, bt_lsb _ _ hi] at this
  exact this
theorem bt_hi {x : Int32} (hx : 0 ≤ x.toInt ∧ x.toInt < 256) {i : Nat} (h8 : 8 ≤ i) (h : i < 32) : bt x i = false := by
  rw [bt_lsb _ _ h]
  have e := i32_nat x hx.1
  exact Nat.testBit_lt_two_pow (Nat.lt_of_lt_of_le (show x.toBitVec.toNat < 2 ^ 8 by omega) (Nat.pow_le_pow_right (by omega) h8))
theorem bt_ext {a b : Int32} (ha : 0 ≤ a.toInt ∧ a.toInt < 256) (hb : 0 ≤ b.toInt ∧ b.toInt < 256) (h : ∀ i, i < 8 → bt a i = bt b i) : a = b := bt_all (fun i hi => by
  by_cases c : i < 8
  · exact h i c
  · rw [bt_hi ha (by omega) hi, bt_hi hb (by omega) hi])
theorem bt_1a : ∀ p : Fin 8, ∀ q : Fin 8, bt ((1 : Int32) <<< (Int32.ofNat p.val &&& 31)) q.val = decide (q.val = p.val) := by decide +kernel
theorem bt_2a : ∀ p : Fin 8, ∀ q : Fin 8, bt (-((2 : Int32) <<< (Int32.ofNat p.val &&& 31))) q.val = decide (p.val < q.val) := by decide +kernel
theorem bt_ea : ∀ p : Fin 9, ∀ q : Fin 8, bt (((1 : Int32) <<< (Int32.ofNat p.val &&& 31)) - 1) q.val = decide (q.val < p.val) := by decide +kernel
theorem bt_1 {x : Int32} (h0 : 0 ≤ x.toInt ∧ x.toInt < 8) {q : Nat} (hq : q < 8) : bt ((1 : Int32) <<< (x &&& 31)) q = decide (q = x.toInt.toNat) := by
  have e := bt_1a ⟨x.toInt.toNat, by omega⟩ ⟨q, hq⟩
  rw [← i32_ofNat h0.1] at e
  exact e
theorem bt_2 {x : Int32} (h0 : 0 ≤ x.toInt ∧ x.toInt < 8) {q : Nat} (hq : q < 8) : bt (-((2 : Int32) <<< (x &&& 31))) q = decide (x.toInt.toNat < q) := by
  have e := bt_2a ⟨x.toInt.toNat, by omega⟩ ⟨q, hq⟩
  rw [← i32_ofNat h0.1] at e
  exact e
theorem bt_ev {x : Int32} (h0 : 0 ≤ x.toInt ∧ x.toInt ≤ 8) {q : Nat} (hq : q < 8) : bt (((1 : Int32) <<< (x &&& 31)) - 1) q = decide (q < x.toInt.toNat) := by
  have e := bt_ea ⟨x.toInt.toNat, by omega⟩ ⟨q, hq⟩
  rw [← i32_ofNat h0.1] at e
  exact e
/-! the groups, in order -/
def okN (rel : Nat → Nat → Bool) (s : Int32) (p j : Nat) : Bool := decide (∀ q, q < j → bt s q = true → rel p q = true)
theorem okN_0 (rel : Nat → Nat → Bool) (s : Int32) (p : Nat) : okN rel s p 0 = true := decide_eq_true (fun q h => absurd h (Nat.not_lt_zero _))
theorem okN_s (rel : Nat → Nat → Bool) (s : Int32) (p j : Nat) : okN rel s p (j + 1) = (okN rel s p j && (!(bt s j) || rel p j)) := by
  unfold okN
  cases hb : bt s j with
  | false =>
    rw [Bool.not_false, Bool.true_or, Bool.and_true]
    refine decide_eq_decide.mpr ⟨fun h q hq => h q (by omega), fun h q hq hs => ?_⟩
    by_cases c : q = j
    · rw [c, hb] at hs
      cases hs
    · exact h q (by omega) hs
  | true =>
    rw [Bool.not_true, Bool.false_or]
    cases hr : rel p j with
    | false =>
      rw [Bool.and_false]
      exact decide_eq_false (fun h => by have := h j (by omega) hb; rw [hr] at this; cases this)
    | true =>
      rw [Bool.and_true]
      refine decide_eq_decide.mpr ⟨fun h q hq => h q (by omega), fun h q hq hs => ?_⟩
      by_cases c : q = j
      · rw [c]
        exact hr
      · exact h q (by omega) hs
def DL (rel : Nat → Nat → Bool) : Nat → Nat → Nat → Int32 → List Int32
  | 0, _, m, s => if m = 0 then [s] else []
  | k + 1, p, m, s => if m = 0 then [s] else (if okN rel s p p = true then DL rel k (p + 1) (m - 1) (s ||| ((1 : Int32) <<< (Int32.ofNat p &&& 31))) else []) ++ DL rel k (p + 1) m s
theorem DL_m0 (rel : Nat → Nat → Bool) (k p : Nat) (s : Int32) : DL rel k p 0 s = [s] := by
  cases k with
  | zero => exact if_pos rfl
  | succ k => exact if_pos rfl
theorem DL_k0 (rel : Nat → Nat → Bool) (p m : Nat) (s : Int32) : DL rel 0 p (m + 1) s = [] := if_neg (by omega)
theorem DL_y {rel : Nat → Nat → Bool} {k p m : Nat} {s : Int32} (h : okN rel s p p = true) : DL rel (k + 1) p (m + 1) s = DL rel k (p + 1) m (s ||| ((1 : Int32) <<< (Int32.ofNat p &&& 31))) ++ DL rel k (p + 1) (m + 1) s := by
  show (if m + 1 = 0 then [s] else (if okN rel s p p = true then DL rel k (p + 1) (m + 1 - 1) (s ||| ((1 : Int32) <<< (Int32.ofNat p &&& 31))) else []) ++ DL rel k (p + 1) (m + 1) s) = _
  rw [if_neg (by omega), if_pos h]
  rfl
theorem DL_n {rel : Nat → Nat → Bool} {k p m : Nat} {s : Int32} (h : ¬ okN rel s p p = true) : DL rel (k + 1) p (m + 1) s = DL rel k (p + 1) (m + 1) s := by
  show (if m + 1 = 0 then [s] else (if okN rel s p p = true then DL rel k (p + 1) (m + 1 - 1) (s ||| ((1 : Int32) <<< (Int32.ofNat p &&& 31))) else []) ++ DL rel k (p + 1) (m + 1) s) = _
  rw [if_neg (by omega), if_neg h]
  rfl
/-- how many sets of m out of k there are -/
def cb : Nat → Nat → Nat
  | _, 0 => 1
  | 0, _ + 1 => 0
  | k + 1, m + 1 => cb k m + cb k (m + 1)
theorem DL_len (rel : Nat → Nat → Bool) : ∀ (k p m : Nat) (s : Int32), (DL rel k p m s).length ≤ cb k m
  | k, p, 0, s => by
    rw [DL_m0]
    cases k <;> exact Nat.le_refl _
  | 0, p, m + 1, s => by
    rw [DL_k0]
    exact Nat.zero_le _
  | k + 1, p, m + 1, s => by
    have h1 := DL_len rel k (p + 1) m (s ||| ((1 : Int32) <<< (Int32.ofNat p &&& 31)))
    have h2 := DL_len rel k (p + 1) (m + 1) s
    show _ ≤ cb k m + cb k (m + 1)
    by_cases c : okN rel s p p = true
    · rw [DL_y c, List.length_append]
      omega
    · rw [DL_n c]
      omega
theorem cb_70 : ∀ k : Fin 9, ∀ m : Fin 5, cb k.val m.val ≤ 70 := by decide +kernel
/-- the list L stands in the cell b, from its first place on -/
def LiS (I : jdI) (b : Nat) (L : List Int32) : Prop := ∀ k, k < L.length → L[k]? = some (I b k)
theorem LiS_nil (I : jdI) (b : Nat) : LiS I b [] := fun k h => absurd h (Nat.not_lt_zero _)
theorem LiS_push {I : jdI} {b j : Nat} {L : List Int32} {x : Int32} (h : LiS I b L) (hj : j = L.length) : LiS (uI I b j x) b (L ++ [x]) := fun k hk => by
  rw [List.length_append] at hk
  have hk : k < L.length + 1 := hk
  rw [uI_ap]
  by_cases c : k = L.length
  · rw [if_pos ⟨rfl, by omega⟩, c, List.getElem?_append_right (Nat.le_refl _), Nat.sub_self]
    rfl
  · rw [if_neg (by omega), List.getElem?_append_left (by omega)]
    exact h k (by omega)
theorem LiS_fr {I I2 : jdI} {b : Nat} {L : List Int32} {p : Nat → Nat → Prop} (h : LiS I b L) (hF : Fr p I I2) (hp : ∀ k, ¬ p b k) : LiS I2 b L := fun k hk => by
  rw [hF b k (hp k)]
  exact h k hk
/-- the model at t: people, seats, and who are strangers -/
def GM (I : jdI) (t n st : Nat) (rel : Nat → Nat → Bool) : Prop := (I t 10).toInt = (n : Int) ∧ (I t 14).toInt = (st : Int) ∧ ∀ p q, p < n → q < n → p ≠ q → (I (t + 21 + p) q = -1 ↔ rel p q = true)
theorem GM_fr {I I2 : jdI} {t n st : Nat} {rel : Nat → Nat → Bool} {p : Nat → Nat → Prop} (h : GM I t n st rel) (hn : n ≤ 8) (hF : Fr p I I2) (h1 : ¬ p t 10) (h2 : ¬ p t 14) (h3 : ∀ a k, t + 21 ≤ a → a ≤ t + 28 → ¬ p a k) : GM I2 t n st rel := by
  refine ⟨by rw [hF t 10 h1]; exact h.1, by rw [hF t 14 h2]; exact h.2.1, fun a b ha hb hne => ?_⟩
  rw [hF (t + 21 + a) b (h3 _ _ (by omega) (by omega))]
  exact h.2.2 a b ha hb hne
theorem i01 {b : Bool} {x : Int32} (h : x = if b = true then 1 else 0) : (x &&& 1) = x ∧ (x &&& 0) = 0 ∧ (x = 0 ↔ b = false) := by
  rw [h]
  cases b <;> decide
theorem pX12_listFrom_44 {G : jdG} {n rc rs : Nat} {Z : jdL} {J : jdJ} {K : jdI → jdJ → Prop} {I : jdI} {t N st p : Nat} {rel : Nat → Nat → Bool} {x1 x2 x3 x4 : Int32} (ht : zModel Z t) (hg : GM I t N st rel) (hN : N ≤ 8) (hp : p < N) (h4 : x4.toInt = (p : Int)) (h0 : okN rel x1 p p = false → Jd G mX12_listFrom (jdFm G (qv Z K)) (n + 1) rc rs 29 [(0, .ref (gb G + t)), (1, .int x1), (2, .int x2), (3, .int x3), (4, .int (x4 + 1))] [] Z I J) (h1 : okN rel x1 p p = true → Cl G mX12_listFrom n 0 0 [.ref (gb G + t), .int (x1 ||| (1 <<< (x4 &&& 31))), .int (x4 + 1), .int (x3 + 1)] Z I J (qv Z (fun I1 J1 => Jd G mX12_listFrom (jdFm G (qv Z K)) (n + 1) rc rs 29 [(0, .ref (gb G + t)), (1, .int x1), (2, .int x2), (3, .int x3), (4, .int (x4 + 1))] [] Z I1 J1))) : ∀ f : Nat, ∀ (x5 x6 : Int32), 0 ≤ x6.toInt → x6.toInt + (f : Int) = (p : Int) → x5 = (if okN rel x1 p x6.toInt.toNat = true then 1 else 0) → Jd G mX12_listFrom (jdFm G (qv Z K)) (n + 1) rc rs 44 [(0, .ref (gb G + t)), (1, .int x1), (2, .int x2), (3, .int x3), (4, .int x4), (5, .int x5), (6, .int x6)] [] Z I J := by
  intro f
  induction f with
  | zero =>
    intro x5 x6 h6 hf h5
    rw [show x6.toInt.toNat = p by omega] at h5
    have hi := i01 h5
    refine rX12_listFrom_44 ht ⟨fun _ => ⟨fun hz => h0 (hi.2.2.mp hz), fun hz => h1 ?_⟩, fun hc => absurd (Int32.le_iff_toInt_le.mpr (by omega)) hc⟩
    cases e : okN rel x1 p p with
    | true => rfl
    | false => exact absurd (hi.2.2.mpr e) hz
  | succ f ih =>
    intro x5 x6 h6 hf h5
    have q1 : (1 : Int32).toInt = 1 := rfl
    have q0 : (0 : Int32).toInt = 0 := rfl
    have e6 := i32_add x6 1 (by omega) (by omega)
    have n4 := tn_eq x4
    have n6 := tn_eq x6
    have hi := i01 h5
    have en : (x6 + 1).toInt.toNat = x6.toInt.toNat + 1 := by omega
    have b := bt_iff x1 h6
    have hs := okN_s rel x1 p x6.toInt.toNat
    refine rX12_listFrom_44 ht ⟨fun hc => by have := Int32.le_iff_toInt_le.mp hc; omega, fun _ => ?_⟩
    refine sfX12_has trivial (fun v4 p4 => ⟨fun hv => ?_, fun hv => ⟨vp_of (by omega) (by omega), vp_of (by omega) (by omega), fun hk => ?_, fun hk => ?_⟩⟩)
    · have hv := i0 hv
      have hb : bt x1 x6.toInt.toNat = false := by
        cases e : bt x1 x6.toInt.toNat with
        | false => rfl
        | true => exact absurd (Int32.toInt_inj.mp (show _ = (0 : Int32).toInt by omega)) (b.mp e)
      rw [hi.1]
      refine ih x5 (x6 + 1) (by omega) (by omega) ?_
      rw [en, hs, hb, Bool.not_false, Bool.true_or, Bool.and_true]
      exact h5
    · have hv := i1 hv
      have hb : bt x1 x6.toInt.toNat = true := b.mpr (fun z => by rw [z] at p4; omega)
      have hr : rel p x6.toInt.toNat = false := by
        cases e : rel p x6.toInt.toNat with
        | false => rfl
        | true =>
          refine absurd ?_ hk
          rw [show Int32.toNatClampNeg x4 = p by omega]
          exact (hg.2.2 p x6.toInt.toNat hp (by omega) (by omega)).mpr e
      rw [hi.2.1]
      refine ih 0 (x6 + 1) (by omega) (by omega) ?_
      rw [en, hs, hb, hr, Bool.not_true, Bool.false_or, Bool.and_false]
      rfl
    · have hv := i1 hv
      have hb : bt x1 x6.toInt.toNat = true := b.mpr (fun z => by rw [z] at p4; omega)
      have hr : rel p x6.toInt.toNat = true := by
        rw [show Int32.toNatClampNeg x4 = p by omega] at hk
        exact (hg.2.2 p x6.toInt.toNat hp (by omega) (by omega)).mp hk
      rw [hi.1]
      refine ih x5 (x6 + 1) (by omega) (by omega) ?_
      rw [en, hs, hb, hr, Bool.not_true, Bool.false_or, Bool.and_true]
      exact h5
theorem pX12_listFrom_29 {G : jdG} {n rc rs : Nat} {Z : jdL} {J : jdJ} {K : jdI → jdJ → Prop} {I0 : jdI} {c : Int} {t N st m : Nat} {rel : Nat → Nat → Bool} {R : List Int32} {x1 x2 x3 : Int32} (ht : zModel Z t) (hN : N ≤ 8) (h3 : x3.toInt + (m : Int) + 1 = (st : Int)) (hst : st ≤ 4) (h30 : 0 ≤ x3.toInt)
    (hR : ∀ (I : jdI) (K2 : jdI → jdJ → Prop) (L : List Int32) (y1 y2 y3 : Int32) (p : Nat), WM c t I → GM I t N st rel → (I t 30).toInt = (L.length : Int) → LiS I (t + 30) L → y2.toInt = (p : Int) → p ≤ N → y3.toInt + (m : Int) = (st : Int) → L.length + (DL rel (N - p) p m y1).length ≤ 70 → (∀ I2 : jdI, WM c t I2 → Fr (fun a k => (a = t ∧ k = 30) ∨ a = t + 30) I I2 → (I2 t 30).toInt = ((L ++ DL rel (N - p) p m y1).length : Int) → LiS I2 (t + 30) (L ++ DL rel (N - p) p m y1) → K2 I2 J) → Cl G mX12_listFrom n 0 0 [.ref (gb G + t), .int y1, .int y2, .int y3] Z I J (qv Z K2))
    (hK : ∀ I2 : jdI, WM c t I2 → Fr (fun a k => (a = t ∧ k = 30) ∨ a = t + 30) I0 I2 → (I2 t 30).toInt = (R.length : Int) → LiS I2 (t + 30) R → K I2 J) (h70 : R.length ≤ 70) : ∀ f : Nat, ∀ (I : jdI) (x4 : Int32) (L : List Int32) (p : Nat), WM c t I → Fr (fun a k => (a = t ∧ k = 30) ∨ a = t + 30) I0 I → GM I t N st rel → (I t 30).toInt = (L.length : Int) → LiS I (t + 30) L → x4.toInt = (p : Int) → p + f = N → L ++ DL rel f p (m + 1) x1 = R → Jd G mX12_listFrom (jdFm G (qv Z K)) (n + 1) rc rs 29 [(0, .ref (gb G + t)), (1, .int x1), (2, .int x2), (3, .int x3), (4, .int x4)] [] Z I J := by
  intro f
  induction f with
  | zero =>
    intro I x4 L p hW hF hg hl hL h4 hf hr
    have h10 := hg.1
    rw [DL_k0, List.append_nil] at hr
    refine rX12_listFrom_29 ht ⟨fun _ => ?_, fun hc => absurd (Int32.le_iff_toInt_le.mpr (by omega)) hc⟩
    rw [hr] at hl hL
    exact hK I hW hF hl hL
  | succ f ih =>
    intro I x4 L p hW hF hg hl hL h4 hf hr
    have h10 := hg.1
    have q1 : (1 : Int32).toInt = 1 := rfl
    have e4 := i32_add x4 1 (by omega) (by omega)
    have e3 := i32_add x3 1 (by omega) (by omega)
    refine rX12_listFrom_29 ht ⟨fun hc => by have := Int32.le_iff_toInt_le.mp hc; omega, fun _ => ?_⟩
    refine pX12_listFrom_44 (p := p) ht hg hN (by omega) h4 (fun hz => ?_) (fun hz => ?_) p 1 0 (by decide) (by show (0 : Int) + _ = _; omega) ?_
    · refine ih I (x4 + 1) L (p + 1) hW hF hg hl hL (by omega) (by omega) ?_
      rw [← DL_n (by rw [hz]; decide)]
      exact hr
    · rw [DL_y hz, ← List.append_assoc] at hr
      have hx4 : x4 = Int32.ofNat p := by
        rw [i32_ofNat (x := x4) (by omega), show x4.toInt.toNat = p by omega]
      have hlen : (L ++ DL rel (N - (p + 1)) (p + 1) m (x1 ||| ((1 : Int32) <<< (x4 &&& 31)))).length ≤ 70 := by
        rw [hx4, show N - (p + 1) = f by omega]
        rw [← hr, List.length_append] at h70
        omega
      rw [List.length_append] at hlen
      refine hR I _ L _ _ _ (p + 1) hW hg hl hL (by omega) (by omega) (by omega) hlen (fun I2 hW2 hF2 hl2 hL2 => ?_)
      refine ih I2 (x4 + 1) _ (p + 1) hW2 (Fr.tr hF hF2 (fun _ _ h => h)) (GM_fr hg hN hF2 (by omega) (by omega) (by intro a k h1 h2; omega)) hl2 hL2 (by omega) (by omega) ?_
      rw [hx4, show N - (p + 1) = f by omega]
      exact hr
    · show (1 : Int32) = if okN rel x1 p 0 = true then 1 else 0
      rw [okN_0]
      rfl
theorem pX12_listFrom {G : jdG} {Z : jdL} {J : jdJ} {c : Int} {t N st : Nat} {rel : Nat → Nat → Bool} (ht : zModel Z t) (hN : N ≤ 8) (hst : st ≤ 4) : ∀ m : Nat, ∀ (n : Nat) (I : jdI) (K : jdI → jdJ → Prop) (L : List Int32) (y1 y2 y3 : Int32) (p : Nat), m ≤ st → WM c t I → GM I t N st rel → (I t 30).toInt = (L.length : Int) → LiS I (t + 30) L → y2.toInt = (p : Int) → p ≤ N → y3.toInt + (m : Int) = (st : Int) → L.length + (DL rel (N - p) p m y1).length ≤ 70 → (∀ I2 : jdI, WM c t I2 → Fr (fun a k => (a = t ∧ k = 30) ∨ a = t + 30) I I2 → (I2 t 30).toInt = ((L ++ DL rel (N - p) p m y1).length : Int) → LiS I2 (t + 30) (L ++ DL rel (N - p) p m y1) → K I2 J) → Cl G mX12_listFrom (n + 1 + m) 0 0 [.ref (gb G + t), .int y1, .int y2, .int y3] Z I J (qv Z K) := by
  intro m
  induction m with
  | zero =>
    intro n I K L y1 y2 y3 p hm hW hg hl hL h2 hp h3 h70 hK
    have h14 := hg.2.1
    have hw := WM_f hW
    have q1 : (1 : Int32).toInt = 1 := rfl
    rw [DL_m0] at hK h70
    have h70 : L.length + 1 ≤ 70 := h70
    have e1 := i32_add (I t 30) 1 (by omega) (by omega)
    have n1 := tn_eq (I t 30)
    refine eX12_listFrom ht ⟨fun hc => absurd (Int32.toInt_inj.mp (by omega)) hc, fun _ => ⟨vp_of (by omega) (by omega), ?_⟩⟩
    have w1 : WM c t (uI I t 30 ((I t 30) + 1)) := WM_uI hW (by first | exact okMo (by decide) (by decide) (by decide) (by decide) (by decide) | exact okMf (by decide) (by decide) (by decide) (by decide) (by decide) (by decide) (by decide) (by decide) | exact okM30 (by omega) | exact okM42 (by omega) | exact okM33 (by omega) | exact okM10 (by omega) | exact okM8 (by omega) | exact okM22 (by omega) | exact okM24 (by omega) | exact okM14 (by omega) | exact okMa31 (by omega) | exact okMa35 (by omega) | exact okMa36 (by omega) | exact okMa3 (by omega) | exact okMr (by omega) | (unfold okM; refine ⟨?_, ?_, ?_, ?_, ?_, ?_, ?_, ?_, ?_, ?_, ?_, ?_⟩ <;> intro h <;> omega))
    have f1 : Fr (fun a k => (a = t ∧ k = 30) ∨ a = t + 30) I (uI (uI I t 30 ((I t 30) + 1)) (t + 30) (Int32.toNatClampNeg (I t 30)) y1) := Fr_uI (Fr_uI Fr.rf (by omega)) (by omega)
    refine hK _ (WM_uI w1 (by first | exact okMo (by decide) (by decide) (by decide) (by decide) (by decide) | exact okMf (by decide) (by decide) (by decide) (by decide) (by decide) (by decide) (by decide) (by decide) | exact okM30 (by omega) | exact okM42 (by omega) | exact okM33 (by omega) | exact okM10 (by omega) | exact okM8 (by omega) | exact okM22 (by omega) | exact okM24 (by omega) | exact okM14 (by omega) | exact okMa31 (by omega) | exact okMa35 (by omega) | exact okMa36 (by omega) | exact okMa3 (by omega) | exact okMr (by omega) | (unfold okM; refine ⟨?_, ?_, ?_, ?_, ?_, ?_, ?_, ?_, ?_, ?_, ?_, ?_⟩ <;> intro h <;> omega))) f1 ?_ ?_
    · rw [uI_ap, if_neg (by omega), uI_ap, if_pos ⟨rfl, rfl⟩, List.length_append]
      show _ = ((L.length + 1 : Nat) : Int)
      omega
    · refine LiS_push (fun k hk => ?_) (by omega)
      rw [uI_n _ _ _ (by omega)]
      exact hL k hk
  | succ m ih =>
    intro n I K L y1 y2 y3 p hm hW hg hl hL h2 hp h3 h70 hK
    have h14 := hg.2.1
    refine eX12_listFrom ht ⟨fun _ => ?_, fun hc => by rw [hc] at h3; omega⟩
    refine pX12_listFrom_29 (m := m) ht hN (by omega) hst ?_ (fun I K2 L y1 y2 y3 p a1 a2 a3 a4 a5 a6 a7 a8 a9 => ?_) hK (by rw [List.length_append]; exact h70) (N - p) I y2 L p hW Fr.rf hg hl hL h2 (by omega) rfl
    · omega
    · exact ih n I K2 L y1 y2 y3 p (by omega) a1 a2 a3 a4 a5 a6 a7 a8 a9
theorem pX12_listAll {G : jdG} {n : Nat} {Z : jdL} {J : jdJ} {K : jdI → jdJ → Prop} {c : Int} {I : jdI} {t N st : Nat} {rel : Nat → Nat → Bool} (ht : zModel Z t) (hW : WM c t I) (hg : GM I t N st rel) (hN : N ≤ 8) (hst : st ≤ 4) (hK : ∀ I2 : jdI, WM c t I2 → Fr (fun a k => (a = t ∧ k = 30) ∨ a = t + 30) I I2 → (I2 t 30).toInt = ((DL rel N 0 st 0).length : Int) → LiS I2 (t + 30) (DL rel N 0 st 0) → K I2 J) : Cl G mX12_listAll (n + 6) 0 0 [.ref (gb G + t)] Z I J (qv Z K) := by
  have hw := WM_f hW
  have q0 : (0 : Int32).toInt = 0 := rfl
  have hl := Nat.le_trans (DL_len rel N 0 st 0) (cb_70 ⟨N, by omega⟩ ⟨st, by omega⟩)
  refine eX12_listAll ht ?_
  have w1 : WM c t (uI I t 30 0) := WM_uI hW (by first | exact okMo (by decide) (by decide) (by decide) (by decide) (by decide) | exact okMf (by decide) (by decide) (by decide) (by decide) (by decide) (by decide) (by decide) (by decide) | exact okM30 (by omega) | exact okM42 (by omega) | exact okM33 (by omega) | exact okM10 (by omega) | exact okM8 (by omega) | exact okM22 (by omega) | exact okM24 (by omega) | exact okM14 (by omega) | exact okMa31 (by omega) | exact okMa35 (by omega) | exact okMa36 (by omega) | exact okMa3 (by omega) | exact okMr (by omega) | (unfold okM; refine ⟨?_, ?_, ?_, ?_, ?_, ?_, ?_, ?_, ?_, ?_, ?_, ?_⟩ <;> intro h <;> omega))
  have f1 : Fr (fun a k => (a = t ∧ k = 30) ∨ a = t + 30) I (uI I t 30 0) := Fr_uI Fr.rf (by omega)
  rw [show n + 5 = (n + 4 - st) + 1 + st by omega]
  refine pX12_listFrom ht hN hst st (n + 4 - st) _ _ [] 0 0 0 0 (Nat.le_refl _) w1 (GM_fr hg hN f1 (by omega) (by omega) (by intro a k h1 h2; omega)) ?_ (LiS_nil _ _) rfl (Nat.zero_le _) (by omega) (by rw [Nat.sub_zero]; show 0 + _ ≤ 70; omega) (fun I2 hW2 hF2 hl2 hL2 => ?_)
  · rw [uI_ap, if_pos ⟨rfl, rfl⟩]
    rfl
  · rw [Nat.sub_zero, List.nil_append] at hl2 hL2
    exact hK I2 hW2 (Fr.tr f1 hF2 (fun _ _ h => h)) hl2 hL2
/-- the strangers of a below k, as a set -/
def sset (rel : Nat → Nat → Bool) (a : Nat) : Nat → Int32
  | 0 => 0
  | k + 1 => if (decide (k ≠ a) && rel a k) = true then sset rel a k ||| ((1 : Int32) <<< (Int32.ofNat k &&& 31)) else sset rel a k
theorem or_255 : ∀ s : Fin 256, ∀ a : Fin 8, 0 ≤ (Int32.ofNat s.val ||| ((1 : Int32) <<< (Int32.ofNat a.val &&& 31))).toInt ∧ (Int32.ofNat s.val ||| ((1 : Int32) <<< (Int32.ofNat a.val &&& 31))).toInt ≤ 255 := by decide +kernel
theorem or_r {s : Int32} (hs : 0 ≤ s.toInt ∧ s.toInt ≤ 255) {k : Nat} (hk : k < 8) : 0 ≤ (s ||| ((1 : Int32) <<< (Int32.ofNat k &&& 31))).toInt ∧ (s ||| ((1 : Int32) <<< (Int32.ofNat k &&& 31))).toInt ≤ 255 := by
  have e := or_255 ⟨s.toInt.toNat, by omega⟩ ⟨k, hk⟩
  rw [← i32_ofNat hs.1] at e
  exact e
theorem sset_r (rel : Nat → Nat → Bool) (a : Nat) : ∀ k, k ≤ 8 → 0 ≤ (sset rel a k).toInt ∧ (sset rel a k).toInt ≤ 255
  | 0, _ => (by decide : (0 : Int) ≤ (0 : Int32).toInt ∧ (0 : Int32).toInt ≤ 255)
  | k + 1, hk => by
    have h := sset_r rel a k (by omega)
    show 0 ≤ (if (decide (k ≠ a) && rel a k) = true then sset rel a k ||| ((1 : Int32) <<< (Int32.ofNat k &&& 31)) else sset rel a k).toInt ∧ (if (decide (k ≠ a) && rel a k) = true then sset rel a k ||| ((1 : Int32) <<< (Int32.ofNat k &&& 31)) else sset rel a k).toInt ≤ 255
    split
    · exact or_r h (by omega)
    · exact h
theorem sset_bt (rel : Nat → Nat → Bool) (a : Nat) : ∀ k, k ≤ 8 → ∀ q, q < 8 → bt (sset rel a k) q = (decide (q < k) && (decide (q ≠ a) && rel a q))
  | 0, _, q, hq => by
    show bt 0 q = _
    rw [bt_ze q (by omega), decide_eq_false (Nat.not_lt_zero q), Bool.false_and]
  | k + 1, hk, q, hq => by
    have h := sset_bt rel a k (by omega) q hq
    show bt (if (decide (k ≠ a) && rel a k) = true then sset rel a k ||| ((1 : Int32) <<< (Int32.ofNat k &&& 31)) else sset rel a k) q = _
    by_cases c : q = k
    · subst c
      rw [decide_eq_true (show q < q + 1 by omega), Bool.true_and]
      split
      · rename_i hc
        rw [bt_or _ _ _ (by omega), show bt ((1 : Int32) <<< (Int32.ofNat q &&& 31)) q = decide (q = q) from bt_1a ⟨q, hq⟩ ⟨q, hq⟩, decide_eq_true rfl, Bool.or_true, hc]
      · rename_i hc
        rw [h, decide_eq_false (Nat.lt_irrefl q), Bool.false_and, Bool.eq_false_iff.mpr hc]
    · rw [show decide (q < k + 1) = decide (q < k) from decide_eq_decide.mpr (by omega), ← h]
      split
      · rw [bt_or _ _ _ (by omega), show bt ((1 : Int32) <<< (Int32.ofNat k &&& 31)) q = decide (q = k) from bt_1a ⟨k, by omega⟩ ⟨q, hq⟩, decide_eq_false c, Bool.or_false]
      · rfl
/-- the ties: people, seats, and who are strangers -/
def GX (I : jdI) (n st : Nat) (rel : Nat → Nat → Bool) : Prop := (I 13 6).toInt = (n : Int) ∧ (I 13 7).toInt = (st : Int) ∧ ∀ p, p < n → I (13 + 1) p = sset rel p n
theorem GX_bt {I : jdI} {n st : Nat} {rel : Nat → Nat → Bool} (h : GX I n st rel) (hn : n ≤ 8) {p q : Nat} (hp : p < n) (hq : q < 8) : bt (I (13 + 1) p) q = (decide (q < n) && (decide (q ≠ p) && rel p q)) := by
  rw [h.2.2 p hp]
  exact sset_bt rel p n hn q hq
theorem GX_fr {I I2 : jdI} {n st : Nat} {rel : Nat → Nat → Bool} {p : Nat → Nat → Prop} (h : GX I n st rel) (hF : Fr p I I2) (h1 : ¬ p 13 6) (h2 : ¬ p 13 7) (h3 : ∀ k, ¬ p (13 + 1) k) : GX I2 n st rel := by
  refine ⟨by rw [hF 13 6 h1]; exact h.1, by rw [hF 13 7 h2]; exact h.2.1, fun a ha => ?_⟩
  rw [hF (13 + 1) a (h3 _)]
  exact h.2.2 a ha
theorem okN_or {rel : Nat → Nat → Bool} {s : Int32} {p q : Nat} (hq : q < 8) (hp : p < q) : okN rel (s ||| ((1 : Int32) <<< (Int32.ofNat p &&& 31))) q q = (okN rel s q q && rel q p) := by
  have hb : ∀ j, j < q → bt (s ||| ((1 : Int32) <<< (Int32.ofNat p &&& 31))) j = (bt s j || decide (j = p)) := fun j hj => by
    rw [bt_or _ _ _ (by omega)]
    rw [show bt ((1 : Int32) <<< (Int32.ofNat p &&& 31)) j = decide (j = p) from bt_1a ⟨p, by omega⟩ ⟨j, by omega⟩]
  unfold okN
  cases hr : rel q p with
  | false =>
    rw [Bool.and_false]
    refine decide_eq_false (fun h => ?_)
    have := h p hp (by rw [hb p hp, decide_eq_true rfl, Bool.or_true])
    rw [hr] at this
    cases this
  | true =>
    rw [Bool.and_true]
    refine decide_eq_decide.mpr ⟨fun h j hj hs => h j hj (by rw [hb j hj, hs, Bool.true_or]), fun h j hj hs => ?_⟩
    rw [hb j hj] at hs
    by_cases c : j = p
    · rw [c]
      exact hr
    · rw [decide_eq_false c, Bool.or_false] at hs
      exact h j hj hs
/-- who may still be chosen, from f on -/
def OPN (rel : Nat → Nat → Bool) (n f : Nat) (s x : Int32) : Prop := ∀ q, q < 8 → bt x q = (decide (f ≤ q ∧ q < n) && okN rel s q q)
theorem OPN_next {rel : Nat → Nat → Bool} {n f p : Nat} {s x y z : Int32} (h : OPN rel n f s x) (hn : n ≤ 8) (hp : p < n) (hf : f ≤ p) (hz : z.toInt = (p : Int)) (hy : ∀ q, q < 8 → bt y q = (decide (q < n) && (decide (q ≠ p) && rel p q))) (hs : ∀ a b, rel a b = rel b a) : OPN rel n (p + 1) (s ||| ((1 : Int32) <<< (Int32.ofNat p &&& 31))) ((x &&& y) &&& (-(2 <<< (z &&& 31)))) := fun q hq => by
  rw [bt_an _ _ _ (by omega), bt_an _ _ _ (by omega), h q hq, hy q hq, bt_2 (x := z) ⟨by omega, by omega⟩ hq, show z.toInt.toNat = p by omega]
  by_cases c : p < q
  · by_cases d : q < n
    · rw [okN_or hq c, hs q p, decide_eq_true (show f ≤ q ∧ q < n by omega), decide_eq_true d, decide_eq_true (show q ≠ p by omega), decide_eq_true c, decide_eq_true (show p + 1 ≤ q ∧ q < n by omega)]
      simp
    · rw [decide_eq_false (show ¬ (f ≤ q ∧ q < n) by omega), decide_eq_false (show ¬ (p + 1 ≤ q ∧ q < n) by omega)]
      simp
  · rw [decide_eq_false c, decide_eq_false (show ¬ (p + 1 ≤ q ∧ q < n) by omega)]
    simp
theorem pX8_gather_37 {G : jdG} {n rc rs : Nat} {Z : jdL} {J : jdJ} {K : jdI → jdJ → Prop} {I0 : jdI} {N st m f : Nat} {rel : Nat → Nat → Bool} {R : List Int32} {x1 x2 x3 : Int32} (ht : zTies Z 13) (hN : N ≤ 8) (hsy : ∀ a b, rel a b = rel b a) (h3 : x3.toInt = (m : Int) + 1) (hm : m ≤ 4) (ho : OPN rel N f x1 x2) (hfN : f ≤ N)
    (hR : ∀ (I : jdI) (K2 : jdI → jdJ → Prop) (L : List Int32) (y1 y2 y3 : Int32) (p : Nat), WX I → GX I N st rel → (I 13 8).toInt = (L.length : Int) → LiS I (13 + 3) L → OPN rel N p y1 y2 → p ≤ N → y3.toInt = (m : Int) → L.length + (DL rel (N - p) p m y1).length ≤ 70 → (∀ I2 : jdI, WX I2 → Fr (fun a k => (a = 13 ∧ k = 8) ∨ a = 13 + 3) I I2 → (I2 13 8).toInt = ((L ++ DL rel (N - p) p m y1).length : Int) → LiS I2 (13 + 3) (L ++ DL rel (N - p) p m y1) → K2 I2 J) → Cl G mX8_gather n 0 0 [.ref (gb G + 13), .int y1, .int y2, .int y3] Z I J (qv Z K2))
    (hK : ∀ I2 : jdI, WX I2 → Fr (fun a k => (a = 13 ∧ k = 8) ∨ a = 13 + 3) I0 I2 → (I2 13 8).toInt = (R.length : Int) → LiS I2 (13 + 3) R → K I2 J) (h70 : R.length ≤ 70) : ∀ k : Nat, ∀ (I : jdI) (x4 : Int32) (L : List Int32) (p : Nat), WX I → Fr (fun a k => (a = 13 ∧ k = 8) ∨ a = 13 + 3) I0 I → GX I N st rel → (I 13 8).toInt = (L.length : Int) → LiS I (13 + 3) L → x4.toInt = (p : Int) → p + k = N → L ++ DL rel (N - max p f) (max p f) (m + 1) x1 = R → Jd G mX8_gather (jdFm G (qv Z K)) (n + 1) rc rs 37 [(0, .ref (gb G + 13)), (1, .int x1), (2, .int x2), (3, .int x3), (4, .int x4)] [] Z I J := by
  intro k
  induction k with
  | zero =>
    intro I x4 L p hW hF hg hl hL h4 hk hr
    have h6 := hg.1
    rw [show max p f = N by omega, Nat.sub_self, DL_k0, List.append_nil] at hr
    refine rX8_gather_37 ht ⟨fun _ => ?_, fun hc => absurd (Int32.le_iff_toInt_le.mpr (by omega)) hc⟩
    rw [hr] at hl hL
    exact hK I hW hF hl hL
  | succ k ih =>
    intro I x4 L p hW hF hg hl hL h4 hk hr
    have h6 := hg.1
    have q1 : (1 : Int32).toInt = 1 := rfl
    have e4 := i32_add x4 1 (by omega) (by omega)
    have e3 := i32_sub x3 1 (by omega) (by omega)
    have n4 := tn_eq x4
    have b := bt_iff x2 (x := x4) (by omega)
    rw [show x4.toInt.toNat = p by omega, ho p (by omega)] at b
    have hx4 : x4 = Int32.ofNat p := by
      rw [i32_ofNat (x := x4) (by omega), show x4.toInt.toNat = p by omega]
    refine rX8_gather_37 ht ⟨fun hc => by have := Int32.le_iff_toInt_le.mp hc; omega, fun _ => ⟨fun hz => ?_, fun hz => ⟨vp_of (by omega) (by omega), ?_⟩⟩⟩
    · refine ih I (x4 + 1) L (p + 1) hW hF hg hl hL (by omega) (by omega) ?_
      by_cases c : p < f
      · rw [show max (p + 1) f = max p f by omega]
        exact hr
      · have hz2 : ¬ okN rel x1 p p = true := fun z => b.mp (by rw [z, decide_eq_true (show f ≤ p ∧ p < N by omega)]; rfl) hz
        rw [show max (p + 1) f = p + 1 by omega, show N - (p + 1) = k by omega, ← DL_n hz2]
        rw [show max p f = p by omega, show N - p = k + 1 by omega] at hr
        exact hr
    · have hb := b.mpr hz
      rw [Bool.and_eq_true, decide_eq_true_iff] at hb
      obtain ⟨hb1, hb2⟩ := hb
      rw [show max p f = p by omega, show N - p = k + 1 by omega, DL_y hb2, ← List.append_assoc] at hr
      have hlen : L.length + (DL rel (N - (p + 1)) (p + 1) m (x1 ||| ((1 : Int32) <<< (x4 &&& 31)))).length ≤ 70 := by
        rw [hx4, show N - (p + 1) = k by omega]
        rw [← hr, List.length_append, List.length_append] at h70
        omega
      refine hR I _ L _ _ _ (p + 1) hW hg hl hL ?_ (by omega) (by omega) hlen (fun I2 hW2 hF2 hl2 hL2 => ?_)
      · have e := OPN_next (y := I (13 + 1) (Int32.toNatClampNeg x4)) (z := x4) ho hN (show p < N by omega) hb1.1 h4 (fun q hq => by rw [show Int32.toNatClampNeg x4 = p by omega]; exact GX_bt hg hN (by omega) hq) hsy
        rw [← hx4] at e
        exact e
      · refine ih I2 (x4 + 1) _ (p + 1) hW2 (Fr.tr hF hF2 (fun _ _ h => h)) (GX_fr hg hF2 (by omega) (by omega) (by intro k; omega)) hl2 hL2 (by omega) (by omega) ?_
        rw [hx4, show N - (p + 1) = k by omega, show max (p + 1) f = p + 1 by omega, show N - (p + 1) = k by omega]
        exact hr
theorem pX8_gather {G : jdG} {Z : jdL} {J : jdJ} {N st : Nat} {rel : Nat → Nat → Bool} (ht : zTies Z 13) (hN : N ≤ 8) (hsy : ∀ a b, rel a b = rel b a) : ∀ m : Nat, ∀ (n : Nat) (I : jdI) (K : jdI → jdJ → Prop) (L : List Int32) (y1 y2 y3 : Int32) (p : Nat), m ≤ 4 → WX I → GX I N st rel → (I 13 8).toInt = (L.length : Int) → LiS I (13 + 3) L → OPN rel N p y1 y2 → p ≤ N → y3.toInt = (m : Int) → L.length + (DL rel (N - p) p m y1).length ≤ 70 → (∀ I2 : jdI, WX I2 → Fr (fun a k => (a = 13 ∧ k = 8) ∨ a = 13 + 3) I I2 → (I2 13 8).toInt = ((L ++ DL rel (N - p) p m y1).length : Int) → LiS I2 (13 + 3) (L ++ DL rel (N - p) p m y1) → K I2 J) → Cl G mX8_gather (n + 1 + m) 0 0 [.ref (gb G + 13), .int y1, .int y2, .int y3] Z I J (qv Z K) := by
  intro m
  induction m with
  | zero =>
    intro n I K L y1 y2 y3 p hm hW hg hl hL ho hp h3 h70 hK
    have hw := WX_f hW
    have q1 : (1 : Int32).toInt = 1 := rfl
    have q0 : (0 : Int32).toInt = 0 := rfl
    have q70 : (70 : Int32).toInt = 70 := rfl
    rw [DL_m0] at hK h70
    have h70 : L.length + 1 ≤ 70 := h70
    have e1 := i32_add (I 13 8) 1 (by omega) (by omega)
    have n1 := tn_eq (I 13 8)
    refine eX8_gather ht ⟨fun hc => by have := Int32.lt_iff_toInt_lt.mp hc; omega, fun _ => ⟨fun hc => by have := Int32.le_iff_toInt_le.mp hc; omega, fun _ => ⟨vp_of (by omega) (by omega), ?_⟩⟩⟩
    have w1 : WX (uI I (13 + 3) (Int32.toNatClampNeg (I 13 8)) y1) := WX_uI hW (by first | exact okXo (by decide) | (unfold okX; refine ⟨?_, ?_, ?_, ?_, ?_, ?_, ?_, ?_, ?_, ?_⟩ <;> intro h <;> omega))
    have f1 : Fr (fun a k => (a = 13 ∧ k = 8) ∨ a = 13 + 3) I (uI (uI I (13 + 3) (Int32.toNatClampNeg (I 13 8)) y1) 13 8 ((I 13 8) + 1)) := Fr_uI (Fr_uI Fr.rf (by omega)) (by omega)
    refine hK _ (WX_uI w1 (by first | exact okXo (by decide) | (unfold okX; refine ⟨?_, ?_, ?_, ?_, ?_, ?_, ?_, ?_, ?_, ?_⟩ <;> intro h <;> omega))) f1 ?_ ?_
    · rw [uI_ap, if_pos ⟨rfl, rfl⟩, List.length_append]
      show _ = ((L.length + 1 : Nat) : Int)
      omega
    · have hp := LiS_push (x := y1) hL (show Int32.toNatClampNeg (I 13 8) = L.length by omega)
      exact fun k hk => by
        rw [uI_n _ _ _ (by omega)]
        exact hp k hk
  | succ m ih =>
    intro n I K L y1 y2 y3 p hm hW hg hl hL ho hp h3 h70 hK
    have q0 : (0 : Int32).toInt = 0 := rfl
    refine eX8_gather ht ⟨fun _ => ?_, fun hc => absurd (Int32.lt_iff_toInt_lt.mpr (by omega)) hc⟩
    refine pX8_gather_37 (m := m) (f := p) ht hN hsy (by omega) (by omega) ho hp (fun I K2 L y1 y2 y3 p a1 a2 a3 a4 a5 a6 a7 a8 a9 => ?_) hK (by rw [List.length_append]; exact h70) N I 0 L 0 hW Fr.rf hg hl hL rfl (by omega) ?_
    · exact ih n I K2 L y1 y2 y3 p (by omega) a1 a2 a3 a4 a5 a6 a7 a8 a9
    · rw [show max 0 p = p by omega]
theorem pX8_list {G : jdG} {n : Nat} {Z : jdL} {J : jdJ} {K : jdI → jdJ → Prop} {I : jdI} {N st : Nat} {rel : Nat → Nat → Bool} (ht : zTies Z 13) (hW : WX I) (hg : GX I N st rel) (hN : N ≤ 8) (hst : st ≤ 4) (hsy : ∀ a b, rel a b = rel b a) (hK : ∀ I2 : jdI, WX I2 → Fr (fun a k => (a = 13 ∧ (k = 8 ∨ k = 10)) ∨ a = 13 + 3) I I2 → (I2 13 8).toInt = ((DL rel N 0 st 0).length : Int) → LiS I2 (13 + 3) (DL rel N 0 st 0) → (I2 13 10).toInt = 0 → K I2 J) : Cl G mX8_list (n + 6) 0 0 [.ref (gb G + 13)] Z I J (qv Z K) := by
  have hw := WX_f hW
  have q0 : (0 : Int32).toInt = 0 := rfl
  have hl := Nat.le_trans (DL_len rel N 0 st 0) (cb_70 ⟨N, by omega⟩ ⟨st, by omega⟩)
  refine eX8_list ht ?_
  have w0 : WX (uI I 13 8 0) := WX_uI hW (by first | exact okXo (by decide) | (unfold okX; refine ⟨?_, ?_, ?_, ?_, ?_, ?_, ?_, ?_, ?_, ?_⟩ <;> intro h <;> omega))
  have w1 : WX (uI (uI I 13 8 0) 13 10 0) := WX_uI w0 (by first | exact okXo (by decide) | (unfold okX; refine ⟨?_, ?_, ?_, ?_, ?_, ?_, ?_, ?_, ?_, ?_⟩ <;> intro h <;> omega))
  have f1 : Fr (fun a k => a = 13 ∧ (k = 8 ∨ k = 10)) I (uI (uI I 13 8 0) 13 10 0) := Fr_uI (Fr_uI Fr.rf (by omega)) (by omega)
  have z8 : ((uI (uI I 13 8 0) 13 10 0) 13 8).toInt = 0 := by rw [uI_ap, if_neg (by omega), uI_ap, if_pos ⟨rfl, rfl⟩]; rfl
  have z10 : ((uI (uI I 13 8 0) 13 10 0) 13 10).toInt = 0 := by rw [uI_ap, if_pos ⟨rfl, rfl⟩]; rfl
  generalize (uI (uI I 13 8 0) 13 10 0) = I1 at w1 f1 z8 z10 ⊢
  have g1 := GX_fr hg f1 (by omega) (by omega) (by intro k; omega)
  have hw1 := WX_f w1
  have h6 := g1.1
  refine eX8_everybody ht ?_
  rw [show n + 5 = (n + 4 - st) + 1 + st by omega]
  refine pX8_gather ht hN hsy st (n + 4 - st) I1 _ [] 0 _ _ 0 hst w1 g1 z8 (LiS_nil _ _) (fun q hq => ?_) (Nat.zero_le _) g1.2.1 (by rw [Nat.sub_zero]; show 0 + _ ≤ 70; omega) (fun I2 hW2 hF2 hl2 hL2 => ?_)
  · rw [bt_ev ⟨by omega, by omega⟩ hq, show (I1 13 6).toInt.toNat = N by omega]
    have ho : okN rel 0 q q = true := decide_eq_true (fun j hj hb => by rw [bt_ze j (by omega)] at hb; cases hb)
    rw [ho, Bool.and_true]
    exact decide_eq_decide.mpr (by omega)
  · rw [Nat.sub_zero, List.nil_append] at hl2 hL2
    exact hK I2 hW2 (Fr.tr (Fr.tr Fr.rf f1 (by intro a k h; omega)) hF2 (by intro a k h; omega)) hl2 hL2 (by rw [hF2 13 10 (by omega)]; exact z10)
def relW (w : Tw) (p q : Nat) : Bool := decide (w.2.2.2.2.2 p q = -1)
theorem pX9_strangersTo_4 {G : jdG} {n rc rs : Nat} {Z : jdL} {J : jdJ} {K : Int32 → jdI → jdJ → Prop} {I : jdI} {t a : Nat} {w : Tw} {x1 : Int32} (ht : zTown Z t) (hts : t = 1 ∨ t = 5 ∨ t = 9) (hW : WX I) (hw : RX I t w) (h1 : x1.toInt = (a : Int)) (ha : (a : Int) < w.1) (hK : K (sset (relW w) a w.1.toNat) I J) : ∀ f : Nat, ∀ (x2 x3 : Int32), 0 ≤ x3.toInt → x3.toInt + (f : Int) = w.1 → x2 = sset (relW w) a x3.toInt.toNat → Jd G mX9_strangersTo (jdFm G (qi Z K)) (n + 1) rc rs 4 [(0, .ref (gb G + t)), (1, .int x1), (2, .int x2), (3, .int x3)] [] Z I J := by
  have hp := WX_town hW hts
  have w1 := hw.1
  intro f
  induction f with
  | zero =>
    intro x2 x3 h3 hf hb
    refine rX9_strangersTo_4 ht ⟨fun _ => ?_, fun hc => absurd (Int32.le_iff_toInt_le.mpr (by omega)) hc⟩
    rw [hb, show x3.toInt = w.1 by omega]
    exact hK
  | succ f ih =>
    intro x2 x3 h3 hf hb
    have q1 : (1 : Int32).toInt = 1 := rfl
    have e3 := i32_add x3 1 (by omega) (by omega)
    have n3 := tn_eq x3
    have n1 := tn_eq x1
    have m1 := i32_mulc x1 7 7 rfl (by omega) (by omega)
    have a1 := i32_add (x1 * 7) x3 (by omega) (by omega)
    have k1 := tn_eq ((x1 * 7) + x3)
    have en : (x3 + 1).toInt.toNat = x3.toInt.toNat + 1 := by omega
    have hx3 : Int32.ofNat x3.toInt.toNat = x3 := (i32_ofNat h3).symm
    have skip : (¬ (decide (x3.toInt.toNat ≠ a) && relW w a x3.toInt.toNat) = true) → Jd G mX9_strangersTo (jdFm G (qi Z K)) (n + 1) rc rs 4 [(0, .ref (gb G + t)), (1, .int x1), (2, .int x2), (3, .int (x3 + 1))] [] Z I J := fun hz => by
      refine ih x2 (x3 + 1) (by omega) (by omega) ?_
      rw [en, hb]
      exact (if_neg hz).symm
    refine rX9_strangersTo_4 ht ⟨fun hc => by have := Int32.le_iff_toInt_le.mp hc; omega, fun _ => ⟨fun hc => skip ?_, fun hc => ?_⟩⟩
    · rw [decide_eq_false (show ¬ x3.toInt.toNat ≠ a by rw [hc]; omega), Bool.false_and]
      decide
    · have hc : ¬ x3.toInt = x1.toInt := fun z => hc (Int32.toInt_inj.mp z)
      refine eX9_since ht ⟨vp_of (by omega) (by omega), ?_⟩
      have ek := hw.2.2.2.2 a x3.toInt.toNat ha (by omega) (by omega)
      rw [show Int32.toNatClampNeg ((x1 * 7) + x3) = a * 7 + x3.toInt.toNat by omega, ek]
      refine ⟨fun hz => skip ?_, fun hz => ?_⟩
      · unfold relW
        rw [decide_eq_false hz, Bool.and_false]
        decide
      · refine ih _ (x3 + 1) (by omega) (by omega) ?_
        have hr : (decide (x3.toInt.toNat ≠ a) && relW w a x3.toInt.toNat) = true := by
          unfold relW
          rw [decide_eq_true hz, decide_eq_true (show x3.toInt.toNat ≠ a by omega)]
          rfl
        rw [en, hb]
        show _ = if (decide (x3.toInt.toNat ≠ a) && relW w a x3.toInt.toNat) = true then sset (relW w) a x3.toInt.toNat ||| ((1 : Int32) <<< (Int32.ofNat x3.toInt.toNat &&& 31)) else sset (relW w) a x3.toInt.toNat
        rw [if_pos hr, hx3]
theorem pX9_strangersTo {G : jdG} {n : Nat} {Z : jdL} {J : jdJ} {K : Int32 → jdI → jdJ → Prop} {I : jdI} {t a : Nat} {w : Tw} {x1 : Int32} (ht : zTown Z t) (hts : t = 1 ∨ t = 5 ∨ t = 9) (hW : WX I) (hw : RX I t w) (h1 : x1.toInt = (a : Int)) (ha : (a : Int) < w.1) (hK : K (sset (relW w) a w.1.toNat) I J) : Cl G mX9_strangersTo (n + 1) 0 0 [.ref (gb G + t), .int x1] Z I J (qi Z K) := by
  have hp := WX_town hW hts
  have w1 := hw.1
  refine eX9_strangersTo ht ?_
  exact pX9_strangersTo_4 ht hts hW hw h1 ha hK w.1.toNat 0 0 (by decide) (by show (0 : Int) + _ = _; omega) rfl
theorem pX12_strangersOf_4 {G : jdG} {n rc rs : Nat} {Z : jdL} {J : jdJ} {K : Int32 → jdI → jdJ → Prop} {I : jdI} {t a N st : Nat} {rel : Nat → Nat → Bool} {x1 : Int32} (ht : zModel Z t) (hg : GM I t N st rel) (hN : N ≤ 8) (h1 : x1.toInt = (a : Int)) (ha : a < N) (hK : K (sset rel a N) I J) : ∀ f : Nat, ∀ (x2 x3 : Int32), 0 ≤ x3.toInt → x3.toInt + (f : Int) = (N : Int) → x2 = sset rel a x3.toInt.toNat → Jd G mX12_strangersOf (jdFm G (qi Z K)) n rc rs 4 [(0, .ref (gb G + t)), (1, .int x1), (2, .int x2), (3, .int x3)] [] Z I J := by
  have h10 := hg.1
  intro f
  induction f with
  | zero =>
    intro x2 x3 h3 hf hb
    refine rX12_strangersOf_4 ht ⟨fun _ => ?_, fun hc => absurd (Int32.le_iff_toInt_le.mpr (by omega)) hc⟩
    rw [hb, show x3.toInt.toNat = N by omega]
    exact hK
  | succ f ih =>
    intro x2 x3 h3 hf hb
    have q1 : (1 : Int32).toInt = 1 := rfl
    have e3 := i32_add x3 1 (by omega) (by omega)
    have n3 := tn_eq x3
    have n1 := tn_eq x1
    have en : (x3 + 1).toInt.toNat = x3.toInt.toNat + 1 := by omega
    have hx3 : Int32.ofNat x3.toInt.toNat = x3 := (i32_ofNat h3).symm
    have skip : (¬ (decide (x3.toInt.toNat ≠ a) && rel a x3.toInt.toNat) = true) → Jd G mX12_strangersOf (jdFm G (qi Z K)) n rc rs 4 [(0, .ref (gb G + t)), (1, .int x1), (2, .int (x2 ||| 0)), (3, .int (x3 + 1))] [] Z I J := fun hz => by
      refine ih _ (x3 + 1) (by omega) (by omega) ?_
      rw [en, Int32.or_zero, hb]
      exact (if_neg hz).symm
    refine rX12_strangersOf_4 ht ⟨fun hc => by have := Int32.le_iff_toInt_le.mp hc; omega, fun _ => ⟨fun hc => skip ?_, fun hc => ⟨vp_of (by omega) (by omega), vp_of (by omega) (by omega), ?_⟩⟩⟩
    · rw [decide_eq_false (show ¬ x3.toInt.toNat ≠ a by rw [hc]; omega), Bool.false_and]
      decide
    · have hc : ¬ x3.toInt = x1.toInt := fun z => hc (Int32.toInt_inj.mp z)
      have ek := hg.2.2 a x3.toInt.toNat ha (by omega) (by omega)
      rw [show Int32.toNatClampNeg x1 = a by omega]
      refine ⟨fun hz => skip (fun z => ?_), fun hz => ?_⟩
      · rw [Bool.and_eq_true] at z
        exact hz (ek.mpr z.2)
      · refine ih _ (x3 + 1) (by omega) (by omega) ?_
        have hr : (decide (x3.toInt.toNat ≠ a) && rel a x3.toInt.toNat) = true := by
          rw [ek.mp hz, decide_eq_true (show x3.toInt.toNat ≠ a by omega)]
          rfl
        rw [en, hb]
        show _ = if (decide (x3.toInt.toNat ≠ a) && rel a x3.toInt.toNat) = true then sset rel a x3.toInt.toNat ||| ((1 : Int32) <<< (Int32.ofNat x3.toInt.toNat &&& 31)) else sset rel a x3.toInt.toNat
        rw [if_pos hr, hx3]
theorem pX12_strangersOf {G : jdG} {n : Nat} {Z : jdL} {J : jdJ} {K : Int32 → jdI → jdJ → Prop} {I : jdI} {t a N st : Nat} {rel : Nat → Nat → Bool} {x1 : Int32} (ht : zModel Z t) (hg : GM I t N st rel) (hN : N ≤ 8) (h1 : x1.toInt = (a : Int)) (ha : a < N) (hK : K (sset rel a N) I J) : Cl G mX12_strangersOf n 0 0 [.ref (gb G + t), .int x1] Z I J (qi Z K) := by
  refine eX12_strangersOf ht ?_
  exact pX12_strangersOf_4 ht hg hN h1 ha hK N 0 0 (by decide) (by show (0 : Int) + _ = _; omega) rfl

/-- the ties are those of the town w, and its groups are listed -/
def TL (I : jdI) (w : Tw) : Prop := GX I w.1.toNat w.2.2.2.1.toNat (relW w) ∧ (∀ p : Nat, (p : Int) < w.1 → I (13 + 2) p = w.2.2.1 p) ∧ (I 13 8).toInt = ((DL (relW w) w.1.toNat 0 w.2.2.2.1.toNat 0).length : Int) ∧ LiS I (13 + 3) (DL (relW w) w.1.toNat 0 w.2.2.2.1.toNat 0)
def SYM (w : Tw) : Prop := ∀ i j, w.2.2.2.2.2 i j = w.2.2.2.2.2 j i
theorem relW_s {w : Tw} (h : SYM w) (a b : Nat) : relW w a b = relW w b a := by
  unfold relW
  rw [h a b]
theorem pX8_load_18 {G : jdG} {n rc rs : Nat} {Z : jdL} {J : jdJ} {K : jdI → jdJ → Prop} {I0 : jdI} {u1 : Nat} {w : Tw} (ht : zTies Z 13) (hu1 : zTown Z u1) (hus : u1 = 1 ∨ u1 = 5 ∨ u1 = 9) (hsy : SYM w) (hP : 0 ≤ w.1 ∧ w.1 ≤ 7) (hS : 2 ≤ w.2.2.2.1 ∧ w.2.2.2.1 ≤ 4) (hK : ∀ I2 : jdI, WX I2 → Fr (fun a k => (a = 13 ∧ (k = 6 ∨ k = 7 ∨ k = 8 ∨ k = 10)) ∨ (14 ≤ a ∧ a ≤ 16)) I0 I2 → TL I2 w → (I2 13 10).toInt = 0 → K I2 J) : ∀ f : Nat, ∀ (I : jdI) (x2 : Int32), WX I → Fr (fun a k => (a = 13 ∧ (k = 6 ∨ k = 7 ∨ k = 8 ∨ k = 10)) ∨ (14 ≤ a ∧ a ≤ 16)) I0 I → RX I u1 w → (I 13 6).toInt = w.1 → (I 13 7).toInt = w.2.2.2.1 → 0 ≤ x2.toInt → x2.toInt + (f : Int) = w.1 → (∀ p : Nat, (p : Int) < x2.toInt → I (13 + 1) p = sset (relW w) p w.1.toNat) → (∀ p : Nat, (p : Int) < x2.toInt → I (13 + 2) p = w.2.2.1 p) → Jd G mX8_load (jdFm G (qv Z K)) (n + 7) rc rs 18 [(0, .ref (gb G + 13)), (1, .ref (gb G + u1)), (2, .int x2)] [] Z I J := by
  intro f
  induction f with
  | zero =>
    intro I x2 hW hF hR h6 h7 h2 hf hb hc
    refine rX8_load_18 ht hu1 ⟨fun _ => ?_, fun hx => absurd (Int32.le_iff_toInt_le.mpr (by omega)) hx⟩
    have hg : GX I w.1.toNat w.2.2.2.1.toNat (relW w) := ⟨by omega, by omega, fun p hp => hb p (by omega)⟩
    refine pX8_list ht hW hg (by omega) (by omega) (relW_s hsy) (fun I2 hW2 hF2 hl hL hz => ?_)
    refine hK I2 hW2 (Fr.tr hF hF2 (by intro a k h; omega)) ⟨GX_fr hg hF2 (by omega) (by omega) (by intro k; omega), fun p hp => ?_, hl, hL⟩ hz
    rw [hF2 (13 + 2) p (by omega)]
    exact hc p (by omega)
  | succ f ih =>
    intro I x2 hW hF hR h6 h7 h2 hf hb hc
    have q1 : (1 : Int32).toInt = 1 := rfl
    have e2 := i32_add x2 1 (by omega) (by omega)
    have n2 := tn_eq x2
    refine rX8_load_18 ht hu1 ⟨fun hx => by have := Int32.le_iff_toInt_le.mp hx; omega, fun _ => ?_⟩
    refine pX9_strangersTo (a := x2.toInt.toNat) hu1 hus hW hR (by omega) (by omega) ⟨vp_of (by omega) (by omega), vp_of (by omega) (by omega), vp_of (by omega) (by omega), ?_⟩
    generalize hv : sset (relW w) x2.toInt.toNat w.1.toNat = v
    have ec : (uI I (13 + 1) (Int32.toNatClampNeg x2) v) (u1 + 2) (Int32.toNatClampNeg x2) = w.2.2.1 x2.toInt.toNat := by
      rw [uI_n _ _ _ (by omega)]
      exact (hR.2.1 x2.toInt.toNat (by omega)).2
    rw [ec]
    have w1 : WX (uI I (13 + 1) (Int32.toNatClampNeg x2) v) := WX_uI hW (by first | exact okXo (by decide) | (unfold okX; refine ⟨?_, ?_, ?_, ?_, ?_, ?_, ?_, ?_, ?_, ?_⟩ <;> intro h <;> omega))
    have f1 : Fr (fun a k => 14 ≤ a ∧ a ≤ 15) I (uI (uI I (13 + 1) (Int32.toNatClampNeg x2) v) (13 + 2) (Int32.toNatClampNeg x2) (w.2.2.1 x2.toInt.toNat)) := Fr_uI (Fr_uI Fr.rf (by omega)) (by omega)
    refine ih _ (x2 + 1) (WX_uI w1 (by first | exact okXo (by decide) | (unfold okX; refine ⟨?_, ?_, ?_, ?_, ?_, ?_, ?_, ?_, ?_, ?_⟩ <;> intro h <;> omega))) (Fr.tr hF f1 (by intro a k h; omega)) (RX_fr hR f1 (by intro a k h1 h2; omega)) (by rw [f1 13 6 (by omega)]; exact h6) (by rw [f1 13 7 (by omega)]; exact h7) (by omega) (by omega) (fun p hp => ?_) (fun p hp => ?_)
    · rw [uI_n _ _ _ (by omega), uI_ap]
      by_cases c : p = Int32.toNatClampNeg x2
      · rw [if_pos ⟨rfl, c⟩, ← hv, show x2.toInt.toNat = p by omega]
      · rw [if_neg (fun z => c z.2)]
        exact hb p (by omega)
    · rw [uI_ap]
      by_cases c : p = Int32.toNatClampNeg x2
      · rw [if_pos ⟨rfl, c⟩, show x2.toInt.toNat = p by omega]
      · rw [if_neg (fun z => c z.2), uI_n _ _ _ (by omega)]
        exact hc p (by omega)
theorem pX8_load {G : jdG} {n : Nat} {Z : jdL} {J : jdJ} {K : jdI → jdJ → Prop} {I : jdI} {u1 : Nat} {w : Tw} (ht : zTies Z 13) (hu1 : zTown Z u1) (hus : u1 = 1 ∨ u1 = 5 ∨ u1 = 9) (hW : WX I) (hw : RX I u1 w) (hsy : SYM w) (hK : ∀ I2 : jdI, WX I2 → Fr (fun a k => (a = 13 ∧ (k = 6 ∨ k = 7 ∨ k = 8 ∨ k = 10)) ∨ (14 ≤ a ∧ a ≤ 16)) I I2 → TL I2 w → (I2 13 10).toInt = 0 → K I2 J) : Cl G mX8_load (n + 7) 0 0 [.ref (gb G + 13), .ref (gb G + u1)] Z I J (qv Z K) := by
  have hp := WX_town hW hus
  have w1 := hw.1
  have w3 := hw.2.2.1
  refine eX8_load ht hu1 ?_
  have e7 : (uI I 13 6 (I u1 3)) u1 4 = I u1 4 := by rw [uI_ap, if_neg (by omega)]
  rw [e7]
  have wa : WX (uI I 13 6 (I u1 3)) := WX_uI hW (by first | exact okXo (by decide) | (unfold okX; refine ⟨?_, ?_, ?_, ?_, ?_, ?_, ?_, ?_, ?_, ?_⟩ <;> intro h <;> omega))
  have f1 : Fr (fun a k => a = 13 ∧ (k = 6 ∨ k = 7)) I (uI (uI I 13 6 (I u1 3)) 13 7 (I u1 4)) := Fr_uI (Fr_uI Fr.rf (by omega)) (by omega)
  refine pX8_load_18 ht hu1 hus hsy ⟨by omega, by omega⟩ ⟨by omega, by omega⟩ hK w.1.toNat _ 0 (WX_uI wa (by first | exact okXo (by decide) | (unfold okX; refine ⟨?_, ?_, ?_, ?_, ?_, ?_, ?_, ?_, ?_, ?_⟩ <;> intro h <;> omega))) (Fr.tr Fr.rf f1 (by intro a k h; omega)) (RX_fr hw f1 (by intro a k h1 h2; omega)) ?_ ?_ (by decide) (by show (0 : Int) + _ = _; omega) (fun p hp => ?_) (fun p hp => ?_)
  · rw [uI_ap, if_neg (by omega), uI_ap, if_pos ⟨rfl, rfl⟩]
    exact w1
  · rw [uI_ap, if_pos ⟨rfl, rfl⟩]
    exact w3
  · have hp : (p : Int) < 0 := hp
    omega
  · have hp : (p : Int) < 0 := hp
    omega
