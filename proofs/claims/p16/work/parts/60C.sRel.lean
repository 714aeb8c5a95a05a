/-! the tape, and towns that differ in who knows whom -/
def fdT (T : Nat → Int32) (m : Int) (x : Int32) : Nat → Int32 := if (0 ≤ x.toInt ∧ x.toInt ≤ 255) ∧ m < 250 then upd T m.toNat x else T
theorem pX11_feed {G : jdG} {n : Nat} {Z : jdL} {J : jdJ} {K : Int32 → jdI → jdJ → Prop} {I : jdI} {x1 : Int32} (hX : zX Z) (hW : WX I) (hK : ∀ (v : Int32) (I2 : jdI), WX I2 → Fr (fun a k => (25 ≤ a ∧ a ≤ 26) ∨ a = 28) I I2 → (((0 ≤ x1.toInt ∧ x1.toInt ≤ 255) ∧ (I 25 1).toInt < 250 ∧ v.toInt = (I 25 1).toInt + 1 ∧ (I2 25 1).toInt = (I 25 1).toInt + 1) ∨ ((0 ≤ x1.toInt ∧ x1.toInt ≤ 255) ∧ (I 25 1).toInt = 250 ∧ v.toInt = -6 ∧ (I2 25 1).toInt = (I 25 1).toInt) ∨ (¬ (0 ≤ x1.toInt ∧ x1.toInt ≤ 255) ∧ v.toInt = -2 ∧ (I2 25 1).toInt = (I 25 1).toInt)) → I2 (25 + 1) = fdT (I (25 + 1)) (I 25 1).toInt x1 → K v I2 J) : Cl G mX11_feed (n + 1) 0 0 [.ref (gb G + 0), .int x1] Z I J (qi Z K) := by
  have hw := WX_f hW
  have q0 : (0 : Int32).toInt = 0 := rfl
  have q1 : (1 : Int32).toInt = 1 := rfl
  have q255 : (255 : Int32).toInt = 255 := rfl
  have q250 : (250 : Int32).toInt = 250 := rfl
  refine eX11_feed hX ⟨fun c => ?_, fun c => ⟨fun d => ?_, fun d => ?_⟩⟩
  · have c := Int32.lt_iff_toInt_lt.mp c
    refine sfX11_refuse hX hW (fun v4 I3 hW3 hF3 hp3 => ?_)
    have hv4 : v4.toInt = -2 := by rw [hp3]; rfl
    have e1 := congrArg Int32.toInt (hF3 25 1 (by omega))
    refine hK v4 I3 hW3 (Fr.tr Fr.rf hF3 (by intro a k h; omega)) (by omega) ?_
    unfold fdT
    rw [if_neg (by omega)]
    exact funext (fun k => hF3 (25 + 1) k (by omega))
  · have c := mt Int32.lt_iff_toInt_lt.mpr c
    have d := Int32.le_iff_toInt_le.mp d
    refine sfX5_isFull (zX_o5 hX) hW (fun v2 p2 => ⟨fun g => ?_, fun g => ?_⟩)
    · have g := i0 g
      have e1 := i32_add (I 25 1) 1 (by omega) (by omega)
      refine eX5_append (zX_o5 hX) ⟨fun h => by have := Int32.le_iff_toInt_le.mp h; omega, fun _ => ⟨vp_of (by omega) (by omega), ?_⟩⟩
      have w1 : WX (uI I (25 + 1) (Int32.toNatClampNeg (I 25 1)) x1) := WX_uI hW (by first | exact okXo (by decide) | (unfold okX; refine ⟨?_, ?_, ?_, ?_, ?_, ?_, ?_, ?_, ?_, ?_⟩ <;> intro h <;> omega))
      have f0 : Fr (fun a k => (25 ≤ a ∧ a ≤ 26) ∨ a = 28) I (uI (uI I (25 + 1) (Int32.toNatClampNeg (I 25 1)) x1) 25 1 ((I 25 1) + 1)) := Fr_uI (Fr_uI Fr.rf (by omega)) (by omega)
      have e2 : (uI (uI I (25 + 1) (Int32.toNatClampNeg (I 25 1)) x1) 25 1 ((I 25 1) + 1)) 25 1 = (I 25 1) + 1 := by rw [uI_ap, if_pos ⟨rfl, rfl⟩]
      refine hK _ _ (WX_uI w1 (by first | exact okXo (by decide) | (unfold okX; refine ⟨?_, ?_, ?_, ?_, ?_, ?_, ?_, ?_, ?_, ?_⟩ <;> intro h <;> omega))) f0 (Or.inl ⟨⟨by omega, by omega⟩, by omega, by rw [e2]; exact e1, by rw [e2]; exact e1⟩) ?_
      unfold fdT
      rw [if_pos (by omega)]
      funext k
      rw [uI_n _ _ _ (by omega), uI_s]
      rfl
    · have g := i1 g
      refine sfX11_refuse hX hW (fun v4 I3 hW3 hF3 hp3 => ?_)
      have hv4 : v4.toInt = -6 := by rw [hp3]; rfl
      have e1 := congrArg Int32.toInt (hF3 25 1 (by omega))
      refine hK v4 I3 hW3 (Fr.tr Fr.rf hF3 (by intro a k h; omega)) (by omega) ?_
      unfold fdT
      rw [if_neg (by omega)]
      exact funext (fun k => hF3 (25 + 1) k (by omega))
  · have d := mt Int32.le_iff_toInt_le.mpr d
    refine sfX11_refuse hX hW (fun v4 I3 hW3 hF3 hp3 => ?_)
    have hv4 : v4.toInt = -2 := by rw [hp3]; rfl
    have e1 := congrArg Int32.toInt (hF3 25 1 (by omega))
    refine hK v4 I3 hW3 (Fr.tr Fr.rf hF3 (by intro a k h; omega)) (by omega) ?_
    unfold fdT
    rw [if_neg (by omega)]
    exact funext (fun k => hF3 (25 + 1) k (by omega))
theorem pX12_feed {G : jdG} {n : Nat} {Z : jdL} {J : jdJ} {K : Int32 → jdI → jdJ → Prop} {I : jdI} {t : Nat} {x1 : Int32} (ht : zModel Z t) (hW : WM 7 t I) (hK : ∀ (v : Int32) (I2 : jdI), WM 7 t I2 → Fr (fun a k => (a = t ∧ k = 8) ∨ a = t + 16 ∨ a = t + 17) I I2 → (((0 ≤ x1.toInt ∧ x1.toInt ≤ 255) ∧ (I t 8).toInt < 250 ∧ v.toInt = (I t 8).toInt + 1 ∧ (I2 t 8).toInt = (I t 8).toInt + 1) ∨ ((0 ≤ x1.toInt ∧ x1.toInt ≤ 255) ∧ (I t 8).toInt = 250 ∧ v.toInt = -6 ∧ (I2 t 8).toInt = (I t 8).toInt) ∨ (¬ (0 ≤ x1.toInt ∧ x1.toInt ≤ 255) ∧ v.toInt = -2 ∧ (I2 t 8).toInt = (I t 8).toInt)) → I2 (t + 16) = fdT (I (t + 16)) (I t 8).toInt x1 → K v I2 J) : Cl G mX12_feed (n + 1) 0 0 [.ref (gb G + t), .int x1] Z I J (qi Z K) := by
  have hw := WM_f hW
  have q1 : (1 : Int32).toInt = 1 := rfl
  have e0 : (Int32.toInt64 x1).toInt = x1.toInt := Int32.toInt_toInt64 _
  have z0 : (0 : Int64).toInt = 0 := rfl
  have z255 : (255 : Int64).toInt = 255 := rfl
  refine eX12_feed ht ?_
  refine sfX12_in trivial (fun v2 p2 => ⟨fun c => ⟨fun d => ?_, fun d => ?_⟩, fun c => ?_⟩)
  · have c := i1 c
    have d : ¬ (I t 8).toInt = 250 := fun z => d (Int32.toInt_inj.mp z)
    have e1 := i32_add (I t 8) 1 (by omega) (by omega)
    refine ⟨vp_of (by omega) (by omega), ?_⟩
    have w1 : WM 7 t (uI I t 8 ((I t 8) + 1)) := WM_uI hW (by first | exact okMo (by decide) (by decide) (by decide) (by decide) (by decide) | exact okMf (by decide) (by decide) (by decide) (by decide) (by decide) (by decide) (by decide) (by decide) | exact okM30 (by omega) | exact okM42 (by omega) | exact okM33 (by omega) | exact okM10 (by omega) | exact okM8 (by omega) | exact okM22 (by omega) | exact okM24 (by omega) | exact okM14 (by omega) | exact okMa31 (by omega) | exact okMa35 (by omega) | exact okMa36 (by omega) | exact okMa3 (by omega) | exact okMr (by omega) | (unfold okM; refine ⟨?_, ?_, ?_, ?_, ?_, ?_, ?_, ?_, ?_, ?_, ?_, ?_⟩ <;> intro h <;> omega))
    have f0 : Fr (fun a k => (a = t ∧ k = 8) ∨ a = t + 16 ∨ a = t + 17) I (uI (uI I t 8 ((I t 8) + 1)) (t + 16) (Int32.toNatClampNeg (I t 8)) x1) := Fr_uI (Fr_uI Fr.rf (by omega)) (by omega)
    have e2 : (uI (uI I t 8 ((I t 8) + 1)) (t + 16) (Int32.toNatClampNeg (I t 8)) x1) t 8 = (I t 8) + 1 := by rw [uI_ap, if_neg (by omega), uI_ap, if_pos ⟨rfl, rfl⟩]
    refine hK _ _ (WM_uI w1 (by first | exact okMo (by decide) (by decide) (by decide) (by decide) (by decide) | exact okMf (by decide) (by decide) (by decide) (by decide) (by decide) (by decide) (by decide) (by decide) | exact okM30 (by omega) | exact okM42 (by omega) | exact okM33 (by omega) | exact okM10 (by omega) | exact okM8 (by omega) | exact okM22 (by omega) | exact okM24 (by omega) | exact okM14 (by omega) | exact okMa31 (by omega) | exact okMa35 (by omega) | exact okMa36 (by omega) | exact okMa3 (by omega) | exact okMr (by omega) | (unfold okM; refine ⟨?_, ?_, ?_, ?_, ?_, ?_, ?_, ?_, ?_, ?_, ?_, ?_⟩ <;> intro h <;> omega))) f0 (Or.inl ⟨⟨by omega, by omega⟩, by omega, e1, by rw [e2]; exact e1⟩) ?_
    unfold fdT
    rw [if_pos (by omega)]
    funext k
    rw [uI_s, uI_n _ _ _ (by omega)]
    rfl
  · have c := i1 c
    have d : (I t 8).toInt = 250 := by rw [d]; rfl
    refine sfX12_refuse ht (by decide) hW (by decide) (fun v4 I3 hW3 hF3 hp3 => ?_)
    have hv4 : v4.toInt = -6 := hp3
    have e1 := congrArg Int32.toInt (hF3 t 8 (by omega))
    refine hK v4 I3 hW3 (Fr.tr Fr.rf hF3 (by intro a k h; omega)) (by omega) ?_
    unfold fdT
    rw [if_neg (by omega)]
    exact funext (fun k => hF3 (t + 16) k (by omega))
  · have c := i0 c
    refine sfX12_refuse ht (by decide) hW (by decide) (fun v4 I3 hW3 hF3 hp3 => ?_)
    have hv4 : v4.toInt = -2 := hp3
    have e1 := congrArg Int32.toInt (hF3 t 8 (by omega))
    refine hK v4 I3 hW3 (Fr.tr Fr.rf hF3 (by intro a k h; omega)) (by omega) ?_
    unfold fdT
    rw [if_neg (by omega)]
    exact funext (fun k => hF3 (t + 16) k (by omega))
def setK (w : Tw) (k : Nat → Nat → Int32) : Tw := (w.1, w.2.1, w.2.2.1, w.2.2.2.1, w.2.2.2.2.1, k)
theorem oPerson_k (s : Sd) (k : Nat → Nat → Int32) (x1 x2 : Int32) : ∃ k2, oPerson (setK s.1 k, s.2) x1 x2 = ((oPerson s x1 x2).1, (setK (oPerson s x1 x2).2.1 k2, (oPerson s x1 x2).2.2)) := by
  unfold oPerson
  show ∃ k2, (if (0 ≤ x1.toInt ∧ x1.toInt < 24) ∧ 0 ≤ x2.toInt ∧ x2.toInt < 10 then (if s.1.1 < 7 then (s.1.1, (addT (setK s.1 k) x1 x2, s.2)) else (-6, (setK s.1 k, s.2))) else (-2, (setK s.1 k, s.2))) = _
  by_cases c : (0 ≤ x1.toInt ∧ x1.toInt < 24) ∧ 0 ≤ x2.toInt ∧ x2.toInt < 10
  · by_cases d : s.1.1 < 7
    · simp only [if_pos c, if_pos d]
      exact ⟨_, rfl⟩
    · simp only [if_pos c, if_neg d]
      exact ⟨k, rfl⟩
  · simp only [if_neg c]
    exact ⟨k, rfl⟩
theorem oChange_k (s : Sd) (k : Nat → Nat → Int32) (x1 x2 x3 : Int32) : ∃ k2, oChange (setK s.1 k, s.2) x1 x2 x3 = ((oChange s x1 x2 x3).1, (setK (oChange s x1 x2 x3).2.1 k2, (oChange s x1 x2 x3).2.2)) := by
  refine ⟨k, ?_⟩
  by_cases c : (0 ≤ x1.toInt ∧ x1.toInt < s.1.1) ∧ ((x2.toInt = 0 ∧ 0 ≤ x3.toInt ∧ x3.toInt < 24) ∨ (x2.toInt = 1 ∧ 0 ≤ x3.toInt ∧ x3.toInt < 10))
  · have c' : (0 ≤ x1.toInt ∧ x1.toInt < (setK s.1 k).1) ∧ ((x2.toInt = 0 ∧ 0 ≤ x3.toInt ∧ x3.toInt < 24) ∨ (x2.toInt = 1 ∧ 0 ≤ x3.toInt ∧ x3.toInt < 10)) := c
    unfold oChange
    by_cases d : x2.toInt = 0
    · rw [if_pos c', if_pos c, if_pos d, if_pos d]
      rfl
    · rw [if_pos c', if_pos c, if_neg d, if_neg d]
      rfl
  · have c' : ¬ ((0 ≤ x1.toInt ∧ x1.toInt < (setK s.1 k).1) ∧ ((x2.toInt = 0 ∧ 0 ≤ x3.toInt ∧ x3.toInt < 24) ∨ (x2.toInt = 1 ∧ 0 ≤ x3.toInt ∧ x3.toInt < 10))) := c
    unfold oChange
    rw [if_neg c', if_neg c]
theorem oAsk_k (s : Sd) (k : Nat → Nat → Int32) (x1 x2 : Int32) : ∃ k2, oAsk (setK s.1 k, s.2) x1 x2 = ((oAsk s x1 x2).1, (setK (oAsk s x1 x2).2.1 k2, (oAsk s x1 x2).2.2)) := by
  refine ⟨k, ?_⟩
  unfold oAsk
  by_cases c : x1.toInt = 0 ∧ 2 ≤ x2.toInt ∧ x2.toInt ≤ 4
  · rw [if_pos c, if_pos c]
    rfl
  · rw [if_neg c, if_neg c]
    by_cases d : x1.toInt = 1 ∧ 0 ≤ x2.toInt ∧ x2.toInt ≤ 99
    · rw [if_pos d, if_pos d]
      rfl
    · rw [if_neg d, if_neg d]
theorem oSeed_k (s : Sd) (k : Nat → Nat → Int32) (x1 : Int32) : ∃ k2, oSeed (setK s.1 k, s.2) x1 = ((oSeed s x1).1, (setK (oSeed s x1).2.1 k2, (oSeed s x1).2.2)) := ⟨k, rfl⟩
theorem drG_k (g : Int32 → Int32) (b : Int32 → Bool) : ∀ (f j : Nat) (s : Sd) (k : Nat → Nat → Int32), ∃ k2, drG g b f j (setK s.1 k, s.2) = (setK (drG g b f j s).1 k2, (drG g b f j s).2)
  | 0, j, s, k => ⟨k, rfl⟩
  | f + 1, j, s, k => by
    by_cases c : b (g s.2) = true
    · rw [drG_y c, drG_y (s := (setK s.1 k, s.2)) c]
      exact drG_k g b f (j + 1) (tieT s.1 (s.1.1 - 1).toNat j 0, g s.2) (tieT (setK s.1 k) (s.1.1 - 1).toNat j 0).2.2.2.2.2
    · rw [drG_n c, drG_n (s := (setK s.1 k, s.2)) c]
      exact drG_k g b f (j + 1) (s.1, g s.2) k
theorem addD_k (s : Sd) (k : Nat → Nat → Int32) : ∃ k2, addD (setK s.1 k, s.2) = (setK (addD s).1 k2, (addD s).2) :=
  drG_k nx bz s.1.1.toNat 0 (addT s.1 (vd (nx s.2) 24) (vd (nx (nx s.2)) 10), nx (nx s.2)) (addT (setK s.1 k) (vd (nx s.2) 24) (vd (nx (nx s.2)) 10)).2.2.2.2.2
theorem comeN_k : ∀ (f : Nat) (s : Sd) (k : Nat → Nat → Int32), ∃ k2, comeN f (setK s.1 k, s.2) = (setK (comeN f s).1 k2, (comeN f s).2)
  | 0, s, k => ⟨k, rfl⟩
  | f + 1, s, k => by
    obtain ⟨k2, e⟩ := addD_k s k
    rw [comeN_s, comeN_s, e]
    exact comeN_k f (addD s) k2
theorem oCome_k (s : Sd) (k : Nat → Nat → Int32) (x1 : Int32) : ∃ k2, oCome (setK s.1 k, s.2) x1 = ((oCome s x1).1, (setK (oCome s x1).2.1 k2, (oCome s x1).2.2)) := by
  unfold oCome
  by_cases c : 1 ≤ x1.toInt ∧ x1.toInt ≤ 7
  · by_cases d : 7 - s.1.1 < x1.toInt
    · have d' : 7 - (setK s.1 k).1 < x1.toInt := d
      rw [if_pos c, if_pos c, if_pos d, if_pos d']
      obtain ⟨k2, e⟩ := comeN_k (7 - s.1.1).toNat s k
      refine ⟨k2, ?_⟩
      show (7 - s.1.1, comeN (7 - s.1.1).toNat (setK s.1 k, s.2)) = _
      rw [e]
    · have d' : ¬ 7 - (setK s.1 k).1 < x1.toInt := d
      rw [if_pos c, if_pos c, if_neg d, if_neg d']
      obtain ⟨k2, e⟩ := comeN_k x1.toInt.toNat s k
      refine ⟨k2, ?_⟩
      rw [e]
  · rw [if_neg c, if_neg c]
    exact ⟨k, rfl⟩
def STK (r r2 : Sum Int (Tw × Q3)) : Prop := (∃ p, r = .inl p ∧ r2 = .inl p) ∨ (∃ w k q, r = .inr (w, q) ∧ r2 = .inr (setK w k, q))
def RDK (r r2 : Rd) : Prop := (∃ p, r = .inl p ∧ r2 = .inl p) ∨ (∃ w k c, r = .inr (w, c) ∧ r2 = .inr (setK w k, c))
theorem stPerson_k (T : Nat → Int32) (n : Int) (w : Tw) (k : Nat → Nat → Int32) (q : Q3) : STK (stPerson T n w q) (stPerson T n (setK w k) q) := by
  unfold stPerson
  by_cases c : 7 ≤ w.1
  · rw [if_pos c, if_pos (show 7 ≤ (setK w k).1 from c)]
    exact Or.inl ⟨_, rfl, rfl⟩
  · rw [if_neg c, if_neg (show ¬ 7 ≤ (setK w k).1 from c)]
    cases nm T n (adv T n q.2.2) 0 23 (fun _ => true) with
    | inl p => exact Or.inl ⟨p, rfl, rfl⟩
    | inr a =>
      dsimp only
      cases nm T n a.2 0 9 (fun _ => true) with
      | inl p => exact Or.inl ⟨p, rfl, rfl⟩
      | inr b => exact Or.inr ⟨_, _, _, rfl, rfl⟩
theorem stPair_k (T : Nat → Int32) (n : Int) (w : Tw) (k : Nat → Nat → Int32) (q : Q3) (kn : Bool) : STK (stPair T n w q kn) (stPair T n (setK w k) q kn) := by
  have e : (setK w k).1 = w.1 := rfl
  unfold stPair
  rw [e]
  cases nm T n (adv T n q.2.2) 0 (w.1 - 1) (fun _ => true) with
  | inl p => exact Or.inl ⟨p, rfl, rfl⟩
  | inr a =>
    dsimp only
    cases nm T n a.2 0 (w.1 - 1) (fun x => decide (¬ x = a.1)) with
    | inl p => exact Or.inl ⟨p, rfl, rfl⟩
    | inr b =>
      dsimp only
      by_cases c : kn = true ∧ WD T b.2.1 b.2.2.1 b.2.2.2 2
      · rw [if_pos c, if_pos c]
        unfold stSince
        cases nm T n (adv T n b.2.2.2) 0 99 (fun _ => true) with
        | inl p => exact Or.inl ⟨p, rfl, rfl⟩
        | inr d => exact Or.inr ⟨_, _, _, rfl, rfl⟩
      · rw [if_neg c, if_neg c]
        exact Or.inr ⟨_, _, _, rfl, rfl⟩
theorem stSeats_k (T : Nat → Int32) (n : Int) (w : Tw) (k : Nat → Nat → Int32) (q : Q3) : STK (stSeats T n w q) (stSeats T n (setK w k) q) := by
  unfold stSeats
  cases nm T n (adv T n q.2.2) 2 4 (fun _ => true) with
  | inl p => exact Or.inl ⟨p, rfl, rfl⟩
  | inr a => exact Or.inr ⟨_, _, _, rfl, rfl⟩
theorem stMemory_k (T : Nat → Int32) (n : Int) (w : Tw) (k : Nat → Nat → Int32) (q : Q3) : STK (stMemory T n w q) (stMemory T n (setK w k) q) := by
  unfold stMemory
  cases nm T n (adv T n q.2.2) 0 99 (fun _ => true) with
  | inl p => exact Or.inl ⟨p, rfl, rfl⟩
  | inr a => exact Or.inr ⟨_, _, _, rfl, rfl⟩
theorem stMet_k (T : Nat → Int32) (n : Int) (w : Tw) (k : Nat → Nat → Int32) (q : Q3) : STK (stMet T n w q) (stMet T n (setK w k) q) := by
  have e : (setK w k).1 = w.1 := rfl
  unfold stMet
  rw [e]
  cases nm T n (adv T n q.2.2) 0 (w.1 - 1) (fun _ => true) with
  | inl p => exact Or.inl ⟨p, rfl, rfl⟩
  | inr a =>
    dsimp only
    cases metR T n w.1 7 ((1 : Int32) <<< (Int32.ofInt a.1 &&& 31)) a.2 with
    | inl p => exact Or.inl ⟨p, rfl, rfl⟩
    | inr b => exact Or.inr ⟨_, _, _, rfl, rfl⟩
theorem st_k (T : Nat → Int32) (n : Int) (w : Tw) (k : Nat → Nat → Int32) (q : Q3) : STK (st T n w q) (st T n (setK w k) q) := by
  unfold st
  by_cases c0 : WD T q.1 q.2.1 q.2.2 0
  · rw [if_pos c0, if_pos c0]
    exact stPerson_k T n w k q
  · rw [if_neg c0, if_neg c0]
    by_cases c1 : WD T q.1 q.2.1 q.2.2 1
    · rw [if_pos c1, if_pos c1]
      exact stPair_k T n w k q true
    · rw [if_neg c1, if_neg c1]
      by_cases c3 : WD T q.1 q.2.1 q.2.2 3
      · rw [if_pos c3, if_pos c3]
        exact stPair_k T n w k q false
      · rw [if_neg c3, if_neg c3]
        by_cases c4 : WD T q.1 q.2.1 q.2.2 4
        · rw [if_pos c4, if_pos c4]
          exact stSeats_k T n w k q
        · rw [if_neg c4, if_neg c4]
          by_cases c5 : WD T q.1 q.2.1 q.2.2 5
          · rw [if_pos c5, if_pos c5]
            exact stMemory_k T n w k q
          · rw [if_neg c5, if_neg c5]
            by_cases c6 : WD T q.1 q.2.1 q.2.2 6
            · rw [if_pos c6, if_pos c6]
              exact stMet_k T n w k q
            · rw [if_neg c6, if_neg c6]
              exact Or.inl ⟨_, rfl, rfl⟩
theorem rd_k (T : Nat → Int32) (n : Int) : ∀ (f : Nat) (w : Tw) (k : Nat → Nat → Int32) (q : Q3) (c : Int), RDK (rd T n f w q c) (rd T n f (setK w k) q c)
  | 0, w, k, q, c => Or.inl ⟨_, rfl, rfl⟩
  | f + 1, w, k, q, c => by
    rcases st_k T n w k q with ⟨p, e1, e2⟩ | ⟨w2, k2, q2, e1, e2⟩
    · rw [rd_e e1, rd_e e2]
      exact Or.inl ⟨p, rfl, rfl⟩
    · rw [rd_y e1, rd_y e2]
      by_cases c0 : q2.1 = 0
      · rw [rdB_0 c0, rdB_0 c0]
        exact Or.inr ⟨_, _, _, rfl, rfl⟩
      · by_cases c3 : q2.1 = 3
        · rw [rdB_3 c3, rdB_3 c3]
          exact rd_k T n f w2 k2 (adv T n q2.2.2) (c + 1)
        · rw [rdB_x c0 c3, rdB_x c0 c3]
          exact Or.inl ⟨_, rfl, rfl⟩
