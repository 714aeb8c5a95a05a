/-! the model's day -/
/-- what stays all day: people, seats, strangers, costs, hours, the order of coming -/
def GS (I : jdI) (t N st : Nat) (rel : Nat → Nat → Bool) (c hr : Nat → Int32) (C : List Nat) : Prop := GM I t N st rel ∧ (∀ p, p < N → I (t + 19) p = c p) ∧ (∀ p, p < N → I (t + 18) p = hr p) ∧ LiS I (t + 31) (C.map Int32.ofNat)
theorem GS_fr {I I2 : jdI} {t N st : Nat} {rel : Nat → Nat → Bool} {c hr : Nat → Int32} {C : List Nat} {p : Nat → Nat → Prop} (h : GS I t N st rel c hr C) (hN : N ≤ 8) (hF : Fr p I I2) (hp : ∀ a k, p a k → (a = t ∧ (k = 30 ∨ k = 33 ∨ k = 34)) ∨ (t + 30 ≤ a ∧ a ≤ t + 33 ∧ ¬ a = t + 31)) : GS I2 t N st rel c hr C :=
  ⟨GM_fr h.1 hN hF (fun q => by have := hp _ _ q; omega) (fun q => by have := hp _ _ q; omega) (fun a k h1 h2 q => by have := hp _ _ q; omega), fun i hi => by rw [hF (t + 19) i (fun q => by have := hp _ _ q; omega)]; exact h.2.1 i hi, fun i hi => by rw [hF (t + 18) i (fun q => by have := hp _ _ q; omega)]; exact h.2.2.1 i hi, LiS_fr h.2.2.2 hF (fun k q => by have := hp _ _ q; omega)⟩
def DMd (I : jdI) (t : Nat) (S : List (Int32 × Int32)) : Prop := (I t 33).toInt = (S.length : Int) ∧ LiS I (t + 32) (S.map Prod.fst)
theorem DMd_fr {I I2 : jdI} {t : Nat} {S : List (Int32 × Int32)} {p : Nat → Nat → Prop} (h : DMd I t S) (hF : Fr p I I2) (h1 : ¬ p t 33) (h2 : ∀ k, ¬ p (t + 32) k) : DMd I2 t S := ⟨by rw [hF t 33 h1]; exact h.1, LiS_fr h.2 hF h2⟩
/-- what one has waited behind these coaches, x before -/
def wtv (c hr : Nat → Int32) (p : Nat) : List (Int32 × Int32) → Int32 → Int32
  | [], x => x
  | a :: S, x => wtv c hr p S (if bt a.1 p = true then c p * (a.2 - hr p) else x)
theorem wtv_app (c hr : Nat → Int32) (p : Nat) (g h : Int32) : ∀ (S : List (Int32 × Int32)) (x : Int32), wtv c hr p (S ++ [(g, h)]) x = if bt g p = true then c p * (h - hr p) else wtv c hr p S x
  | [], _ => rfl
  | _ :: S, _ => wtv_app c hr p g h S _
def WTD (X : Nat → Int32) (I : jdI) (t N : Nat) (c hr : Nat → Int32) (S : List (Int32 × Int32)) : Prop := ∀ p, p < N → I (t + 33) p = wtv c hr p S (X p)
theorem WTD_fr {X : Nat → Int32} {I I2 : jdI} {t N : Nat} {c hr : Nat → Int32} {S : List (Int32 × Int32)} {p : Nat → Nat → Prop} (h : WTD X I t N c hr S) (hF : Fr p I I2) (h1 : ∀ k, ¬ p (t + 33) k) : WTD X I2 t N c hr S := fun q hq => by
  rw [hF (t + 33) q (h1 q)]
  exact h q hq
/-- the row b has been written ahead of x -/
def RW (I0 I : jdI) (b : Nat) (F : Nat → Int32) (x : Int) : Prop := (∀ p : Nat, (p : Int) < x → I b p = F p) ∧ ∀ p : Nat, x ≤ (p : Int) → I b p = I0 b p
theorem RW_s {I0 I : jdI} {b : Nat} {F : Nat → Int32} {x v : Int32} (h : RW I0 I b F x.toInt) (h0 : 0 ≤ x.toInt) (e : (x + 1).toInt = x.toInt + 1) (hv : v = F x.toInt.toNat) : RW I0 (uI I b (Int32.toNatClampNeg x) v) b F (x + 1).toInt := by
  have n1 := tn_eq x
  refine ⟨fun p hp => ?_, fun p hp => ?_⟩
  · rw [uI_ap]
    by_cases c : p = Int32.toNatClampNeg x
    · rw [if_pos ⟨rfl, c⟩, hv, c]
      rfl
    · rw [if_neg (fun z => c z.2)]
      exact h.1 p (by omega)
  · rw [uI_ap, if_neg (by omega)]
    exact h.2 p (by omega)
theorem pX12_goesBy_195 {G : jdG} {n rc rs : Nat} {Z : jdL} {J : jdJ} {K : jdI → jdJ → Prop} {I0 : jdI} {t N : Nat} {c hr F : Nat → Int32} {x1 x2 x3 : Int32} (ht : zModel Z t) (hN : N ≤ 7) (h10 : (I0 t 10).toInt = (N : Int)) (hcs : ∀ p, p < N → I0 (t + 19) p = c p) (hh : ∀ p, p < N → I0 (t + 18) p = hr p) (hF0 : ∀ p, F p = if bt x3 p = true then c p * (24 - hr p) else I0 (t + 33) p) (hE : ∀ I2, WM 7 t I2 → Fr (fun a _ => a = t + 33) I0 I2 → (∀ p, p < N → I2 (t + 33) p = F p) → K I2 J) : ∀ f : Nat, ∀ (I : jdI) (x4 : Int32), WM 7 t I → Fr (fun a _ => a = t + 33) I0 I → RW I0 I (t + 33) F x4.toInt → 0 ≤ x4.toInt → x4.toInt + (f : Int) = (N : Int) → Jd G mX12_goesBy (jdFm G (qv Z K)) (n + 1) rc rs 195 [(0, .ref (gb G + t)), (1, .int x1), (2, .int x2), (3, .int x3), (4, .int x4)] [] Z I J := by
  intro f
  induction f with
  | zero =>
    intro I x4 hW hF hR h4 hf
    have e10 : (I t 10).toInt = (N : Int) := by rw [hF t 10 (by omega)]; exact h10
    exact rX12_goesBy_195 ht ⟨fun _ => hE I hW hF (fun p hp => hR.1 p (by omega)), fun hx => absurd (Int32.le_iff_toInt_le.mpr (by omega)) hx⟩
  | succ f ih =>
    intro I x4 hW hF hR h4 hf
    have e10 : (I t 10).toInt = (N : Int) := by rw [hF t 10 (by omega)]; exact h10
    have q1 : (1 : Int32).toInt = 1 := rfl
    have q0 : (0 : Int32).toInt = 0 := rfl
    have e4 := i32_add x4 1 (by omega) (by omega)
    have n4 := tn_eq x4
    have hw := WM_f hW
    have b4 := bt_iff x3 (x := x4) h4
    refine rX12_goesBy_195 ht ⟨fun hx => by have := Int32.le_iff_toInt_le.mp hx; omega, fun _ => ?_⟩
    refine sfX12_has trivial (fun v p => ⟨fun hv => ⟨vp_of (by omega) (by omega), vp_of (by omega) (by omega), ?_⟩, fun hv => ⟨vp_of (by omega) (by omega), vp_of (by omega) (by omega), vp_of (by omega) (by omega), ?_⟩⟩)
    · have hv := i0 hv
      have hb : ¬ bt x3 x4.toInt.toNat = true := fun z => b4.mp z (Int32.toInt_inj.mp (show _ = (0 : Int32).toInt by omega))
      refine ih _ (x4 + 1) (WM_uI hW (by first | exact okMo (by decide) (by decide) (by decide) (by decide) (by decide) | exact okMf (by decide) (by decide) (by decide) (by decide) (by decide) (by decide) (by decide) (by decide) | exact okM30 (by omega) | exact okM42 (by omega) | exact okM33 (by omega) | exact okM10 (by omega) | exact okM8 (by omega) | exact okM22 (by omega) | exact okM24 (by omega) | exact okM14 (by omega) | exact okMa31 (by omega) | exact okMa35 (by omega) | exact okMa36 (by omega) | exact okMa3 (by omega) | exact okMr (by omega) | (unfold okM; refine ⟨?_, ?_, ?_, ?_, ?_, ?_, ?_, ?_, ?_, ?_, ?_, ?_⟩ <;> intro h <;> omega))) (Fr_uI hF rfl) (RW_s hR h4 e4 ?_) (by omega) (by omega)
      rw [hF0, if_neg hb]
      exact hR.2 _ (by omega)
    · have hv := i1 hv
      have hb : bt x3 x4.toInt.toNat = true := b4.mpr (fun q => by rw [q] at p; omega)
      refine ih _ (x4 + 1) (WM_uI hW (by first | exact okMo (by decide) (by decide) (by decide) (by decide) (by decide) | exact okMf (by decide) (by decide) (by decide) (by decide) (by decide) (by decide) (by decide) (by decide) | exact okM30 (by omega) | exact okM42 (by omega) | exact okM33 (by omega) | exact okM10 (by omega) | exact okM8 (by omega) | exact okM22 (by omega) | exact okM24 (by omega) | exact okM14 (by omega) | exact okMa31 (by omega) | exact okMa35 (by omega) | exact okMa36 (by omega) | exact okMa3 (by omega) | exact okMr (by omega) | (unfold okM; refine ⟨?_, ?_, ?_, ?_, ?_, ?_, ?_, ?_, ?_, ?_, ?_, ?_⟩ <;> intro h <;> omega))) (Fr_uI hF rfl) (RW_s hR h4 e4 ?_) (by omega) (by omega)
      rw [hF0, if_pos hb, hF (t + 19) _ (by omega), hF (t + 18) _ (by omega), n4, hcs _ (by omega), hh _ (by omega)]
theorem pX12_goesBy_100 {G : jdG} {n rc rs : Nat} {Z : jdL} {J : jdJ} {K : jdI → jdJ → Prop} {I0 : jdI} {t N : Nat} {c hr F : Nat → Int32} {x1 x2 x3 x4 x5 x6 : Int32} (ht : zModel Z t) (hN : N ≤ 7) (h10 : (I0 t 10).toInt = (N : Int)) (hcs : ∀ p, p < N → I0 (t + 19) p = c p) (hh : ∀ p, p < N → I0 (t + 18) p = hr p) (hF0 : ∀ p, F p = if bt x6 p = true then c p * (x5 - hr p) else I0 (t + 33) p) (hE : ∀ I2, WM 7 t I2 → Fr (fun a _ => a = t + 33) I0 I2 → (∀ p, p < N → I2 (t + 33) p = F p) → Cl G mX12_sentBy n 0 0 [.ref (gb G + t), .int x1, .int x2, .int x3, .int (((I2 t 10) - 1) - x4)] Z I2 J (qi Z (fun v2 I1 J1 => Jd G mX12_goesBy (jdFm G (qv Z K)) (n + 1) rc rs 67 [(0, .ref (gb G + t)), (1, .int x1), (2, .int x2), (3, .int x3), (4, .int x4), (5, .int x5), (6, .int v2)] [] Z I1 J1))) : ∀ f : Nat, ∀ (I : jdI) (x7 : Int32), WM 7 t I → Fr (fun a _ => a = t + 33) I0 I → RW I0 I (t + 33) F x7.toInt → 0 ≤ x7.toInt → x7.toInt + (f : Int) = (N : Int) → Jd G mX12_goesBy (jdFm G (qv Z K)) (n + 1) rc rs 100 [(0, .ref (gb G + t)), (1, .int x1), (2, .int x2), (3, .int x3), (4, .int x4), (5, .int x5), (6, .int x6), (7, .int x7)] [] Z I J := by
  intro f
  induction f with
  | zero =>
    intro I x7 hW hF hR h7 hf
    have e10 : (I t 10).toInt = (N : Int) := by rw [hF t 10 (by omega)]; exact h10
    exact rX12_goesBy_100 ht ⟨fun _ => hE I hW hF (fun p hp => hR.1 p (by omega)), fun hx => absurd (Int32.le_iff_toInt_le.mpr (by omega)) hx⟩
  | succ f ih =>
    intro I x7 hW hF hR h7 hf
    have e10 : (I t 10).toInt = (N : Int) := by rw [hF t 10 (by omega)]; exact h10
    have q1 : (1 : Int32).toInt = 1 := rfl
    have q0 : (0 : Int32).toInt = 0 := rfl
    have e7 := i32_add x7 1 (by omega) (by omega)
    have n7 := tn_eq x7
    have hw := WM_f hW
    have b7 := bt_iff x6 (x := x7) h7
    refine rX12_goesBy_100 ht ⟨fun hx => by have := Int32.le_iff_toInt_le.mp hx; omega, fun _ => ?_⟩
    refine sfX12_has trivial (fun v p => ⟨fun hv => ⟨vp_of (by omega) (by omega), vp_of (by omega) (by omega), ?_⟩, fun hv => ⟨vp_of (by omega) (by omega), vp_of (by omega) (by omega), vp_of (by omega) (by omega), ?_⟩⟩)
    · have hv := i0 hv
      have hb : ¬ bt x6 x7.toInt.toNat = true := fun z => b7.mp z (Int32.toInt_inj.mp (show _ = (0 : Int32).toInt by omega))
      refine ih _ (x7 + 1) (WM_uI hW (by first | exact okMo (by decide) (by decide) (by decide) (by decide) (by decide) | exact okMf (by decide) (by decide) (by decide) (by decide) (by decide) (by decide) (by decide) (by decide) | exact okM30 (by omega) | exact okM42 (by omega) | exact okM33 (by omega) | exact okM10 (by omega) | exact okM8 (by omega) | exact okM22 (by omega) | exact okM24 (by omega) | exact okM14 (by omega) | exact okMa31 (by omega) | exact okMa35 (by omega) | exact okMa36 (by omega) | exact okMa3 (by omega) | exact okMr (by omega) | (unfold okM; refine ⟨?_, ?_, ?_, ?_, ?_, ?_, ?_, ?_, ?_, ?_, ?_, ?_⟩ <;> intro h <;> omega))) (Fr_uI hF rfl) (RW_s hR h7 e7 ?_) (by omega) (by omega)
      rw [hF0, if_neg hb]
      exact hR.2 _ (by omega)
    · have hv := i1 hv
      have hb : bt x6 x7.toInt.toNat = true := b7.mpr (fun q => by rw [q] at p; omega)
      refine ih _ (x7 + 1) (WM_uI hW (by first | exact okMo (by decide) (by decide) (by decide) (by decide) (by decide) | exact okMf (by decide) (by decide) (by decide) (by decide) (by decide) (by decide) (by decide) (by decide) | exact okM30 (by omega) | exact okM42 (by omega) | exact okM33 (by omega) | exact okM10 (by omega) | exact okM8 (by omega) | exact okM22 (by omega) | exact okM24 (by omega) | exact okM14 (by omega) | exact okMa31 (by omega) | exact okMa35 (by omega) | exact okMa36 (by omega) | exact okMa3 (by omega) | exact okMr (by omega) | (unfold okM; refine ⟨?_, ?_, ?_, ?_, ?_, ?_, ?_, ?_, ?_, ?_, ?_, ?_⟩ <;> intro h <;> omega))) (Fr_uI hF rfl) (RW_s hR h7 e7 ?_) (by omega) (by omega)
      rw [hF0, if_pos hb, hF (t + 19) _ (by omega), hF (t + 18) _ (by omega), n7, hcs _ (by omega), hh _ (by omega)]
theorem pX12_goesBy_67 {G : jdG} {n rc rs : Nat} {Z : jdL} {J : jdJ} {K : jdI → jdJ → Prop} {I0 : jdI} {t N st k : Nat} {rel : Nat → Nat → Bool} {c hr X : Nat → Int32} {C : List Nat} {x1 x2 x4 x5 : Int32} {T : List (Int32 × Int32)} {Y : Int32} (ht : zModel Z t) (hN : N ≤ 7) (hst : 0 < st ∧ st ≤ 4) (h4 : x4.toInt = (k : Int)) (hk : k < N)
    (hO : ∀ I2, WM 7 t I2 → Fr (fun a k => (a = t ∧ (k = 30 ∨ k = 33 ∨ k = 34)) ∨ (t + 30 ≤ a ∧ a ≤ t + 33 ∧ ¬ a = t + 31)) I0 I2 → GS I2 t N st rel c hr C → DMd I2 t T → WTD X I2 t N c hr T → Jd G mX12_goesBy (jdFm G (qv Z K)) (n + 259) rc rs 14 [(0, .ref (gb G + t)), (1, .int x1), (2, .int x2), (3, .int Y), (4, .int (x4 + 1))] [] Z I2 J) : ∀ j : Nat, ∀ (I : jdI) (y x6 : Int32) (S : List (Int32 × Int32)), WM 7 t I → Fr (fun a k => (a = t ∧ (k = 30 ∨ k = 33 ∨ k = 34)) ∨ (t + 30 ≤ a ∧ a ≤ t + 33 ∧ ¬ a = t + 31)) I0 I → GS I t N st rel c hr C → DMd I t S → WTD X I t N c hr S → 0 ≤ y.toInt → y.toInt ≤ 255 → cd y < j + 1 → S.length + cd y ≤ 7 → x6 = rule N rel c (DL rel N 0 st 0) x1.toInt x2 ((N : Int) - 1 - (k : Int)) y → S ++ ta (sa (rule N rel c (DL rel N 0 st 0) x1.toInt x2 ((N : Int) - 1 - (k : Int))) (j + 1) y).1 x5 = T → (sa (rule N rel c (DL rel N 0 st 0) x1.toInt x2 ((N : Int) - 1 - (k : Int))) (j + 1) y).2 = Y → Jd G mX12_goesBy (jdFm G (qv Z K)) (n + 259) rc rs 67 [(0, .ref (gb G + t)), (1, .int x1), (2, .int x2), (3, .int y), (4, .int x4), (5, .int x5), (6, .int x6)] [] Z I J := by
  have hG := GG_DL rel (N := N) (st := st) (by omega) hst.1
  generalize hL : DL rel N 0 st 0 = L at hG ⊢
  have hPK : PK L (rule N rel c L x1.toInt x2 ((N : Int) - 1 - (k : Int))) := fun y => pk_m N rel c L _ _ y _
  generalize hf : rule N rel c L x1.toInt x2 ((N : Int) - 1 - (k : Int)) = f at hPK ⊢
  intro j
  induction j with
  | zero =>
    intro I y x6 S hW hF hS hD hX h0 h1 hcd hsc h6 hT hY
    have y0 := cd_0 h0 h1 (by omega)
    have e0 : f y = 0 := by rw [y0]; exact pk_e hG hPK
    rw [sa_0 e0] at hT hY
    have hT : S ++ [] = T := hT
    have hY : y = Y := hY
    rw [List.append_nil] at hT
    rw [hT] at hD hX
    rw [hY]
    exact rX12_goesBy_67 ht ⟨fun _ => hO I hW hF hS hD hX, fun hx => absurd (h6.trans e0) hx⟩
  | succ j ih =>
    intro I y x6 S hW hF hS hD hX h0 h1 hcd hsc h6 hT hY
    have q1 : (1 : Int32).toInt = 1 := rfl
    have e10 := hS.1.1
    refine rX12_goesBy_67 ht ⟨fun hx => ?_, fun hx => ?_⟩
    · rw [sa_0 (h6.symm.trans hx)] at hT hY
      have hT : S ++ [] = T := hT
      have hY : y = Y := hY
      rw [List.append_nil] at hT
      rw [hT] at hD hX
      rw [hY]
      exact hO I hW hF hS hD hX
    · have hv : ¬ f y = 0 := fun z => hx (h6.trans z)
      have hm := (hPK y).elim (fun z => absurd z hv) id
      have r := dl_r (g := f y) h0
      have gg := hG _ hm.1
      have l := cd_dl hm.2 gg.1 gg.2
      have hw := WM_f hW
      obtain ⟨d1, d2⟩ := hD
      have n1 := tn_eq (I t 33)
      have e1 := i32_add (I t 33) 1 (by omega) (by omega)
      rw [sa_s hv] at hT hY
      refine ⟨vp_of (by omega) (by omega), ?_⟩
      rw [h6, xo_m1]
      show Jd G mX12_goesBy (jdFm G (qv Z K)) (n + 259) rc rs 100 [(0, .ref (gb G + t)), (1, .int x1), (2, .int x2), (3, .int (dl y (f y))), (4, .int x4), (5, .int x5), (6, .int (f y)), (7, .int 0)] [] Z (uI (uI I t 33 ((I t 33) + 1)) (t + 32) (Int32.toNatClampNeg (I t 33)) (f y)) J
      have w1 : WM 7 t (uI I t 33 ((I t 33) + 1)) := WM_uI hW (by first | exact okMo (by decide) (by decide) (by decide) (by decide) (by decide) | exact okMf (by decide) (by decide) (by decide) (by decide) (by decide) (by decide) (by decide) (by decide) | exact okM30 (by omega) | exact okM42 (by omega) | exact okM33 (by omega) | exact okM10 (by omega) | exact okM8 (by omega) | exact okM22 (by omega) | exact okM24 (by omega) | exact okM14 (by omega) | exact okMa31 (by omega) | exact okMa35 (by omega) | exact okMa36 (by omega) | exact okMa3 (by omega) | exact okMr (by omega) | (unfold okM; refine ⟨?_, ?_, ?_, ?_, ?_, ?_, ?_, ?_, ?_, ?_, ?_, ?_⟩ <;> intro h <;> omega))
      have w2 : WM 7 t (uI (uI I t 33 ((I t 33) + 1)) (t + 32) (Int32.toNatClampNeg (I t 33)) (f y)) := WM_uI w1 (by first | exact okMo (by decide) (by decide) (by decide) (by decide) (by decide) | exact okMf (by decide) (by decide) (by decide) (by decide) (by decide) (by decide) (by decide) (by decide) | exact okM30 (by omega) | exact okM42 (by omega) | exact okM33 (by omega) | exact okM10 (by omega) | exact okM8 (by omega) | exact okM22 (by omega) | exact okM24 (by omega) | exact okM14 (by omega) | exact okMa31 (by omega) | exact okMa35 (by omega) | exact okMa36 (by omega) | exact okMa3 (by omega) | exact okMr (by omega) | (unfold okM; refine ⟨?_, ?_, ?_, ?_, ?_, ?_, ?_, ?_, ?_, ?_, ?_, ?_⟩ <;> intro h <;> omega))
      have f2 : Fr (fun a k => (a = t ∧ k = 33) ∨ a = t + 32) I (uI (uI I t 33 ((I t 33) + 1)) (t + 32) (Int32.toNatClampNeg (I t 33)) (f y)) := Fr_uI (Fr_uI Fr.rf (by omega)) (by omega)
      have hlen : (S ++ [(f y, x5)]).length = S.length + 1 := by rw [List.length_append]; rfl
      have hD2 : DMd (uI (uI I t 33 ((I t 33) + 1)) (t + 32) (Int32.toNatClampNeg (I t 33)) (f y)) t (S ++ [(f y, x5)]) := by
        refine ⟨?_, ?_⟩
        · rw [uI_ap, if_neg (by omega), uI_ap, if_pos ⟨rfl, rfl⟩, hlen]
          omega
        · rw [List.map_append]
          exact LiS_push (I := uI I t 33 ((I t 33) + 1)) (b := t + 32) (x := f y) (fun k hk => by rw [uI_n _ _ _ (by omega)]; exact d2 k hk) (show Int32.toNatClampNeg (I t 33) = (S.map Prod.fst).length by rw [List.length_map]; omega)
      have hS2 := GS_fr hS (by omega) f2 (by intro a k h; omega)
      have hX2 := WTD_fr hX f2 (by intro k; omega)
      generalize (uI (uI I t 33 ((I t 33) + 1)) (t + 32) (Int32.toNatClampNeg (I t 33)) (f y)) = I1 at w2 f2 hD2 hS2 hX2 ⊢
      refine pX12_goesBy_100 (F := fun p => if bt (f y) p = true then c p * (x5 - hr p) else I1 (t + 33) p) ht hN hS2.1.1 hS2.2.1 hS2.2.2.1 (fun p => rfl) (fun I2 hW2 hF2 hR2 => ?_) N I1 0 w2 Fr.rf ⟨fun p hp => by have : (p : Int) < 0 := hp; omega, fun p _ => rfl⟩ (by decide) (by show (0 : Int) + _ = _; omega)
      have hS3 := GS_fr hS2 (by omega) hF2 (by intro a k h; omega)
      have g10 := hS3.1.1
      have s1 := i32_sub (I2 t 10) 1 (by omega) (by omega)
      have s2 := i32_sub ((I2 t 10) - 1) x4 (by omega) (by omega)
      have hX3 : WTD X I2 t N c hr (S ++ [(f y, x5)]) := fun p hp => by
        rw [hR2 p hp, wtv_app, ← hX2 p hp]
      refine pX12_sentBy ht hW2 hS3.1 (by omega) hst hS3.2.1 r.1 (by omega) (fun I3 hW3 hF3 => ?_)
      have hS4 := GS_fr hS3 (by omega) hF3 (by intro a k h; omega)
      have hD4 := DMd_fr (DMd_fr hD2 hF2 (by omega) (by intro k; omega)) hF3 (by omega) (by intro k; omega)
      have hX4 := WTD_fr hX3 hF3 (by intro k; omega)
      rw [hL, show (((I2 t 10) - 1) - x4).toInt = (N : Int) - 1 - (k : Int) by omega]
      refine ih I3 (dl y (f y)) _ (S ++ [(f y, x5)]) hW3 (Fr.tr (Fr.tr (Fr.tr hF f2 (by intro a k h; omega)) hF2 (by intro a k h; omega)) hF3 (by intro a k h; omega)) hS4 hD4 hX4 r.1 (by omega) (by omega) (by rw [hlen]; omega) (by rw [← hf]; rfl) ?_ hY
      rw [List.append_assoc]
      exact hT
theorem cdN_le (y : Int32) : ∀ k, cdN y k ≤ k
  | 0 => Nat.le_refl _
  | k + 1 => by
    have h := cdN_le y k
    show cdN y k + (if bt y k = true then 1 else 0) ≤ k + 1
    split <;> omega
theorem cd_8 (y : Int32) : cd y ≤ 8 := cdN_le y 8
theorem cof_mem (hr : Nat → Int32) (h : Int32) : ∀ k p q, q ∈ cof hr h k p → q < p + k
  | 0, p, q, hq => by cases hq
  | k + 1, p, q, hq => by
    have hq : q ∈ (if hr p = h then p :: cof hr h k (p + 1) else cof hr h k (p + 1)) := hq
    by_cases c : hr p = h
    · rw [if_pos c] at hq
      rcases List.mem_cons.mp hq with e | e
      · omega
      · have := cof_mem hr h k (p + 1) q e
        omega
    · rw [if_neg c] at hq
      have := cof_mem hr h k (p + 1) q hq
      omega
theorem coA_mem (hr : Nat → Int32) (n : Nat) : ∀ k h q, q ∈ coA hr n k h → q < n
  | 0, h, q, hq => by cases hq
  | k + 1, h, q, hq => by
    have hq : q ∈ cof hr (Int32.ofNat h) n 0 ++ coA hr n k (h + 1) := hq
    rcases List.mem_append.mp hq with e | e
    · have := cof_mem hr (Int32.ofNat h) n 0 q e
      omega
    · exact coA_mem hr n k (h + 1) q e
theorem pX12_goesBy_14 {G : jdG} {n rc rs : Nat} {Z : jdL} {J : jdJ} {K : jdI → jdJ → Prop} {I0 : jdI} {t N st : Nat} {rel : Nat → Nat → Bool} {c hr X : Nat → Int32} {C : List Nat} {x1 x2 : Int32} {R : List (Int32 × Int32)} {Y : Int32} (ht : zModel Z t) (hN : N ≤ 7) (hst : 0 < st ∧ st ≤ 4) (hC : C.length = N) (hCm : ∀ q ∈ C, q < N) (hK : ∀ I2, WM 7 t I2 → Fr (fun a k => (a = t ∧ (k = 30 ∨ k = 33 ∨ k = 34)) ∨ (t + 30 ≤ a ∧ a ≤ t + 33 ∧ ¬ a = t + 31)) I0 I2 → GS I2 t N st rel c hr C → DMd I2 t R → I2 t 34 = Y → (∀ p, p < N → I2 (t + 33) p = if bt Y p = true then c p * (24 - hr p) else wtv c hr p R (X p)) → K I2 J) : ∀ f : Nat, ∀ (I : jdI) (x4 y : Int32) (k : Nat) (S : List (Int32 × Int32)), WM 7 t I → Fr (fun a k => (a = t ∧ (k = 30 ∨ k = 33 ∨ k = 34)) ∨ (t + 30 ≤ a ∧ a ≤ t + 33 ∧ ¬ a = t + 31)) I0 I → GS I t N st rel c hr C → DMd I t S → WTD X I t N c hr S → 0 ≤ y.toInt → y.toInt < 2 ^ N → x4.toInt = (k : Int) → k + f = N → S.length + cd y + f ≤ 7 → dy (rule N rel c (DL rel N 0 st 0) x1.toInt x2) hr (C.drop k) ((N : Int) - (k : Int)) S y = (R, Y) → Jd G mX12_goesBy (jdFm G (qv Z K)) (n + 259) rc rs 14 [(0, .ref (gb G + t)), (1, .int x1), (2, .int x2), (3, .int y), (4, .int x4)] [] Z I J := by
  have hp2 := pw2 ⟨N, by omega⟩
  have hp2 : 1 ≤ (2 : Int) ^ N ∧ (2 : Int) ^ N ≤ 256 := hp2
  intro f
  induction f with
  | zero =>
    intro I x4 y k S hW hF hS hD hX h0 h1 h4 hk hsc hr2
    have e10 := hS.1.1
    have hw := WM_f hW
    rw [List.drop_eq_nil_of_le (show C.length ≤ k by omega)] at hr2
    have hr2 : (S, y) = (R, Y) := hr2
    injection hr2 with b1 b2
    refine rX12_goesBy_14 ht ⟨fun _ => ?_, fun hx => absurd (Int32.le_iff_toInt_le.mpr (by omega)) hx⟩
    have f0 : Fr (fun a k => a = t ∧ k = 34) I (uI I t 34 y) := Fr_uI Fr.rf ⟨rfl, rfl⟩
    have hS2 := GS_fr hS (by omega) f0 (by intro a k h; omega)
    have hD2 := DMd_fr hD f0 (by omega) (by intro k; omega)
    have hX2 := WTD_fr hX f0 (by intro k; omega)
    have w1 : WM 7 t (uI I t 34 y) := WM_uI hW (by first | exact okMo (by decide) (by decide) (by decide) (by decide) (by decide) | exact okMf (by decide) (by decide) (by decide) (by decide) (by decide) (by decide) (by decide) (by decide) | exact okM30 (by omega) | exact okM42 (by omega) | exact okM33 (by omega) | exact okM10 (by omega) | exact okM8 (by omega) | exact okM22 (by omega) | exact okM24 (by omega) | exact okM14 (by omega) | exact okMa31 (by omega) | exact okMa35 (by omega) | exact okMa36 (by omega) | exact okMa3 (by omega) | exact okMr (by omega) | (unfold okM; refine ⟨?_, ?_, ?_, ?_, ?_, ?_, ?_, ?_, ?_, ?_, ?_, ?_⟩ <;> intro h <;> omega))
    have z34 : (uI I t 34 y) t 34 = y := by rw [uI_ap, if_pos ⟨rfl, rfl⟩]
    generalize (uI I t 34 y) = I1 at f0 hS2 hD2 hX2 w1 z34 ⊢
    refine pX12_goesBy_195 (F := fun p => if bt y p = true then c p * (24 - hr p) else I1 (t + 33) p) ht hN hS2.1.1 hS2.2.1 hS2.2.2.1 (fun p => rfl) (fun I2 hW2 hF2 hR2 => ?_) N I1 0 w1 Fr.rf ⟨fun p hp => by have : (p : Int) < 0 := hp; omega, fun p _ => rfl⟩ (by decide) (by show (0 : Int) + _ = _; omega)
    rw [← b1, ← b2] at hK
    refine hK I2 hW2 (Fr.tr (Fr.tr hF f0 (by intro a k h; omega)) hF2 (by intro a k h; omega)) (GS_fr hS2 (by omega) hF2 (by intro a k h; omega)) (DMd_fr hD2 hF2 (by omega) (by intro k; omega)) (by rw [hF2 t 34 (by omega)]; exact z34) (fun p hp => ?_)
    rw [hR2 p hp, ← hX2 p hp]
  | succ f ih =>
    intro I x4 y k S hW hF hS hD hX h0 h1 h4 hk hsc hr2
    have e10 := hS.1.1
    have hw := WM_f hW
    have q1 : (1 : Int32).toInt = 1 := rfl
    have n4 := tn_eq x4
    have hkC : k < C.length := by omega
    have e4 := i32_add x4 1 (by omega) (by omega)
    have s1 := i32_sub (I t 10) 1 (by omega) (by omega)
    have s2 := i32_sub ((I t 10) - 1) x4 (by omega) (by omega)
    have hpN := hCm _ (List.getElem_mem hkC)
    have hv : I (t + 31) (Int32.toNatClampNeg x4) = Int32.ofNat C[k] := by
      have e := hS.2.2.2 k (by rw [List.length_map]; exact hkC)
      rw [List.getElem?_map, List.getElem?_eq_getElem hkC] at e
      injection e with e
      rw [show Int32.toNatClampNeg x4 = k by omega]
      exact e.symm
    rw [List.drop_eq_getElem_cons hkC] at hr2
    generalize C[k] = p at hpN hv hr2
    have hr2 : dy (rule N rel c (DL rel N 0 st 0) x1.toInt x2) hr (C.drop (k + 1)) ((N : Int) - (k : Int) - 1) (S ++ ta (sa (rule N rel c (DL rel N 0 st 0) x1.toInt x2 ((N : Int) - (k : Int) - 1)) 8 (y ||| ((1 : Int32) <<< (Int32.ofNat p &&& 31)))).1 (hr p)) (sa (rule N rel c (DL rel N 0 st 0) x1.toInt x2 ((N : Int) - (k : Int) - 1)) 8 (y ||| ((1 : Int32) <<< (Int32.ofNat p &&& 31)))).2 = (R, Y) := hr2
    have hpi : (Int32.ofNat p).toInt = (p : Int) := ofN_i (by omega)
    have hy2 := yard_p (y := y) (x := Int32.ofNat p) (N := N) (by omega) h0 h1 (by omega) (by omega)
    have hcd := cd_or (y := y) (x := Int32.ofNat p) ⟨by omega, by omega⟩
    have eh : I (t + 18) (Int32.toNatClampNeg (Int32.ofNat p)) = hr p := by
      rw [show Int32.toNatClampNeg (Int32.ofNat p) = p by have := tn_eq (Int32.ofNat p); omega]
      exact hS.2.2.1 p hpN
    have etc : (N : Int) - (k : Int) - 1 = (N : Int) - 1 - (k : Int) := by omega
    refine rX12_goesBy_14 ht ⟨fun hx => by have := Int32.le_iff_toInt_le.mp hx; omega, fun _ => ⟨vp_of (by omega) (by omega), vp_of (by omega) (by omega), by rw [hv]; exact vp_of (by omega) (by omega), ?_⟩⟩
    rw [hv, eh]
    generalize hyy : y ||| ((1 : Int32) <<< (Int32.ofNat p &&& 31)) = yy at hr2 hy2 hcd ⊢
    refine pX12_sentBy ht hW hS.1 (by omega) hst hS.2.1 hy2.1 (by omega) (fun I4 hW4 hF4 => ?_)
    have hG := GG_DL rel (N := N) (st := st) (by omega) hst.1
    have hPK : PK (DL rel N 0 st 0) (rule N rel c (DL rel N 0 st 0) x1.toInt x2 ((N : Int) - 1 - (k : Int))) := fun y => pk_m N rel c _ _ _ y _
    have sc := sa_cd hG hPK 8 yy hy2.1 (by omega)
    rw [show (((I t 10) - 1) - x4).toInt = (N : Int) - 1 - (k : Int) by omega]
    rw [etc] at hr2
    have c8 : cd yy ≤ 8 := cd_8 yy
    refine pX12_goesBy_67 (T := S ++ ta (sa (rule N rel c (DL rel N 0 st 0) x1.toInt x2 ((N : Int) - 1 - (k : Int))) 8 yy).1 (hr p)) (Y := (sa (rule N rel c (DL rel N 0 st 0) x1.toInt x2 ((N : Int) - 1 - (k : Int))) 8 yy).2) ht hN hst h4 (by omega) (fun I2 hW2 hF2 hS2 hD2 hX2 => ?_) 7 I4 yy _ S hW4 (Fr.tr hF hF4 (by intro a k h; omega)) (GS_fr hS (by omega) hF4 (by intro a k h; omega)) (DMd_fr hD hF4 (by omega) (by intro k; omega)) (WTD_fr hX hF4 (by intro k; omega)) hy2.1 (by omega) (by omega) (by omega) rfl rfl rfl
    refine ih I2 (x4 + 1) _ (k + 1) _ hW2 hF2 hS2 hD2 hX2 sc.2.1 (by omega) (by omega) (by omega) ?_ ?_
    · rw [List.length_append]
      unfold ta
      rw [List.length_map]
      omega
    · rw [show (N : Int) - ((k + 1 : Nat) : Int) = (N : Int) - 1 - (k : Int) by omega]
      exact hr2
theorem pX12_goesBy {G : jdG} {n : Nat} {Z : jdL} {J : jdJ} {K : jdI → jdJ → Prop} {I : jdI} {t N st : Nat} {rel : Nat → Nat → Bool} {c hr : Nat → Int32} {x1 x2 : Int32} (ht : zModel Z t) (hW : WM 7 t I) (hN : N ≤ 7) (hst : 0 < st ∧ st ≤ 4) (hg : GM I t N st rel) (hcs : ∀ p, p < N → I (t + 19) p = c p) (hh : ∀ p, p < N → I (t + 18) p = hr p) (hhr : ∀ p, p < N → 0 ≤ (hr p).toInt ∧ (hr p).toInt < 24) (hK : ∀ I2, WM 7 t I2 → Fr (fun a k => (a = t ∧ (k = 30 ∨ k = 33 ∨ k = 34)) ∨ (t + 30 ≤ a ∧ a ≤ t + 33)) I I2 → DMd I2 t (dy (rule N rel c (DL rel N 0 st 0) x1.toInt x2) hr (coA hr N 24 0) (N : Int) [] 0).1 → I2 t 34 = (dy (rule N rel c (DL rel N 0 st 0) x1.toInt x2) hr (coA hr N 24 0) (N : Int) [] 0).2 → (∀ p, p < N → I2 (t + 33) p = if bt (dy (rule N rel c (DL rel N 0 st 0) x1.toInt x2) hr (coA hr N 24 0) (N : Int) [] 0).2 p = true then c p * (24 - hr p) else wtv c hr p (dy (rule N rel c (DL rel N 0 st 0) x1.toInt x2) hr (coA hr N 24 0) (N : Int) [] 0).1 (I (t + 33) p)) → K I2 J) : Cl G mX12_goesBy (n + 259) 0 0 [.ref (gb G + t), .int x1, .int x2] Z I J (qv Z K) := by
  have hl := coA_len hr N hhr
  have q0 : (0 : Int32).toInt = 0 := rfl
  have hp2 : 1 ≤ (2 : Int) ^ N := (pw2 ⟨N, by omega⟩).1
  refine eX12_goesBy ht ?_
  refine pX12_findComing ht hW hN hg.1 hh hhr (fun I1 hW1 hF1 hL1 => ?_)
  have hw1 := WM_f hW1
  have f0 : Fr (fun a k => a = t ∧ k = 33) I1 (uI I1 t 33 0) := Fr_uI Fr.rf ⟨rfl, rfl⟩
  have w1 : WM 7 t (uI I1 t 33 0) := WM_uI hW1 (by first | exact okMo (by decide) (by decide) (by decide) (by decide) (by decide) | exact okMf (by decide) (by decide) (by decide) (by decide) (by decide) (by decide) (by decide) (by decide) | exact okM30 (by omega) | exact okM42 (by omega) | exact okM33 (by omega) | exact okM10 (by omega) | exact okM8 (by omega) | exact okM22 (by omega) | exact okM24 (by omega) | exact okM14 (by omega) | exact okMa31 (by omega) | exact okMa35 (by omega) | exact okMa36 (by omega) | exact okMa3 (by omega) | exact okMr (by omega) | (unfold okM; refine ⟨?_, ?_, ?_, ?_, ?_, ?_, ?_, ?_, ?_, ?_, ?_, ?_⟩ <;> intro h <;> omega))
  have hS1 : GS I1 t N st rel c hr (coA hr N 24 0) := ⟨GM_fr hg (by omega) hF1 (by omega) (by omega) (by intro a k h1 h2; omega), fun p hp => by rw [hF1 (t + 19) p (by omega)]; exact hcs p hp, fun p hp => by rw [hF1 (t + 18) p (by omega)]; exact hh p hp, hL1⟩
  have hS2 := GS_fr hS1 (by omega) f0 (by intro a k h; omega)
  have z33 : ((uI I1 t 33 0) t 33).toInt = 0 := by rw [uI_ap, if_pos ⟨rfl, rfl⟩]; rfl
  have x33 : ∀ p, (uI I1 t 33 0) (t + 33) p = I (t + 33) p := fun p => by rw [f0 (t + 33) p (by omega), hF1 (t + 33) p (by omega)]
  generalize (uI I1 t 33 0) = I2 at f0 w1 hS2 z33 x33 ⊢
  have c0 : cd 0 = 0 := by decide
  refine pX12_goesBy_14 (X := I (t + 33)) (R := (dy (rule N rel c (DL rel N 0 st 0) x1.toInt x2) hr (coA hr N 24 0) (N : Int) [] 0).1) (Y := (dy (rule N rel c (DL rel N 0 st 0) x1.toInt x2) hr (coA hr N 24 0) (N : Int) [] 0).2) ht hN hst hl (fun q hq => coA_mem hr N 24 0 q hq) (fun I3 hW3 hF3 hS3 hD3 h34 hX3 => hK I3 hW3 (Fr.tr (Fr.tr (Fr.tr Fr.rf hF1 (by intro a k h; omega)) f0 (by intro a k h; omega)) hF3 (by intro a k h; omega)) hD3 h34 hX3) N I2 0 0 0 [] w1 Fr.rf hS2 ⟨z33, LiS_nil _ _⟩ (fun p _ => x33 p) (by decide) (by show (0 : Int) < _; omega) rfl (by omega) ?_ ?_
  · rw [c0]
    show 0 + 0 + N ≤ 7
    omega
  · rw [List.drop_zero, show (N : Int) - ((0 : Nat) : Int) = (N : Int) by omega]
