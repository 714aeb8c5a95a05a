theorem zTown_tr {Z Z2 : jdL} {t : Nat} (h : zTown Z t) (ht : t + 3 < 45) (h1 : ∀ a, a < 45 → Z2.1 a = Z.1 a) (h2 : ∀ a k, a < 45 → ¬ (29 ≤ a ∧ k = 3) → Z2.2.1 a k = Z.2.1 a k) (h3 : t + 3 < 29 ∨ 3 ≤ 3) : zTown Z2 t :=
  ⟨(h1 t (by omega)).trans h.1, ⟨(h2 t 0 (by omega) (by omega)).trans (zTown_p0 h), (h1 (t + 1) (by omega)).trans (zTown_a0 h)⟩, ⟨(h2 t 1 (by omega) (by omega)).trans (zTown_p1 h), (h1 (t + 2) (by omega)).trans (zTown_a1 h)⟩, ⟨(h2 t 2 (by omega) (by omega)).trans (zTown_p2 h), (h1 (t + 3) (by omega)).trans (zTown_a2 h)⟩⟩
theorem zTies_tr {Z Z2 : jdL} {t : Nat} (h : zTies Z t) (ht : t + 6 < 45) (h1 : ∀ a, a < 45 → Z2.1 a = Z.1 a) (h2 : ∀ a k, a < 45 → ¬ (29 ≤ a ∧ k = 3) → Z2.2.1 a k = Z.2.1 a k) (h3 : t + 3 < 29 ∨ 6 ≤ 3) : zTies Z2 t :=
  ⟨(h1 t (by omega)).trans h.1, ⟨(h2 t 0 (by omega) (by omega)).trans (zTies_p0 h), (h1 (t + 1) (by omega)).trans (zTies_a0 h)⟩, ⟨(h2 t 1 (by omega) (by omega)).trans (zTies_p1 h), (h1 (t + 2) (by omega)).trans (zTies_a1 h)⟩, ⟨(h2 t 2 (by omega) (by omega)).trans (zTies_p2 h), (h1 (t + 3) (by omega)).trans (zTies_a2 h)⟩, ⟨(h2 t 3 (by omega) (by omega)).trans (zTies_p3 h), (h1 (t + 4) (by omega)).trans (zTies_a3 h)⟩, ⟨(h2 t 4 (by omega) (by omega)).trans (zTies_p4 h), (h1 (t + 5) (by omega)).trans (zTies_a4 h)⟩, ⟨(h2 t 5 (by omega) (by omega)).trans (zTies_p5 h), (h1 (t + 6) (by omega)).trans (zTies_a5 h)⟩⟩
theorem zDay_tr {Z Z2 : jdL} {t : Nat} (h : zDay Z t) (ht : t + 4 < 45) (h1 : ∀ a, a < 45 → Z2.1 a = Z.1 a) (h2 : ∀ a k, a < 45 → ¬ (29 ≤ a ∧ k = 3) → Z2.2.1 a k = Z.2.1 a k) (h3 : t + 3 < 29 ∨ 4 ≤ 3) : zDay Z2 t :=
  ⟨(h1 t (by omega)).trans h.1, ⟨(h2 t 0 (by omega) (by omega)).trans (zDay_p0 h), (h1 (t + 1) (by omega)).trans (zDay_a0 h)⟩, ⟨(h2 t 1 (by omega) (by omega)).trans (zDay_p1 h), (h1 (t + 2) (by omega)).trans (zDay_a1 h)⟩, ⟨(h2 t 2 (by omega) (by omega)).trans (zDay_p2 h), (h1 (t + 3) (by omega)).trans (zDay_a2 h)⟩, ⟨(h2 t 3 (by omega) (by omega)).trans (zDay_p3 h), (h1 (t + 4) (by omega)).trans (zDay_a3 h)⟩⟩
theorem zScribe_tr {Z Z2 : jdL} {t : Nat} (h : zScribe Z t) (ht : t + 1 < 45) (h1 : ∀ a, a < 45 → Z2.1 a = Z.1 a) (h2 : ∀ a k, a < 45 → ¬ (29 ≤ a ∧ k = 3) → Z2.2.1 a k = Z.2.1 a k) (h3 : t + 3 < 29 ∨ 1 ≤ 3) : zScribe Z2 t :=
  ⟨(h1 t (by omega)).trans h.1, ⟨(h2 t 0 (by omega) (by omega)).trans (zScribe_p0 h), (h1 (t + 1) (by omega)).trans (zScribe_a0 h)⟩⟩
theorem zShelf_tr {Z Z2 : jdL} {t : Nat} (h : zShelf Z t) (ht : t + 1 < 45) (h1 : ∀ a, a < 45 → Z2.1 a = Z.1 a) (h2 : ∀ a k, a < 45 → ¬ (29 ≤ a ∧ k = 3) → Z2.2.1 a k = Z.2.1 a k) (h3 : t + 3 < 29 ∨ 1 ≤ 3) : zShelf Z2 t :=
  ⟨(h1 t (by omega)).trans h.1, ⟨(h2 t 0 (by omega) (by omega)).trans (zShelf_p0 h), (h1 (t + 1) (by omega)).trans (zShelf_a0 h)⟩⟩
theorem zX_tr {Z Z2 : jdL} (h : zX Z) (h1 : ∀ a, a < 45 → Z2.1 a = Z.1 a) (h2 : ∀ a k, a < 45 → ¬ (29 ≤ a ∧ k = 3) → Z2.2.1 a k = Z.2.1 a k) : zX Z2 :=
  ⟨(h1 0 (by decide)).trans h.1, ⟨(h2 0 0 (by decide) (by decide)).trans (zX_p0 h), zTown_tr (zX_o0 h) (by decide) h1 h2 (by decide)⟩, ⟨(h2 0 1 (by decide) (by decide)).trans (zX_p1 h), zTown_tr (zX_o1 h) (by decide) h1 h2 (by decide)⟩, ⟨(h2 0 2 (by decide) (by decide)).trans (zX_p2 h), zTown_tr (zX_o2 h) (by decide) h1 h2 (by decide)⟩, ⟨(h2 0 3 (by decide) (by decide)).trans (zX_p3 h), zTies_tr (zX_o3 h) (by decide) h1 h2 (by decide)⟩, ⟨(h2 0 4 (by decide) (by decide)).trans (zX_p4 h), zDay_tr (zX_o4 h) (by decide) h1 h2 (by decide)⟩, ⟨(h2 0 5 (by decide) (by decide)).trans (zX_p5 h), zScribe_tr (zX_o5 h) (by decide) h1 h2 (by decide)⟩, ⟨(h2 0 6 (by decide) (by decide)).trans (zX_p6 h), (h1 27 (by decide)).trans (zX_a6 h)⟩, ⟨(h2 0 7 (by decide) (by decide)).trans (zX_p7 h), (h1 28 (by decide)).trans (zX_a7 h)⟩, fun i hi => ⟨(h2 27 i (by decide) (by omega)).trans (zX_sh h hi), zShelf_tr (zX_shelf h hi) (by omega) h1 h2 (by omega)⟩⟩
/-- the invariant of the two objects -/
def IV (Z : jdL) (I : jdI) : Prop := zX Z ∧ zMen Z ∧ WX I ∧ MI Z I 45
theorem IV_x {Z : jdL} {I I2 : jdI} {p : Nat → Nat → Prop} (h : IV Z I) (hW : WX I2) (hF : Fr p I I2) (hp : ∀ a k, p a k → a < 45) : IV Z I2 := ⟨h.1, h.2.1, hW, MI_lo h.2.2.2 hF hp⟩
theorem IV_m {Z : jdL} {I I2 : jdI} {p : Nat → Nat → Prop} (h : IV Z I) (hW : WM 7 45 I2) (hF : Fr p I I2) (hp : ∀ a k, p a k → 45 ≤ a ∧ a ≤ 82) : IV Z I2 := ⟨h.1, h.2.1, WX_fr h.2.2.1 hF (fun a k h1 h2 => by have := hp a k h2; omega), MI_t h.2.2.2 hW hF (fun a k q => Or.inl (hp a k q))⟩
theorem IV_s {Z Z2 : jdL} {I I2 : jdI} {J J2 : jdJ} {x y : Nat} (h : IV Z I) (hS : ST 45 x y Z I J Z2 I2 J2) : IV Z2 I2 := by
  obtain ⟨h0, h1, h2, h3⟩ := h
  obtain ⟨m0, r0, r1, r2, r3, r4⟩ := hS
  have hb := h3.2.2.1
  refine ⟨zX_tr h0 (fun a ha => r1 a (by omega)) (fun a k ha _ => r2 a k (by omega) (by omega)), fun i hi w hw => ?_, WX_fr h2 r3 (fun a k h1 h2 => by omega), m0⟩
  rw [r2 _ _ (by omega) (by omega)] at hw
  obtain ⟨ci, hci, hz⟩ := h1 i hi w hw
  have hl := h3.2.2.2.1 _ _ hz
  exact ⟨ci, hci, (r1 w hl).trans hz⟩
theorem MI_uP {Z : jdL} {I : jdI} {t a k : Nat} {v : Option Nat} (h : MI Z I t) (ha : a < t) : MI (uP Z a k v) I t := by
  obtain ⟨b0, b1, b2, b3, b4, b5, b6⟩ := h
  have tr : ∀ w, t ≤ w → zModel Z w → zModel (uP Z a k v) w := fun w hw h => zModel_tr h (fun _ _ _ => rfl) (fun c j h1 h2 _ => by rw [uP_ap, if_neg (by omega)])
  have e : ∀ j, (uP Z a k v).2.1 t j = Z.2.1 t j := fun j => by rw [uP_ap, if_neg (by omega)]
  refine ⟨tr t (Nat.le_refl _) b0, b1, b2, b3, fun w hw => ?_, fun u hu => ?_, fun w u hw hu => ?_⟩
  · rw [e] at hw
    obtain ⟨c0, c1, c2, c3⟩ := b4 w hw
    exact ⟨tr w (by omega) c0, c1, c2, c3⟩
  · rw [e] at hu
    obtain ⟨c0, c1, c2, c3⟩ := b5 u hu
    exact ⟨tr u (by omega) c0, c1, c2, c3⟩
  · rw [e] at hw hu
    exact b6 w u hw hu
theorem IV_uP {Z : jdL} {I : jdI} {i : Nat} {v : Option Nat} (h : IV Z I) (hi : i < 8) (hv : ∀ w, v = some w → zMan Z w) : IV (uP Z (29 + 2 * i) 3 v) I := by
  obtain ⟨h0, h1, h2, h3⟩ := h
  refine ⟨zX_tr h0 (fun _ _ => rfl) (fun a k ha hk => by rw [uP_ap, if_neg (by omega)]), fun j hj w hw => ?_, h2, MI_uP h3 (by omega)⟩
  rw [uP_ap] at hw
  by_cases e : 29 + 2 * j = 29 + 2 * i ∧ 3 = 3
  · rw [if_pos e] at hw
    exact hv w hw
  · rw [if_neg e] at hw
    exact h1 j hj w hw
theorem IV_hi {Z : jdL} {I I2 : jdI} {p : Nat → Nat → Prop} (h : IV Z I) (hF : Fr p I I2) (hp : ∀ a k, p a k → Z.2.2 ≤ a) : IV Z I2 := by
  have hb := h.2.2.2.2.2.1
  exact ⟨h.1, h.2.1, WX_fr h.2.2.1 hF (fun a k h1 h2 => by have := hp a k h2; omega), MI_t h.2.2.2 (WM_fr h.2.2.2.2.1 hF (fun a k h1 h2 h3 => by have := hp a k h3; omega)) hF (fun a k q => Or.inr (hp a k q))⟩
theorem IV_nZ {Z : jdL} {I : jdI} {ty : Nat × Nat} (h : IV Z I) : IV (nZ Z ty) I := by
  obtain ⟨h0, h1, h2, h3⟩ := h
  have hb := h3.2.2.1
  refine ⟨zX_tr h0 (fun a ha => by rw [nZ_ap, if_neg (by omega)]) (fun a k ha hk => by rw [nZ_ap2, if_neg (by omega)]), fun j hj w hw => ?_, h2, MI_nZ h3⟩
  rw [nZ_ap2, if_neg (by omega)] at hw
  obtain ⟨ci, hci, hz⟩ := h1 j hj w hw
  have hl := h3.2.2.2.1 _ _ hz
  exact ⟨ci, hci, by rw [nZ_ap, if_neg (by omega)]; exact hz⟩
/-- the size of the tape and the flag of what is kept stay, on both sides -/
def NX (Z : jdL) (I : jdI) (Z2 : jdL) (I2 : jdI) : Prop := I2 25 1 = I 25 1 ∧ I2 0 8 = I 0 8 ∧ I2 45 8 = I 45 8 ∧ Z2.2.1 45 20 = Z.2.1 45 20
theorem NX.rf {Z : jdL} {I : jdI} : NX Z I Z I := ⟨rfl, rfl, rfl, rfl⟩
theorem NX.tr {Z Z1 Z2 : jdL} {I I1 I2 : jdI} (h : NX Z I Z1 I1) (h2 : NX Z1 I1 Z2 I2) : NX Z I Z2 I2 := ⟨h2.1.trans h.1, h2.2.1.trans h.2.1, h2.2.2.1.trans h.2.2.1, h2.2.2.2.trans h.2.2.2⟩
theorem NX_fr {Z : jdL} {I I2 : jdI} {p : Nat → Nat → Prop} (hF : Fr p I I2) (h1 : ¬ p 25 1) (h2 : ¬ p 0 8) (h3 : ¬ p 45 8) : NX Z I Z I2 := ⟨hF _ _ h1, hF _ _ h2, hF _ _ h3, rfl⟩
theorem NX_st {Z Z2 : jdL} {I I2 : jdI} {J J2 : jdJ} {y : Nat} (h : IV Z I) (hS : ST 45 21 y Z I J Z2 I2 J2) (hy : 10 ≤ y) : NX Z I Z2 I2 := by
  have hb := h.2.2.2.2.2.1
  exact ⟨hS.2.2.2.2.1 _ _ (by omega), hS.2.2.2.2.1 _ _ (by omega), hS.2.2.2.2.1 _ _ (by omega), hS.2.2.2.1 _ _ (by omega) (by omega)⟩
theorem NX_nZ {Z : jdL} {I : jdI} {ty : Nat × Nat} (h : IV Z I) : NX Z I (nZ Z ty) I := by
  have hb := h.2.2.2.2.2.1
  exact ⟨rfl, rfl, rfl, by rw [nZ_ap2, if_neg (by omega)]⟩
theorem NX_uP {Z : jdL} {I : jdI} {a k : Nat} {v : Option Nat} (h : a < 45) : NX Z I (uP Z a k v) I := ⟨rfl, rfl, rfl, by rw [uP_ap, if_neg (by omega)]⟩
/-- what the two objects have in common, of the tape's size and of what is kept -/
def RV (Z : jdL) (I : jdI) : Prop := (I 25 1).toInt = (I 45 8).toInt ∧ ((I 0 8).toInt = 0 ↔ Z.2.1 45 20 = none)
theorem RV_keep {Z Z2 : jdL} {I I2 : jdI} (h : RV Z I) (n : NX Z I Z2 I2) : RV Z2 I2 := by
  obtain ⟨n1, n2, n3, n4⟩ := n
  refine ⟨?_, ?_⟩
  · rw [n1, n3]
    exact h.1
  · rw [n2, n4]
    exact h.2
theorem mk_uP_ne {Z : jdL} {i j : Nat} {v : Option Nat} (h : i ≠ j) : mk (uP Z (29 + 2 * j) 3 v) i = mk Z i := by
  have e : (uP Z (29 + 2 * j) 3 v).2.1 (29 + 2 * i) 3 = Z.2.1 (29 + 2 * i) 3 := by rw [uP_ap, if_neg (by omega)]
  unfold mk
  rw [e]
  rfl
theorem mk_uP_none {Z : jdL} {j : Nat} : mk (uP Z (29 + 2 * j) 3 none) j = 0 := mk_none (by rw [uP_ap, if_pos ⟨rfl, rfl⟩])
theorem mk_uP_some {Z : jdL} {j w : Nat} : mk (uP Z (29 + 2 * j) 3 (some w)) j = ckI (Z.1 w) := mk_some (Z := uP Z (29 + 2 * j) 3 (some w)) (by rw [uP_ap, if_pos ⟨rfl, rfl⟩])
theorem mk_eq {Z Z2 : jdL} {I : jdI} {i : Nat} (h : IV Z I) (hi : i < 8) (h1 : ∀ a, a < Z.2.2 → Z2.1 a = Z.1 a) (h2 : Z2.2.1 (29 + 2 * i) 3 = Z.2.1 (29 + 2 * i) 3) : mk Z2 i = mk Z i := by
  unfold mk
  rw [h2]
  cases hw : Z.2.1 (29 + 2 * i) 3 with
  | none => rfl
  | some w =>
    obtain ⟨ci, hci, hz⟩ := h.2.1 i hi w hw
    show ckI (Z2.1 w) = ckI (Z.1 w)
    rw [h1 w (h.2.2.2.2.2.2.1 _ _ hz)]
theorem mk_nZ {Z : jdL} {I : jdI} {i : Nat} {ty : Nat × Nat} (h : IV Z I) (hi : i < 8) : mk (nZ Z ty) i = mk Z i := by
  have hb := h.2.2.2.2.2.1
  exact mk_eq h hi (fun a ha => by rw [nZ_ap, if_neg (by omega)]) (by rw [nZ_ap2, if_neg (by omega)])
/-- the shelves stay, on both sides -/
def NS (Z : jdL) (I : jdI) (Z2 : jdL) (I2 : jdI) : Prop := ∀ i, i < 8 → I2 (29 + 2 * i) 1 = I (29 + 2 * i) 1 ∧ I2 (29 + 2 * i) 2 = I (29 + 2 * i) 2 ∧ mk Z2 i = mk Z i ∧ I2 (45 + 1) i = I (45 + 1) i ∧ I2 (45 + 2) i = I (45 + 2) i ∧ I2 (45 + 3) i = I (45 + 3) i ∧ I2 (45 + 14) i = I (45 + 14) i
theorem NS.rf {Z : jdL} {I : jdI} : NS Z I Z I := fun _ _ => ⟨rfl, rfl, rfl, rfl, rfl, rfl, rfl⟩
theorem NS.tr {Z Z1 Z2 : jdL} {I I1 I2 : jdI} (h : NS Z I Z1 I1) (h2 : NS Z1 I1 Z2 I2) : NS Z I Z2 I2 := fun i hi => by
  obtain ⟨a1, a2, a3, a4, a5, a6, a7⟩ := h i hi
  obtain ⟨b1, b2, b3, b4, b5, b6, b7⟩ := h2 i hi
  exact ⟨b1.trans a1, b2.trans a2, b3.trans a3, b4.trans a4, b5.trans a5, b6.trans a6, b7.trans a7⟩
theorem NS_fr {Z : jdL} {I I2 : jdI} {p : Nat → Nat → Prop} (hF : Fr p I I2) (hp : ∀ a k, p a k → ¬ ((29 ≤ a ∧ a ≤ 43) ∨ (46 ≤ a ∧ a ≤ 48) ∨ a = 59)) : NS Z I Z I2 := fun i hi =>
  ⟨hF _ _ (fun q => by have := hp _ _ q; omega), hF _ _ (fun q => by have := hp _ _ q; omega), rfl, hF _ _ (fun q => by have := hp _ _ q; omega), hF _ _ (fun q => by have := hp _ _ q; omega), hF _ _ (fun q => by have := hp _ _ q; omega), hF _ _ (fun q => by have := hp _ _ q; omega)⟩
theorem NS_st {Z Z2 : jdL} {I I2 : jdI} {J J2 : jdJ} {x y : Nat} (h : IV Z I) (hS : ST 45 x y Z I J Z2 I2 J2) : NS Z I Z2 I2 := fun i hi => by
  have hb := h.2.2.2.2.2.1
  have r3 := hS.2.2.2.2.1
  exact ⟨r3 _ _ (by omega), r3 _ _ (by omega), mk_eq h hi (fun a ha => hS.2.2.1 a ha) (hS.2.2.2.1 _ _ (by omega) (by omega)), r3 _ _ (by omega), r3 _ _ (by omega), r3 _ _ (by omega), r3 _ _ (by omega)⟩
/-- shelf i is the same on both sides -/
def SRI (Z : jdL) (I : jdI) (i : Nat) : Prop := ((I (45 + 1) i).toInt = 0 ∧ (I (29 + 2 * i) 1).toInt = -1 ∧ mk Z i = 0) ∨ ((I (45 + 1) i).toInt = 1 ∧ (I (29 + 2 * i) 1).toInt = (I (45 + 2) i).toInt ∧ 0 ≤ (I (45 + 2) i).toInt ∧ (I (45 + 2) i).toInt ≤ 4 ∧ (I (29 + 2 * i) 2).toInt = (I (45 + 3) i).toInt ∧ mk Z i = 0) ∨ ((I (45 + 1) i).toInt = 2 ∧ (I (29 + 2 * i) 1).toInt = -1 ∧ mk Z i = (I (45 + 14) i).toInt ∧ 1 ≤ (I (45 + 14) i).toInt ∧ (I (45 + 14) i).toInt ≤ 5)
def RS (Z : jdL) (I : jdI) : Prop := ∀ i, i < 8 → SRI Z I i
theorem RS_keep {Z Z2 : jdL} {I I2 : jdI} (h : RS Z I) (n : NS Z I Z2 I2) : RS Z2 I2 := fun i hi => by
  obtain ⟨a1, a2, a3, a4, a5, a6, a7⟩ := n i hi
  have s := h i hi
  unfold SRI at s ⊢
  rw [a1, a2, a3, a4, a5, a6, a7]
  exact s
/-- what a method of X does to the shelf x1 where ok holds: kind, size, coachman -/
def XS (ok : Prop) (x1 : Int32) (kd sz mn : Int) (Z : jdL) (I : jdI) (Z2 : jdL) (I2 : jdI) : Prop := (∀ a k, 45 ≤ a → a < Z.2.2 → I2 a k = I a k) ∧ ∀ i, i < 8 → (¬ (ok ∧ i = Int32.toNatClampNeg x1) → I2 (29 + 2 * i) 1 = I (29 + 2 * i) 1 ∧ I2 (29 + 2 * i) 2 = I (29 + 2 * i) 2 ∧ mk Z2 i = mk Z i) ∧ (ok → i = Int32.toNatClampNeg x1 → (I2 (29 + 2 * i) 1).toInt = kd ∧ (I2 (29 + 2 * i) 2).toInt = sz ∧ mk Z2 i = mn)
theorem XS_no {ok : Prop} {x1 : Int32} {kd sz mn : Int} {Z : jdL} {I I2 : jdI} {p : Nat → Nat → Prop} (hF : Fr p I I2) (hp : ∀ a k, p a k → a = 28) (h : ¬ ok) : XS ok x1 kd sz mn Z I Z I2 :=
  ⟨fun a k h1 _ => hF a k (fun q => by have := hp _ _ q; omega), fun i hi => ⟨fun _ => ⟨hF _ _ (fun q => by have := hp _ _ q; omega), hF _ _ (fun q => by have := hp _ _ q; omega), rfl⟩, fun q => absurd q h⟩⟩
theorem RS_row {Z Z1 : jdL} {I I1 I2 : jdI} {J J2 : jdJ} {x1 x2 x3 v : Int32} (hv : IV Z I) (h : RS Z I) (hx : XS (((0 ≤ x1.toInt ∧ x1.toInt ≤ 7) ∧ (0 ≤ x2.toInt ∧ x2.toInt ≤ 4) ∧ 0 ≤ x3.toInt ∧ x3.toInt ≤ 40)) x1 x2.toInt x3.toInt 0 Z I Z1 I1) (hF : Fr (fun a k => ((a = 45 + 1 ∨ a = 45 + 2 ∨ a = 45 + 3) ∧ k = Int32.toNatClampNeg x1) ∨ a = 45 + 17) I1 I2) (hp : (v.toInt = 1 ∧ ((0 ≤ x1.toInt ∧ x1.toInt ≤ 7) ∧ (0 ≤ x2.toInt ∧ x2.toInt ≤ 4) ∧ 0 ≤ x3.toInt ∧ x3.toInt ≤ 40) ∧ (I2 (45 + 1) (Int32.toNatClampNeg x1)).toInt = 1 ∧ (I2 (45 + 2) (Int32.toNatClampNeg x1)).toInt = x2.toInt ∧ (I2 (45 + 3) (Int32.toNatClampNeg x1)).toInt = x3.toInt ∧ ((∀ q : Nat, q < 40 → J2 (45 + 5 + (Int32.toNatClampNeg x1)) q = 0) ∧ ∀ a, a ≠ 45 + 5 + (Int32.toNatClampNeg x1) → J2 a = J a)) ∨ (v.toInt = -2 ∧ ¬ ((0 ≤ x1.toInt ∧ x1.toInt ≤ 7) ∧ (0 ≤ x2.toInt ∧ x2.toInt ≤ 4) ∧ 0 ≤ x3.toInt ∧ x3.toInt ≤ 40) ∧ (I2 (45 + 1) (Int32.toNatClampNeg x1)).toInt = (I1 (45 + 1) (Int32.toNatClampNeg x1)).toInt ∧ (I2 (45 + 2) (Int32.toNatClampNeg x1)).toInt = (I1 (45 + 2) (Int32.toNatClampNeg x1)).toInt ∧ (I2 (45 + 3) (Int32.toNatClampNeg x1)).toInt = (I1 (45 + 3) (Int32.toNatClampNeg x1)).toInt ∧ J2 = J)) : RS Z1 I2 := fun i hi => by
  have hb := hv.2.2.2.2.2.1
  have s := h i hi
  obtain ⟨e1, e2⟩ := hx.2 i hi
  have f1 := congrArg Int32.toInt (hF (29 + 2 * i) 1 (by omega))
  have f2 := congrArg Int32.toInt (hF (29 + 2 * i) 2 (by omega))
  have g1 := congrArg Int32.toInt (hx.1 (45 + 1) i (by omega) (by omega))
  have g2 := congrArg Int32.toInt (hx.1 (45 + 2) i (by omega) (by omega))
  have g3 := congrArg Int32.toInt (hx.1 (45 + 3) i (by omega) (by omega))
  have g4 := congrArg Int32.toInt (hx.1 (45 + 14) i (by omega) (by omega))
  have g5 := congrArg Int32.toInt (hF (45 + 14) i (by omega))
  unfold SRI at s ⊢
  by_cases c : (((0 ≤ x1.toInt ∧ x1.toInt ≤ 7) ∧ (0 ≤ x2.toInt ∧ x2.toInt ≤ 4) ∧ 0 ≤ x3.toInt ∧ x3.toInt ≤ 40)) ∧ i = Int32.toNatClampNeg x1
  · obtain ⟨c1, c2⟩ := c
    obtain ⟨k1, k2, k3⟩ := e2 c1 c2
    rw [← c2] at hp
    have hp : (I2 (45 + 1) i).toInt = 1 ∧ (I2 (45 + 2) i).toInt = x2.toInt ∧ (I2 (45 + 3) i).toInt = x3.toInt := by
      rcases hp with hp | hp
      · exact ⟨hp.2.2.1, hp.2.2.2.1, hp.2.2.2.2.1⟩
      · exact absurd c1 hp.2.1
    exact Or.inr (Or.inl ⟨by omega, by omega, by omega, by omega, by omega, k3⟩)
  · obtain ⟨k1, k2, k3⟩ := e1 c
    have k1 := congrArg Int32.toInt k1
    have k2 := congrArg Int32.toInt k2
    have m : (I2 (45 + 1) i).toInt = (I1 (45 + 1) i).toInt ∧ (I2 (45 + 2) i).toInt = (I1 (45 + 2) i).toInt ∧ (I2 (45 + 3) i).toInt = (I1 (45 + 3) i).toInt := by
      by_cases c2 : i = Int32.toNatClampNeg x1
      · rw [← c2] at hp
        have c3 : ¬ (((0 ≤ x1.toInt ∧ x1.toInt ≤ 7) ∧ (0 ≤ x2.toInt ∧ x2.toInt ≤ 4) ∧ 0 ≤ x3.toInt ∧ x3.toInt ≤ 40)) := fun q => c ⟨q, c2⟩
        rcases hp with hp | hp
        · exact absurd hp.2.1 c3
        · exact ⟨hp.2.2.1, hp.2.2.2.1, hp.2.2.2.2.1⟩
      · exact ⟨congrArg Int32.toInt (hF (45 + 1) i (by omega)), congrArg Int32.toInt (hF (45 + 2) i (by omega)), congrArg Int32.toInt (hF (45 + 3) i (by omega))⟩
    obtain ⟨m1, m2, m3⟩ := m
    rw [k3, f1, f2, k1, k2, m1, m2, m3, g1, g2, g3, g5, g4]
    exact s
theorem RS_man {Z Z1 : jdL} {I I1 I2 : jdI} {x1 x2 x3 v : Int32} (hv : IV Z I) (h : RS Z I) (hx : XS (((0 ≤ x1.toInt ∧ x1.toInt ≤ 7) ∧ (1 ≤ x2.toInt ∧ x2.toInt ≤ 5) ∧ 0 ≤ x3.toInt ∧ x3.toInt ≤ 9)) x1 (-1) 0 x2.toInt Z I Z1 I1) (hF : Fr (fun a k => ((a = 45 + 1 ∨ a = 45 + 14 ∨ a = 45 + 15) ∧ k = Int32.toNatClampNeg x1) ∨ a = 45 + 17) I1 I2) (hp : (v.toInt = 1 ∧ ((0 ≤ x1.toInt ∧ x1.toInt ≤ 7) ∧ (1 ≤ x2.toInt ∧ x2.toInt ≤ 5) ∧ 0 ≤ x3.toInt ∧ x3.toInt ≤ 9) ∧ (I2 (45 + 1) (Int32.toNatClampNeg x1)).toInt = 2 ∧ (I2 (45 + 14) (Int32.toNatClampNeg x1)).toInt = x2.toInt) ∨ (v.toInt = -2 ∧ ¬ ((0 ≤ x1.toInt ∧ x1.toInt ≤ 7) ∧ (1 ≤ x2.toInt ∧ x2.toInt ≤ 5) ∧ 0 ≤ x3.toInt ∧ x3.toInt ≤ 9) ∧ (I2 (45 + 1) (Int32.toNatClampNeg x1)).toInt = (I1 (45 + 1) (Int32.toNatClampNeg x1)).toInt ∧ (I2 (45 + 14) (Int32.toNatClampNeg x1)).toInt = (I1 (45 + 14) (Int32.toNatClampNeg x1)).toInt)) : RS Z1 I2 := fun i hi => by
  have hb := hv.2.2.2.2.2.1
  have s := h i hi
  obtain ⟨e1, e2⟩ := hx.2 i hi
  have f1 := congrArg Int32.toInt (hF (29 + 2 * i) 1 (by omega))
  have f2 := congrArg Int32.toInt (hF (29 + 2 * i) 2 (by omega))
  have g1 := congrArg Int32.toInt (hx.1 (45 + 1) i (by omega) (by omega))
  have g2 := congrArg Int32.toInt (hx.1 (45 + 2) i (by omega) (by omega))
  have g3 := congrArg Int32.toInt (hx.1 (45 + 3) i (by omega) (by omega))
  have g4 := congrArg Int32.toInt (hx.1 (45 + 14) i (by omega) (by omega))
  have g5 := congrArg Int32.toInt (hF (45 + 2) i (by omega))
  have g6 := congrArg Int32.toInt (hF (45 + 3) i (by omega))
  unfold SRI at s ⊢
  by_cases c : (((0 ≤ x1.toInt ∧ x1.toInt ≤ 7) ∧ (1 ≤ x2.toInt ∧ x2.toInt ≤ 5) ∧ 0 ≤ x3.toInt ∧ x3.toInt ≤ 9)) ∧ i = Int32.toNatClampNeg x1
  · obtain ⟨c1, c2⟩ := c
    obtain ⟨k1, k2, k3⟩ := e2 c1 c2
    rw [← c2] at hp
    exact Or.inr (Or.inr ⟨by omega, by omega, by omega, by omega, by omega⟩)
  · obtain ⟨k1, k2, k3⟩ := e1 c
    have k1 := congrArg Int32.toInt k1
    have k2 := congrArg Int32.toInt k2
    have m : (I2 (45 + 1) i).toInt = (I1 (45 + 1) i).toInt ∧ (I2 (45 + 14) i).toInt = (I1 (45 + 14) i).toInt := by
      by_cases c2 : i = Int32.toNatClampNeg x1
      · rw [← c2] at hp
        have c3 : ¬ (((0 ≤ x1.toInt ∧ x1.toInt ≤ 7) ∧ (1 ≤ x2.toInt ∧ x2.toInt ≤ 5) ∧ 0 ≤ x3.toInt ∧ x3.toInt ≤ 9)) := fun q => c ⟨q, c2⟩
        rcases hp with hp | hp
        · exact absurd hp.2.1 c3
        · exact hp.2.2
      · exact ⟨congrArg Int32.toInt (hF (45 + 1) i (by omega)), congrArg Int32.toInt (hF (45 + 14) i (by omega))⟩
    obtain ⟨m1, m2⟩ := m
    rw [k3, f1, f2, k1, k2, m1, m2, g1, g4, g5, g2, g6, g3]
    exact s
/-- the rows hold the same numbers -/
def RJ (I : jdI) (J : jdJ) : Prop := ∀ i, i < 8 → (I (45 + 1) i).toInt = 1 → ∀ k, k < 40 → J (29 + 2 * i + 1) k = J (45 + 5 + i) k
def NJ (J J2 : jdJ) : Prop := ∀ a, a < 83 → J2 a = J a
theorem RJ_keep {Z Z2 : jdL} {I I2 : jdI} {J J2 : jdJ} (h : RJ I J) (n : NS Z I Z2 I2) (nj : NJ J J2) : RJ I2 J2 := fun i hi hw k hk => by
  obtain ⟨_, _, _, a4, _, _, _⟩ := n i hi
  rw [a4] at hw
  rw [nj _ (by omega), nj _ (by omega)]
  exact h i hi hw k hk
theorem NJ.rf {J : jdJ} : NJ J J := fun _ _ => rfl
theorem NJ_st {Z Z2 : jdL} {I I2 : jdI} {J J2 : jdJ} {x y : Nat} (h : IV Z I) (hS : ST 45 x y Z I J Z2 I2 J2) : NJ J J2 := fun a ha => hS.2.2.2.2.2.1 a (by have := h.2.2.2.2.2.1; omega)
theorem RJ_row {I I1 I2 : jdI} {J J1 J2 : jdJ} {x1 x2 x3 v : Int32} (h : RJ I J) (hI : ∀ i, i < 8 → I1 (45 + 1) i = I (45 + 1) i) (hj : ((((0 ≤ x1.toInt ∧ x1.toInt ≤ 7) ∧ (0 ≤ x2.toInt ∧ x2.toInt ≤ 4) ∧ 0 ≤ x3.toInt ∧ x3.toInt ≤ 40)) → (∀ q : Nat, q < 40 → J1 (29 + 2 * (Int32.toNatClampNeg x1) + 1) q = 0) ∧ ∀ a, a ≠ 29 + 2 * (Int32.toNatClampNeg x1) + 1 → J1 a = J a) ∧ (¬ (((0 ≤ x1.toInt ∧ x1.toInt ≤ 7) ∧ (0 ≤ x2.toInt ∧ x2.toInt ≤ 4) ∧ 0 ≤ x3.toInt ∧ x3.toInt ≤ 40)) → J1 = J)) (hF : Fr (fun a k => ((a = 45 + 1 ∨ a = 45 + 2 ∨ a = 45 + 3) ∧ k = Int32.toNatClampNeg x1) ∨ a = 45 + 17) I1 I2) (hp : (v.toInt = 1 ∧ ((0 ≤ x1.toInt ∧ x1.toInt ≤ 7) ∧ (0 ≤ x2.toInt ∧ x2.toInt ≤ 4) ∧ 0 ≤ x3.toInt ∧ x3.toInt ≤ 40) ∧ (I2 (45 + 1) (Int32.toNatClampNeg x1)).toInt = 1 ∧ (I2 (45 + 2) (Int32.toNatClampNeg x1)).toInt = x2.toInt ∧ (I2 (45 + 3) (Int32.toNatClampNeg x1)).toInt = x3.toInt ∧ ((∀ q : Nat, q < 40 → J2 (45 + 5 + (Int32.toNatClampNeg x1)) q = 0) ∧ ∀ a, a ≠ 45 + 5 + (Int32.toNatClampNeg x1) → J2 a = J1 a)) ∨ (v.toInt = -2 ∧ ¬ ((0 ≤ x1.toInt ∧ x1.toInt ≤ 7) ∧ (0 ≤ x2.toInt ∧ x2.toInt ≤ 4) ∧ 0 ≤ x3.toInt ∧ x3.toInt ≤ 40) ∧ (I2 (45 + 1) (Int32.toNatClampNeg x1)).toInt = (I1 (45 + 1) (Int32.toNatClampNeg x1)).toInt ∧ (I2 (45 + 2) (Int32.toNatClampNeg x1)).toInt = (I1 (45 + 2) (Int32.toNatClampNeg x1)).toInt ∧ (I2 (45 + 3) (Int32.toNatClampNeg x1)).toInt = (I1 (45 + 3) (Int32.toNatClampNeg x1)).toInt ∧ J2 = J1)) : RJ I2 J2 := fun i hi hw k hk => by
  rcases hp with hp | hp
  · obtain ⟨_, ok, _, _, _, p0, p1⟩ := hp
    obtain ⟨q0, q1⟩ := hj.1 ok
    have hn := tn_eq x1
    by_cases c : i = Int32.toNatClampNeg x1
    · subst c
      rw [p1 _ (by omega), q0 k hk, p0 k hk]
    · have e := hF (45 + 1) i (by omega)
      rw [e, hI i hi] at hw
      rw [p1 _ (by omega), p1 _ (by omega), q1 _ (by omega), q1 _ (by omega)]
      exact h i hi hw k hk
  · obtain ⟨_, no, f1, _, _, e2⟩ := hp
    rw [e2, hj.2 no]
    have e : (I2 (45 + 1) i).toInt = (I (45 + 1) i).toInt := by
      rw [← hI i hi]
      by_cases c : i = Int32.toNatClampNeg x1
      · rw [c]
        exact f1
      · exact congrArg Int32.toInt (hF (45 + 1) i (by omega))
    rw [e] at hw
    exact h i hi hw k hk
theorem RJ_man {I I1 I2 : jdI} {J : jdJ} {x1 x2 x3 v : Int32} (h : RJ I J) (hI : ∀ i, i < 8 → I1 (45 + 1) i = I (45 + 1) i) (hF : Fr (fun a k => ((a = 45 + 1 ∨ a = 45 + 14 ∨ a = 45 + 15) ∧ k = Int32.toNatClampNeg x1) ∨ a = 45 + 17) I1 I2) (hp : (v.toInt = 1 ∧ ((0 ≤ x1.toInt ∧ x1.toInt ≤ 7) ∧ (1 ≤ x2.toInt ∧ x2.toInt ≤ 5) ∧ 0 ≤ x3.toInt ∧ x3.toInt ≤ 9) ∧ (I2 (45 + 1) (Int32.toNatClampNeg x1)).toInt = 2 ∧ (I2 (45 + 14) (Int32.toNatClampNeg x1)).toInt = x2.toInt) ∨ (v.toInt = -2 ∧ ¬ ((0 ≤ x1.toInt ∧ x1.toInt ≤ 7) ∧ (1 ≤ x2.toInt ∧ x2.toInt ≤ 5) ∧ 0 ≤ x3.toInt ∧ x3.toInt ≤ 9) ∧ (I2 (45 + 1) (Int32.toNatClampNeg x1)).toInt = (I1 (45 + 1) (Int32.toNatClampNeg x1)).toInt ∧ (I2 (45 + 14) (Int32.toNatClampNeg x1)).toInt = (I1 (45 + 14) (Int32.toNatClampNeg x1)).toInt)) : RJ I2 J := fun i hi hw k hk => by
  have e : (I2 (45 + 1) i).toInt = (I (45 + 1) i).toInt ∨ (I2 (45 + 1) i).toInt = 2 := by
    rw [← hI i hi]
    by_cases c : i = Int32.toNatClampNeg x1
    · rw [c]
      rcases hp with hp | hp
      · exact Or.inr hp.2.2.1
      · exact Or.inl hp.2.2.1
    · exact Or.inl (congrArg Int32.toInt (hF (45 + 1) i (by omega)))
  exact h i hi (by omega) k hk
theorem RJ_set {Z : jdL} {I I1 I2 : jdI} {J J1 J2 : jdJ} {x1 x2 v1 v2 : Int32} {y3 : Int64} (hrs : RS Z I) (h : RJ I J) (n1 : NS Z I Z I1) (n2 : NS Z I Z I2) (hp1 : ((¬ (0 ≤ x1.toInt ∧ x1.toInt < 8) ∧ v1.toInt = -2) ∨ ((0 ≤ x1.toInt ∧ x1.toInt < 8) ∧ (I (29 + 2 * (Int32.toNatClampNeg x1)) 1).toInt = -1 ∧ mk Z (Int32.toNatClampNeg x1) = 0 ∧ v1.toInt = -4) ∨ ((0 ≤ x1.toInt ∧ x1.toInt < 8) ∧ (I (29 + 2 * (Int32.toNatClampNeg x1)) 1).toInt = -1 ∧ 1 ≤ mk Z (Int32.toNatClampNeg x1) ∧ v1.toInt = -3) ∨ (((0 ≤ x1.toInt ∧ x1.toInt < 8) ∧ ¬ (I (29 + 2 * (Int32.toNatClampNeg x1)) 1).toInt = -1 ∧ 0 ≤ x2.toInt ∧ x2.toInt < (I (29 + 2 * (Int32.toNatClampNeg x1)) 2).toInt) ∧ v1.toInt = 1) ∨ ((0 ≤ x1.toInt ∧ x1.toInt < 8) ∧ ¬ (I (29 + 2 * (Int32.toNatClampNeg x1)) 1).toInt = -1 ∧ ¬ (0 ≤ x2.toInt ∧ x2.toInt < (I (29 + 2 * (Int32.toNatClampNeg x1)) 2).toInt) ∧ v1.toInt = -2)) ∧ (((0 ≤ x1.toInt ∧ x1.toInt < 8) ∧ ¬ (I (29 + 2 * (Int32.toNatClampNeg x1)) 1).toInt = -1 ∧ 0 ≤ x2.toInt ∧ x2.toInt < (I (29 + 2 * (Int32.toNatClampNeg x1)) 2).toInt) → (0 ≤ (I (29 + 2 * (Int32.toNatClampNeg x1)) 1).toInt ∧ (I (29 + 2 * (Int32.toNatClampNeg x1)) 1).toInt ≤ 4 → J1 = uJ J ((29 + 2 * (Int32.toNatClampNeg x1)) + 1) (Int32.toNatClampNeg x2) (cutf (I (29 + 2 * (Int32.toNatClampNeg x1)) 1).toInt y3))) ∧ (¬ ((0 ≤ x1.toInt ∧ x1.toInt < 8) ∧ ¬ (I (29 + 2 * (Int32.toNatClampNeg x1)) 1).toInt = -1 ∧ 0 ≤ x2.toInt ∧ x2.toInt < (I (29 + 2 * (Int32.toNatClampNeg x1)) 2).toInt) → J1 = J)) (hp2 : ((¬ (0 ≤ x1.toInt ∧ x1.toInt ≤ 7) ∧ v2.toInt = -2) ∨ ((0 ≤ x1.toInt ∧ x1.toInt ≤ 7) ∧ (I1 (45 + 1) (Int32.toNatClampNeg x1)).toInt = 0 ∧ v2.toInt = -4) ∨ ((0 ≤ x1.toInt ∧ x1.toInt ≤ 7) ∧ (I1 (45 + 1) (Int32.toNatClampNeg x1)).toInt = 2 ∧ v2.toInt = -3) ∨ (((0 ≤ x1.toInt ∧ x1.toInt ≤ 7) ∧ ¬ (I1 (45 + 1) (Int32.toNatClampNeg x1)).toInt = 0 ∧ ¬ (I1 (45 + 1) (Int32.toNatClampNeg x1)).toInt = 2 ∧ 0 ≤ x2.toInt ∧ x2.toInt < (I1 (45 + 3) (Int32.toNatClampNeg x1)).toInt) ∧ v2.toInt = 1) ∨ ((0 ≤ x1.toInt ∧ x1.toInt ≤ 7) ∧ ¬ (I1 (45 + 1) (Int32.toNatClampNeg x1)).toInt = 0 ∧ ¬ (I1 (45 + 1) (Int32.toNatClampNeg x1)).toInt = 2 ∧ ¬ (0 ≤ x2.toInt ∧ x2.toInt < (I1 (45 + 3) (Int32.toNatClampNeg x1)).toInt) ∧ v2.toInt = -2)) ∧ (((0 ≤ x1.toInt ∧ x1.toInt ≤ 7) ∧ ¬ (I1 (45 + 1) (Int32.toNatClampNeg x1)).toInt = 0 ∧ ¬ (I1 (45 + 1) (Int32.toNatClampNeg x1)).toInt = 2 ∧ 0 ≤ x2.toInt ∧ x2.toInt < (I1 (45 + 3) (Int32.toNatClampNeg x1)).toInt) → J2 = uJ J1 (45 + 5 + (Int32.toNatClampNeg x1)) (Int32.toNatClampNeg x2) (cutf (I1 (45 + 2) (Int32.toNatClampNeg x1)).toInt y3)) ∧ (¬ ((0 ≤ x1.toInt ∧ x1.toInt ≤ 7) ∧ ¬ (I1 (45 + 1) (Int32.toNatClampNeg x1)).toInt = 0 ∧ ¬ (I1 (45 + 1) (Int32.toNatClampNeg x1)).toInt = 2 ∧ 0 ≤ x2.toInt ∧ x2.toInt < (I1 (45 + 3) (Int32.toNatClampNeg x1)).toInt) → J2 = J1)) : RJ I2 J2 := fun i hi hw k hk => by
  obtain ⟨_, _, _, a4, _, _, _⟩ := n2 i hi
  rw [a4] at hw
  have hj := h i hi hw k hk
  have hn := tn_eq x1
  by_cases r : 0 ≤ x1.toInt ∧ x1.toInt < 8
  · have s := hrs (Int32.toNatClampNeg x1) (by omega)
    obtain ⟨_, _, _, b4, b5, b6, _⟩ := n1 (Int32.toNatClampNeg x1) (by omega)
    have b4 := congrArg Int32.toInt b4
    have b5 := congrArg Int32.toInt b5
    have b6 := congrArg Int32.toInt b6
    unfold SRI at s
    by_cases c : ((0 ≤ x1.toInt ∧ x1.toInt < 8) ∧ ¬ (I (29 + 2 * (Int32.toNatClampNeg x1)) 1).toInt = -1 ∧ 0 ≤ x2.toInt ∧ x2.toInt < (I (29 + 2 * (Int32.toNatClampNeg x1)) 2).toInt)
    · have e1 := hp1.2.1 c ⟨by omega, by omega⟩
      have e2 := hp2.2.1 ⟨by omega, by omega, by omega, by omega, by omega⟩
      have e3 : (I1 (45 + 2) (Int32.toNatClampNeg x1)).toInt = (I (29 + 2 * (Int32.toNatClampNeg x1)) 1).toInt := by omega
      rw [e2, e1, e3, uJ_ap, if_neg (by omega), uJ_ap, uJ_ap]
      by_cases d : i = Int32.toNatClampNeg x1 ∧ k = Int32.toNatClampNeg x2
      · rw [if_pos (by omega), if_pos (by omega)]
      · rw [if_neg (by omega), if_neg (by omega), uJ_ap, if_neg (by omega)]
        exact hj
    · rw [hp2.2.2 (by omega), hp1.2.2 c]
      exact hj
  · rw [hp2.2.2 (by omega), hp1.2.2 (by omega)]
    exact hj
theorem RJ_copy {Z : jdL} {I I1 I2 : jdI} {J J1 J2 : jdJ} {x1 x2 x3 x4 x5 v1 v2 : Int32} (hW : WM 7 45 I) (hrs : RS Z I) (h : RJ I J) (n1 : NS Z I Z I1) (n2 : NS Z I Z I2) (hp1 : (¬ ((0 ≤ x1.toInt ∧ x1.toInt < 8) ∧ (0 ≤ x2.toInt ∧ x2.toInt < 8)) ∧ v1.toInt = -2 ∧ J1 = J) ∨ (((0 ≤ x1.toInt ∧ x1.toInt < 8) ∧ (0 ≤ x2.toInt ∧ x2.toInt < 8)) ∧ (1 ≤ mk Z (Int32.toNatClampNeg x1) ∨ 1 ≤ mk Z (Int32.toNatClampNeg x2)) ∧ v1.toInt = -3 ∧ J1 = J) ∨ (((0 ≤ x1.toInt ∧ x1.toInt < 8) ∧ (0 ≤ x2.toInt ∧ x2.toInt < 8)) ∧ (mk Z (Int32.toNatClampNeg x1) = 0 ∧ mk Z (Int32.toNatClampNeg x2) = 0) ∧ ((I (29 + 2 * (Int32.toNatClampNeg x1)) 1).toInt = -1 ∨ (I (29 + 2 * (Int32.toNatClampNeg x2)) 1).toInt = -1) ∧ v1.toInt = -4 ∧ J1 = J) ∨ (((0 ≤ x1.toInt ∧ x1.toInt < 8) ∧ (0 ≤ x2.toInt ∧ x2.toInt < 8)) ∧ (mk Z (Int32.toNatClampNeg x1) = 0 ∧ mk Z (Int32.toNatClampNeg x2) = 0) ∧ ¬ (I (29 + 2 * (Int32.toNatClampNeg x1)) 1).toInt = -1 ∧ ¬ (I (29 + 2 * (Int32.toNatClampNeg x2)) 1).toInt = -1 ∧ ¬ (I (29 + 2 * (Int32.toNatClampNeg x1)) 1).toInt = (I (29 + 2 * (Int32.toNatClampNeg x2)) 1).toInt ∧ v1.toInt = -3 ∧ J1 = J) ∨ (((0 ≤ x1.toInt ∧ x1.toInt < 8) ∧ (0 ≤ x2.toInt ∧ x2.toInt < 8)) ∧ (mk Z (Int32.toNatClampNeg x1) = 0 ∧ mk Z (Int32.toNatClampNeg x2) = 0) ∧ ¬ (I (29 + 2 * (Int32.toNatClampNeg x1)) 1).toInt = -1 ∧ ¬ (I (29 + 2 * (Int32.toNatClampNeg x2)) 1).toInt = -1 ∧ (I (29 + 2 * (Int32.toNatClampNeg x1)) 1).toInt = (I (29 + 2 * (Int32.toNatClampNeg x2)) 1).toInt ∧ (0 ≤ x3.toInt ∧ 0 ≤ x4.toInt ∧ 0 ≤ x5.toInt ∧ x5.toInt ≤ (I (29 + 2 * (Int32.toNatClampNeg x1)) 2).toInt - x3.toInt ∧ x5.toInt ≤ (I (29 + 2 * (Int32.toNatClampNeg x2)) 2).toInt - x4.toInt) ∧ v1.toInt = x5.toInt ∧ J1 = cJ J ((29 + 2 * (Int32.toNatClampNeg x1)) + 1) ((29 + 2 * (Int32.toNatClampNeg x2)) + 1) (Int32.toNatClampNeg x3) (Int32.toNatClampNeg x4) (Int32.toNatClampNeg x5)) ∨ (((0 ≤ x1.toInt ∧ x1.toInt < 8) ∧ (0 ≤ x2.toInt ∧ x2.toInt < 8)) ∧ (mk Z (Int32.toNatClampNeg x1) = 0 ∧ mk Z (Int32.toNatClampNeg x2) = 0) ∧ ¬ (I (29 + 2 * (Int32.toNatClampNeg x1)) 1).toInt = -1 ∧ ¬ (I (29 + 2 * (Int32.toNatClampNeg x2)) 1).toInt = -1 ∧ (I (29 + 2 * (Int32.toNatClampNeg x1)) 1).toInt = (I (29 + 2 * (Int32.toNatClampNeg x2)) 1).toInt ∧ ¬ (0 ≤ x3.toInt ∧ 0 ≤ x4.toInt ∧ 0 ≤ x5.toInt ∧ x5.toInt ≤ (I (29 + 2 * (Int32.toNatClampNeg x1)) 2).toInt - x3.toInt ∧ x5.toInt ≤ (I (29 + 2 * (Int32.toNatClampNeg x2)) 2).toInt - x4.toInt) ∧ v1.toInt = -2 ∧ J1 = J)) (hp2 : (¬ ((0 ≤ x1.toInt ∧ x1.toInt ≤ 7) ∧ 0 ≤ x2.toInt ∧ x2.toInt ≤ 7) ∧ v2.toInt = -2 ∧ J2 = J1) ∨ (((0 ≤ x1.toInt ∧ x1.toInt ≤ 7) ∧ 0 ≤ x2.toInt ∧ x2.toInt ≤ 7) ∧ ¬ ((0 ≤ (I1 (45 + 1) (Int32.toNatClampNeg x1)).toInt ∧ (I1 (45 + 1) (Int32.toNatClampNeg x1)).toInt ≤ 2) ∧ 0 ≤ (I1 (45 + 1) (Int32.toNatClampNeg x2)).toInt ∧ (I1 (45 + 1) (Int32.toNatClampNeg x2)).toInt ≤ 2)) ∨ (((0 ≤ x1.toInt ∧ x1.toInt ≤ 7) ∧ 0 ≤ x2.toInt ∧ x2.toInt ≤ 7) ∧ ((I1 (45 + 1) (Int32.toNatClampNeg x1)).toInt = 2 ∨ (I1 (45 + 1) (Int32.toNatClampNeg x2)).toInt = 2) ∧ v2.toInt = -3 ∧ J2 = J1) ∨ (((0 ≤ x1.toInt ∧ x1.toInt ≤ 7) ∧ 0 ≤ x2.toInt ∧ x2.toInt ≤ 7) ∧ ¬ (I1 (45 + 1) (Int32.toNatClampNeg x1)).toInt = 2 ∧ ¬ (I1 (45 + 1) (Int32.toNatClampNeg x2)).toInt = 2 ∧ ((I1 (45 + 1) (Int32.toNatClampNeg x1)).toInt = 0 ∨ (I1 (45 + 1) (Int32.toNatClampNeg x2)).toInt = 0) ∧ v2.toInt = -4 ∧ J2 = J1) ∨ (((0 ≤ x1.toInt ∧ x1.toInt ≤ 7) ∧ 0 ≤ x2.toInt ∧ x2.toInt ≤ 7) ∧ ((I1 (45 + 1) (Int32.toNatClampNeg x1)).toInt = 1 ∧ (I1 (45 + 1) (Int32.toNatClampNeg x2)).toInt = 1) ∧ ¬ (I1 (45 + 2) (Int32.toNatClampNeg x1)).toInt = (I1 (45 + 2) (Int32.toNatClampNeg x2)).toInt ∧ v2.toInt = -3 ∧ J2 = J1) ∨ (((0 ≤ x1.toInt ∧ x1.toInt ≤ 7) ∧ 0 ≤ x2.toInt ∧ x2.toInt ≤ 7) ∧ ((I1 (45 + 1) (Int32.toNatClampNeg x1)).toInt = 1 ∧ (I1 (45 + 1) (Int32.toNatClampNeg x2)).toInt = 1) ∧ (I1 (45 + 2) (Int32.toNatClampNeg x1)).toInt = (I1 (45 + 2) (Int32.toNatClampNeg x2)).toInt ∧ (0 ≤ x3.toInt ∧ 0 ≤ x4.toInt ∧ 0 ≤ x5.toInt ∧ x5.toInt ≤ (I1 (45 + 3) (Int32.toNatClampNeg x1)).toInt - x3.toInt ∧ x5.toInt ≤ (I1 (45 + 3) (Int32.toNatClampNeg x2)).toInt - x4.toInt) ∧ v2.toInt = x5.toInt ∧ ((∀ q : Nat, q < 40 → J2 (45 + 5 + (Int32.toNatClampNeg x2)) q = va_cpy (J1 (45 + 5 + (Int32.toNatClampNeg x1))) (J1 (45 + 5 + (Int32.toNatClampNeg x2))) (Int32.toNatClampNeg x3) (Int32.toNatClampNeg x4) (Int32.toNatClampNeg x5) q) ∧ ∀ a, a ≠ 45 + 13 → a ≠ 45 + 5 + (Int32.toNatClampNeg x2) → J2 a = J1 a)) ∨ (((0 ≤ x1.toInt ∧ x1.toInt ≤ 7) ∧ 0 ≤ x2.toInt ∧ x2.toInt ≤ 7) ∧ ((I1 (45 + 1) (Int32.toNatClampNeg x1)).toInt = 1 ∧ (I1 (45 + 1) (Int32.toNatClampNeg x2)).toInt = 1) ∧ (I1 (45 + 2) (Int32.toNatClampNeg x1)).toInt = (I1 (45 + 2) (Int32.toNatClampNeg x2)).toInt ∧ ¬ (0 ≤ x3.toInt ∧ 0 ≤ x4.toInt ∧ 0 ≤ x5.toInt ∧ x5.toInt ≤ (I1 (45 + 3) (Int32.toNatClampNeg x1)).toInt - x3.toInt ∧ x5.toInt ≤ (I1 (45 + 3) (Int32.toNatClampNeg x2)).toInt - x4.toInt) ∧ v2.toInt = -2 ∧ J2 = J1)) : RJ I2 J2 := fun i hi hw k hk => by
  obtain ⟨_, _, _, a4, _, _, _⟩ := n2 i hi
  rw [a4] at hw
  have hj := h i hi hw k hk
  have m1 := tn_eq x1
  have m2 := tn_eq x2
  have m3 := tn_eq x3
  have m4 := tn_eq x4
  have m5 := tn_eq x5
  by_cases r : (0 ≤ x1.toInt ∧ x1.toInt < 8) ∧ (0 ≤ x2.toInt ∧ x2.toInt < 8)
  · have s1 := hrs (Int32.toNatClampNeg x1) (by omega)
    have s2 := hrs (Int32.toNatClampNeg x2) (by omega)
    obtain ⟨_, _, _, b4, b5, b6, _⟩ := n1 (Int32.toNatClampNeg x1) (by omega)
    obtain ⟨_, _, _, c4, c5, c6, _⟩ := n1 (Int32.toNatClampNeg x2) (by omega)
    have b4 := congrArg Int32.toInt b4
    have b5 := congrArg Int32.toInt b5
    have b6 := congrArg Int32.toInt b6
    have c4 := congrArg Int32.toInt c4
    have c5 := congrArg Int32.toInt c5
    have c6 := congrArg Int32.toInt c6
    have w1 := WM_rowSize hW (k := Int32.toNatClampNeg x1) (by omega)
    have w2 := WM_rowSize hW (k := Int32.toNatClampNeg x2) (by omega)
    unfold SRI at s1 s2
    rcases hp1 with p | p | p | p | p | p
    · exact absurd r p.1
    · have e : J1 = J := p.2.2.2
      have p := p.2.1
      rcases hp2 with q | q | q | q | q | q | q
      · omega
      · omega
      · rw [q.2.2.2, e]; exact hj
      · rw [q.2.2.2.2.2, e]; exact hj
      · rw [q.2.2.2.2, e]; exact hj
      · omega
      · rw [q.2.2.2.2.2, e]; exact hj
    · have e : J1 = J := p.2.2.2.2
      have p1 := p.2.1
      have p := p.2.2.1
      rcases hp2 with q | q | q | q | q | q | q
      · omega
      · omega
      · rw [q.2.2.2, e]; exact hj
      · rw [q.2.2.2.2.2, e]; exact hj
      · rw [q.2.2.2.2, e]; exact hj
      · omega
      · rw [q.2.2.2.2.2, e]; exact hj
    · have e : J1 = J := p.2.2.2.2.2.2
      have p1 := p.2.1
      have p2 := p.2.2.1
      have p3 := p.2.2.2.1
      have p := p.2.2.2.2.1
      rcases hp2 with q | q | q | q | q | q | q
      · omega
      · omega
      · rw [q.2.2.2, e]; exact hj
      · rw [q.2.2.2.2.2, e]; exact hj
      · rw [q.2.2.2.2, e]; exact hj
      · omega
      · rw [q.2.2.2.2.2, e]; exact hj
    · obtain ⟨_, p1, p2, p3, p4, p5, _, e⟩ := p
      rcases hp2 with q | q | q | q | q | q | q
      · omega
      · omega
      · omega
      · omega
      · omega
      · obtain ⟨_, q1, q2, q3, _, g1, g2⟩ := q
        have hx : ∀ a, a ≠ 29 + 2 * (Int32.toNatClampNeg x2) + 1 → J1 a = J a := fun a ha => by
          rw [e]
          exact if_neg ha
        have hb : J1 (29 + 2 * (Int32.toNatClampNeg x2) + 1) = va_cpy (J (29 + 2 * (Int32.toNatClampNeg x1) + 1)) (J (29 + 2 * (Int32.toNatClampNeg x2) + 1)) (Int32.toNatClampNeg x3) (Int32.toNatClampNeg x4) (Int32.toNatClampNeg x5) := by
          rw [e]
          exact if_pos rfl
        by_cases d : i = Int32.toNatClampNeg x2
        · subst d
          rw [g2 _ (by omega) (by omega), hb, g1 k hk, hx _ (by omega), hx _ (by omega)]
          unfold va_cpy
          by_cases c : Int32.toNatClampNeg x4 ≤ k ∧ k < Int32.toNatClampNeg x4 + Int32.toNatClampNeg x5
          · rw [if_pos c, if_pos c]
            exact h (Int32.toNatClampNeg x1) (by omega) (by omega) _ (by omega)
          · rw [if_neg c, if_neg c]
            exact hj
        · rw [g2 _ (by omega) (by omega), g2 _ (by omega) (by omega), hx _ (by omega), hx _ (by omega)]
          exact hj
      · omega
    · have e : J1 = J := p.2.2.2.2.2.2.2
      obtain ⟨_, p1, p2, p3, p4, p5, _, _⟩ := p
      rcases hp2 with q | q | q | q | q | q | q
      · omega
      · omega
      · rw [q.2.2.2, e]; exact hj
      · rw [q.2.2.2.2.2, e]; exact hj
      · rw [q.2.2.2.2, e]; exact hj
      · omega
      · rw [q.2.2.2.2.2, e]; exact hj
  · rcases hp1 with p | p | p | p | p | p
    · rcases hp2 with q | q | q | q | q | q | q
      · rw [q.2.2, p.2.2]; exact hj
      · omega
      · omega
      · omega
      · omega
      · omega
      · omega
    · exact absurd p.1 r
    · exact absurd p.1 r
    · exact absurd p.1 r
    · exact absurd p.1 r
    · exact absurd p.1 r
/-- what is kept is the same town on both sides -/
def RK (Z : jdL) (I : jdI) : Prop := ∀ u, Z.2.1 45 20 = some u → ∃ s : Sd, OKT s.1 ∧ TX I 5 s ∧ TM I u s
/-- the tape and the town are the same on both sides -/
def RT (Z : jdL) (I : jdI) : Prop := I (25 + 1) = I (45 + 16) ∧ (∃ s : Sd, OKT s.1 ∧ TX I 1 s ∧ TM I 45 s) ∧ RK Z I
def NT (Z : jdL) (I : jdI) (Z2 : jdL) (I2 : jdI) : Prop := (∀ a k, a = 25 + 1 ∨ a = 45 + 16 ∨ (a = 1 ∧ 3 ≤ k ∧ k ≤ 6) ∨ (2 ≤ a ∧ a ≤ 8) ∨ (a = 45 ∧ (k = 10 ∨ k = 14 ∨ k = 15 ∨ k = 19)) ∨ a = 45 + 18 ∨ a = 45 + 19 ∨ (45 + 21 ≤ a ∧ a ≤ 45 + 28) → I2 a k = I a k) ∧ Z2.2.1 45 20 = Z.2.1 45 20 ∧ ∀ u, Z.2.1 45 20 = some u → ∀ a k, u ≤ a → a ≤ u + 37 → I2 a k = I a k
theorem NT.rf {Z : jdL} {I : jdI} : NT Z I Z I := ⟨fun _ _ _ => rfl, rfl, fun _ _ _ _ _ _ => rfl⟩
theorem NT.tr {Z Z1 Z2 : jdL} {I I1 I2 : jdI} (h : NT Z I Z1 I1) (h2 : NT Z1 I1 Z2 I2) : NT Z I Z2 I2 := ⟨fun a k q => (h2.1 a k q).trans (h.1 a k q), h2.2.1.trans h.2.1, fun u hu a k q1 q2 => (h2.2.2 u (by rw [h.2.1]; exact hu) a k q1 q2).trans (h.2.2 u hu a k q1 q2)⟩
theorem IV_kept {Z : jdL} {I : jdI} {u : Nat} (h : IV Z I) (hu : Z.2.1 45 20 = some u) : 83 ≤ u ∧ u + 38 ≤ Z.2.2 := (h.2.2.2.2.2.2.2.1 u hu).2.2
theorem NT_fr {Z : jdL} {I I2 : jdI} {p : Nat → Nat → Prop} (h : IV Z I) (hF : Fr p I I2) (hp : ∀ a k, p a k → ¬ (a = 25 + 1 ∨ a = 45 + 16 ∨ (a = 1 ∧ 3 ≤ k ∧ k ≤ 6) ∨ (2 ≤ a ∧ a ≤ 8) ∨ (a = 45 ∧ (k = 10 ∨ k = 14 ∨ k = 15 ∨ k = 19)) ∨ a = 45 + 18 ∨ a = 45 + 19 ∨ (45 + 21 ≤ a ∧ a ≤ 45 + 28)) ∧ a ≤ 82) : NT Z I Z I2 := ⟨fun a k q => hF a k (fun w => (hp a k w).1 q), rfl, fun u hu a k h1 h2 => hF a k (fun w => by have := (hp a k w).2; have := IV_kept h hu; omega)⟩
theorem NT_all {Z Z2 : jdL} {I I2 : jdI} (h : IV Z I) (e : ∀ a k, a < 28 ∨ (45 ≤ a ∧ a < Z.2.2) → I2 a k = I a k) (hz : Z2.2.1 45 20 = Z.2.1 45 20) : NT Z I Z2 I2 := by
  have hb := h.2.2.2.2.2.1
  exact ⟨fun a k q => e a k (by omega), hz, fun u hu a k h1 h2 => e a k (by have := IV_kept h hu; omega)⟩
theorem NT_st {Z Z2 : jdL} {I I2 : jdI} {J J2 : jdJ} {y : Nat} (h : IV Z I) (hS : ST 45 21 y Z I J Z2 I2 J2) (hy : 20 ≤ y) : NT Z I Z2 I2 := by
  have hb := h.2.2.2.2.2.1
  exact ⟨fun a k q => hS.2.2.2.2.1 a k (by omega), hS.2.2.2.1 _ _ (by omega) (by omega), fun u hu a k h1 h2 => hS.2.2.2.2.2.2.1 rfl (by omega) u hu a k h1 h2⟩
theorem TM_eq {I I2 : jdI} {u : Nat} {s : Sd} (h : TM I u s) (hP : s.1.1 ≤ 8) (e : ∀ a k, u ≤ a → a ≤ u + 37 → I2 a k = I a k) : TM I2 u s := TM_fr (p := fun a _ => ¬ (u ≤ a ∧ a ≤ u + 37)) h hP (fun a k q => e a k (by omega) (by omega)) (by omega) (by omega) (by omega) (by omega) (by intro a k h1 h2 h3; omega)
theorem TX_eq {I I2 : jdI} {b : Nat} {s : Sd} (h : TX I b s) (e : ∀ a k, b ≤ a → a ≤ b + 3 → I2 a k = I a k) : TX I2 b s := TX_fr (p := fun a _ => ¬ (b ≤ a ∧ a ≤ b + 3)) h (fun a k q => e a k (by omega) (by omega)) (by intro a k h1 h2; omega)
theorem TX_k {I I2 : jdI} {b : Nat} {s : Sd} (h : TX I b s) (e : ∀ a k, (a = b ∧ 3 ≤ k ∧ k ≤ 6) ∨ (b + 1 ≤ a ∧ a ≤ b + 3) → I2 a k = I a k) : TX I2 b s := by
  obtain ⟨⟨w1, w2, w3, w4, w5⟩, w6⟩ := h
  exact ⟨⟨by rw [e b 3 (by omega)]; exact w1, fun i hi => by rw [e (b + 1) i (by omega), e (b + 2) i (by omega)]; exact w2 i hi, by rw [e b 4 (by omega)]; exact w3, by rw [e b 5 (by omega)]; exact w4, fun i j hi hj hne => by rw [e (b + 3) _ (by omega)]; exact w5 i j hi hj hne⟩, by rw [e b 6 (by omega)]; exact w6⟩
theorem TM_k {I I2 : jdI} {t : Nat} {s : Sd} (h : TM I t s) (hP : s.1.1 ≤ 8) (e : ∀ a k, (a = t ∧ (k = 10 ∨ k = 14 ∨ k = 15 ∨ k = 19)) ∨ a = t + 18 ∨ a = t + 19 ∨ (t + 21 ≤ a ∧ a ≤ t + 28) → I2 a k = I a k) : TM I2 t s := by
  obtain ⟨⟨w1, w2, w3, w4, w5⟩, w6⟩ := h
  exact ⟨⟨by rw [e t 10 (by omega)]; exact w1, fun i hi => by rw [e (t + 18) i (by omega), e (t + 19) i (by omega)]; exact w2 i hi, by rw [e t 14 (by omega)]; exact w3, by rw [e t 15 (by omega)]; exact w4, fun i j hi hj hne => by rw [e (t + 21 + i) _ (by omega)]; exact w5 i j hi hj hne⟩, by rw [e t 19 (by omega)]; exact w6⟩
theorem RK_eq {Z Z2 : jdL} {I I2 : jdI} (h : RK Z I) (hW : WX I) (hz : Z2.2.1 45 20 = Z.2.1 45 20) (e5 : ∀ a k, 5 ≤ a → a ≤ 8 → I2 a k = I a k) (eu : ∀ u, Z.2.1 45 20 = some u → ∀ a k, u ≤ a → a ≤ u + 37 → I2 a k = I a k) : RK Z2 I2 := fun u hu => by
  rw [hz] at hu
  obtain ⟨s, k, g1, g2⟩ := h u hu
  have hw := WX_f hW
  have l1 := g1.1.1
  exact ⟨s, k, TX_eq g1 e5, TM_eq g2 (show s.1.1 ≤ 8 by omega) (eu u hu)⟩
theorem RK_fr {Z : jdL} {I I2 : jdI} {p : Nat → Nat → Prop} (hv : IV Z I) (h : RK Z I) (hF : Fr p I I2) (hp : ∀ a k, p a k → ¬ (5 ≤ a ∧ a ≤ 8) ∧ a ≤ 82) : RK Z I2 := RK_eq h hv.2.2.1 rfl (fun a k h1 h2 => hF a k (fun w => by have := hp a k w; omega)) (fun u hu a k h1 h2 => hF a k (fun w => by have := hp a k w; have := IV_kept hv hu; omega))
theorem RT_keep {Z Z2 : jdL} {I I2 : jdI} (hv : IV Z I) (h : RT Z I) (n : NT Z I Z2 I2) : RT Z2 I2 := by
  obtain ⟨h0, ⟨s, hk, h1, h2⟩, h3⟩ := h
  obtain ⟨n1, n2, n3⟩ := n
  have a1 : I2 (25 + 1) = I (25 + 1) := funext (fun j => n1 _ _ (by omega))
  have a2 : I2 (45 + 16) = I (45 + 16) := funext (fun j => n1 _ _ (by omega))
  have hw := WX_f hv.2.2.1
  have l1 := h1.1.1
  exact ⟨by rw [a1, a2]; exact h0, ⟨s, hk, TX_k h1 (fun a k q => n1 a k (by omega)), TM_k h2 (show s.1.1 ≤ 8 by omega) (fun a k q => n1 a k (by omega))⟩, RK_eq h3 hv.2.2.1 n2 (fun a j q1 q2 => n1 a j (by omega)) n3⟩
theorem TP_fr {I I2 : jdI} {p : Nat → Nat → Prop} (h : I (25 + 1) = I (45 + 16)) (hF : Fr p I I2) (hp : ∀ a k, p a k → ¬ a = 25 + 1 ∧ ¬ a = 45 + 16) : I2 (25 + 1) = I2 (45 + 16) := by
  have a1 : I2 (25 + 1) = I (25 + 1) := funext (fun j => hF _ _ (fun w => (hp _ _ w).1 rfl))
  have a2 : I2 (45 + 16) = I (45 + 16) := funext (fun j => hF _ _ (fun w => (hp _ _ w).2 rfl))
  rw [a1, a2]
  exact h
theorem tn_k {T : Nat → Int32} {n : Int} {w : Tw} {q : Q3} {v1 v2 : Int32} {I1 I2 : jdI} (hk : OKT w) (h1 : XTn (rd T n 63 w q 1) w v1 I1 1) (h2 : MTn (rd T n 63 w q 1) w v2 I2 45) : v1 = v2 ∧ ∃ w2, OKT w2 ∧ RX I1 1 w2 ∧ RM I2 45 w2 := by
  cases e : rd T n 63 w q 1 with
  | inl p =>
    rw [e] at h1 h2
    rcases h1 with ⟨_, g, _⟩ | ⟨p1, g1, g2, g3⟩
    · cases g
    · rcases h2 with ⟨_, g, _⟩ | ⟨p2, f1, f2, f3⟩
      · cases g
      · cases g1
        cases f1
        exact ⟨g2.trans f2.symm, w, hk, g3, f3⟩
  | inr a =>
    have ho : OKT a.1 := rd_ok T n 63 w q 1 a.1 a.2 hk e
    rw [e] at h1 h2
    rcases h1 with ⟨x1, g1, g2⟩ | ⟨_, g, _⟩
    · rcases h2 with ⟨x2, f1, f2⟩ | ⟨_, g, _⟩
      · injection g1 with g1
        injection f1 with f1
        rw [g1] at f1
        injection f1 with f1 f4
        rw [← f1] at f2
        rw [g1] at ho
        exact ⟨Int32.toInt_inj.mp f4, x1, ho, g2, f2⟩
      · cases g
    · cases g
/-- coachmen's cells lie behind the two objects, their numbers are those that the model keeps -/
def RA (Z : jdL) (I : jdI) : Prop := ∀ i, i < 8 → ∀ w, Z.2.1 (29 + 2 * i) 3 = some w → 82 < w ∧ I w 0 = I (45 + 15) i
theorem RA_hi {Z : jdL} {I : jdI} (h : RA Z I) : zHi Z := fun i hi w hw => (h i hi w hw).1
def NA (Z : jdL) (I : jdI) (Z2 : jdL) (I2 : jdI) : Prop := ∀ i, i < 8 → Z2.2.1 (29 + 2 * i) 3 = Z.2.1 (29 + 2 * i) 3 ∧ I2 (45 + 15) i = I (45 + 15) i ∧ ∀ w, Z.2.1 (29 + 2 * i) 3 = some w → 82 < w → I2 w 0 = I w 0
theorem NA.rf {Z : jdL} {I : jdI} : NA Z I Z I := fun _ _ => ⟨rfl, rfl, fun _ _ _ => rfl⟩
theorem NA.tr {Z Z1 Z2 : jdL} {I I1 I2 : jdI} (h : NA Z I Z1 I1) (h2 : NA Z1 I1 Z2 I2) : NA Z I Z2 I2 := fun i hi => by
  obtain ⟨a1, a2, a3⟩ := h i hi
  obtain ⟨b1, b2, b3⟩ := h2 i hi
  exact ⟨b1.trans a1, b2.trans a2, fun w hw hl => (b3 w (a1.trans hw) hl).trans (a3 w hw hl)⟩
theorem NA_fr {Z : jdL} {I I2 : jdI} {p : Nat → Nat → Prop} (hF : Fr p I I2) (hp : ∀ a k, p a k → a ≤ 82 ∧ ¬ a = 45 + 15) : NA Z I Z I2 := fun i hi => ⟨rfl, hF _ _ (fun q => (hp _ _ q).2 rfl), fun w hw hl => hF _ _ (fun q => by have := (hp _ _ q).1; omega)⟩
theorem NA_st {Z Z2 : jdL} {I I2 : jdI} {J J2 : jdJ} {x y : Nat} (h : IV Z I) (hS : ST 45 x y Z I J Z2 I2 J2) : NA Z I Z2 I2 := fun i hi => by
  have hb := h.2.2.2.2.2.1
  refine ⟨hS.2.2.2.1 _ _ (by omega) (by omega), hS.2.2.2.2.1 _ _ (by omega), fun w hw hl => ?_⟩
  obtain ⟨ci, hci, hz⟩ := h.2.1 i hi w hw
  exact hS.2.2.2.2.2.2.2 w ci (h.2.2.2.2.2.2.1 _ _ hz) (by omega) hz (by omega) 0
theorem RA_keep {Z Z2 : jdL} {I I2 : jdI} (h : RA Z I) (n : NA Z I Z2 I2) : RA Z2 I2 := fun i hi w hw => by
  obtain ⟨a1, a2, a3⟩ := n i hi
  rw [a1] at hw
  have g := h i hi w hw
  exact ⟨g.1, by rw [a2, a3 w hw g.1]; exact g.2⟩
/-- what a method of X does to the coachman of the shelf x1 where ok holds -/
def XA (ok : Prop) (x1 : Int32) (v : Option Int32) (Z : jdL) (I : jdI) (Z2 : jdL) (I2 : jdI) : Prop := ∀ i, i < 8 → (¬ (ok ∧ i = Int32.toNatClampNeg x1) → Z2.2.1 (29 + 2 * i) 3 = Z.2.1 (29 + 2 * i) 3 ∧ ∀ w, Z.2.1 (29 + 2 * i) 3 = some w → 82 < w → I2 w 0 = I w 0) ∧ (ok → i = Int32.toNatClampNeg x1 → ∀ w, Z2.2.1 (29 + 2 * i) 3 = some w → 82 < w ∧ some (I2 w 0) = v)
theorem XA_no {ok : Prop} {x1 : Int32} {v : Option Int32} {Z : jdL} {I I2 : jdI} {p : Nat → Nat → Prop} (hF : Fr p I I2) (hp : ∀ a k, p a k → a = 28) (h : ¬ ok) : XA ok x1 v Z I Z I2 := fun i hi => ⟨fun _ => ⟨rfl, fun w hw hl => hF _ _ (fun q => by have := hp _ _ q; omega)⟩, fun q => absurd q h⟩
theorem RA_row {Z Z1 : jdL} {I I1 I2 : jdI} {x1 : Int32} {ok : Prop} (h : RA Z I) (hI : ∀ i, i < 8 → I1 (45 + 15) i = I (45 + 15) i) (hx : XA ok x1 none Z I Z1 I1) (hF : Fr (fun a k => ((a = 45 + 1 ∨ a = 45 + 2 ∨ a = 45 + 3) ∧ k = (Int32.toNatClampNeg x1)) ∨ a = 45 + 17) I1 I2) : RA Z1 I2 := fun i hi w hw => by
  obtain ⟨c1, c2⟩ := hx i hi
  by_cases c : ok ∧ i = Int32.toNatClampNeg x1
  · have := (c2 c.1 c.2 w hw).2
    cases this
  · obtain ⟨d1, d2⟩ := c1 c
    rw [d1] at hw
    have g := h i hi w hw
    have gl := g.1
    exact ⟨g.1, by rw [hF w 0 (by omega), hF (45 + 15) i (by omega), hI i hi, d2 w hw g.1]; exact g.2⟩
theorem RA_man {Z Z1 : jdL} {I I1 I2 : jdI} {x1 x3 : Int32} {ok : Prop} (h : RA Z I) (hI : ∀ i, i < 8 → I1 (45 + 15) i = I (45 + 15) i) (hx : XA ok x1 (some x3) Z I Z1 I1) (hF : Fr (fun a k => ((a = 45 + 1 ∨ a = 45 + 14 ∨ a = 45 + 15) ∧ k = (Int32.toNatClampNeg x1)) ∨ a = 45 + 17) I1 I2) (hp : (ok → I2 (45 + 15) (Int32.toNatClampNeg x1) = x3) ∧ (¬ ok → I2 (45 + 15) (Int32.toNatClampNeg x1) = I1 (45 + 15) (Int32.toNatClampNeg x1))) : RA Z1 I2 := fun i hi w hw => by
  obtain ⟨c1, c2⟩ := hx i hi
  by_cases c : ok ∧ i = Int32.toNatClampNeg x1
  · have g := c2 c.1 c.2 w hw
    have gl := g.1
    have e : I1 w 0 = x3 := by
      have := g.2
      injection this
    exact ⟨g.1, by rw [hF w 0 (by omega), e, c.2, hp.1 c.1]⟩
  · obtain ⟨d1, d2⟩ := c1 c
    rw [d1] at hw
    have g := h i hi w hw
    have gl := g.1
    have e : I2 (45 + 15) i = I1 (45 + 15) i := by
      by_cases d : i = Int32.toNatClampNeg x1
      · rw [d]
        exact hp.2 (fun q => c ⟨q, d⟩)
      · exact hF _ _ (by omega)
    exact ⟨g.1, by rw [hF w 0 (by omega), e, hI i hi, d2 w hw g.1]; exact g.2⟩
theorem mk_0 {Z : jdL} {i : Nat} (h : mk Z i = 0) : Z.2.1 (29 + 2 * i) 3 = none := by
  cases e : Z.2.1 (29 + 2 * i) 3 with
  | none => rfl
  | some w =>
    rw [mk_some e] at h
    have := ckI_r (Z.1 w)
    omega
theorem mk_1 {Z : jdL} {i : Nat} (h : 1 ≤ mk Z i) : ∃ w, Z.2.1 (29 + 2 * i) 3 = some w := by
  cases e : Z.2.1 (29 + 2 * i) 3 with
  | none =>
    rw [mk_none e] at h
    omega
  | some w => exact ⟨w, rfl⟩
/-- a coachman's shelf is the same on both sides -/
theorem MAN_eq {Z : jdL} {I I1 : jdI} {x : Int32} (hrs : RS Z I) (hra : RA Z I) (e1 : ∀ k, I1 (45 + 1) k = I (45 + 1) k) (e14 : ∀ k, I1 (45 + 14) k = I (45 + 14) k) (e15 : ∀ k, I1 (45 + 15) k = I (45 + 15) k) : cM I1 45 x = cX Z I x ∧ (cX Z I x = 0 → (I1 (45 + 14) (Int32.toNatClampNeg x)).toInt = mk Z (Int32.toNatClampNeg x) ∧ I1 (45 + 15) (Int32.toNatClampNeg x) = aX Z I x) := by
  have n1 := tn_eq x
  unfold cM cX
  by_cases c : 0 ≤ x.toInt ∧ x.toInt < 8
  · rw [if_pos c, if_pos c, e1, e14, e15]
    have s := hrs (Int32.toNatClampNeg x) (by omega)
    unfold SRI at s
    rcases s with s | s | s
    · rw [mk_0 s.2.2, if_neg (by omega), if_pos s.1, if_pos rfl, if_pos s.2.1]
      exact ⟨rfl, fun z => by omega⟩
    · rw [mk_0 s.2.2.2.2.2, if_pos s.1, if_pos rfl, if_neg (by omega)]
      exact ⟨rfl, fun z => by omega⟩
    · obtain ⟨w, hw⟩ := mk_1 (Z := Z) (i := (Int32.toNatClampNeg x)) (by omega)
      rw [if_neg (by omega), if_neg (by omega), if_neg (by rw [hw]; exact fun z => (by cases z)), aX_some hw]
      exact ⟨rfl, fun _ => ⟨s.2.2.1.symm, ((hra _ (by omega) w hw).2).symm⟩⟩
  · rw [if_neg c, if_neg c]
    exact ⟨rfl, fun z => by omega⟩
theorem TOLD_eq {Z : jdL} {I I1 : jdI} {J : jdJ} {x1 x2 : Int32} (hrs : RS Z I) (hrj : RJ I J) (e1 : ∀ k, I1 (45 + 1) k = I (45 + 1) k) (e3 : ∀ k, I1 (45 + 3) k = I (45 + 3) k) : tM I1 45 x1 x2 = tX Z I x1 x2 ∧ (tX Z I x1 x2 = 0 → ∀ j, j < 40 → J (45 + 5 + (Int32.toNatClampNeg x1)) j = J (29 + 2 * (Int32.toNatClampNeg x1) + 1) j) := by
  have n1 := tn_eq x1
  unfold tM tX
  by_cases c : (0 ≤ x1.toInt ∧ x1.toInt < 8) ∧ 0 ≤ x2.toInt ∧ x2.toInt ≤ 7
  · rw [if_pos c, if_pos c, e1, e3]
    have s := hrs (Int32.toNatClampNeg x1) (by omega)
    unfold SRI at s
    rcases s with s | s | s
    · rw [if_neg (by omega), if_pos s.1, if_pos s.2.1, if_pos s.2.2]
      exact ⟨rfl, fun z => by omega⟩
    · rw [if_neg (show ¬ (I (45 + 1) (Int32.toNatClampNeg x1)).toInt = 2 by omega), if_neg (show ¬ (I (45 + 1) (Int32.toNatClampNeg x1)).toInt = 0 by omega), if_neg (show ¬ (I (29 + 2 * (Int32.toNatClampNeg x1)) 1).toInt = -1 by omega), s.2.2.2.2.1]
      exact ⟨rfl, fun _ j hj => (hrj _ (by omega) s.1 j hj).symm⟩
    · rw [if_pos s.1, if_pos s.2.1, if_neg (by omega)]
      exact ⟨rfl, fun z => by omega⟩
  · rw [if_neg c, if_neg c]
    exact ⟨rfl, fun z => by omega⟩
theorem anM_c {c f f2 : Int} (h : c = 0 → f = f2) : anM c f = anM c f2 := by
  unfold anM
  by_cases d : c = 0
  · rw [if_pos d, if_pos d, h d]
  · rw [if_neg d, if_neg d]
theorem oDay_c {s : Sd} {c kd kd2 : Int} {a a2 : Int32} (h : c = 0 → kd = kd2 ∧ a = a2) : oDay s c kd a = oDay s c kd2 a2 := by
  unfold oDay
  by_cases d : c = 0
  · rw [if_pos d, if_pos d, (h d).1, (h d).2]
  · rw [if_neg d, if_neg d]
theorem oRides_c {s : Sd} {c : Int} {r r2 : Nat → Int64} {m : Nat} (h : c = 0 → ∀ j, j < m → r j = r2 j) : oRides s c r m = oRides s c r2 m := by
  unfold oRides
  by_cases d : c = 0
  · rw [if_pos d, if_pos d, wrg_c m 0 0 (fun j _ hj => h d j (by omega)), rowL_c m 0 (fun j _ hj => h d j (by omega))]
  · rw [if_neg d, if_neg d]
theorem oJudge_c {w : Tw} {c : Int} {r r2 : Nat → Int64} {m : Nat} (h : c = 0 → ∀ j, j < m → r j = r2 j) : oJudge w c r m = oJudge w c r2 m := by
  unfold oJudge
  by_cases d : c = 0
  · rw [if_pos d, if_pos d, wrg_c m 0 0 (fun j _ hj => h d j (by omega))]
  · rw [if_neg d, if_neg d]
theorem SH3 {Z : jdL} {I I1 : jdI} {x : Int32} (hrs : RS Z I) (e1 : ∀ k, I1 (45 + 1) k = I (45 + 1) k) : 0 ≤ x.toInt → x.toInt < 8 → (I1 (45 + 1) (Int32.toNatClampNeg x)).toInt = 0 ∨ (I1 (45 + 1) (Int32.toNatClampNeg x)).toInt = 1 ∨ (I1 (45 + 1) (Int32.toNatClampNeg x)).toInt = 2 := fun h0 h1 => by
  have n1 := tn_eq x
  have s := hrs (Int32.toNatClampNeg x) (by omega)
  unfold SRI at s
  rw [e1]
  omega
theorem HEAD_eq {Z : jdL} {I I1 : jdI} {w : Tw} (hrs : RS Z I) (hra : RA Z I) (e1 : ∀ k, I1 (45 + 1) k = I (45 + 1) k) (e14 : ∀ k, I1 (45 + 14) k = I (45 + 14) k) (e15 : ∀ k, I1 (45 + 15) k = I (45 + 15) k) : oHead (gM I1 45 w) = oHead (gX Z I w) := oHead_c (fun i hi => by
  have s := hrs i hi
  unfold SRI at s
  unfold gM
  rw [e1, e14, e15]
  rcases s with s | s | s
  · rw [if_neg (by omega), gX_n (mk_0 s.2.2)]
  · rw [if_neg (by omega), gX_n (mk_0 s.2.2.2.2.2)]
  · obtain ⟨u, hu⟩ := mk_1 (Z := Z) (i := i) (by omega)
    rw [if_pos s.1, gX_s hu, ← mk_some hu, s.2.2.1, (hra i hi u hu).2])
theorem lX6_takeRow_17 {G : jdG} {n rc rs : Nat} {Z : jdL} {I : jdI} {J0 : jdJ} {Q : jdQ} {t : Nat} {x1 x2 : Int32} (ht : zShelf Z t) (hQ : ∀ J2, (∀ q : Nat, q < 40 → J2 (t + 1) q = 0) → (∀ a, a ≠ t + 1 → J2 a = J0 a) → Q none Z I J2) : ∀ m : Nat, ∀ (J : jdJ) (x3 : Int32), 0 ≤ x3.toInt ∧ x3.toInt ≤ 40 → (∀ q : Nat, (q : Int) < x3.toInt → J (t + 1) q = 0) → (∀ a, a ≠ t + 1 → J a = J0 a) → 40 - x3.toInt < (m : Int) → Jd G mX6_takeRow (jdFm G Q) n rc rs 17 [(0, .ref (gb G + t)), (1, .int x1), (2, .int x2), (3, .int x3)] [] Z I J := by
  intro m
  induction m with
  | zero =>
    intro J x3 h1 j1 j2 h2
    omega
  | succ m ih =>
    intro J x3 h1 j1 j2 h2
    have q40 : (40 : Int32).toInt = 40 := rfl
    have q1 : (1 : Int32).toInt = 1 := rfl
    have e1 := i32_add x3 1 (by omega) (by omega)
    have hn := tn_eq x3
    refine rX6_takeRow_17 ht ⟨fun hc => ?_, fun hc => ?_⟩
    · have hc := Int32.le_iff_toInt_le.mp hc
      exact hQ J (fun q hq => j1 q (by omega)) j2
    · have hc := mt Int32.le_iff_toInt_le.mpr hc
      refine ⟨vp_of (by omega) (by omega), ih _ (x3 + 1) (by omega) (fun q hq => ?_) (fun a ha => (uJ_n _ _ _ ha).trans (j2 a ha)) (by omega)⟩
      rw [uJ_ap]
      split
      · rfl
      · rename_i hne
        exact j1 q (by have : ¬ q = Int32.toNatClampNeg x3 := fun e => hne ⟨rfl, e⟩; omega)
theorem qX6_takeRow {G : jdG} {n : Nat} {Z : jdL} {I : jdI} {J : jdJ} {Q : jdQ} {t : Nat} {x1 x2 : Int32} (ht : zShelf Z t) (hQ : ∀ J2, (∀ q : Nat, q < 40 → J2 (t + 1) q = 0) → (∀ a, a ≠ t + 1 → J2 a = J a) → Q none (uP Z t 3 none) (uI (uI I t 1 x1) t 2 x2) J2) : Cl G mX6_takeRow n 0 0 [.ref (gb G + t), .int x1, .int x2] Z I J Q := by
  have hz : zShelf (uP Z t 3 none) t := ⟨ht.1, by rw [uP_ap, if_neg (by omega)]; exact ht.2.1, ht.2.2⟩
  exact eX6_takeRow ht ⟨hz, lX6_takeRow_17 hz hQ 41 J 0 (by decide) (fun q hq => by have z : (0 : Int32).toInt = 0 := rfl; exfalso; omega) (fun _ _ => rfl) (by decide)⟩
theorem qX6_takeMan {G : jdG} {n : Nat} {Z : jdL} {I : jdI} {J : jdJ} {Q : jdQ} {t u1 : Nat} (ht : zShelf Z t) (hQ : Q none (uP Z t 3 (some u1)) (uI (uI I t 1 (-1)) t 2 0) J) : Cl G mX6_takeMan n 0 0 [.ref (gb G + t), .ref (gb G + u1)] Z I J Q :=
  eX6_takeMan ht ⟨⟨ht.1, by rw [uP_ap, if_neg (by omega)]; exact ht.2.1, ht.2.2⟩, hQ⟩
theorem pX12_coachman {G : jdG} {n : Nat} {Z : jdL} {J : jdJ} {K : Int32 → jdI → jdJ → Prop} {I : jdI} {t : Nat} {x1 x2 x3 : Int32} (ht : zModel Z t) (hW : WM 7 t I) (hK : ∀ (v : Int32) (I2 : jdI), WM 7 t I2 → Fr (fun a k => ((a = t + 1 ∨ a = t + 14 ∨ a = t + 15) ∧ k = (Int32.toNatClampNeg x1)) ∨ a = t + 17) I I2 → ((v.toInt = 1 ∧ ((0 ≤ x1.toInt ∧ x1.toInt ≤ 7) ∧ (1 ≤ x2.toInt ∧ x2.toInt ≤ 5) ∧ 0 ≤ x3.toInt ∧ x3.toInt ≤ 9) ∧ (I2 (t + 1) (Int32.toNatClampNeg x1)).toInt = 2 ∧ (I2 (t + 14) (Int32.toNatClampNeg x1)).toInt = x2.toInt) ∨ (v.toInt = -2 ∧ ¬ ((0 ≤ x1.toInt ∧ x1.toInt ≤ 7) ∧ (1 ≤ x2.toInt ∧ x2.toInt ≤ 5) ∧ 0 ≤ x3.toInt ∧ x3.toInt ≤ 9) ∧ (I2 (t + 1) (Int32.toNatClampNeg x1)).toInt = (I (t + 1) (Int32.toNatClampNeg x1)).toInt ∧ (I2 (t + 14) (Int32.toNatClampNeg x1)).toInt = (I (t + 14) (Int32.toNatClampNeg x1)).toInt)) → ((((0 ≤ x1.toInt ∧ x1.toInt ≤ 7) ∧ (1 ≤ x2.toInt ∧ x2.toInt ≤ 5) ∧ 0 ≤ x3.toInt ∧ x3.toInt ≤ 9)) → I2 (t + 15) (Int32.toNatClampNeg x1) = x3) ∧ (¬ (((0 ≤ x1.toInt ∧ x1.toInt ≤ 7) ∧ (1 ≤ x2.toInt ∧ x2.toInt ≤ 5) ∧ 0 ≤ x3.toInt ∧ x3.toInt ≤ 9)) → I2 (t + 15) (Int32.toNatClampNeg x1) = I (t + 15) (Int32.toNatClampNeg x1)) → K v I2 J) : Cl G mX12_coachman (n + 1) 0 0 [.ref (gb G + t), .int x1, .int x2, .int x3] Z I J (qi Z K) := by
  have e1 : (Int32.toInt64 x1).toInt = x1.toInt := Int32.toInt_toInt64 _
  have e2 : (Int32.toInt64 x2).toInt = x2.toInt := Int32.toInt_toInt64 _
  have e3 : (Int32.toInt64 x3).toInt = x3.toInt := Int32.toInt_toInt64 _
  have z0 : (0 : Int64).toInt = 0 := rfl
  have z1 : (1 : Int64).toInt = 1 := rfl
  have z5 : (5 : Int64).toInt = 5 := rfl
  have z7 : (7 : Int64).toInt = 7 := rfl
  have z9 : (9 : Int64).toInt = 9 := rfl
  have q2 : (2 : Int32).toInt = 2 := rfl
  have hw := WM_f hW
  have no : ¬ (((0 ≤ x1.toInt ∧ x1.toInt ≤ 7) ∧ (1 ≤ x2.toInt ∧ x2.toInt ≤ 5) ∧ 0 ≤ x3.toInt ∧ x3.toInt ≤ 9)) → Cl G mX12_refuse n 0 0 [.ref (gb G + t), .int (-2)] Z I J (qi Z K) := fun hn => sfX12_refuse ht (by decide) hW (by decide) (fun v I3 hW3 hF3 hp3 => hK v I3 hW3 (Fr.tr Fr.rf hF3 (by intro a k h; omega)) (Or.inr ⟨hp3, hn, by rw [hF3 (t + 1) _ (by omega)], by rw [hF3 (t + 14) _ (by omega)]⟩) ⟨fun q => absurd q hn, fun _ => hF3 (t + 15) _ (by omega)⟩)
  refine eX12_coachman ht ?_
  refine sfX12_in trivial (fun v2 p2 => ⟨fun c2 => ?_, fun c2 => ?_⟩)
  · have c2 := i0 c2
    exact no (by omega)
  · have c2 := i1 c2
    refine sfX12_in trivial (fun v6 p6 => ⟨fun c6 => ?_, fun c6 => ?_⟩)
    · have c6 := i0 c6
      exact no (by omega)
    · have c6 := i1 c6
      refine sfX12_in trivial (fun v10 p10 => ⟨fun c10 => ?_, fun c10 => ?_⟩)
      · have c10 := i1 c10
        refine ⟨vp_of (by omega) (by omega), vp_of (by omega) (by omega), vp_of (by omega) (by omega), ?_⟩
        have w1 : WM 7 t (uI I (t + 1) (Int32.toNatClampNeg x1) 2) := WM_uI hW (by first | exact okMo (by decide) (by decide) (by decide) (by decide) (by decide) | exact okMf (by decide) (by decide) (by decide) (by decide) (by decide) (by decide) (by decide) (by decide) | exact okM30 (by omega) | exact okM42 (by omega) | exact okM33 (by omega) | exact okM10 (by omega) | exact okM8 (by omega) | exact okM22 (by omega) | exact okM24 (by omega) | exact okM14 (by omega) | exact okMa31 (by omega) | exact okMa35 (by omega) | exact okMa36 (by omega) | exact okMa3 (by omega) | exact okMr (by omega) | (unfold okM; refine ⟨?_, ?_, ?_, ?_, ?_, ?_, ?_, ?_, ?_, ?_, ?_, ?_⟩ <;> intro h <;> omega))
        have w2 : WM 7 t (uI (uI I (t + 1) (Int32.toNatClampNeg x1) 2) (t + 14) (Int32.toNatClampNeg x1) x2) := WM_uI w1 (by first | exact okMo (by decide) (by decide) (by decide) (by decide) (by decide) | exact okMf (by decide) (by decide) (by decide) (by decide) (by decide) (by decide) (by decide) (by decide) | exact okM30 (by omega) | exact okM42 (by omega) | exact okM33 (by omega) | exact okM10 (by omega) | exact okM8 (by omega) | exact okM22 (by omega) | exact okM24 (by omega) | exact okM14 (by omega) | exact okMa31 (by omega) | exact okMa35 (by omega) | exact okMa36 (by omega) | exact okMa3 (by omega) | exact okMr (by omega) | (unfold okM; refine ⟨?_, ?_, ?_, ?_, ?_, ?_, ?_, ?_, ?_, ?_, ?_, ?_⟩ <;> intro h <;> omega))
        refine hK 1 _ (WM_uI w2 (by first | exact okMo (by decide) (by decide) (by decide) (by decide) (by decide) | exact okMf (by decide) (by decide) (by decide) (by decide) (by decide) (by decide) (by decide) (by decide) | exact okM30 (by omega) | exact okM42 (by omega) | exact okM33 (by omega) | exact okM10 (by omega) | exact okM8 (by omega) | exact okM22 (by omega) | exact okM24 (by omega) | exact okM14 (by omega) | exact okMa31 (by omega) | exact okMa35 (by omega) | exact okMa36 (by omega) | exact okMa3 (by omega) | exact okMr (by omega) | (unfold okM; refine ⟨?_, ?_, ?_, ?_, ?_, ?_, ?_, ?_, ?_, ?_, ?_, ?_⟩ <;> intro h <;> omega))) (Fr_uI (Fr_uI (Fr_uI Fr.rf (by omega)) (by omega)) (by omega)) (Or.inl ⟨rfl, by omega, ?_, ?_⟩) ⟨fun _ => by rw [uI_ap, if_pos ⟨rfl, rfl⟩], fun q => absurd (by omega) q⟩
        · rw [uI_ap, if_neg (by omega), uI_ap, if_neg (by omega), uI_ap, if_pos ⟨rfl, rfl⟩]
          rfl
        · rw [uI_ap, if_neg (by omega), uI_ap, if_pos ⟨rfl, rfl⟩]
      · have c10 := i0 c10
        exact no (by omega)
theorem qX11_newCoachman {G : jdG} {n : Nat} {Z : jdL} {I : jdI} {J : jdJ} {Q : jdQ} {x0 x1 : Int32} (h : IV Z I) (hQ : ∀ (w : Nat) (Z2 : jdL) (I2 : jdI), IV Z2 I2 → zMan Z2 w → NX Z I Z2 I2 → ((∀ a k, a < Z.2.2 → I2 a k = I a k) ∧ (∀ i, i < 8 → mk Z2 i = mk Z i) ∧ (1 ≤ x0.toInt → x0.toInt ≤ 5 → ckI (Z2.1 w) = x0.toInt) ∧ 82 < w ∧ I2 w 0 = x1 ∧ ∀ i, i < 8 → Z2.2.1 (29 + 2 * i) 3 = Z.2.1 (29 + 2 * i) 3) → Q (some (.ref (gb G + w))) Z2 I2 J) : Cl G mX11_newCoachman (n + 4) 1 1 [.int x0, .int x1] Z I J Q := by
  have hb := h.2.2.2.2.2.1
  refine eX11_newCoachman ⟨fun hc => ?_, fun hc => ?_, fun hc => ?_, fun hc => ?_, fun hc => ?_⟩
  · refine ⟨0, 0, Nat.le_refl _, Nat.le_refl _, 0, 0, 0, 0, Nat.le_refl _, Nat.le_refl _, ?_⟩
    refine v_X0_init_0 (by rw [nZ_ap, if_pos rfl]) ⟨rfl, hQ _ _ _ (IV_nZ (IV_hi h (p := fun a _ => a = Z.2.2) (Fr_uI (Fr_zI Fr.rf (fun _ => rfl)) rfl) (by intro a k h; omega))) ⟨0, by decide, by rw [nZ_ap, if_pos rfl]⟩ (NX.tr (NX_fr (p := fun a _ => a = Z.2.2) (Fr_uI (Fr_zI Fr.rf (fun _ => rfl)) rfl) (by omega) (by omega) (by omega)) (NX_nZ (IV_hi h (p := fun a _ => a = Z.2.2) (Fr_uI (Fr_zI Fr.rf (fun _ => rfl)) rfl) (by intro a k h; omega)))) ⟨fun a k ha => by rw [uI_ap, if_neg (by omega), zI_ap, if_neg (by omega)], fun i hi => mk_nZ h hi, fun q1 q2 => by rw [nZ_ap, if_pos rfl]; show (5 : Int) = _; omega, by omega, by rw [uI_ap, if_pos ⟨rfl, rfl⟩], fun i hi => by rw [nZ_ap2, if_neg (by omega)]⟩⟩
  · refine ⟨0, 0, Nat.le_refl _, Nat.le_refl _, 0, 0, 0, 0, Nat.le_refl _, Nat.le_refl _, ?_⟩
    refine v_X4_init_3 (by rw [nZ_ap, if_pos rfl]) ⟨rfl, hQ _ _ _ (IV_nZ (IV_hi h (p := fun a _ => a = Z.2.2) (Fr_uI (Fr_zI Fr.rf (fun _ => rfl)) rfl) (by intro a k h; omega))) ⟨3, by decide, by rw [nZ_ap, if_pos rfl]⟩ (NX.tr (NX_fr (p := fun a _ => a = Z.2.2) (Fr_uI (Fr_zI Fr.rf (fun _ => rfl)) rfl) (by omega) (by omega) (by omega)) (NX_nZ (IV_hi h (p := fun a _ => a = Z.2.2) (Fr_uI (Fr_zI Fr.rf (fun _ => rfl)) rfl) (by intro a k h; omega)))) ⟨fun a k ha => by rw [uI_ap, if_neg (by omega), zI_ap, if_neg (by omega)], fun i hi => mk_nZ h hi, fun q1 q2 => by rw [nZ_ap, if_pos rfl]; show (1 : Int) = _; omega, by omega, by rw [uI_ap, if_pos ⟨rfl, rfl⟩], fun i hi => by rw [nZ_ap2, if_neg (by omega)]⟩⟩
  · refine ⟨0, 0, Nat.le_refl _, Nat.le_refl _, 0, 0, 0, 0, Nat.le_refl _, Nat.le_refl _, ?_⟩
    refine v_X1_init_1 (by rw [nZ_ap, if_pos rfl]) ⟨rfl, hQ _ _ _ (IV_nZ (IV_hi h (p := fun a _ => a = Z.2.2) (Fr_uI (Fr_zI Fr.rf (fun _ => rfl)) rfl) (by intro a k h; omega))) ⟨1, by decide, by rw [nZ_ap, if_pos rfl]⟩ (NX.tr (NX_fr (p := fun a _ => a = Z.2.2) (Fr_uI (Fr_zI Fr.rf (fun _ => rfl)) rfl) (by omega) (by omega) (by omega)) (NX_nZ (IV_hi h (p := fun a _ => a = Z.2.2) (Fr_uI (Fr_zI Fr.rf (fun _ => rfl)) rfl) (by intro a k h; omega)))) ⟨fun a k ha => by rw [uI_ap, if_neg (by omega), zI_ap, if_neg (by omega)], fun i hi => mk_nZ h hi, fun q1 q2 => by rw [nZ_ap, if_pos rfl]; show (2 : Int) = _; omega, by omega, by rw [uI_ap, if_pos ⟨rfl, rfl⟩], fun i hi => by rw [nZ_ap2, if_neg (by omega)]⟩⟩
  · refine ⟨0, 0, Nat.le_refl _, Nat.le_refl _, 0, 0, 0, 0, Nat.le_refl _, Nat.le_refl _, ?_⟩
    refine v_X10_init_9 (by rw [nZ_ap, if_pos rfl]) ⟨rfl, hQ _ _ _ (IV_nZ (IV_hi h (p := fun a _ => a = Z.2.2) (Fr_uI (Fr_zI Fr.rf (fun _ => rfl)) rfl) (by intro a k h; omega))) ⟨9, by decide, by rw [nZ_ap, if_pos rfl]⟩ (NX.tr (NX_fr (p := fun a _ => a = Z.2.2) (Fr_uI (Fr_zI Fr.rf (fun _ => rfl)) rfl) (by omega) (by omega) (by omega)) (NX_nZ (IV_hi h (p := fun a _ => a = Z.2.2) (Fr_uI (Fr_zI Fr.rf (fun _ => rfl)) rfl) (by intro a k h; omega)))) ⟨fun a k ha => by rw [uI_ap, if_neg (by omega), zI_ap, if_neg (by omega)], fun i hi => mk_nZ h hi, fun q1 q2 => by rw [nZ_ap, if_pos rfl]; show (3 : Int) = _; omega, by omega, by rw [uI_ap, if_pos ⟨rfl, rfl⟩], fun i hi => by rw [nZ_ap2, if_neg (by omega)]⟩⟩
  · refine ⟨0, 0, Nat.le_refl _, Nat.le_refl _, 0, 0, 0, 0, Nat.le_refl _, Nat.le_refl _, ?_⟩
    refine v_X7_init_6 (by rw [nZ_ap, if_pos rfl]) ⟨rfl, hQ _ _ _ (IV_nZ (IV_hi h (p := fun a _ => a = Z.2.2) (Fr_uI (Fr_zI Fr.rf (fun _ => rfl)) rfl) (by intro a k h; omega))) ⟨6, by decide, by rw [nZ_ap, if_pos rfl]⟩ (NX.tr (NX_fr (p := fun a _ => a = Z.2.2) (Fr_uI (Fr_zI Fr.rf (fun _ => rfl)) rfl) (by omega) (by omega) (by omega)) (NX_nZ (IV_hi h (p := fun a _ => a = Z.2.2) (Fr_uI (Fr_zI Fr.rf (fun _ => rfl)) rfl) (by intro a k h; omega)))) ⟨fun a k ha => by rw [uI_ap, if_neg (by omega), zI_ap, if_neg (by omega)], fun i hi => mk_nZ h hi, fun q1 q2 => by rw [nZ_ap, if_pos rfl]; show (4 : Int) = _; omega, by omega, by rw [uI_ap, if_pos ⟨rfl, rfl⟩], fun i hi => by rw [nZ_ap2, if_neg (by omega)]⟩⟩
theorem qX11_row {G : jdG} {n : Nat} {Z : jdL} {I : jdI} {J : jdJ} {Q : jdQ} {x1 x2 x3 : Int32} (h : IV Z I) (hQ : ∀ (v : Int32) (Z2 : jdL) (I2 : jdI) (J2 : jdJ), IV Z2 I2 → ((v.toInt = 1 ∧ ((0 ≤ x1.toInt ∧ x1.toInt ≤ 7) ∧ (0 ≤ x2.toInt ∧ x2.toInt ≤ 4) ∧ 0 ≤ x3.toInt ∧ x3.toInt ≤ 40)) ∨ (v.toInt = -2 ∧ ¬ ((0 ≤ x1.toInt ∧ x1.toInt ≤ 7) ∧ (0 ≤ x2.toInt ∧ x2.toInt ≤ 4) ∧ 0 ≤ x3.toInt ∧ x3.toInt ≤ 40))) → NX Z I Z2 I2 → XS (((0 ≤ x1.toInt ∧ x1.toInt ≤ 7) ∧ (0 ≤ x2.toInt ∧ x2.toInt ≤ 4) ∧ 0 ≤ x3.toInt ∧ x3.toInt ≤ 40)) x1 x2.toInt x3.toInt 0 Z I Z2 I2 → XA (((0 ≤ x1.toInt ∧ x1.toInt ≤ 7) ∧ (0 ≤ x2.toInt ∧ x2.toInt ≤ 4) ∧ 0 ≤ x3.toInt ∧ x3.toInt ≤ 40)) x1 none Z I Z2 I2 → (((((0 ≤ x1.toInt ∧ x1.toInt ≤ 7) ∧ (0 ≤ x2.toInt ∧ x2.toInt ≤ 4) ∧ 0 ≤ x3.toInt ∧ x3.toInt ≤ 40)) → (∀ q : Nat, q < 40 → J2 (29 + 2 * (Int32.toNatClampNeg x1) + 1) q = 0) ∧ ∀ a, a ≠ 29 + 2 * (Int32.toNatClampNeg x1) + 1 → J2 a = J a) ∧ (¬ (((0 ≤ x1.toInt ∧ x1.toInt ≤ 7) ∧ (0 ≤ x2.toInt ∧ x2.toInt ≤ 4) ∧ 0 ≤ x3.toInt ∧ x3.toInt ≤ 40)) → J2 = J)) → NT Z I Z2 I2 → Q (some (.int v)) Z2 I2 J2) : Cl G mX11_row (n + 1) 0 0 [.ref (gb G + 0), .int x1, .int x2, .int x3] Z I J Q := by
  have q0 : (0 : Int32).toInt = 0 := rfl
  have q1 : (1 : Int32).toInt = 1 := rfl
  have q2 : (-2 : Int32).toInt = -2 := rfl
  have q5 : (5 : Int32).toInt = 5 := rfl
  have q6 : (6 : Int32).toInt = 6 := rfl
  have q9 : (9 : Int32).toInt = 9 := rfl
  have q40 : (40 : Int32).toInt = 40 := rfl
  refine eX11_row h.1 ?_
  refine sfX11_isShelf h.2.2.1 (fun v2 hp => ⟨fun hc => ?_, fun hc => ?_⟩)
  · have hc := i0 hc
    refine sfX11_refuse h.1 h.2.2.1 (fun v4 I3 hW3 hF3 hp3 => ?_)
    exact hQ _ _ _ _ (IV_x h hW3 hF3 (by intro a k h; omega)) (by rw [hp3]; omega) (NX_fr hF3 (by omega) (by omega) (by omega)) (XS_no hF3 (fun a k q => q) (by omega)) (XA_no hF3 (fun a k q => q) (by omega)) ⟨fun q => absurd q (by omega), fun _ => rfl⟩ (NT_fr h hF3 (by intro a k h; omega))
  · have hc := i1 hc
    refine ⟨fun hc2 => ?_, fun hc2 => ⟨fun hc3 => ?_, fun hc3 => ⟨fun hc4 => ?_, fun hc4 => ⟨fun hc5 => ?_, fun hc5 => ?_⟩⟩⟩⟩
    · have hc2 := Int32.lt_iff_toInt_lt.mp hc2
      refine sfX11_refuse h.1 h.2.2.1 (fun v4 I3 hW3 hF3 hp3 => ?_)
      exact hQ _ _ _ _ (IV_x h hW3 hF3 (by intro a k h; omega)) (by rw [hp3]; omega) (NX_fr hF3 (by omega) (by omega) (by omega)) (XS_no hF3 (fun a k q => q) (by omega)) (XA_no hF3 (fun a k q => q) (by omega)) ⟨fun q => absurd q (by omega), fun _ => rfl⟩ (NT_fr h hF3 (by intro a k h; omega))
    · have hc3 := Int32.le_iff_toInt_le.mp hc3
      refine sfX11_refuse h.1 h.2.2.1 (fun v4 I3 hW3 hF3 hp3 => ?_)
      exact hQ _ _ _ _ (IV_x h hW3 hF3 (by intro a k h; omega)) (by rw [hp3]; omega) (NX_fr hF3 (by omega) (by omega) (by omega)) (XS_no hF3 (fun a k q => q) (by omega)) (XA_no hF3 (fun a k q => q) (by omega)) ⟨fun q => absurd q (by omega), fun _ => rfl⟩ (NT_fr h hF3 (by intro a k h; omega))
    · have hc4 := Int32.lt_iff_toInt_lt.mp hc4
      refine sfX11_refuse h.1 h.2.2.1 (fun v4 I3 hW3 hF3 hp3 => ?_)
      exact hQ _ _ _ _ (IV_x h hW3 hF3 (by intro a k h; omega)) (by rw [hp3]; omega) (NX_fr hF3 (by omega) (by omega) (by omega)) (XS_no hF3 (fun a k q => q) (by omega)) (XA_no hF3 (fun a k q => q) (by omega)) ⟨fun q => absurd q (by omega), fun _ => rfl⟩ (NT_fr h hF3 (by intro a k h; omega))
    · have hc2 := mt Int32.lt_iff_toInt_lt.mpr hc2
      have hc3 := mt Int32.le_iff_toInt_le.mpr hc3
      have hc4 := mt Int32.lt_iff_toInt_lt.mpr hc4
      have hc5 := Int32.le_iff_toInt_le.mp hc5
      refine ⟨vp_of (by omega) (by omega), ?_⟩
      refine ⟨0, 0, 0, 0, Nat.zero_le _, Nat.zero_le _, ?_⟩
      have hn := tn_eq x1
      have hz := zX_shelf h.1 (i := Int32.toNatClampNeg x1) (by omega)
      have w1 : WX (uI I (29 + 2 * (Int32.toNatClampNeg x1)) 1 x2) := WX_uI h.2.2.1 (by first | exact okXo (by decide) | (unfold okX; refine ⟨?_, ?_, ?_, ?_, ?_, ?_, ?_, ?_, ?_, ?_⟩ <;> intro h <;> omega))
      have w2 : WX (uI (uI I (29 + 2 * (Int32.toNatClampNeg x1)) 1 x2) (29 + 2 * (Int32.toNatClampNeg x1)) 2 x3) := WX_uI w1 (by first | exact okXo (by decide) | (unfold okX; refine ⟨?_, ?_, ?_, ?_, ?_, ?_, ?_, ?_, ?_, ?_⟩ <;> intro h <;> omega))
      refine qX6_takeRow hz (fun J2 hj1 hj2 => ?_)
      have h2 := IV_uP (IV_x h w2 (p := fun a _ => a < 45) (Fr_uI (Fr_uI Fr.rf (by omega)) (by omega)) (fun a k h => h)) (i := Int32.toNatClampNeg x1) (v := none) (by omega) (fun w e => by cases e)
      have hxs : XS (((0 ≤ x1.toInt ∧ x1.toInt ≤ 7) ∧ (0 ≤ x2.toInt ∧ x2.toInt ≤ 4) ∧ 0 ≤ x3.toInt ∧ x3.toInt ≤ 40)) x1 x2.toInt x3.toInt 0 Z I (uP Z (29 + 2 * (Int32.toNatClampNeg x1)) 3 none) (uI (uI I (29 + 2 * (Int32.toNatClampNeg x1)) 1 x2) (29 + 2 * (Int32.toNatClampNeg x1)) 2 x3) := by
        refine ⟨fun a k ha _ => by rw [uI_ap, if_neg (by omega), uI_ap, if_neg (by omega)], fun i hi => ⟨fun q => ?_, fun q1 q2 => ?_⟩⟩
        · have hne : i ≠ Int32.toNatClampNeg x1 := fun e => q ⟨by omega, e⟩
          exact ⟨by rw [uI_ap, if_neg (by omega), uI_ap, if_neg (by omega)], by rw [uI_ap, if_neg (by omega), uI_ap, if_neg (by omega)], mk_uP_ne hne⟩
        · rw [q2]
          exact ⟨by rw [uI_ap, if_neg (by omega), uI_ap, if_pos ⟨rfl, rfl⟩], by rw [uI_ap, if_pos ⟨rfl, rfl⟩], mk_uP_none⟩
      have hxa : XA (((0 ≤ x1.toInt ∧ x1.toInt ≤ 7) ∧ (0 ≤ x2.toInt ∧ x2.toInt ≤ 4) ∧ 0 ≤ x3.toInt ∧ x3.toInt ≤ 40)) x1 none Z I (uP Z (29 + 2 * (Int32.toNatClampNeg x1)) 3 none) (uI (uI I (29 + 2 * (Int32.toNatClampNeg x1)) 1 x2) (29 + 2 * (Int32.toNatClampNeg x1)) 2 x3) := fun i hi => by
        refine ⟨fun q => ?_, fun q1 q2 w hw => ?_⟩
        · have hne : i ≠ Int32.toNatClampNeg x1 := fun e => q ⟨by omega, e⟩
          exact ⟨by rw [uP_ap, if_neg (by omega)], fun w hw hl => by rw [uI_ap, if_neg (by omega), uI_ap, if_neg (by omega)]⟩
        · rw [q2, uP_ap, if_pos ⟨rfl, rfl⟩] at hw
          cases hw
      exact ⟨rfl, h2.1, hQ _ _ _ _ h2 (by omega) (NX.tr (NX_fr (p := fun a _ => 29 ≤ a ∧ a < 45) (Fr_uI (Fr_uI Fr.rf (by omega)) (by omega)) (by omega) (by omega) (by omega)) (NX_uP (by omega))) hxs hxa ⟨fun _ => ⟨hj1, hj2⟩, fun q => absurd (by omega) q⟩ (NT_all h (fun a k ha => by rw [uI_ap, if_neg (by omega), uI_ap, if_neg (by omega)]) (by rw [uP_ap, if_neg (by omega)]))⟩
    · have hc5 := mt Int32.le_iff_toInt_le.mpr hc5
      refine sfX11_refuse h.1 h.2.2.1 (fun v4 I3 hW3 hF3 hp3 => ?_)
      exact hQ _ _ _ _ (IV_x h hW3 hF3 (by intro a k h; omega)) (by rw [hp3]; omega) (NX_fr hF3 (by omega) (by omega) (by omega)) (XS_no hF3 (fun a k q => q) (by omega)) (XA_no hF3 (fun a k q => q) (by omega)) ⟨fun q => absurd q (by omega), fun _ => rfl⟩ (NT_fr h hF3 (by intro a k h; omega))
theorem qX11_coachman {G : jdG} {n : Nat} {Z : jdL} {I : jdI} {J : jdJ} {Q : jdQ} {x1 x2 x3 : Int32} (h : IV Z I) (hQ : ∀ (v : Int32) (Z2 : jdL) (I2 : jdI) (J2 : jdJ), IV Z2 I2 → ((v.toInt = 1 ∧ ((0 ≤ x1.toInt ∧ x1.toInt ≤ 7) ∧ (1 ≤ x2.toInt ∧ x2.toInt ≤ 5) ∧ 0 ≤ x3.toInt ∧ x3.toInt ≤ 9)) ∨ (v.toInt = -2 ∧ ¬ ((0 ≤ x1.toInt ∧ x1.toInt ≤ 7) ∧ (1 ≤ x2.toInt ∧ x2.toInt ≤ 5) ∧ 0 ≤ x3.toInt ∧ x3.toInt ≤ 9))) → NX Z I Z2 I2 → XS (((0 ≤ x1.toInt ∧ x1.toInt ≤ 7) ∧ (1 ≤ x2.toInt ∧ x2.toInt ≤ 5) ∧ 0 ≤ x3.toInt ∧ x3.toInt ≤ 9)) x1 (-1) 0 x2.toInt Z I Z2 I2 → XA (((0 ≤ x1.toInt ∧ x1.toInt ≤ 7) ∧ (1 ≤ x2.toInt ∧ x2.toInt ≤ 5) ∧ 0 ≤ x3.toInt ∧ x3.toInt ≤ 9)) x1 (some x3) Z I Z2 I2 → J2 = J → NT Z I Z2 I2 → Q (some (.int v)) Z2 I2 J2) : Cl G mX11_coachman (n + 5) 1 1 [.ref (gb G + 0), .int x1, .int x2, .int x3] Z I J Q := by
  have q0 : (0 : Int32).toInt = 0 := rfl
  have q1 : (1 : Int32).toInt = 1 := rfl
  have q2 : (-2 : Int32).toInt = -2 := rfl
  have q5 : (5 : Int32).toInt = 5 := rfl
  have q6 : (6 : Int32).toInt = 6 := rfl
  have q9 : (9 : Int32).toInt = 9 := rfl
  have q40 : (40 : Int32).toInt = 40 := rfl
  refine eX11_coachman h.1 ?_
  refine sfX11_isShelf h.2.2.1 (fun v2 hp => ⟨fun hc => ?_, fun hc => ?_⟩)
  · have hc := i0 hc
    refine sfX11_refuse h.1 h.2.2.1 (fun v4 I3 hW3 hF3 hp3 => ?_)
    exact hQ _ _ _ _ (IV_x h hW3 hF3 (by intro a k h; omega)) (by rw [hp3]; omega) (NX_fr hF3 (by omega) (by omega) (by omega)) (XS_no hF3 (fun a k q => q) (by omega)) (XA_no hF3 (fun a k q => q) (by omega)) rfl (NT_fr h hF3 (by intro a k h; omega))
  · have hc := i1 hc
    refine ⟨fun hc2 => ?_, fun hc2 => ⟨fun hc3 => ?_, fun hc3 => ⟨fun hc4 => ?_, fun hc4 => ⟨fun hc5 => ?_, fun hc5 => ?_⟩⟩⟩⟩
    · have hc2 := Int32.lt_iff_toInt_lt.mp hc2
      refine sfX11_refuse h.1 h.2.2.1 (fun v4 I3 hW3 hF3 hp3 => ?_)
      exact hQ _ _ _ _ (IV_x h hW3 hF3 (by intro a k h; omega)) (by rw [hp3]; omega) (NX_fr hF3 (by omega) (by omega) (by omega)) (XS_no hF3 (fun a k q => q) (by omega)) (XA_no hF3 (fun a k q => q) (by omega)) rfl (NT_fr h hF3 (by intro a k h; omega))
    · have hc3 := Int32.le_iff_toInt_le.mp hc3
      refine sfX11_refuse h.1 h.2.2.1 (fun v4 I3 hW3 hF3 hp3 => ?_)
      exact hQ _ _ _ _ (IV_x h hW3 hF3 (by intro a k h; omega)) (by rw [hp3]; omega) (NX_fr hF3 (by omega) (by omega) (by omega)) (XS_no hF3 (fun a k q => q) (by omega)) (XA_no hF3 (fun a k q => q) (by omega)) rfl (NT_fr h hF3 (by intro a k h; omega))
    · have hc4 := Int32.lt_iff_toInt_lt.mp hc4
      refine sfX11_refuse h.1 h.2.2.1 (fun v4 I3 hW3 hF3 hp3 => ?_)
      exact hQ _ _ _ _ (IV_x h hW3 hF3 (by intro a k h; omega)) (by rw [hp3]; omega) (NX_fr hF3 (by omega) (by omega) (by omega)) (XS_no hF3 (fun a k q => q) (by omega)) (XA_no hF3 (fun a k q => q) (by omega)) rfl (NT_fr h hF3 (by intro a k h; omega))
    · have hc2 := mt Int32.lt_iff_toInt_lt.mpr hc2
      have hc3 := mt Int32.le_iff_toInt_le.mpr hc3
      have hc4 := mt Int32.lt_iff_toInt_lt.mpr hc4
      have hc5 := Int32.le_iff_toInt_le.mp hc5
      refine ⟨vp_of (by omega) (by omega), ?_⟩
      refine ⟨1, 1, 0, 0, Nat.le_refl _, Nat.le_refl _, ?_⟩
      have hn := tn_eq x1
      refine qX11_newCoachman h (fun w Z2 I2 h2 hm hnx hnw => ⟨w, rfl, h2.1, 0, 0, 0, 0, Nat.le_refl _, Nat.le_refl _, ?_⟩)
      have hz := zX_shelf h2.1 (i := Int32.toNatClampNeg x1) (by omega)
      have w1 : WX (uI I2 (29 + 2 * (Int32.toNatClampNeg x1)) 1 (-1)) := WX_uI h2.2.2.1 (by first | exact okXo (by decide) | (unfold okX; refine ⟨?_, ?_, ?_, ?_, ?_, ?_, ?_, ?_, ?_, ?_⟩ <;> intro h <;> omega))
      have w2 : WX (uI (uI I2 (29 + 2 * (Int32.toNatClampNeg x1)) 1 (-1)) (29 + 2 * (Int32.toNatClampNeg x1)) 2 0) := WX_uI w1 (by first | exact okXo (by decide) | (unfold okX; refine ⟨?_, ?_, ?_, ?_, ?_, ?_, ?_, ?_, ?_, ?_⟩ <;> intro h <;> omega))
      refine qX6_takeMan hz ?_
      have h3 := IV_uP (IV_x h2 w2 (p := fun a _ => a < 45) (Fr_uI (Fr_uI Fr.rf (by omega)) (by omega)) (fun a k h => h)) (i := Int32.toNatClampNeg x1) (v := some w) (by omega) (fun w' e => by cases e; exact hm)
      have hb := h.2.2.2.2.2.1
      have hxs : XS (((0 ≤ x1.toInt ∧ x1.toInt ≤ 7) ∧ (1 ≤ x2.toInt ∧ x2.toInt ≤ 5) ∧ 0 ≤ x3.toInt ∧ x3.toInt ≤ 9)) x1 (-1) 0 x2.toInt Z I (uP Z2 (29 + 2 * (Int32.toNatClampNeg x1)) 3 (some w)) (uI (uI I2 (29 + 2 * (Int32.toNatClampNeg x1)) 1 (-1)) (29 + 2 * (Int32.toNatClampNeg x1)) 2 0) := by
        refine ⟨fun a k ha hz => by rw [uI_ap, if_neg (by omega), uI_ap, if_neg (by omega)]; exact hnw.1 a k hz, fun i hi => ⟨fun q => ?_, fun q1 q2 => ?_⟩⟩
        · have hne : i ≠ Int32.toNatClampNeg x1 := fun e => q ⟨by omega, e⟩
          exact ⟨by rw [uI_ap, if_neg (by omega), uI_ap, if_neg (by omega)]; exact hnw.1 _ _ (by omega), by rw [uI_ap, if_neg (by omega), uI_ap, if_neg (by omega)]; exact hnw.1 _ _ (by omega), (mk_uP_ne hne).trans (hnw.2.1 i hi)⟩
        · rw [q2]
          exact ⟨by rw [uI_ap, if_neg (by omega), uI_ap, if_pos ⟨rfl, rfl⟩]; rfl, by rw [uI_ap, if_pos ⟨rfl, rfl⟩]; rfl, mk_uP_some.trans (hnw.2.2.1 (by omega) (by omega))⟩
      have hxa : XA (((0 ≤ x1.toInt ∧ x1.toInt ≤ 7) ∧ (1 ≤ x2.toInt ∧ x2.toInt ≤ 5) ∧ 0 ≤ x3.toInt ∧ x3.toInt ≤ 9)) x1 (some x3) Z I (uP Z2 (29 + 2 * (Int32.toNatClampNeg x1)) 3 (some w)) (uI (uI I2 (29 + 2 * (Int32.toNatClampNeg x1)) 1 (-1)) (29 + 2 * (Int32.toNatClampNeg x1)) 2 0) := fun i hi => by
        have hwl := hnw.2.2.2.1
        refine ⟨fun q => ?_, fun q1 q2 v hv => ?_⟩
        · have hne : i ≠ Int32.toNatClampNeg x1 := fun e => q ⟨by omega, e⟩
          refine ⟨by rw [uP_ap, if_neg (by omega)]; exact hnw.2.2.2.2.2 i hi, fun v hv hl => ?_⟩
          obtain ⟨ci, hci, hz9⟩ := h.2.1 i hi v hv
          rw [uI_ap, if_neg (by omega), uI_ap, if_neg (by omega)]
          exact hnw.1 _ _ (h.2.2.2.2.2.2.1 _ _ hz9)
        · rw [q2, uP_ap, if_pos ⟨rfl, rfl⟩] at hv
          cases hv
          exact ⟨hnw.2.2.2.1, by rw [uI_ap, if_neg (by omega), uI_ap, if_neg (by omega), hnw.2.2.2.2.1]⟩
      exact ⟨rfl, h3.1, hQ _ _ _ _ h3 (by omega) (NX.tr hnx (NX.tr (NX_fr (p := fun a _ => 29 ≤ a ∧ a < 45) (Fr_uI (Fr_uI Fr.rf (by omega)) (by omega)) (by omega) (by omega) (by omega)) (NX_uP (by omega)))) hxs hxa rfl (NT_all h (fun a k ha => by rw [uI_ap, if_neg (by omega), uI_ap, if_neg (by omega)]; exact hnw.1 a k (by omega)) (by rw [uP_ap, if_neg (by omega)]; exact hnx.2.2.2))⟩
    · have hc5 := mt Int32.le_iff_toInt_le.mpr hc5
      refine sfX11_refuse h.1 h.2.2.1 (fun v4 I3 hW3 hF3 hp3 => ?_)
      exact hQ _ _ _ _ (IV_x h hW3 hF3 (by intro a k h; omega)) (by rw [hp3]; omega) (NX_fr hF3 (by omega) (by omega) (by omega)) (XS_no hF3 (fun a k q => q) (by omega)) (XA_no hF3 (fun a k q => q) (by omega)) rfl (NT_fr h hF3 (by intro a k h; omega))
