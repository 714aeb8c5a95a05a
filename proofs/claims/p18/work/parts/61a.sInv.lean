theorem zTown_tr {Z Z2 : jdL} {t : Nat} (h : zTown Z t) (ht : t + 3 < 45) (h1 : ∀ a, a < 45 → Z2.1 a = Z.1 a) (h2 : ∀ a k, a < 45 → ¬ (29 ≤ a ∧ k = 3) → Z2.2.1 a k = Z.2.1 a k) (h3 : t + 3 < 29 ∨ 3 ≤ 3) : zTown Z2 t :=
  ⟨(h1 t (by omega)).trans h.1, ⟨(h2 t 0 (by omega) (by omega)).trans (zTown_p0 h), (h1 (t + 1) (by omega)).trans (zTown_a0 h)⟩, ⟨(h2 t 1 (by omega) (by omega)).trans (zTown_p1 h), (h1 (t + 2) (by omega)).trans (zTown_a1 h)⟩, ⟨(h2 t 2 (by omega) (by omega)).trans (zTown_p2 h), (h1 (t + 3) (by omega)).trans (zTown_a2 h)⟩⟩
theorem zTies_tr {Z Z2 : jdL} {t : Nat} (h : zTies Z t) (ht : t + 6 < 45) (h1 : ∀ a, a < 45 → Z2.1 a = Z.1 a) (h2 : ∀ a k, a < 45 → ¬ (29 ≤ a ∧ k = 3) → Z2.2.1 a k = Z.2.1 a k) (h3 : t + 3 < 29 ∨ 6 ≤ 3) : zTies Z2 t :=
  ⟨(h1 t (by omega)).trans h.1, ⟨(h2 t 0 (by omega) (by omega)).trans (zTies_p0 h), (h1 (t + 1) (by omega)).trans (zTies_a0 h)⟩, ⟨(h2 t 1 (by omega) (by omega)).trans (zTies_p1 h), (h1 (t + 2) (by omega)).trans (zTies_a1 h)⟩, ⟨(h2 t 2 (by omega) (by omega)).trans (zTies_p2 h), (h1 (t + 3) (by omega)).trans (zTies_a2 h)⟩, ⟨(h2 t 3 (by omega) (by omega)).trans (zTies_p3 h), (h1 (t + 4) (by omega)).trans (zTies_a3 h)⟩, ⟨(h2 t 4 (by omega) (by omega)).trans (zTies_p4 h), (h1 (t + 5) (by omega)).trans (zTies_a4 h)⟩, ⟨(h2 t 5 (by omega) (by omega)).trans (zTies_p5 h), (h1 (t + 6) (by omega)).trans (zTies_a5 h)⟩⟩
theorem zDay_tr {Z Z2 : jdL} {t : Nat} (h : zDay Z t) (ht : t + 4 < 45) (h1 : ∀ a, a < 45 → Z2.1 a = Z.1 a) (h2 : ∀ a k, a < 45 → ¬ (29 ≤ a ∧ k = 3) → Z2.2.1 a k = Z.2.1 a k) (h3 : t + 3 < 29 ∨ 4 ≤ 3) : zDay Z2 t :=
  ⟨(h1 t (by omega)).trans h.1, ⟨(h2 t 0 (by omega) (by omega)).trans (zDay_p0 h), (h1 (t + 1) (by omega)).trans (zDay_a0 h)⟩, ⟨(h2 t 1 (by omega) (by omega)).trans (zDay_p1 h), (h1 (t + 2) (by omega)).trans (zDay_a1 h)⟩, ⟨(h2 t 2 (by omega) (by omega)).trans (zDay_p2 h), (h1 (t + 3) (by omega)).trans (zDay_a2 h)⟩, ⟨(h2 t 3 (by omega) (by omega)).trans (zDay_p3 h), (h1 (t + 4) (by omega)).trans (zDay_a3 h)⟩⟩
theorem zScribe_tr {Z Z2 : jdL} {t : Nat} (h : zScribe Z t) (ht : t + 1 < 45) (h1 : ∀ a, a < 45 → Z2.1 a = Z.1 a) (h2 : ∀ a k, a < 45 → ¬ (29 ≤ a ∧ k = 3) → Z2.2.1 a k = Z.2.1 a k) (h3 : t + 3 < 29 ∨ 1 ≤ 3) : zScribe Z2 t :=
  ⟨(h1 t (by omega)).trans h.1, ⟨(h2 t 0 (by omega) (by omega)).trans (zScribe_p0 h), (h1 (t + 1) (by omega)).trans (zScribe_a0 h)⟩⟩
theorem zShelf_tr {Z Z2 : jdL} {t : Nat} (h : zShelf Z t) (ht : t + 1 < 45) (h1 : ∀ a, a < 45 → Z2.1 a = Z.1 a) (h2 : ∀ a k, a < 45 → ¬ (29 ≤ a ∧ k = 3) → Z2.2.1 a k = Z.2.1 a k) (h3 : t + 3 < 29 ∨ 1 ≤ 3) : zShelf Z2 t :=
  ⟨(h1 t (by omega)).trans h.1, ⟨(h2 t 0 (by omega) (by omega)).trans (zShelf_p0 h), (h1 (t + 1) (by omega)).trans (zShelf_a0 h)⟩⟩
theorem zX_tr {Z Z2 : jdL} (h : zX Z) (h1 : ∀ a, a < 45 → Z2.1 a = Z.1 a) (h2 : ∀ a k, a < 45 → ¬ (29 ≤ a ∧ k = 3) → Z2.2.1 a k = Z.2.1 a k) : zX Z2 :=
  ⟨(h1 0 (by decide)).trans h.1, ⟨(h2 0 0 (by decide) (by decide)).trans (zX_p0 h), zTown_tr (zX_o0 h) (by decide) h1 h2 (by decide)⟩, ⟨(h2 0 1 (by decide) (by decide)).trans (zX_p1 h), zTown_tr (zX_o1 h) (by decide) h1 h2 (by decide)⟩, ⟨(h2 0 2 (by decide) (by decide)).trans (zX_p2 h), zTown_tr (zX_o2 h) (by decide) h1 h2 (by decide)⟩, ⟨(h2 0 3 (by decide) (by decide)).trans (zX_p3 h), zTies_tr (zX_o3 h) (by decide) h1 h2 (by decide)⟩, ⟨(h2 0 4 (by decide) (by decide)).trans (zX_p4 h), zDay_tr (zX_o4 h) (by decide) h1 h2 (by decide)⟩, ⟨(h2 0 5 (by decide) (by decide)).trans (zX_p5 h), zScribe_tr (zX_o5 h) (by decide) h1 h2 (by decide)⟩, ⟨(h2 0 6 (by decide) (by decide)).trans (zX_p6 h), (h1 27 (by decide)).trans (zX_a6 h)⟩, ⟨(h2 0 7 (by decide) (by decide)).trans (zX_p7 h), (h1 28 (by decide)).trans (zX_a7 h)⟩, fun i hi => ⟨(h2 27 i (by decide) (by omega)).trans (zX_sh h hi), zShelf_tr (zX_shelf h hi) (by omega) h1 h2 (by omega)⟩⟩
/-- the invariant of the two objects -/
def IV (Z : jdL) (I : jdI) : Prop := zX Z ∧ zMen Z ∧ WX I ∧ MI Z I 45
theorem IV_x {Z : jdL} {I I2 : jdI} {p : Nat → Nat → Prop} (h : IV Z I) (hW : WX I2) (hF : Fr p I I2) (hp : ∀ a k, p a k → a < 45) : IV Z I2 := ⟨h.1, h.2.1, hW, MI_lo h.2.2.2 hF hp⟩
theorem IV_m {Z : jdL} {I I2 : jdI} {p : Nat → Nat → Prop} (h : IV Z I) (hW : WM 7 45 I2) (hF : Fr p I I2) (hp : ∀ a k, p a k → 45 ≤ a ∧ a ≤ 82) : IV Z I2 := ⟨h.1, h.2.1, WX_fr h.2.2.1 hF (fun a k h1 h2 => by have := hp a k h2; omega), MI_t h.2.2.2 hW hF (fun a k q => Or.inl (hp a k q))⟩
theorem IV_s {Z Z2 : jdL} {I I2 : jdI} {J J2 : jdJ} {x y : Nat} (h : IV Z I) (hS : ST 45 x y Z I J Z2 I2 J2) : IV Z2 I2 := by
  obtain ⟨h0, h1, h2, h3⟩ := h
  obtain ⟨m0, r0, r1, r2, r3, r4⟩ := hS
  have hb := h3.2.2.1
  refine ⟨zX_tr h0 (fun a ha => r1 a (by omega)) (fun a k ha _ => r2 a k (by omega) (by omega)), fun i hi w hw => ?_, WX_fr h2 r3 (fun a k h1 h2 => by omega), m0⟩
  rw [r2 _ _ (by omega) (by omega)] at hw
  obtain ⟨ci, hci, hz⟩ := h1 i hi w hw
  have hl := h3.2.2.2.1 _ _ hz
  exact ⟨ci, hci, (r1 w hl).trans hz⟩
theorem MI_uP {Z : jdL} {I : jdI} {t a k : Nat} {v : Option Nat} (h : MI Z I t) (ha : a < t) : MI (uP Z a k v) I t := by
  obtain ⟨b0, b1, b2, b3, b4, b5, b6⟩ := h
  have tr : ∀ w, t ≤ w → zModel Z w → zModel (uP Z a k v) w := fun w hw h => zModel_tr h (fun _ _ _ => rfl) (fun c j h1 h2 _ => by rw [uP_ap, if_neg (by omega)])
  have e : ∀ j, (uP Z a k v).2.1 t j = Z.2.1 t j := fun j => by rw [uP_ap, if_neg (by omega)]
  refine ⟨tr t (Nat.le_refl _) b0, b1, b2, b3, fun w hw => ?_, fun u hu => ?_, fun w u hw hu => ?_⟩
  · rw [e] at hw
    obtain ⟨c0, c1, c2, c3⟩ := b4 w hw
    exact ⟨tr w (by omega) c0, c1, c2, c3⟩
  · rw [e] at hu
    obtain ⟨c0, c1, c2, c3⟩ := b5 u hu
    exact ⟨tr u (by omega) c0, c1, c2, c3⟩
  · rw [e] at hw hu
    exact b6 w u hw hu
theorem IV_uP {Z : jdL} {I : jdI} {i : Nat} {v : Option Nat} (h : IV Z I) (hi : i < 8) (hv : ∀ w, v = some w → zMan Z w) : IV (uP Z (29 + 2 * i) 3 v) I := by
  obtain ⟨h0, h1, h2, h3⟩ := h
  refine ⟨zX_tr h0 (fun _ _ => rfl) (fun a k ha hk => by rw [uP_ap, if_neg (by omega)]), fun j hj w hw => ?_, h2, MI_uP h3 (by omega)⟩
  rw [uP_ap] at hw
  by_cases e : 29 + 2 * j = 29 + 2 * i ∧ 3 = 3
  · rw [if_pos e] at hw
    exact hv w hw
  · rw [if_neg e] at hw
    exact h1 j hj w hw
theorem IV_hi {Z : jdL} {I I2 : jdI} {p : Nat → Nat → Prop} (h : IV Z I) (hF : Fr p I I2) (hp : ∀ a k, p a k → Z.2.2 ≤ a) : IV Z I2 := by
  have hb := h.2.2.2.2.2.1
  exact ⟨h.1, h.2.1, WX_fr h.2.2.1 hF (fun a k h1 h2 => by have := hp a k h2; omega), MI_t h.2.2.2 (WM_fr h.2.2.2.2.1 hF (fun a k h1 h2 h3 => by have := hp a k h3; omega)) hF (fun a k q => Or.inr (hp a k q))⟩
theorem IV_nZ {Z : jdL} {I : jdI} {ty : Nat × Nat} (h : IV Z I) : IV (nZ Z ty) I := by
  obtain ⟨h0, h1, h2, h3⟩ := h
  have hb := h3.2.2.1
  refine ⟨zX_tr h0 (fun a ha => by rw [nZ_ap, if_neg (by omega)]) (fun a k ha hk => by rw [nZ_ap2, if_neg (by omega)]), fun j hj w hw => ?_, h2, MI_nZ h3⟩
  rw [nZ_ap2, if_neg (by omega)] at hw
  obtain ⟨ci, hci, hz⟩ := h1 j hj w hw
  have hl := h3.2.2.2.1 _ _ hz
  exact ⟨ci, hci, by rw [nZ_ap, if_neg (by omega)]; exact hz⟩
/-- the size of the tape and the flag of what is kept stay, on both sides -/
def NX (Z : jdL) (I : jdI) (Z2 : jdL) (I2 : jdI) : Prop := I2 25 1 = I 25 1 ∧ I2 0 8 = I 0 8 ∧ I2 45 8 = I 45 8 ∧ Z2.2.1 45 20 = Z.2.1 45 20
theorem NX.rf {Z : jdL} {I : jdI} : NX Z I Z I := ⟨rfl, rfl, rfl, rfl⟩
theorem NX.tr {Z Z1 Z2 : jdL} {I I1 I2 : jdI} (h : NX Z I Z1 I1) (h2 : NX Z1 I1 Z2 I2) : NX Z I Z2 I2 := ⟨h2.1.trans h.1, h2.2.1.trans h.2.1, h2.2.2.1.trans h.2.2.1, h2.2.2.2.trans h.2.2.2⟩
theorem NX_fr {Z : jdL} {I I2 : jdI} {p : Nat → Nat → Prop} (hF : Fr p I I2) (h1 : ¬ p 25 1) (h2 : ¬ p 0 8) (h3 : ¬ p 45 8) : NX Z I Z I2 := ⟨hF _ _ h1, hF _ _ h2, hF _ _ h3, rfl⟩
theorem NX_st {Z Z2 : jdL} {I I2 : jdI} {J J2 : jdJ} {y : Nat} (h : IV Z I) (hS : ST 45 21 y Z I J Z2 I2 J2) (hy : 10 ≤ y) : NX Z I Z2 I2 := by
  have hb := h.2.2.2.2.2.1
  exact ⟨hS.2.2.2.2.1 _ _ (by omega), hS.2.2.2.2.1 _ _ (by omega), hS.2.2.2.2.1 _ _ (by omega), hS.2.2.2.1 _ _ (by omega) (by omega)⟩
theorem NX_nZ {Z : jdL} {I : jdI} {ty : Nat × Nat} (h : IV Z I) : NX Z I (nZ Z ty) I := by
  have hb := h.2.2.2.2.2.1
  exact ⟨rfl, rfl, rfl, by rw [nZ_ap2, if_neg (by omega)]⟩
theorem NX_uP {Z : jdL} {I : jdI} {a k : Nat} {v : Option Nat} (h : a < 45) : NX Z I (uP Z a k v) I := ⟨rfl, rfl, rfl, by rw [uP_ap, if_neg (by omega)]⟩
/-- what the two objects have in common, of the tape's size and of what is kept -/
def RV (Z : jdL) (I : jdI) : Prop := (I 25 1).toInt = (I 45 8).toInt ∧ ((I 0 8).toInt = 0 ↔ Z.2.1 45 20 = none)
theorem RV_keep {Z Z2 : jdL} {I I2 : jdI} (h : RV Z I) (n : NX Z I Z2 I2) : RV Z2 I2 := by
  obtain ⟨n1, n2, n3, n4⟩ := n
  refine ⟨?_, ?_⟩
  · rw [n1, n3]
    exact h.1
  · rw [n2, n4]
    exact h.2
theorem mk_uP_ne {Z : jdL} {i j : Nat} {v : Option Nat} (h : i ≠ j) : mk (uP Z (29 + 2 * j) 3 v) i = mk Z i := by
  have e : (uP Z (29 + 2 * j) 3 v).2.1 (29 + 2 * i) 3 = Z.2.1 (29 + 2 * i) 3 := by rw [uP_ap, if_neg (by omega)]
  unfold mk
  rw [e]
  rfl
theorem mk_uP_none {Z : jdL} {j : Nat} : mk (uP Z (29 + 2 * j) 3 none) j = 0 := mk_none (by rw [uP_ap, if_pos ⟨rfl, rfl⟩])
theorem mk_uP_some {Z : jdL} {j w : Nat} : mk (uP Z (29 + 2 * j) 3 (some w)) j = ckI (Z.1 w) := mk_some (Z := uP Z (29 + 2 * j) 3 (some w)) (by rw [uP_ap, if_pos ⟨rfl, rfl⟩])
theorem mk_eq {Z Z2 : jdL} {I : jdI} {i : Nat} (h : IV Z I) (hi : i < 8) (h1 : ∀ a, a < Z.2.2 → Z2.1 a = Z.1 a) (h2 : Z2.2.1 (29 + 2 * i) 3 = Z.2.1 (29 + 2 * i) 3) : mk Z2 i = mk Z i := by
  unfold mk
  rw [h2]
  cases hw : Z.2.1 (29 + 2 * i) 3 with
  | none => rfl
  | some w =>
    obtain ⟨ci, hci, hz⟩ := h.2.1 i hi w hw
    show ckI (Z2.1 w) = ckI (Z.1 w)
    rw [h1 w (h.2.2.2.2.2.2.1 _ _ hz)]
theorem mk_nZ {Z : jdL} {I : jdI} {i : Nat} {ty : Nat × Nat} (h : IV Z I) (hi : i < 8) : mk (nZ Z ty) i = mk Z i := by
  have hb := h.2.2.2.2.2.1
  exact mk_eq h hi (fun a ha => by rw [nZ_ap, if_neg (by omega)]) (by rw [nZ_ap2, if_neg (by omega)])
/-- the shelves stay, on both sides -/
def NS (Z : jdL) (I : jdI) (Z2 : jdL) (I2 : jdI) : Prop := ∀ i, i < 8 → I2 (29 + 2 * i) 1 = I (29 + 2 * i) 1 ∧ I2 (29 + 2 * i) 2 = I (29 + 2 * i) 2 ∧ mk Z2 i = mk Z i ∧ I2 (45 + 1) i = I (45 + 1) i ∧ I2 (45 + 2) i = I (45 + 2) i ∧ I2 (45 + 3) i = I (45 + 3) i ∧ I2 (45 + 14) i = I (45 + 14) i
theorem NS.rf {Z : jdL} {I : jdI} : NS Z I Z I := fun _ _ => ⟨rfl, rfl, rfl, rfl, rfl, rfl, rfl⟩
theorem NS.tr {Z Z1 Z2 : jdL} {I I1 I2 : jdI} (h : NS Z I Z1 I1) (h2 : NS Z1 I1 Z2 I2) : NS Z I Z2 I2 := fun i hi => by
  obtain ⟨a1, a2, a3, a4, a5, a6, a7⟩ := h i hi
  obtain ⟨b1, b2, b3, b4, b5, b6, b7⟩ := h2 i hi
  exact ⟨b1.trans a1, b2.trans a2, b3.trans a3, b4.trans a4, b5.trans a5, b6.trans a6, b7.trans a7⟩
theorem NS_fr {Z : jdL} {I I2 : jdI} {p : Nat → Nat → Prop} (hF : Fr p I I2) (hp : ∀ a k, p a k → ¬ ((29 ≤ a ∧ a ≤ 43) ∨ (46 ≤ a ∧ a ≤ 48) ∨ a = 59)) : NS Z I Z I2 := fun i hi =>
  ⟨hF _ _ (fun q => by have := hp _ _ q; omega), hF _ _ (fun q => by have := hp _ _ q; omega), rfl, hF _ _ (fun q => by have := hp _ _ q; omega), hF _ _ (fun q => by have := hp _ _ q; omega), hF _ _ (fun q => by have := hp _ _ q; omega), hF _ _ (fun q => by have := hp _ _ q; omega)⟩
theorem NS_st {Z Z2 : jdL} {I I2 : jdI} {J J2 : jdJ} {x y : Nat} (h : IV Z I) (hS : ST 45 x y Z I J Z2 I2 J2) : NS Z I Z2 I2 := fun i hi => by
  have hb := h.2.2.2.2.2.1
  have r3 := hS.2.2.2.2.1
  exact ⟨r3 _ _ (by omega), r3 _ _ (by omega), mk_eq h hi (fun a ha => hS.2.2.1 a ha) (hS.2.2.2.1 _ _ (by omega) (by omega)), r3 _ _ (by omega), r3 _ _ (by omega), r3 _ _ (by omega), r3 _ _ (by omega)⟩
/-- shelf i is the same on both sides -/
def SRI (Z : jdL) (I : jdI) (i : Nat) : Prop := ((I (45 + 1) i).toInt = 0 ∧ (I (29 + 2 * i) 1).toInt = -1 ∧ mk Z i = 0) ∨ ((I (45 + 1) i).toInt = 1 ∧ (I (29 + 2 * i) 1).toInt = (I (45 + 2) i).toInt ∧ 0 ≤ (I (45 + 2) i).toInt ∧ (I (45 + 2) i).toInt ≤ 4 ∧ (I (29 + 2 * i) 2).toInt = (I (45 + 3) i).toInt ∧ mk Z i = 0) ∨ ((I (45 + 1) i).toInt = 2 ∧ (I (29 + 2 * i) 1).toInt = -1 ∧ mk Z i = (I (45 + 14) i).toInt ∧ 1 ≤ (I (45 + 14) i).toInt ∧ (I (45 + 14) i).toInt ≤ 5)
def RS (Z : jdL) (I : jdI) : Prop := ∀ i, i < 8 → SRI Z I i
theorem RS_keep {Z Z2 : jdL} {I I2 : jdI} (h : RS Z I) (n : NS Z I Z2 I2) : RS Z2 I2 := fun i hi => by
  obtain ⟨a1, a2, a3, a4, a5, a6, a7⟩ := n i hi
  have s := h i hi
  unfold SRI at s ⊢
  rw [a1, a2, a3, a4, a5, a6, a7]
  exact s
/-- what a method of X does to the shelf x1 where ok holds: kind, size, coachman -/
def XS (ok : Prop) (x1 : Int32) (kd sz mn : Int) (Z : jdL) (I : jdI) (Z2 : jdL) (I2 : jdI) : Prop := (∀ a k, 45 ≤ a → a < Z.2.2 → I2 a k = I a k) ∧ ∀ i, i < 8 → (¬ (ok ∧ i = Int32.toNatClampNeg x1) → I2 (29 + 2 * i) 1 = I (29 + 2 * i) 1 ∧ I2 (29 + 2 * i) 2 = I (29 + 2 * i) 2 ∧ mk Z2 i = mk Z i) ∧ (ok → i = Int32.toNatClampNeg x1 → (I2 (29 + 2 * i) 1).toInt = kd ∧ (I2 (29 + 2 * i) 2).toInt = sz ∧ mk Z2 i = mn)
theorem XS_no {ok : Prop} {x1 : Int32} {kd sz mn : Int} {Z : jdL} {I I2 : jdI} {p : Nat → Nat → Prop} (hF : Fr p I I2) (hp : ∀ a k, p a k → a = 28) (h : ¬ ok) : XS ok x1 kd sz mn Z I Z I2 :=
  ⟨fun a k h1 _ => hF a k (fun q => by have := hp _ _ q; omega), fun i hi => ⟨fun _ => ⟨hF _ _ (fun q => by have := hp _ _ q; omega), hF _ _ (fun q => by have := hp _ _ q; omega), rfl⟩, fun q => absurd q h⟩⟩
theorem RS_row {Z Z1 : jdL} {I I1 I2 : jdI} {J J2 : jdJ} {x1 x2 x3 v : Int32} (hv : IV Z I) (h : RS Z I) (hx : XS (((0 ≤ x1.toInt ∧ x1.toInt ≤ 7) ∧ (0 ≤ x2.toInt ∧ x2.toInt ≤ 4) ∧ 0 ≤ x3.toInt ∧ x3.toInt ≤ 40)) x1 x2.toInt x3.toInt 0 Z I Z1 I1) (hF : Fr (fun a k => ((a = 45 + 1 ∨ a = 45 + 2 ∨ a = 45 + 3) ∧ k = Int32.toNatClampNeg x1) ∨ a = 45 + 17) I1 I2) (hp : (v.toInt = 1 ∧ ((0 ≤ x1.toInt ∧ x1.toInt ≤ 7) ∧ (0 ≤ x2.toInt ∧ x2.toInt ≤ 4) ∧ 0 ≤ x3.toInt ∧ x3.toInt ≤ 40) ∧ (I2 (45 + 1) (Int32.toNatClampNeg x1)).toInt = 1 ∧ (I2 (45 + 2) (Int32.toNatClampNeg x1)).toInt = x2.toInt ∧ (I2 (45 + 3) (Int32.toNatClampNeg x1)).toInt = x3.toInt ∧ ((∀ q : Nat, q < 40 → J2 (45 + 5 + (Int32.toNatClampNeg x1)) q = 0) ∧ ∀ a, a ≠ 45 + 5 + (Int32.toNatClampNeg x1) → J2 a = J a)) ∨ (v.toInt = -2 ∧ ¬ ((0 ≤ x1.toInt ∧ x1.toInt ≤ 7) ∧ (0 ≤ x2.toInt ∧ x2.toInt ≤ 4) ∧ 0 ≤ x3.toInt ∧ x3.toInt ≤ 40) ∧ (I2 (45 + 1) (Int32.toNatClampNeg x1)).toInt = (I1 (45 + 1) (Int32.toNatClampNeg x1)).toInt ∧ (I2 (45 + 2) (Int32.toNatClampNeg x1)).toInt = (I1 (45 + 2) (Int32.toNatClampNeg x1)).toInt ∧ (I2 (45 + 3) (Int32.toNatClampNeg x1)).toInt = (I1 (45 + 3) (Int32.toNatClampNeg x1)).toInt ∧ J2 = J)) : RS Z1 I2 := fun i hi => by
  have hb := hv.2.2.2.2.2.1
  have s := h i hi
  obtain ⟨e1, e2⟩ := hx.2 i hi
  have f1 := congrArg Int32.toInt (hF (29 + 2 * i) 1 (by omega))
  have f2 := congrArg Int32.toInt (hF (29 + 2 * i) 2 (by omega))
  have g1 := congrArg Int32.toInt (hx.1 (45 + 1) i (by omega) (by omega))
  have g2 := congrArg Int32.toInt (hx.1 (45 + 2) i (by omega) (by omega))
  have g3 := congrArg Int32.toInt (hx.1 (45 + 3) i (by omega) (by omega))
  have g4 := congrArg Int32.toInt (hx.1 (45 + 14) i (by omega) (by omega))
  have g5 := congrArg Int32.toInt (hF (45 + 14) i (by omega))
  unfold SRI at s ⊢
  by_cases c : (((0 ≤ x1.toInt ∧ x1.toInt ≤ 7) ∧ (0 ≤ x2.toInt ∧ x2.toInt ≤ 4) ∧ 0 ≤ x3.toInt ∧ x3.toInt ≤ 40)) ∧ i = Int32.toNatClampNeg x1
  · obtain ⟨c1, c2⟩ := c
    obtain ⟨k1, k2, k3⟩ := e2 c1 c2
    rw [← c2] at hp
    have hp : (I2 (45 + 1) i).toInt = 1 ∧ (I2 (45 + 2) i).toInt = x2.toInt ∧ (I2 (45 + 3) i).toInt = x3.toInt := by
      rcases hp with hp | hp
      · exact ⟨hp.2.2.1, hp.2.2.2.1, hp.2.2.2.2.1⟩
      · exact absurd c1 hp.2.1
    exact Or.inr (Or.inl ⟨by omega, by omega, by omega, by omega, by omega, k3⟩)
  · obtain ⟨k1, k2, k3⟩ := e1 c
    have k1 := congrArg Int32.toInt k1
    have k2 := congrArg Int32.toInt k2
    have m : (I2 (45 + 1) i).toInt = (I1 (45 + 1) i).toInt ∧ (I2 (45 + 2) i).toInt = (I1 (45 + 2) i).toInt ∧ (I2 (45 + 3) i).toInt = (I1 (45 + 3) i).toInt := by
      by_cases c2 : i = Int32.toNatClampNeg x1
      · rw [← c2] at hp
        have c3 : ¬ (((0 ≤ x1.toInt ∧ x1.toInt ≤ 7) ∧ (0 ≤ x2.toInt ∧ x2.toInt ≤ 4) ∧ 0 ≤ x3.toInt ∧ x3.toInt ≤ 40)) := fun q => c ⟨q, c2⟩
        rcases hp with hp | hp
        · exact absurd hp.2.1 c3
        · exact ⟨hp.2.2.1, hp.2.2.2.1, hp.2.2.2.2.1⟩
      · exact ⟨congrArg Int32.toInt (hF (45 + 1) i (by omega)), congrArg Int32.toInt (hF (45 + 2) i (by omega)), congrArg Int32.toInt (hF (45 + 3) i (by omega))⟩
    obtain ⟨m1, m2, m3⟩ := m
    rw [k3, f1, f2, k1, k2, m1, m2, m3, g1, g2, g3, g5, g4]
    exact s
theorem RS_man {Z Z1 : jdL} {I I1 I2 : jdI} {x1 x2 x3 v : Int32} (hv : IV Z I) (h : RS Z I) (hx : XS (((0 ≤ x1.toInt ∧ x1.toInt ≤ 7) ∧ (1 ≤ x2.toInt ∧ x2.toInt ≤ 5) ∧ 0 ≤ x3.toInt ∧ x3.toInt ≤ 9)) x1 (-1) 0 x2.toInt Z I Z1 I1) (hF : Fr (fun a k => ((a = 45 + 1 ∨ a = 45 + 14 ∨ a = 45 + 15) ∧ k = Int32.toNatClampNeg x1) ∨ a = 45 + 17) I1 I2) (hp : (v.toInt = 1 ∧ ((0 ≤ x1.toInt ∧ x1.toInt ≤ 7) ∧ (1 ≤ x2.toInt ∧ x2.toInt ≤ 5) ∧ 0 ≤ x3.toInt ∧ x3.toInt ≤ 9) ∧ (I2 (45 + 1) (Int32.toNatClampNeg x1)).toInt = 2 ∧ (I2 (45 + 14) (Int32.toNatClampNeg x1)).toInt = x2.toInt) ∨ (v.toInt = -2 ∧ ¬ ((0 ≤ x1.toInt ∧ x1.toInt ≤ 7) ∧ (1 ≤ x2.toInt ∧ x2.toInt ≤ 5) ∧ 0 ≤ x3.toInt ∧ x3.toInt ≤ 9) ∧ (I2 (45 + 1) (Int32.toNatClampNeg x1)).toInt = (I1 (45 + 1) (Int32.toNatClampNeg x1)).toInt ∧ (I2 (45 + 14) (Int32.toNatClampNeg x1)).toInt = (I1 (45 + 14) (Int32.toNatClampNeg x1)).toInt)) : RS Z1 I2 := fun i hi => by
  have hb := hv.2.2.2.2.2.1
  have s := h i hi
  obtain ⟨e1, e2⟩ := hx.2 i hi
  have f1 := congrArg Int32.toInt (hF (29 + 2 * i) 1 (by omega))
  have f2 := congrArg Int32.toInt (hF (29 + 2 * i) 2 (by omega))
  have g1 := congrArg Int32.toInt (hx.1 (45 + 1) i (by omega) (by omega))
  have g2 := congrArg Int32.toInt (hx.1 (45 + 2) i (by omega) (by omega))
  have g3 := congrArg Int32.toInt (hx.1 (45 + 3) i (by omega) (by omega))
  have g4 := congrArg Int32.toInt (hx.1 (45 + 14) i (by omega) (by omega))
  have g5 := congrArg Int32.toInt (hF (45 + 2) i (by omega))
  have g6 := congrArg Int32.toInt (hF (45 + 3) i (by omega))
  unfold SRI at s ⊢
  by_cases c : (((0 ≤ x1.toInt ∧ x1.toInt ≤ 7) ∧ (1 ≤ x2.toInt ∧ x2.toInt ≤ 5) ∧ 0 ≤ x3.toInt ∧ x3.toInt ≤ 9)) ∧ i = Int32.toNatClampNeg x1
  · obtain ⟨c1, c2⟩ := c
    obtain ⟨k1, k2, k3⟩ := e2 c1 c2
    rw [← c2] at hp
    exact Or.inr (Or.inr ⟨by omega, by omega, by omega, by omega, by omega⟩)
  · obtain ⟨k1, k2, k3⟩ := e1 c
    have k1 := congrArg Int32.toInt k1
    have k2 := congrArg Int32.toInt k2
    have m : (I2 (45 + 1) i).toInt = (I1 (45 + 1) i).toInt ∧ (I2 (45 + 14) i).toInt = (I1 (45 + 14) i).toInt := by
      by_cases c2 : i = Int32.toNatClampNeg x1
      · rw [← c2] at hp
        have c3 : ¬ (((0 ≤ x1.toInt ∧ x1.toInt ≤ 7) ∧ (1 ≤ x2.toInt ∧ x2.toInt ≤ 5) ∧ 0 ≤ x3.toInt ∧ x3.toInt ≤ 9)) := fun q => c ⟨q, c2⟩
        rcases hp with hp | hp
        · exact absurd hp.2.1 c3
        · exact hp.2.2
      · exact ⟨congrArg Int32.toInt (hF (45 + 1) i (by omega)), congrArg Int32.toInt (hF (45 + 14) i (by omega))⟩
    obtain ⟨m1, m2⟩ := m
    rw [k3, f1, f2, k1, k2, m1, m2, g1, g4, g5, g2, g6, g3]
    exact s
/-- the rows hold the same numbers -/
def RJ (I : jdI) (J : jdJ) : Prop := ∀ i, i < 8 → (I (45 + 1) i).toInt = 1 → ∀ k, k < 40 → J (29 + 2 * i + 1) k = J (45 + 5 + i) k
def NJ (J J2 : jdJ) : Prop := ∀ a, a < 83 → J2 a = J a
theorem RJ_keep {Z Z2 : jdL} {I I2 : jdI} {J J2 : jdJ} (h : RJ I J) (n : NS Z I Z2 I2) (nj : NJ J J2) : RJ I2 J2 := fun i hi hw k hk => by
  obtain ⟨_, _, _, a4, _, _, _⟩ := n i hi
  rw [a4] at hw
  rw [nj _ (by omega), nj _ (by omega)]
  exact h i hi hw k hk
theorem NJ.rf {J : jdJ} : NJ J J := fun _ _ => rfl
theorem NJ_st {Z Z2 : jdL} {I I2 : jdI} {J J2 : jdJ} {x y : Nat} (h : IV Z I) (hS : ST 45 x y Z I J Z2 I2 J2) : NJ J J2 := fun a ha => hS.2.2.2.2.2.1 a (by have := h.2.2.2.2.2.1; omega)
theorem RJ_row {I I1 I2 : jdI} {J J1 J2 : jdJ} {x1 x2 x3 v : Int32} (h : RJ I J) (hI : ∀ i, i < 8 → I1 (45 + 1) i = I (45 + 1) i) (hj : ((((0 ≤ x1.toInt ∧ x1.toInt ≤ 7) ∧ (0 ≤ x2.toInt ∧ x2.toInt ≤ 4) ∧ 0 ≤ x3.toInt ∧ x3.toInt ≤ 40)) → (∀ q : Nat, q < 40 → J1 (29 + 2 * (Int32.toNatClampNeg x1) + 1) q = 0) ∧ ∀ a, a ≠ 29 + 2 * (Int32.toNatClampNeg x1) + 1 → J1 a = J a) ∧ (¬ (((0 ≤ x1.toInt ∧ x1.toInt ≤ 7) ∧ (0 ≤ x2.toInt ∧ x2.toInt ≤ 4) ∧ 0 ≤ x3.toInt ∧ x3.toInt ≤ 40)) → J1 = J)) (hF : Fr (fun a k => ((a = 45 + 1 ∨ a = 45 + 2 ∨ a = 45 + 3) ∧ k = Int32.toNatClampNeg x1) ∨ a = 45 + 17) I1 I2) (hp : (v.toInt = 1 ∧ ((0 ≤ x1.toInt ∧ x1.toInt ≤ 7) ∧ (0 ≤ x2.toInt ∧ x2.toInt ≤ 4) ∧ 0 ≤ x3.toInt ∧ x3.toInt ≤ 40) ∧ (I2 (45 + 1) (Int32.toNatClampNeg x1)).toInt = 1 ∧ (I2 (45 + 2) (Int32.toNatClampNeg x1)).toInt = x2.toInt ∧ (I2 (45 + 3) (Int32.toNatClampNeg x1)).toInt = x3.toInt ∧ ((∀ q : Nat, q < 40 → J2 (45 + 5 + (Int32.toNatClampNeg x1)) q = 0) ∧ ∀ a, a ≠ 45 + 5 + (Int32.toNatClampNeg x1) → J2 a = J1 a)) ∨ (v.toInt = -2 ∧ ¬ ((0 ≤ x1.toInt ∧ x1.toInt ≤ 7) ∧ (0 ≤ x2.toInt ∧ x2.toInt ≤ 4) ∧ 0 ≤ x3.toInt ∧ x3.toInt ≤ 40) ∧ (I2 (45 + 1) (Int32.toNatClampNeg x1)).toInt = (I1 (45 + 1) (Int32.toNatClampNeg x1)).toInt ∧ (I2 (45 + 2) (Int32.toNatClampNeg x1)).toInt = (I1 (45 + 2) (Int32.toNatClampNeg x1)).toInt ∧ (I2 (45 + 3) (Int32.toNatClampNeg x1)).toInt = (I1 (45 + 3) (Int32.toNatClampNeg x1)).toInt ∧ J2 = J1)) : RJ I2 J2 := fun i hi hw k hk => by
  rcases hp with hp | hp
  · obtain ⟨_, ok, _, _, _, p0, p1⟩ := hp
    obtain ⟨q0, q1⟩ := hj.1 ok
    have hn := tn_eq x1
    by_cases c : i = Int32.toNatClampNeg x1
    · subst c
      rw [p1 _ (by omega), q0 k hk, p0 k hk]
    · have e := hF (45 + 1) i (by omega)
      rw [e, hI i hi] at hw
      rw [p1 _ (by omega), p1 _ (by omega), q1 _ (by omega), q1 _ (by omega)]
      exact h i hi hw k hk
  · obtain ⟨_, no, f1, _, _, e2⟩ := hp
    rw [e2, hj.2 no]
    have e : (I2 (45 + 1) i).toInt = (I (45 + 1) i).toInt := by
      rw [← hI i hi]
      by_cases c : i = Int32.toNatClampNeg x1
      · rw [c]
        exact f1
      · exact congrArg Int32.toInt (hF (45 + 1) i (by omega))
    rw [e] at hw
    exact h i hi hw k hk
theorem RJ_man {I I1 I2 : jdI} {J : jdJ} {x1 x2 x3 v : Int32} (h : RJ I J) (hI : ∀ i, i < 8 → I1 (45 + 1) i = I (45 + 1) i) (hF : Fr (fun a k => ((a = 45 + 1 ∨ a = 45 + 14 ∨ a = 45 + 15) ∧ k = Int32.toNatClampNeg x1) ∨ a = 45 + 17) I1 I2) (hp : (v.toInt = 1 ∧ ((0 ≤ x1.toInt ∧ x1.toInt ≤ 7) ∧ (1 ≤ x2.toInt ∧ x2.toInt ≤ 5) ∧ 0 ≤ x3.toInt ∧ x3.toInt ≤ 9) ∧ (I2 (45 + 1) (Int32.toNatClampNeg x1)).toInt = 2 ∧ (I2 (45 + 14) (Int32.toNatClampNeg x1)).toInt = x2.toInt) ∨ (v.toInt = -2 ∧ ¬ ((0 ≤ x1.toInt ∧ x1.toInt ≤ 7) ∧ (1 ≤ x2.toInt ∧ x2.toInt ≤ 5) ∧ 0 ≤ x3.toInt ∧ x3.toInt ≤ 9) ∧ (I2 (45 + 1) (Int32.toNatClampNeg x1)).toInt = (I1 (45 + 1) (Int32.toNatClampNeg x1)).toInt ∧ (I2 (45 + 14) (Int32.toNatClampNeg x1)).toInt = (I1 (45 + 14) (Int32.toNatClampNeg x1)).toInt)) : RJ I2 J := fun i hi hw k hk => by
  have e : (I2 (45 + 1) i).toInt = (I (45 + 1) i).toInt ∨ (I2 (45 + 1) i).toInt = 2 := by
    rw [← hI i hi]
    by_cases c : i = Int32.toNatClampNeg x1
    · rw [c]
      rcases hp with hp | hp
      · exact Or.inr hp.2.2.1
      · exact Or.inl hp.2.2.1
    · exact Or.inl (congrArg Int32.toInt (hF (45 + 1) i (by omega)))
  exact h i hi (by omega) k hk
theorem RJ_set {Z : jdL} {I I1 I2 : jdI} {J J1 J2 : jdJ} {x1 x2 v1 v2 : Int32} {y3 : Int64} (hrs : RS Z I) (h : RJ I J) (n1 : NS Z I Z I1) (n2 : NS Z I Z I2) (hp1 : ((¬ (0 ≤ x1.toInt ∧ x1.toInt < 8) ∧ v1.toInt = -2) ∨ ((0 ≤ x1.toInt ∧ x1.toInt < 8) ∧ (I (29 + 2 * (Int32.toNatClampNeg x1)) 1).toInt = -1 ∧ mk Z (Int32.toNatClampNeg x1) = 0 ∧ v1.toInt = -4) ∨ ((0 ≤ x1.toInt ∧ x1.toInt < 8) ∧ (I (29 + 2 * (Int32.toNatClampNeg x1)) 1).toInt = -1 ∧ 1 ≤ mk Z (Int32.toNatClampNeg x1) ∧ v1.toInt = -3) ∨ (((0 ≤ x1.toInt ∧ x1.toInt < 8) ∧ ¬ (I (29 + 2 * (Int32.toNatClampNeg x1)) 1).toInt = -1 ∧ 0 ≤ x2.toInt ∧ x2.toInt < (I (29 + 2 * (Int32.toNatClampNeg x1)) 2).toInt) ∧ v1.toInt = 1) ∨ ((0 ≤ x1.toInt ∧ x1.toInt < 8) ∧ ¬ (I (29 + 2 * (Int32.toNatClampNeg x1)) 1).toInt = -1 ∧ ¬ (0 ≤ x2.toInt ∧ x2.toInt < (I (29 + 2 * (Int32.toNatClampNeg x1)) 2).toInt) ∧ v1.toInt = -2)) ∧ (((0 ≤ x1.toInt ∧ x1.toInt < 8) ∧ ¬ (I (29 + 2 * (Int32.toNatClampNeg x1)) 1).toInt = -1 ∧ 0 ≤ x2.toInt ∧ x2.toInt < (I (29 + 2 * (Int32.toNatClampNeg x1)) 2).toInt) → (0 ≤ (I (29 + 2 * (Int32.toNatClampNeg x1)) 1).toInt ∧ (I (29 + 2 * (Int32.toNatClampNeg x1)) 1).toInt ≤ 4 → J1 = uJ J ((29 + 2 * (Int32.toNatClampNeg x1)) + 1) (Int32.toNatClampNeg x2) (cutf (I (29 + 2 * (Int32.toNatClampNeg x1)) 1).toInt y3))) ∧ (¬ ((0 ≤ x1.toInt ∧ x1.toInt < 8) ∧ ¬ (I (29 + 2 * (Int32.toNatClampNeg x1)) 1).toInt = -1 ∧ 0 ≤ x2.toInt ∧ x2.toInt < (I (29 + 2 * (Int32.toNatClampNeg x1)) 2).toInt) → J1 = J)) (hp2 : ((¬ (0 ≤ x1.toInt ∧ x1.toInt ≤ 7) ∧ v2.toInt = -2) ∨ ((0 ≤ x1.toInt ∧ x1.toInt ≤ 7) ∧ (I1 (45 + 1) (Int32.toNatClampNeg x1)).toInt = 0 ∧ v2.toInt = -4) ∨ ((0 ≤ x1.toInt ∧ x1.toInt ≤ 7) ∧ (I1 (45 + 1) (Int32.toNatClampNeg x1)).toInt = 2 ∧ v2.toInt = -3) ∨ (((0 ≤ x1.toInt ∧ x1.toInt ≤ 7) ∧ ¬ (I1 (45 + 1) (Int32.toNatClampNeg x1)).toInt = 0 ∧ ¬ (I1 (45 + 1) (Int32.toNatClampNeg x1)).toInt = 2 ∧ 0 ≤ x2.toInt ∧ x2.toInt < (I1 (45 + 3) (Int32.toNatClampNeg x1)).toInt) ∧ v2.toInt = 1) ∨ ((0 ≤ x1.toInt ∧ x1.toInt ≤ 7) ∧ ¬ (I1 (45 + 1) (Int32.toNatClampNeg x1)).toInt = 0 ∧ ¬ (I1 (45 + 1) (Int32.toNatClampNeg x1)).toInt = 2 ∧ ¬ (0 ≤ x2.toInt ∧ x2.toInt < (I1 (45 + 3) (Int32.toNatClampNeg x1)).toInt) ∧ v2.toInt = -2)) ∧ (((0 ≤ x1.toInt ∧ x1.toInt ≤ 7) ∧ ¬ (I1 (45 + 1) (Int32.toNatClampNeg x1)).toInt = 0 ∧ ¬ (I1 (45 + 1) (Int32.toNatClampNeg x1)).toInt = 2 ∧ 0 ≤ x2.toInt ∧ x2.toInt < (I1 (45 + 3) (Int32.toNatClampNeg x1)).toInt) → J2 = uJ J1 (45 + 5 + (Int32.toNatClampNeg x1)) (Int32.toNatClampNeg x2) (cutf (I1 (45 + 2) (Int32.toNatClampNeg x1)).toInt y3)) ∧ (¬ ((0 ≤ x1.toInt ∧ x1.toInt ≤ 7) ∧ ¬ (I1 (45 + 1) (Int32.toNatClampNeg x1)).toInt = 0 ∧ ¬ (I1 (45 + 1) (Int32.toNatClampNeg x1)).toInt = 2 ∧ 0 ≤ x2.toInt ∧ x2.toInt < (I1 (45 + 3) (Int32.toNatClampNeg x1)).toInt) → J2 = J1)) : RJ I2 J2 := fun i hi hw k hk => by
  obtain ⟨_, _, _, a4, _, _, _⟩ := n2 i hi
  rw [a4] at hw
  have hj := h i hi hw k hk
  have hn := tn_eq x1
  by_cases r : 0 ≤ x1.toInt ∧ x1.toInt < 8
  · have s := hrs (Int32.toNatClampNeg x1) (by omega)
    obtain ⟨_, _, _, b4, b5, b6, _⟩ := n1 (Int32.toNatClampNeg x1) (by omega)
    have b4 := congrArg Int32.toInt b4
    have b5 := congrArg Int32.toInt b5
    have b6 := congrArg Int32.toInt b6
    unfold SRI at s
    by_cases c : ((0 ≤ x1.toInt ∧ x1.toInt < 8) ∧ ¬ (I (29 + 2 * (Int32.toNatClampNeg x1)) 1).toInt = -1 ∧ 0 ≤ x2.toInt ∧ x2.toInt < (I (29 + 2 * (Int32.toNatClampNeg x1)) 2).toInt)
    · have e1 := hp1.2.1 c ⟨by omega, by omega⟩
      have e2 := hp2.2.1 ⟨by omega, by omega, by omega, by omega, by omega⟩
      have e3 : (I1 (45 + 2) (Int32.toNatClampNeg x1)).toInt = (I (29 + 2 * (Int32.toNatClampNeg x1)) 1).toInt := by omega
      rw [e2, e1, e3, uJ_ap, if_neg (by omega), uJ_ap, uJ_ap]
      by_cases d : i = Int32.toNatClampNeg x1 ∧ k = Int32.toNatClampNeg x2
      · rw [if_pos (by omega), if_pos (by omega)]
      · rw [if_neg (by omega), if_neg (by omega), uJ_ap, if_neg (by omega)]
        exact hj
    · rw [hp2.2.2 (by omega), hp1.2.2 c]
      exact hj
  · rw [hp2.2.2 (by omega), hp1.2.2 (by omega)]
    exact hj
