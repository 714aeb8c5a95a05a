theorem zTown_tr {Z Z2 : jdL} {t : Nat} (h : zTown Z t) (ht : t + 3 < 45) (h1 : ∀ a, a < 45 → Z2.1 a = Z.1 a) (h2 : ∀ a k, a < 45 → ¬ (29 ≤ a ∧ k = 3) → Z2.2.1 a k = Z.2.1 a k) (h3 : t + 3 < 29 ∨ 3 ≤ 3) : zTown Z2 t :=
  ⟨(h1 t (by omega)).trans h.1, ⟨(h2 t 0 (by omega) (by omega)).trans (zTown_p0 h), (h1 (t + 1) (by omega)).trans (zTown_a0 h)⟩, ⟨(h2 t 1 (by omega) (by omega)).trans (zTown_p1 h), (h1 (t + 2) (by omega)).trans (zTown_a1 h)⟩, ⟨(h2 t 2 (by omega) (by omega)).trans (zTown_p2 h), (h1 (t + 3) (by omega)).trans (zTown_a2 h)⟩⟩
theorem zTies_tr {Z Z2 : jdL} {t : Nat} (h : zTies Z t) (ht : t + 6 < 45) (h1 : ∀ a, a < 45 → Z2.1 a = Z.1 a) (h2 : ∀ a k, a < 45 → ¬ (29 ≤ a ∧ k = 3) → Z2.2.1 a k = Z.2.1 a k) (h3 : t + 3 < 29 ∨ 6 ≤ 3) : zTies Z2 t :=
  ⟨(h1 t (by omega)).trans h.1, ⟨(h2 t 0 (by omega) (by omega)).trans (zTies_p0 h), (h1 (t + 1) (by omega)).trans (zTies_a0 h)⟩, ⟨(h2 t 1 (by omega) (by omega)).trans (zTies_p1 h), (h1 (t + 2) (by omega)).trans (zTies_a1 h)⟩, ⟨(h2 t 2 (by omega) (by omega)).trans (zTies_p2 h), (h1 (t + 3) (by omega)).trans (zTies_a2 h)⟩, ⟨(h2 t 3 (by omega) (by omega)).trans (zTies_p3 h), (h1 (t + 4) (by omega)).trans (zTies_a3 h)⟩, ⟨(h2 t 4 (by omega) (by omega)).trans (zTies_p4 h), (h1 (t + 5) (by omega)).trans (zTies_a4 h)⟩, ⟨(h2 t 5 (by omega) (by omega)).trans (zTies_p5 h), (h1 (t + 6) (by omega)).trans (zTies_a5 h)⟩⟩
theorem zDay_tr {Z Z2 : jdL} {t : Nat} (h : zDay Z t) (ht : t + 4 < 45) (h1 : ∀ a, a < 45 → Z2.1 a = Z.1 a) (h2 : ∀ a k, a < 45 → ¬ (29 ≤ a ∧ k = 3) → Z2.2.1 a k = Z.2.1 a k) (h3 : t + 3 < 29 ∨ 4 ≤ 3) : zDay Z2 t :=
  ⟨(h1 t (by omega)).trans h.1, ⟨(h2 t 0 (by omega) (by omega)).trans (zDay_p0 h), (h1 (t + 1) (by omega)).trans (zDay_a0 h)⟩, ⟨(h2 t 1 (by omega) (by omega)).trans (zDay_p1 h), (h1 (t + 2) (by omega)).trans (zDay_a1 h)⟩, ⟨(h2 t 2 (by omega) (by omega)).trans (zDay_p2 h), (h1 (t + 3) (by omega)).trans (zDay_a2 h)⟩, ⟨(h2 t 3 (by omega) (by omega)).trans (zDay_p3 h), (h1 (t + 4) (by omega)).trans (zDay_a3 h)⟩⟩
theorem zScribe_tr {Z Z2 : jdL} {t : Nat} (h : zScribe Z t) (ht : t + 1 < 45) (h1 : ∀ a, a < 45 → Z2.1 a = Z.1 a) (h2 : ∀ a k, a < 45 → ¬ (29 ≤ a ∧ k = 3) → Z2.2.1 a k = Z.2.1 a k) (h3 : t + 3 < 29 ∨ 1 ≤ 3) : zScribe Z2 t :=
  ⟨(h1 t (by omega)).trans h.1, ⟨(h2 t 0 (by omega) (by omega)).trans (zScribe_p0 h), (h1 (t + 1) (by omega)).trans (zScribe_a0 h)⟩⟩
theorem zShelf_tr {Z Z2 : jdL} {t : Nat} (h : zShelf Z t) (ht : t + 1 < 45) (h1 : ∀ a, a < 45 → Z2.1 a = Z.1 a) (h2 : ∀ a k, a < 45 → ¬ (29 ≤ a ∧ k = 3) → Z2.2.1 a k = Z.2.1 a k) (h3 : t + 3 < 29 ∨ 1 ≤ 3) : zShelf Z2 t :=
  ⟨(h1 t (by omega)).trans h.1, ⟨(h2 t 0 (by omega) (by omega)).trans (zShelf_p0 h), (h1 (t + 1) (by omega)).trans (zShelf_a0 h)⟩⟩
theorem zX_tr {Z Z2 : jdL} (h : zX Z) (h1 : ∀ a, a < 45 → Z2.1 a = Z.1 a) (h2 : ∀ a k, a < 45 → ¬ (29 ≤ a ∧ k = 3) → Z2.2.1 a k = Z.2.1 a k) : zX Z2 :=
  ⟨(h1 0 (by decide)).trans h.1, ⟨(h2 0 0 (by decide) (by decide)).trans (zX_p0 h), zTown_tr (zX_o0 h) (by decide) h1 h2 (by decide)⟩, ⟨(h2 0 1 (by decide) (by decide)).trans (zX_p1 h), zTown_tr (zX_o1 h) (by decide) h1 h2 (by decide)⟩, ⟨(h2 0 2 (by decide) (by decide)).trans (zX_p2 h), zTown_tr (zX_o2 h) (by decide) h1 h2 (by decide)⟩, ⟨(h2 0 3 (by decide) (by decide)).trans (zX_p3 h), zTies_tr (zX_o3 h) (by decide) h1 h2 (by decide)⟩, ⟨(h2 0 4 (by decide) (by decide)).trans (zX_p4 h), zDay_tr (zX_o4 h) (by decide) h1 h2 (by decide)⟩, ⟨(h2 0 5 (by decide) (by decide)).trans (zX_p5 h), zScribe_tr (zX_o5 h) (by decide) h1 h2 (by decide)⟩, ⟨(h2 0 6 (by decide) (by decide)).trans (zX_p6 h), (h1 27 (by decide)).trans (zX_a6 h)⟩, ⟨(h2 0 7 (by decide) (by decide)).trans (zX_p7 h), (h1 28 (by decide)).trans (zX_a7 h)⟩, fun i hi => ⟨(h2 27 i (by decide) (by omega)).trans (zX_sh h hi), zShelf_tr (zX_shelf h hi) (by omega) h1 h2 (by omega)⟩⟩
/-- the invariant of the two objects -/
def IV (Z : jdL) (I : jdI) : Prop := zX Z ∧ zMen Z ∧ WX I ∧ MI Z I 45
theorem IV_x {Z : jdL} {I I2 : jdI} {p : Nat → Nat → Prop} (h : IV Z I) (hW : WX I2) (hF : Fr p I I2) (hp : ∀ a k, p a k → a < 45) : IV Z I2 := ⟨h.1, h.2.1, hW, MI_lo h.2.2.2 hF hp⟩
theorem IV_m {Z : jdL} {I I2 : jdI} {p : Nat → Nat → Prop} (h : IV Z I) (hW : WM 7 45 I2) (hF : Fr p I I2) (hp : ∀ a k, p a k → 45 ≤ a ∧ a ≤ 82) : IV Z I2 := ⟨h.1, h.2.1, WX_fr h.2.2.1 hF (fun a k h1 h2 => by have := hp a k h2; omega), MI_t h.2.2.2 hW hF (fun a k q => Or.inl (hp a k q))⟩
theorem IV_s {Z Z2 : jdL} {I I2 : jdI} {J J2 : jdJ} {x y : Nat} (h : IV Z I) (hS : ST 45 x y Z I J Z2 I2 J2) : IV Z2 I2 := by
  obtain ⟨h0, h1, h2, h3⟩ := h
  obtain ⟨m0, r0, r1, r2, r3, r4⟩ := hS
  have hb := h3.2.2.1
  refine ⟨zX_tr h0 (fun a ha => r1 a (by omega)) (fun a k ha _ => r2 a k (by omega) (by omega)), fun i hi w hw => ?_, WX_fr h2 r3 (fun a k h1 h2 => by omega), m0⟩
  rw [r2 _ _ (by omega) (by omega)] at hw
  obtain ⟨ci, hci, hz⟩ := h1 i hi w hw
  have hl := h3.2.2.2.1 _ _ hz
  exact ⟨ci, hci, (r1 w hl).trans hz⟩
theorem MI_uP {Z : jdL} {I : jdI} {t a k : Nat} {v : Option Nat} (h : MI Z I t) (ha : a < t) : MI (uP Z a k v) I t := by
  obtain ⟨b0, b1, b2, b3, b4, b5, b6⟩ := h
  have tr : ∀ w, t ≤ w → zModel Z w → zModel (uP Z a k v) w := fun w hw h => zModel_tr h (fun _ _ _ => rfl) (fun c j h1 h2 _ => by rw [uP_ap, if_neg (by omega)])
  have e : ∀ j, (uP Z a k v).2.1 t j = Z.2.1 t j := fun j => by rw [uP_ap, if_neg (by omega)]
  refine ⟨tr t (Nat.le_refl _) b0, b1, b2, b3, fun w hw => ?_, fun u hu => ?_, fun w u hw hu => ?_⟩
  · rw [e] at hw
    obtain ⟨c0, c1, c2, c3⟩ := b4 w hw
    exact ⟨tr w (by omega) c0, c1, c2, c3⟩
  · rw [e] at hu
    obtain ⟨c0, c1, c2, c3⟩ := b5 u hu
    exact ⟨tr u (by omega) c0, c1, c2, c3⟩
  · rw [e] at hw hu
    exact b6 w u hw hu
theorem IV_uP {Z : jdL} {I : jdI} {i : Nat} {v : Option Nat} (h : IV Z I) (hi : i < 8) (hv : ∀ w, v = some w → zMan Z w) : IV (uP Z (29 + 2 * i) 3 v) I := by
  obtain ⟨h0, h1, h2, h3⟩ := h
  refine ⟨zX_tr h0 (fun _ _ => rfl) (fun a k ha hk => by rw [uP_ap, if_neg (by omega)]), fun j hj w hw => ?_, h2, MI_uP h3 (by omega)⟩
  rw [uP_ap] at hw
  by_cases e : 29 + 2 * j = 29 + 2 * i ∧ 3 = 3
  · rw [if_pos e] at hw
    exact hv w hw
  · rw [if_neg e] at hw
    exact h1 j hj w hw
theorem IV_hi {Z : jdL} {I I2 : jdI} {p : Nat → Nat → Prop} (h : IV Z I) (hF : Fr p I I2) (hp : ∀ a k, p a k → Z.2.2 ≤ a) : IV Z I2 := by
  have hb := h.2.2.2.2.2.1
  exact ⟨h.1, h.2.1, WX_fr h.2.2.1 hF (fun a k h1 h2 => by have := hp a k h2; omega), MI_t h.2.2.2 (WM_fr h.2.2.2.2.1 hF (fun a k h1 h2 h3 => by have := hp a k h3; omega)) hF (fun a k q => Or.inr (hp a k q))⟩
theorem IV_nZ {Z : jdL} {I : jdI} {ty : Nat × Nat} (h : IV Z I) : IV (nZ Z ty) I := by
  obtain ⟨h0, h1, h2, h3⟩ := h
  have hb := h3.2.2.1
  refine ⟨zX_tr h0 (fun a ha => by rw [nZ_ap, if_neg (by omega)]) (fun a k ha hk => by rw [nZ_ap2, if_neg (by omega)]), fun j hj w hw => ?_, h2, MI_nZ h3⟩
  rw [nZ_ap2, if_neg (by omega)] at hw
  obtain ⟨ci, hci, hz⟩ := h1 j hj w hw
  have hl := h3.2.2.2.1 _ _ hz
  exact ⟨ci, hci, by rw [nZ_ap, if_neg (by omega)]; exact hz⟩
/-- the size of the tape and the flag of what is kept stay, on both sides -/
def NX (Z : jdL) (I : jdI) (Z2 : jdL) (I2 : jdI) : Prop := I2 25 1 = I 25 1 ∧ I2 0 8 = I 0 8 ∧ I2 45 8 = I 45 8 ∧ Z2.2.1 45 20 = Z.2.1 45 20
theorem NX.rf {Z : jdL} {I : jdI} : NX Z I Z I := ⟨rfl, rfl, rfl, rfl⟩
theorem NX.tr {Z Z1 Z2 : jdL} {I I1 I2 : jdI} (h : NX Z I Z1 I1) (h2 : NX Z1 I1 Z2 I2) : NX Z I Z2 I2 := ⟨h2.1.trans h.1, h2.2.1.trans h.2.1, h2.2.2.1.trans h.2.2.1, h2.2.2.2.trans h.2.2.2⟩
theorem NX_fr {Z : jdL} {I I2 : jdI} {p : Nat → Nat → Prop} (hF : Fr p I I2) (h1 : ¬ p 25 1) (h2 : ¬ p 0 8) (h3 : ¬ p 45 8) : NX Z I Z I2 := ⟨hF _ _ h1, hF _ _ h2, hF _ _ h3, rfl⟩
theorem NX_st {Z Z2 : jdL} {I I2 : jdI} {J J2 : jdJ} {y : Nat} (h : IV Z I) (hS : ST 45 21 y Z I J Z2 I2 J2) (hy : 10 ≤ y) : NX Z I Z2 I2 := by
  have hb := h.2.2.2.2.2.1
  exact ⟨hS.2.2.2.2.1 _ _ (by omega), hS.2.2.2.2.1 _ _ (by omega), hS.2.2.2.2.1 _ _ (by omega), hS.2.2.2.1 _ _ (by omega) (by omega)⟩
theorem NX_nZ {Z : jdL} {I : jdI} {ty : Nat × Nat} (h : IV Z I) : NX Z I (nZ Z ty) I := by
  have hb := h.2.2.2.2.2.1
  exact ⟨rfl, rfl, rfl, by rw [nZ_ap2, if_neg (by omega)]⟩
theorem NX_uP {Z : jdL} {I : jdI} {a k : Nat} {v : Option Nat} (h : a < 45) : NX Z I (uP Z a k v) I := ⟨rfl, rfl, rfl, by rw [uP_ap, if_neg (by omega)]⟩
/-- what the two objects have in common, of the tape's size and of what is kept -/
def RV (Z : jdL) (I : jdI) : Prop := (I 25 1).toInt = (I 45 8).toInt ∧ ((I 0 8).toInt = 0 ↔ Z.2.1 45 20 = none)
theorem RV_keep {Z Z2 : jdL} {I I2 : jdI} (h : RV Z I) (n : NX Z I Z2 I2) : RV Z2 I2 := by
  obtain ⟨n1, n2, n3, n4⟩ := n
  refine ⟨?_, ?_⟩
  · rw [n1, n3]
    exact h.1
  · rw [n2, n4]
    exact h.2
theorem mk_uP_ne {Z : jdL} {i j : Nat} {v : Option Nat} (h : i ≠ j) : mk (uP Z (29 + 2 * j) 3 v) i = mk Z i := by
  have e : (uP Z (29 + 2 * j) 3 v).2.1 (29 + 2 * i) 3 = Z.2.1 (29 + 2 * i) 3 := by rw [uP_ap, if_neg (by omega)]
  unfold mk
  rw [e]
  rfl
theorem mk_uP_none {Z : jdL} {j : Nat} : mk (uP Z (29 + 2 * j) 3 none) j = 0 := mk_none (by rw [uP_ap, if_pos ⟨rfl, rfl⟩])
theorem mk_uP_some {Z : jdL} {j w : Nat} : mk (uP Z (29 + 2 * j) 3 (some w)) j = ckI (Z.1 w) := mk_some (Z := uP Z (29 + 2 * j) 3 (some w)) (by rw [uP_ap, if_pos ⟨rfl, rfl⟩])
theorem mk_eq {Z Z2 : jdL} {I : jdI} {i : Nat} (h : IV Z I) (hi : i < 8) (h1 : ∀ a, a < Z.2.2 → Z2.1 a = Z.1 a) (h2 : Z2.2.1 (29 + 2 * i) 3 = Z.2.1 (29 + 2 * i) 3) : mk Z2 i = mk Z i := by
  unfold mk
  rw [h2]
  cases hw : Z.2.1 (29 + 2 * i) 3 with
  | none => rfl
  | some w =>
    obtain ⟨ci, hci, hz⟩ := h.2.1 i hi w hw
    show ckI (Z2.1 w) = ckI (Z.1 w)
    rw [h1 w (h.2.2.2.2.2.2.1 _ _ hz)]
theorem mk_nZ {Z : jdL} {I : jdI} {i : Nat} {ty : Nat × Nat} (h : IV Z I) (hi : i < 8) : mk (nZ Z ty) i = mk Z i := by
  have hb := h.2.2.2.2.2.1
  exact mk_eq h hi (fun a ha => by rw [nZ_ap, if_neg (by omega)]) (by rw [nZ_ap2, if_neg (by omega)])
/-- the shelves stay, on both sides -/
def NS (Z : jdL) (I : jdI) (Z2 : jdL) (I2 : jdI) : Prop := ∀ i, i < 8 → I2 (29 + 2 * i) 1 = I (29 + 2 * i) 1 ∧ I2 (29 + 2 * i) 2 = I (29 + 2 * i) 2 ∧ mk Z2 i = mk Z i ∧ I2 (45 + 1) i = I (45 + 1) i ∧ I2 (45 + 2) i = I (45 + 2) i ∧ I2 (45 + 3) i = I (45 + 3) i ∧ I2 (45 + 14) i = I (45 + 14) i
theorem NS.rf {Z : jdL} {I : jdI} : NS Z I Z I := fun _ _ => ⟨rfl, rfl, rfl, rfl, rfl, rfl, rfl⟩
theorem NS.tr {Z Z1 Z2 : jdL} {I I1 I2 : jdI} (h : NS Z I Z1 I1) (h2 : NS Z1 I1 Z2 I2) : NS Z I Z2 I2 := fun i hi => by
  obtain ⟨a1, a2, a3, a4, a5, a6, a7⟩ := h i hi
  obtain ⟨b1, b2, b3, b4, b5, b6, b7⟩ := h2 i hi
  exact ⟨b1.trans a1, b2.trans a2, b3.trans a3, b4.trans a4, b5.trans a5, b6.trans a6, b7.trans a7⟩
theorem NS_fr {Z : jdL} {I I2 : jdI} {p : Nat → Nat → Prop} (hF : Fr p I I2) (hp : ∀ a k, p a k → ¬ ((29 ≤ a ∧ a ≤ 43) ∨ (46 ≤ a ∧ a ≤ 48) ∨ a = 59)) : NS Z I Z I2 := fun i hi =>
  ⟨hF _ _ (fun q => by have := hp _ _ q; omega), hF _ _ (fun q => by have := hp _ _ q; omega), rfl, hF _ _ (fun q => by have := hp _ _ q; omega), hF _ _ (fun q => by have := hp _ _ q; omega), hF _ _ (fun q => by have := hp _ _ q; omega), hF _ _ (fun q => by have := hp _ _ q; omega)⟩
theorem NS_st {Z Z2 : jdL} {I I2 : jdI} {J J2 : jdJ} {x y : Nat} (h : IV Z I) (hS : ST 45 x y Z I J Z2 I2 J2) : NS Z I Z2 I2 := fun i hi => by
  have hb := h.2.2.2.2.2.1
  have r3 := hS.2.2.2.2.1
  exact ⟨r3 _ _ (by omega), r3 _ _ (by omega), mk_eq h hi (fun a ha => hS.2.2.1 a ha) (hS.2.2.2.1 _ _ (by omega) (by omega)), r3 _ _ (by omega), r3 _ _ (by omega), r3 _ _ (by omega), r3 _ _ (by omega)⟩
/-- shelf i is the same on both sides -/
def SRI (Z : jdL) (I : jdI) (i : Nat) : Prop := ((I (45 + 1) i).toInt = 0 ∧ (I (29 + 2 * i) 1).toInt = -1 ∧ mk Z i = 0) ∨ ((I (45 + 1) i).toInt = 1 ∧ (I (29 + 2 * i) 1).toInt = (I (45 + 2) i).toInt ∧ 0 ≤ (I (45 + 2) i).toInt ∧ (I (45 + 2) i).toInt ≤ 4 ∧ (I (29 + 2 * i) 2).toInt = (I (45 + 3) i).toInt ∧ mk Z i = 0) ∨ ((I (45 + 1) i).toInt = 2 ∧ (I (29 + 2 * i) 1).toInt = -1 ∧ mk Z i = (I (45 + 14) i).toInt ∧ 1 ≤ (I (45 + 14) i).toInt ∧ (I (45 + 14) i).toInt ≤ 5)
def RS (Z : jdL) (I : jdI) : Prop := ∀ i, i < 8 → SRI Z I i
theorem RS_keep {Z Z2 : jdL} {I I2 : jdI} (h : RS Z I) (n : NS Z I Z2 I2) : RS Z2 I2 := fun i hi => by
  obtain ⟨a1, a2, a3, a4, a5, a6, a7⟩ := n i hi
  have s := h i hi
  unfold SRI at s ⊢
  rw [a1, a2, a3, a4, a5, a6, a7]
  exact s
/-- what a method of X does to the shelf x1 where ok holds: kind, size, coachman -/
def XS (ok : Prop) (x1 : Int32) (kd sz mn : Int) (Z : jdL) (I : jdI) (Z2 : jdL) (I2 : jdI) : Prop := (∀ a k, 45 ≤ a → a < Z.2.2 → I2 a k = I a k) ∧ ∀ i, i < 8 → (¬ (ok ∧ i = Int32.toNatClampNeg x1) → I2 (29 + 2 * i) 1 = I (29 + 2 * i) 1 ∧ I2 (29 + 2 * i) 2 = I (29 + 2 * i) 2 ∧ mk Z2 i = mk Z i) ∧ (ok → i = Int32.toNatClampNeg x1 → (I2 (29 + 2 * i) 1).toInt = kd ∧ (I2 (29 + 2 * i) 2).toInt = sz ∧ mk Z2 i = mn)
theorem XS_no {ok : Prop} {x1 : Int32} {kd sz mn : Int} {Z : jdL} {I I2 : jdI} {p : Nat → Nat → Prop} (hF : Fr p I I2) (hp : ∀ a k, p a k → a = 28) (h : ¬ ok) : XS ok x1 kd sz mn Z I Z I2 :=
  ⟨fun a k h1 _ => hF a k (fun q => by have := hp _ _ q; omega), fun i hi => ⟨fun _ => ⟨hF _ _ (fun q => by have := hp _ _ q; omega), hF _ _ (fun q => by have := hp _ _ q; omega), rfl⟩, fun q => absurd q h⟩⟩
theorem RS_row {Z Z1 : jdL} {I I1 I2 : jdI} {J J2 : jdJ} {x1 x2 x3 v : Int32} (hv : IV Z I) (h : RS Z I) (hx : XS (((0 ≤ x1.toInt ∧ x1.toInt ≤ 7) ∧ (0 ≤ x2.toInt ∧ x2.toInt ≤ 4) ∧ 0 ≤ x3.toInt ∧ x3.toInt ≤ 40)) x1 x2.toInt x3.toInt 0 Z I Z1 I1) (hF : Fr (fun a k => ((a = 45 + 1 ∨ a = 45 + 2 ∨ a = 45 + 3) ∧ k = Int32.toNatClampNeg x1) ∨ a = 45 + 17) I1 I2) (hp : (v.toInt = 1 ∧ ((0 ≤ x1.toInt ∧ x1.toInt ≤ 7) ∧ (0 ≤ x2.toInt ∧ x2.toInt ≤ 4) ∧ 0 ≤ x3.toInt ∧ x3.toInt ≤ 40) ∧ (I2 (45 + 1) (Int32.toNatClampNeg x1)).toInt = 1 ∧ (I2 (45 + 2) (Int32.toNatClampNeg x1)).toInt = x2.toInt ∧ (I2 (45 + 3) (Int32.toNatClampNeg x1)).toInt = x3.toInt ∧ ((∀ q : Nat, q < 40 → J2 (45 + 5 + (Int32.toNatClampNeg x1)) q = 0) ∧ ∀ a, a ≠ 45 + 5 + (Int32.toNatClampNeg x1) → J2 a = J a)) ∨ (v.toInt = -2 ∧ ¬ ((0 ≤ x1.toInt ∧ x1.toInt ≤ 7) ∧ (0 ≤ x2.toInt ∧ x2.toInt ≤ 4) ∧ 0 ≤ x3.toInt ∧ x3.toInt ≤ 40) ∧ (I2 (45 + 1) (Int32.toNatClampNeg x1)).toInt = (I1 (45 + 1) (Int32.toNatClampNeg x1)).toInt ∧ (I2 (45 + 2) (Int32.toNatClampNeg x1)).toInt = (I1 (45 + 2) (Int32.toNatClampNeg x1)).toInt ∧ (I2 (45 + 3) (Int32.toNatClampNeg x1)).toInt = (I1 (45 + 3) (Int32.toNatClampNeg x1)).toInt ∧ J2 = J)) : RS Z1 I2 := fun i hi => by
  have hb := hv.2.2.2.2.2.1
  have s := h i hi
  obtain ⟨e1, e2⟩ := hx.2 i hi
  have f1 := congrArg Int32.toInt (hF (29 + 2 * i) 1 (by omega))
  have f2 := congrArg Int32.toInt (hF (29 + 2 * i) 2 (by omega))
  have g1 := congrArg Int32.toInt (hx.1 (45 + 1) i (by omega) (by omega))
  have g2 := congrArg Int32.toInt (hx.1 (45 + 2) i (by omega) (by omega))
  have g3 := congrArg Int32.toInt (hx.1 (45 + 3) i (by omega) (by omega))
  have g4 := congrArg Int32.toInt (hx.1 (45 + 14) i (by omega) (by omega))
  have g5 := congrArg Int32.toInt (hF (45 + 14) i (by omega))
  unfold SRI at s ⊢
  by_cases c : (((0 ≤ x1.toInt ∧ x1.toInt ≤ 7) ∧ (0 ≤ x2.toInt ∧ x2.toInt ≤ 4) ∧ 0 ≤ x3.toInt ∧ x3.toInt ≤ 40)) ∧ i = Int32.toNatClampNeg x1
  · obtain ⟨c1, c2⟩ := c
    obtain ⟨k1, k2, k3⟩ := e2 c1 c2
    rw [← c2] at hp
    have hp : (I2 (45 + 1) i).toInt = 1 ∧ (I2 (45 + 2) i).toInt = x2.toInt ∧ (I2 (45 + 3) i).toInt = x3.toInt := by
      rcases hp with hp | hp
      · exact ⟨hp.2.2.1, hp.2.2.2.1, hp.2.2.2.2.1⟩
      · exact absurd c1 hp.2.1
    exact Or.inr (Or.inl ⟨by omega, by omega, by omega, by omega, by omega, k3⟩)
  · obtain ⟨k1, k2, k3⟩ := e1 c
    have k1 := congrArg Int32.toInt k1
    have k2 := congrArg Int32.toInt k2
    have m : (I2 (45 + 1) i).toInt = (I1 (45 + 1) i).toInt ∧ (I2 (45 + 2) i).toInt = (I1 (45 + 2) i).toInt ∧ (I2 (45 + 3) i).toInt = (I1 (45 + 3) i).toInt := by
      by_cases c2 : i = Int32.toNatClampNeg x1
      · rw [← c2] at hp
        have c3 : ¬ (((0 ≤ x1.toInt ∧ x1.toInt ≤ 7) ∧ (0 ≤ x2.toInt ∧ x2.toInt ≤ 4) ∧ 0 ≤ x3.toInt ∧ x3.toInt ≤ 40)) := fun q => c ⟨q, c2⟩
        rcases hp with hp | hp
        · exact absurd hp.2.1 c3
        · exact ⟨hp.2.2.1, hp.2.2.2.1, hp.2.2.2.2.1⟩
      · exact ⟨congrArg Int32.toInt (hF (45 + 1) i (by omega)), congrArg Int32.toInt (hF (45 + 2) i (by omega)), congrArg Int32.toInt (hF (45 + 3) i (by omega))⟩
    obtain ⟨m1, m2, m3⟩ := m
    rw [k3, f1, f2, k1, k2, m1, m2, m3, g1, g2, g3, g5, g4]
    exact s
theorem RS_man {Z Z1 : jdL} {I I1 I2 : jdI} {x1 x2 x3 v : Int32} (hv : IV Z I) (h : RS Z I) (hx : XS (((0 ≤ x1.toInt ∧ x1.toInt ≤ 7) ∧ (1 ≤ x2.toInt ∧ x2.toInt ≤ 5) ∧ 0 ≤ x3.toInt ∧ x3.toInt ≤ 9)) x1 (-1) 0 x2.toInt Z I Z1 I1) (hF : Fr (fun a k => ((a = 45 + 1 ∨ a = 45 + 14 ∨ a = 45 + 15) ∧ k = Int32.toNatClampNeg x1) ∨ a = 45 + 17) I1 I2) (hp : (v.toInt = 1 ∧ ((0 ≤ x1.toInt ∧ x1.toInt ≤ 7) ∧ (1 ≤ x2.toInt ∧ x2.toInt ≤ 5) ∧ 0 ≤ x3.toInt ∧ x3.toInt ≤ 9) ∧ (I2 (45 + 1) (Int32.toNatClampNeg x1)).toInt = 2 ∧ (I2 (45 + 14) (Int32.toNatClampNeg x1)).toInt = x2.toInt) ∨ (v.toInt = -2 ∧ ¬ ((0 ≤ x1.toInt ∧ x1.toInt ≤ 7) ∧ (1 ≤ x2.toInt ∧ x2.toInt ≤ 5) ∧ 0 ≤ x3.toInt ∧ x3.toInt ≤ 9) ∧ (I2 (45 + 1) (Int32.toNatClampNeg x1)).toInt = (I1 (45 + 1) (Int32.toNatClampNeg x1)).toInt ∧ (I2 (45 + 14) (Int32.toNatClampNeg x1)).toInt = (I1 (45 + 14) (Int32.toNatClampNeg x1)).toInt)) : RS Z1 I2 := fun i hi => by
  have hb := hv.2.2.2.2.2.1
  have s := h i hi
  obtain ⟨e1, e2⟩ := hx.2 i hi
  have f1 := congrArg Int32.toInt (hF (29 + 2 * i) 1 (by omega))
  have f2 := congrArg Int32.toInt (hF (29 + 2 * i) 2 (by omega))
  have g1 := congrArg Int32.toInt (hx.1 (45 + 1) i (by omega) (by omega))
  have g2 := congrArg Int32.toInt (hx.1 (45 + 2) i (by omega) (by omega))
  have g3 := congrArg Int32.toInt (hx.1 (45 + 3) i (by omega) (by omega))
  have g4 := congrArg Int32.toInt (hx.1 (45 + 14) i (by omega) (by omega))
  have g5 := congrArg Int32.toInt (hF (45 + 2) i (by omega))
  have g6 := congrArg Int32.toInt (hF (45 + 3) i (by omega))
  unfold SRI at s ⊢
  by_cases c : (((0 ≤ x1.toInt ∧ x1.toInt ≤ 7) ∧ (1 ≤ x2.toInt ∧ x2.toInt ≤ 5) ∧ 0 ≤ x3.toInt ∧ x3.toInt ≤ 9)) ∧ i = Int32.toNatClampNeg x1
  · obtain ⟨c1, c2⟩ := c
    obtain ⟨k1, k2, k3⟩ := e2 c1 c2
    rw [← c2] at hp
    exact Or.inr (Or.inr ⟨by omega, by omega, by omega, by omega, by omega⟩)
  · obtain ⟨k1, k2, k3⟩ := e1 c
    have k1 := congrArg Int32.toInt k1
    have k2 := congrArg Int32.toInt k2
    have m : (I2 (45 + 1) i).toInt = (I1 (45 + 1) i).toInt ∧ (I2 (45 + 14) i).toInt = (I1 (45 + 14) i).toInt := by
      by_cases c2 : i = Int32.toNatClampNeg x1
      · rw [← c2] at hp
        have c3 : ¬ (((0 ≤ x1.toInt ∧ x1.toInt ≤ 7) ∧ (1 ≤ x2.toInt ∧ x2.toInt ≤ 5) ∧ 0 ≤ x3.toInt ∧ x3.toInt ≤ 9)) := fun q => c ⟨q, c2⟩
        rcases hp with hp | hp
        · exact absurd hp.2.1 c3
        · exact hp.2.2
      · exact ⟨congrArg Int32.toInt (hF (45 + 1) i (by omega)), congrArg Int32.toInt (hF (45 + 14) i (by omega))⟩
    obtain ⟨m1, m2⟩ := m
    rw [k3, f1, f2, k1, k2, m1, m2, g1, g4, g5, g2, g6, g3]
    exact s
/-- the rows hold the same numbers -/
def RJ (I : jdI) (J : jdJ) : Prop := ∀ i, i < 8 → (I (45 + 1) i).toInt = 1 → ∀ k, k < 40 → J (29 + 2 * i + 1) k = J (45 + 5 + i) k
def NJ (J J2 : jdJ) : Prop := ∀ a, a < 83 → J2 a = J a
theorem RJ_keep {Z Z2 : jdL} {I I2 : jdI} {J J2 : jdJ} (h : RJ I J) (n : NS Z I Z2 I2) (nj : NJ J J2) : RJ I2 J2 := fun i hi hw k hk => by
  obtain ⟨_, _, _, a4, _, _, _⟩ := n i hi
  rw [a4] at hw
  rw [nj _ (by omega), nj _ (by omega)]
  exact h i hi hw k hk
theorem NJ.rf {J : jdJ} : NJ J J := fun _ _ => rfl
theorem NJ_st {Z Z2 : jdL} {I I2 : jdI} {J J2 : jdJ} {x y : Nat} (h : IV Z I) (hS : ST 45 x y Z I J Z2 I2 J2) : NJ J J2 := fun a ha => hS.2.2.2.2.2.1 a (by have := h.2.2.2.2.2.1; omega)
theorem RJ_row {I I1 I2 : jdI} {J J1 J2 : jdJ} {x1 x2 x3 v : Int32} (h : RJ I J) (hI : ∀ i, i < 8 → I1 (45 + 1) i = I (45 + 1) i) (hj : ((((0 ≤ x1.toInt ∧ x1.toInt ≤ 7) ∧ (0 ≤ x2.toInt ∧ x2.toInt ≤ 4) ∧ 0 ≤ x3.toInt ∧ x3.toInt ≤ 40)) → (∀ q : Nat, q < 40 → J1 (29 + 2 * (Int32.toNatClampNeg x1) + 1) q = 0) ∧ ∀ a, a ≠ 29 + 2 * (Int32.toNatClampNeg x1) + 1 → J1 a = J a) ∧ (¬ (((0 ≤ x1.toInt ∧ x1.toInt ≤ 7) ∧ (0 ≤ x2.toInt ∧ x2.toInt ≤ 4) ∧ 0 ≤ x3.toInt ∧ x3.toInt ≤ 40)) → J1 = J)) (hF : Fr (fun a k => ((a = 45 + 1 ∨ a = 45 + 2 ∨ a = 45 + 3) ∧ k = Int32.toNatClampNeg x1) ∨ a = 45 + 17) I1 I2) (hp : (v.toInt = 1 ∧ ((0 ≤ x1.toInt ∧ x1.toInt ≤ 7) ∧ (0 ≤ x2.toInt ∧ x2.toInt ≤ 4) ∧ 0 ≤ x3.toInt ∧ x3.toInt ≤ 40) ∧ (I2 (45 + 1) (Int32.toNatClampNeg x1)).toInt = 1 ∧ (I2 (45 + 2) (Int32.toNatClampNeg x1)).toInt = x2.toInt ∧ (I2 (45 + 3) (Int32.toNatClampNeg x1)).toInt = x3.toInt ∧ ((∀ q : Nat, q < 40 → J2 (45 + 5 + (Int32.toNatClampNeg x1)) q = 0) ∧ ∀ a, a ≠ 45 + 5 + (Int32.toNatClampNeg x1) → J2 a = J1 a)) ∨ (v.toInt = -2 ∧ ¬ ((0 ≤ x1.toInt ∧ x1.toInt ≤ 7) ∧ (0 ≤ x2.toInt ∧ x2.toInt ≤ 4) ∧ 0 ≤ x3.toInt ∧ x3.toInt ≤ 40) ∧ (I2 (45 + 1) (Int32.toNatClampNeg x1)).toInt = (I1 (45 + 1) (Int32.toNatClampNeg x1)).toInt ∧ (I2 (45 + 2) (Int32.toNatClampNeg x1)).toInt = (I1 (45 + 2) (Int32.toNatClampNeg x1)).toInt ∧ (I2 (45 + 3) (Int32.toNatClampNeg x1)).toInt = (I1 (45 + 3) (Int32.toNatClampNeg x1)).toInt ∧ J2 = J1)) : RJ I2 J2 := fun i hi hw k hk => by
  rcases hp with hp | hp
  · obtain ⟨_, ok, _, _, _, p0, p1⟩ := hp
    obtain ⟨q0, q1⟩ := hj.1 ok
    have hn := tn_eq x1
    by_cases c : i = Int32.toNatClampNeg x1
    · subst c
      rw [p1 _ (by omega), q0 k hk, p0 k hk]
    · have e := hF (45 + 1) i (by omega)
      rw [e, hI i hi] at hw
      rw [p1 _ (by omega), p1 _ (by omega), q1 _ (by omega), q1 _ (by omega)]
      exact h i hi hw k hk
  · obtain ⟨_, no, f1, _, _, e2⟩ := hp
    rw [e2, hj.2 no]
    have e : (I2 (45 + 1) i).toInt = (I (45 + 1) i).toInt := by
      rw [← hI i hi]
      by_cases c : i = Int32.toNatClampNeg x1
      · rw [c]
        exact f1
      · exact congrArg Int32.toInt (hF (45 + 1) i (by omega))
    rw [e] at hw
    exact h i hi hw k hk
theorem RJ_man {I I1 I2 : jdI} {J : jdJ} {x1 x2 x3 v : Int32} (h : RJ I J) (hI : ∀ i, i < 8 → I1 (45 + 1) i = I (45 + 1) i) (hF : Fr (fun a k => ((a = 45 + 1 ∨ a = 45 + 14 ∨ a = 45 + 15) ∧ k = Int32.toNatClampNeg x1) ∨ a = 45 + 17) I1 I2) (hp : (v.toInt = 1 ∧ ((0 ≤ x1.toInt ∧ x1.toInt ≤ 7) ∧ (1 ≤ x2.toInt ∧ x2.toInt ≤ 5) ∧ 0 ≤ x3.toInt ∧ x3.toInt ≤ 9) ∧ (I2 (45 + 1) (Int32.toNatClampNeg x1)).toInt = 2 ∧ (I2 (45 + 14) (Int32.toNatClampNeg x1)).toInt = x2.toInt) ∨ (v.toInt = -2 ∧ ¬ ((0 ≤ x1.toInt ∧ x1.toInt ≤ 7) ∧ (1 ≤ x2.toInt ∧ x2.toInt ≤ 5) ∧ 0 ≤ x3.toInt ∧ x3.toInt ≤ 9) ∧ (I2 (45 + 1) (Int32.toNatClampNeg x1)).toInt = (I1 (45 + 1) (Int32.toNatClampNeg x1)).toInt ∧ (I2 (45 + 14) (Int32.toNatClampNeg x1)).toInt = (I1 (45 + 14) (Int32.toNatClampNeg x1)).toInt)) : RJ I2 J := fun i hi hw k hk => by
  have e : (I2 (45 + 1) i).toInt = (I (45 + 1) i).toInt ∨ (I2 (45 + 1) i).toInt = 2 := by
    rw [← hI i hi]
    by_cases c : i = Int32.toNatClampNeg x1
    · rw [c]
      rcases hp with hp | hp
      · exact Or.inr hp.2.2.1
      · exact Or.inl hp.2.2.1
    · exact Or.inl (congrArg Int32.toInt (hF (45 + 1) i (by omega)))
  exact h i hi (by omega) k hk
theorem RJ_set {Z : jdL} {I I1 I2 : jdI} {J J1 J2 : jdJ} {x1 x2 v1 v2 : Int32} {y3 : Int64} (hrs : RS Z I) (h : RJ I J) (n1 : NS Z I Z I1) (n2 : NS Z I Z I2) (hp1 : ((¬ (0 ≤ x1.toInt ∧ x1.toInt < 8) ∧ v1.toInt = -2) ∨ ((0 ≤ x1.toInt ∧ x1.toInt < 8) ∧ (I (29 + 2 * (Int32.toNatClampNeg x1)) 1).toInt = -1 ∧ mk Z (Int32.toNatClampNeg x1) = 0 ∧ v1.toInt = -4) ∨ ((0 ≤ x1.toInt ∧ x1.toInt < 8) ∧ (I (29 + 2 * (Int32.toNatClampNeg x1)) 1).toInt = -1 ∧ 1 ≤ mk Z (Int32.toNatClampNeg x1) ∧ v1.toInt = -3) ∨ (((0 ≤ x1.toInt ∧ x1.toInt < 8) ∧ ¬ (I (29 + 2 * (Int32.toNatClampNeg x1)) 1).toInt = -1 ∧ 0 ≤ x2.toInt ∧ x2.toInt < (I (29 + 2 * (Int32.toNatClampNeg x1)) 2).toInt) ∧ v1.toInt = 1) ∨ ((0 ≤ x1.toInt ∧ x1.toInt < 8) ∧ ¬ (I (29 + 2 * (Int32.toNatClampNeg x1)) 1).toInt = -1 ∧ ¬ (0 ≤ x2.toInt ∧ x2.toInt < (I (29 + 2 * (Int32.toNatClampNeg x1)) 2).toInt) ∧ v1.toInt = -2)) ∧ (((0 ≤ x1.toInt ∧ x1.toInt < 8) ∧ ¬ (I (29 + 2 * (Int32.toNatClampNeg x1)) 1).toInt = -1 ∧ 0 ≤ x2.toInt ∧ x2.toInt < (I (29 + 2 * (Int32.toNatClampNeg x1)) 2).toInt) → (0 ≤ (I (29 + 2 * (Int32.toNatClampNeg x1)) 1).toInt ∧ (I (29 + 2 * (Int32.toNatClampNeg x1)) 1).toInt ≤ 4 → J1 = uJ J ((29 + 2 * (Int32.toNatClampNeg x1)) + 1) (Int32.toNatClampNeg x2) (cutf (I (29 + 2 * (Int32.toNatClampNeg x1)) 1).toInt y3))) ∧ (¬ ((0 ≤ x1.toInt ∧ x1.toInt < 8) ∧ ¬ (I (29 + 2 * (Int32.toNatClampNeg x1)) 1).toInt = -1 ∧ 0 ≤ x2.toInt ∧ x2.toInt < (I (29 + 2 * (Int32.toNatClampNeg x1)) 2).toInt) → J1 = J)) (hp2 : ((¬ (0 ≤ x1.toInt ∧ x1.toInt ≤ 7) ∧ v2.toInt = -2) ∨ ((0 ≤ x1.toInt ∧ x1.toInt ≤ 7) ∧ (I1 (45 + 1) (Int32.toNatClampNeg x1)).toInt = 0 ∧ v2.toInt = -4) ∨ ((0 ≤ x1.toInt ∧ x1.toInt ≤ 7) ∧ (I1 (45 + 1) (Int32.toNatClampNeg x1)).toInt = 2 ∧ v2.toInt = -3) ∨ (((0 ≤ x1.toInt ∧ x1.toInt ≤ 7) ∧ ¬ (I1 (45 + 1) (Int32.toNatClampNeg x1)).toInt = 0 ∧ ¬ (I1 (45 + 1) (Int32.toNatClampNeg x1)).toInt = 2 ∧ 0 ≤ x2.toInt ∧ x2.toInt < (I1 (45 + 3) (Int32.toNatClampNeg x1)).toInt) ∧ v2.toInt = 1) ∨ ((0 ≤ x1.toInt ∧ x1.toInt ≤ 7) ∧ ¬ (I1 (45 + 1) (Int32.toNatClampNeg x1)).toInt = 0 ∧ ¬ (I1 (45 + 1) (Int32.toNatClampNeg x1)).toInt = 2 ∧ ¬ (0 ≤ x2.toInt ∧ x2.toInt < (I1 (45 + 3) (Int32.toNatClampNeg x1)).toInt) ∧ v2.toInt = -2)) ∧ (((0 ≤ x1.toInt ∧ x1.toInt ≤ 7) ∧ ¬ (I1 (45 + 1) (Int32.toNatClampNeg x1)).toInt = 0 ∧ ¬ (I1 (45 + 1) (Int32.toNatClampNeg x1)).toInt = 2 ∧ 0 ≤ x2.toInt ∧ x2.toInt < (I1 (45 + 3) (Int32.toNatClampNeg x1)).toInt) → J2 = uJ J1 (45 + 5 + (Int32.toNatClampNeg x1)) (Int32.toNatClampNeg x2) (cutf (I1 (45 + 2) (Int32.toNatClampNeg x1)).toInt y3)) ∧ (¬ ((0 ≤ x1.toInt ∧ x1.toInt ≤ 7) ∧ ¬ (I1 (45 + 1) (Int32.toNatClampNeg x1)).toInt = 0 ∧ ¬ (I1 (45 + 1) (Int32.toNatClampNeg x1)).toInt = 2 ∧ 0 ≤ x2.toInt ∧ x2.toInt < (I1 (45 + 3) (Int32.toNatClampNeg x1)).toInt) → J2 = J1)) : RJ I2 J2 := fun i hi hw k hk => by
  obtain ⟨_, _, _, a4, _, _, _⟩ := n2 i hi
  rw [a4] at hw
  have hj := h i hi hw k hk
  have hn := tn_eq x1
  by_cases r : 0 ≤ x1.toInt ∧ x1.toInt < 8
  · have s := hrs (Int32.toNatClampNeg x1) (by omega)
    obtain ⟨_, _, _, b4, b5, b6, _⟩ := n1 (Int32.toNatClampNeg x1) (by omega)
    have b4 := congrArg Int32.toInt b4
    have b5 := congrArg Int32.toInt b5
    have b6 := congrArg Int32.toInt b6
    unfold SRI at s
    by_cases c : ((0 ≤ x1.toInt ∧ x1.toInt < 8) ∧ ¬ (I (29 + 2 * (Int32.toNatClampNeg x1)) 1).toInt = -1 ∧ 0 ≤ x2.toInt ∧ x2.toInt < (I (29 + 2 * (Int32.toNatClampNeg x1)) 2).toInt)
    · have e1 := hp1.2.1 c ⟨by omega, by omega⟩
      have e2 := hp2.2.1 ⟨by omega, by omega, by omega, by omega, by omega⟩
      have e3 : (I1 (45 + 2) (Int32.toNatClampNeg x1)).toInt = (I (29 + 2 * (Int32.toNatClampNeg x1)) 1).toInt := by omega
      rw [e2, e1, e3, uJ_ap, if_neg (by omega), uJ_ap, uJ_ap]
      by_cases d : i = Int32.toNatClampNeg x1 ∧ k = Int32.toNatClampNeg x2
      · rw [if_pos (by omega), if_pos (by omega)]
      · rw [if_neg (by omega), if_neg (by omega), uJ_ap, if_neg (by omega)]
        exact hj
    · rw [hp2.2.2 (by omega), hp1.2.2 c]
      exact hj
  · rw [hp2.2.2 (by omega), hp1.2.2 (by omega)]
    exact hj
theorem RJ_copy {Z : jdL} {I I1 I2 : jdI} {J J1 J2 : jdJ} {x1 x2 x3 x4 x5 v1 v2 : Int32} (hW : WM 7 45 I) (hrs : RS Z I) (h : RJ I J) (n1 : NS Z I Z I1) (n2 : NS Z I Z I2) (hp1 : (¬ ((0 ≤ x1.toInt ∧ x1.toInt < 8) ∧ (0 ≤ x2.toInt ∧ x2.toInt < 8)) ∧ v1.toInt = -2 ∧ J1 = J) ∨ (((0 ≤ x1.toInt ∧ x1.toInt < 8) ∧ (0 ≤ x2.toInt ∧ x2.toInt < 8)) ∧ (1 ≤ mk Z (Int32.toNatClampNeg x1) ∨ 1 ≤ mk Z (Int32.toNatClampNeg x2)) ∧ v1.toInt = -3 ∧ J1 = J) ∨ (((0 ≤ x1.toInt ∧ x1.toInt < 8) ∧ (0 ≤ x2.toInt ∧ x2.toInt < 8)) ∧ (mk Z (Int32.toNatClampNeg x1) = 0 ∧ mk Z (Int32.toNatClampNeg x2) = 0) ∧ ((I (29 + 2 * (Int32.toNatClampNeg x1)) 1).toInt = -1 ∨ (I (29 + 2 * (Int32.toNatClampNeg x2)) 1).toInt = -1) ∧ v1.toInt = -4 ∧ J1 = J) ∨ (((0 ≤ x1.toInt ∧ x1.toInt < 8) ∧ (0 ≤ x2.toInt ∧ x2.toInt < 8)) ∧ (mk Z (Int32.toNatClampNeg x1) = 0 ∧ mk Z (Int32.toNatClampNeg x2) = 0) ∧ ¬ (I (29 + 2 * (Int32.toNatClampNeg x1)) 1).toInt = -1 ∧ ¬ (I (29 + 2 * (Int32.toNatClampNeg x2)) 1).toInt = -1 ∧ ¬ (I (29 + 2 * (Int32.toNatClampNeg x1)) 1).toInt = (I (29 + 2 * (Int32.toNatClampNeg x2)) 1).toInt ∧ v1.toInt = -3 ∧ J1 = J) ∨ (((0 ≤ x1.toInt ∧ x1.toInt < 8) ∧ (0 ≤ x2.toInt ∧ x2.toInt < 8)) ∧ (mk Z (Int32.toNatClampNeg x1) = 0 ∧ mk Z (Int32.toNatClampNeg x2) = 0) ∧ ¬ (I (29 + 2 * (Int32.toNatClampNeg x1)) 1).toInt = -1 ∧ ¬ (I (29 + 2 * (Int32.toNatClampNeg x2)) 1).toInt = -1 ∧ (I (29 + 2 * (Int32.toNatClampNeg x1)) 1).toInt = (I (29 + 2 * (Int32.toNatClampNeg x2)) 1).toInt ∧ (0 ≤ x3.toInt ∧ 0 ≤ x4.toInt ∧ 0 ≤ x5.toInt ∧ x5.toInt ≤ (I (29 + 2 * (Int32.toNatClampNeg x1)) 2).toInt - x3.toInt ∧ x5.toInt ≤ (I (29 + 2 * (Int32.toNatClampNeg x2)) 2).toInt - x4.toInt) ∧ v1.toInt = x5.toInt ∧ J1 = cJ J ((29 + 2 * (Int32.toNatClampNeg x1)) + 1) ((29 + 2 * (Int32.toNatClampNeg x2)) + 1) (Int32.toNatClampNeg x3) (Int32.toNatClampNeg x4) (Int32.toNatClampNeg x5)) ∨ (((0 ≤ x1.toInt ∧ x1.toInt < 8) ∧ (0 ≤ x2.toInt ∧ x2.toInt < 8)) ∧ (mk Z (Int32.toNatClampNeg x1) = 0 ∧ mk Z (Int32.toNatClampNeg x2) = 0) ∧ ¬ (I (29 + 2 * (Int32.toNatClampNeg x1)) 1).toInt = -1 ∧ ¬ (I (29 + 2 * (Int32.toNatClampNeg x2)) 1).toInt = -1 ∧ (I (29 + 2 * (Int32.toNatClampNeg x1)) 1).toInt = (I (29 + 2 * (Int32.toNatClampNeg x2)) 1).toInt ∧ ¬ (0 ≤ x3.toInt ∧ 0 ≤ x4.toInt ∧ 0 ≤ x5.toInt ∧ x5.toInt ≤ (I (29 + 2 * (Int32.toNatClampNeg x1)) 2).toInt - x3.toInt ∧ x5.toInt ≤ (I (29 + 2 * (Int32.toNatClampNeg x2)) 2).toInt - x4.toInt) ∧ v1.toInt = -2 ∧ J1 = J)) (hp2 : (¬ ((0 ≤ x1.toInt ∧ x1.toInt ≤ 7) ∧ 0 ≤ x2.toInt ∧ x2.toInt ≤ 7) ∧ v2.toInt = -2 ∧ J2 = J1) ∨ (((0 ≤ x1.toInt ∧ x1.toInt ≤ 7) ∧ 0 ≤ x2.toInt ∧ x2.toInt ≤ 7) ∧ ¬ ((0 ≤ (I1 (45 + 1) (Int32.toNatClampNeg x1)).toInt ∧ (I1 (45 + 1) (Int32.toNatClampNeg x1)).toInt ≤ 2) ∧ 0 ≤ (I1 (45 + 1) (Int32.toNatClampNeg x2)).toInt ∧ (I1 (45 + 1) (Int32.toNatClampNeg x2)).toInt ≤ 2)) ∨ (((0 ≤ x1.toInt ∧ x1.toInt ≤ 7) ∧ 0 ≤ x2.toInt ∧ x2.toInt ≤ 7) ∧ ((I1 (45 + 1) (Int32.toNatClampNeg x1)).toInt = 2 ∨ (I1 (45 + 1) (Int32.toNatClampNeg x2)).toInt = 2) ∧ v2.toInt = -3 ∧ J2 = J1) ∨ (((0 ≤ x1.toInt ∧ x1.toInt ≤ 7) ∧ 0 ≤ x2.toInt ∧ x2.toInt ≤ 7) ∧ ¬ (I1 (45 + 1) (Int32.toNatClampNeg x1)).toInt = 2 ∧ ¬ (I1 (45 + 1) (Int32.toNatClampNeg x2)).toInt = 2 ∧ ((I1 (45 + 1) (Int32.toNatClampNeg x1)).toInt = 0 ∨ (I1 (45 + 1) (Int32.toNatClampNeg x2)).toInt = 0) ∧ v2.toInt = -4 ∧ J2 = J1) ∨ (((0 ≤ x1.toInt ∧ x1.toInt ≤ 7) ∧ 0 ≤ x2.toInt ∧ x2.toInt ≤ 7) ∧ ((I1 (45 + 1) (Int32.toNatClampNeg x1)).toInt = 1 ∧ (I1 (45 + 1) (Int32.toNatClampNeg x2)).toInt = 1) ∧ ¬ (I1 (45 + 2) (Int32.toNatClampNeg x1)).toInt = (I1 (45 + 2) (Int32.toNatClampNeg x2)).toInt ∧ v2.toInt = -3 ∧ J2 = J1) ∨ (((0 ≤ x1.toInt ∧ x1.toInt ≤ 7) ∧ 0 ≤ x2.toInt ∧ x2.toInt ≤ 7) ∧ ((I1 (45 + 1) (Int32.toNatClampNeg x1)).toInt = 1 ∧ (I1 (45 + 1) (Int32.toNatClampNeg x2)).toInt = 1) ∧ (I1 (45 + 2) (Int32.toNatClampNeg x1)).toInt = (I1 (45 + 2) (Int32.toNatClampNeg x2)).toInt ∧ (0 ≤ x3.toInt ∧ 0 ≤ x4.toInt ∧ 0 ≤ x5.toInt ∧ x5.toInt ≤ (I1 (45 + 3) (Int32.toNatClampNeg x1)).toInt - x3.toInt ∧ x5.toInt ≤ (I1 (45 + 3) (Int32.toNatClampNeg x2)).toInt - x4.toInt) ∧ v2.toInt = x5.toInt ∧ ((∀ q : Nat, q < 40 → J2 (45 + 5 + (Int32.toNatClampNeg x2)) q = va_cpy (J1 (45 + 5 + (Int32.toNatClampNeg x1))) (J1 (45 + 5 + (Int32.toNatClampNeg x2))) (Int32.toNatClampNeg x3) (Int32.toNatClampNeg x4) (Int32.toNatClampNeg x5) q) ∧ ∀ a, a ≠ 45 + 13 → a ≠ 45 + 5 + (Int32.toNatClampNeg x2) → J2 a = J1 a)) ∨ (((0 ≤ x1.toInt ∧ x1.toInt ≤ 7) ∧ 0 ≤ x2.toInt ∧ x2.toInt ≤ 7) ∧ ((I1 (45 + 1) (Int32.toNatClampNeg x1)).toInt = 1 ∧ (I1 (45 + 1) (Int32.toNatClampNeg x2)).toInt = 1) ∧ (I1 (45 + 2) (Int32.toNatClampNeg x1)).toInt = (I1 (45 + 2) (Int32.toNatClampNeg x2)).toInt ∧ ¬ (0 ≤ x3.toInt ∧ 0 ≤ x4.toInt ∧ 0 ≤ x5.toInt ∧ x5.toInt ≤ (I1 (45 + 3) (Int32.toNatClampNeg x1)).toInt - x3.toInt ∧ x5.toInt ≤ (I1 (45 + 3) (Int32.toNatClampNeg x2)).toInt - x4.toInt) ∧ v2.toInt = -2 ∧ J2 = J1)) : RJ I2 J2 := fun i hi hw k hk => by
  obtain ⟨_, _, _, a4, _, _, _⟩ := n2 i hi
  rw [a4] at hw
  have hj := h i hi hw k hk
  have m1 := tn_eq x1
  have m2 := tn_eq x2
  have m3 := tn_eq x3
  have m4 := tn_eq x4
  have m5 := tn_eq x5
  by_cases r : (0 ≤ x1.toInt ∧ x1.toInt < 8) ∧ (0 ≤ x2.toInt ∧ x2.toInt < 8)
  · have s1 := hrs (Int32.toNatClampNeg x1) (by omega)
    have s2 := hrs (Int32.toNatClampNeg x2) (by omega)
    obtain ⟨_, _, _, b4, b5, b6, _⟩ := n1 (Int32.toNatClampNeg x1) (by omega)
    obtain ⟨_, _, _, c4, c5, c6, _⟩ := n1 (Int32.toNatClampNeg x2) (by omega)
    have b4 := congrArg Int32.toInt b4
    have b5 := congrArg Int32.toInt b5
    have b6 := congrArg Int32.toInt b6
    have c4 := congrArg Int32.toInt c4
    have c5 := congrArg Int32.toInt c5
    have c6 := congrArg Int32.toInt c6
    have w1 := WM_rowSize hW (k := Int32.toNatClampNeg x1) (by omega)
    have w2 := WM_rowSize hW (k := Int32.toNatClampNeg x2) (by omega)
    unfold SRI at s1 s2
    rcases hp1 with p | p | p | p | p | p
    · exact absurd r p.1
    · have e : J1 = J := p.2.2.2
      have p := p.2.1
      rcases hp2 with q | q | q | q | q | q | q
      · omega
      · omega
      · rw [q.2.2.2, e]; exact hj
      · rw [q.2.2.2.2.2, e]; exact hj
      · rw [q.2.2.2.2, e]; exact hj
      · omega
      · rw [q.2.2.2.2.2, e]; exact hj
    · have e : J1 = J := p.2.2.2.2
      have p1 := p.2.1
      have p := p.2.2.1
      rcases hp2 with q | q | q | q | q | q | q
      · omega
      · omega
      · rw [q.2.2.2, e]; exact hj
      · rw [q.2.2.2.2.2, e]; exact hj
      · rw [q.2.2.2.2, e]; exact hj
      · omega
      · rw [q.2.2.2.2.2, e]; exact hj
    · have e : J1 = J := p.2.2.2.2.2.2
      have p1 := p.2.1
      have p2 := p.2.2.1
      have p3 := p.2.2.2.1
      have p := p.2.2.2.2.1
      rcases hp2 with q | q | q | q | q | q | q
      · omega
      · omega
      · rw [q.2.2.2, e]; exact hj
      · rw [q.2.2.2.2.2, e]; exact hj
      · rw [q.2.2.2.2, e]; exact hj
      · omega
      · rw [q.2.2.2.2.2, e]; exact hj
    · obtain ⟨_, p1, p2, p3, p4, p5, _, e⟩ := p
      rcases hp2 with q | q | q | q | q | q | q
      · omega
      · omega
      · omega
      · omega
      · omega
      · obtain ⟨_, q1, q2, q3, _, g1, g2⟩ := q
        have hx : ∀ a, a ≠ 29 + 2 * (Int32.toNatClampNeg x2) + 1 → J1 a = J a := fun a ha => by
          rw [e]
          exact if_neg ha
        have hb : J1 (29 + 2 * (Int32.toNatClampNeg x2) + 1) = va_cpy (J (29 + 2 * (Int32.toNatClampNeg x1) + 1)) (J (29 + 2 * (Int32.toNatClampNeg x2) + 1)) (Int32.toNatClampNeg x3) (Int32.toNatClampNeg x4) (Int32.toNatClampNeg x5) := by
          rw [e]
          exact if_pos rfl
        by_cases d : i = Int32.toNatClampNeg x2
        · subst d
          rw [g2 _ (by omega) (by omega), hb, g1 k hk, hx _ (by omega), hx _ (by omega)]
          unfold va_cpy
          by_cases c : Int32.toNatClampNeg x4 ≤ k ∧ k < Int32.toNatClampNeg x4 + Int32.toNatClampNeg x5
          · rw [if_pos c, if_pos c]
            exact h (Int32.toNatClampNeg x1) (by omega) (by omega) _ (by omega)
          · rw [if_neg c, if_neg c]
            exact hj
        · rw [g2 _ (by omega) (by omega), g2 _ (by omega) (by omega), hx _ (by omega), hx _ (by omega)]
          exact hj
      · omega
    · have e : J1 = J := p.2.2.2.2.2.2.2
      obtain ⟨_, p1, p2, p3, p4, p5, _, _⟩ := p
      rcases hp2 with q | q | q | q | q | q | q
      · omega
      · omega
      · rw [q.2.2.2, e]; exact hj
      · rw [q.2.2.2.2.2, e]; exact hj
      · rw [q.2.2.2.2, e]; exact hj
      · omega
      · rw [q.2.2.2.2.2, e]; exact hj
  · rcases hp1 with p | p | p | p | p | p
    · rcases hp2 with q | q | q | q | q | q | q
      · rw [q.2.2, p.2.2]; exact hj
      · omega
      · omega
      · omega
      · omega
      · omega
      · omega
    · exact absurd p.1 r
    · exact absurd p.1 r
    · exact absurd p.1 r
    · exact absurd p.1 r
    · exact absurd p.1 r
/-- what is kept is the same town on both sides -/
def RK (Z : jdL) (I : jdI) : Prop := ∀ u, Z.2.1 45 20 = some u → ∃ s : Sd, OKT s.1 ∧ TX I 5 s ∧ TM I u s
/-- the tape and the town are the same on both sides -/
def RT (Z : jdL) (I : jdI) : Prop := I (25 + 1) = I (45 + 16) ∧ (∃ s : Sd, OKT s.1 ∧ TX I 1 s ∧ TM I 45 s) ∧ RK Z I
def NT (Z : jdL) (I : jdI) (Z2 : jdL) (I2 : jdI) : Prop := (∀ a k, a = 25 + 1 ∨ a = 45 + 16 ∨ (a = 1 ∧ 3 ≤ k ∧ k ≤ 6) ∨ (2 ≤ a ∧ a ≤ 8) ∨ (a = 45 ∧ (k = 10 ∨ k = 14 ∨ k = 15 ∨ k = 19)) ∨ a = 45 + 18 ∨ a = 45 + 19 ∨ (45 + 21 ≤ a ∧ a ≤ 45 + 28) → I2 a k = I a k) ∧ Z2.2.1 45 20 = Z.2.1 45 20 ∧ ∀ u, Z.2.1 45 20 = some u → ∀ a k, u ≤ a → a ≤ u + 37 → I2 a k = I a k
theorem NT.rf {Z : jdL} {I : jdI} : NT Z I Z I := ⟨fun _ _ _ => rfl, rfl, fun _ _ _ _ _ _ => rfl⟩
theorem NT.tr {Z Z1 Z2 : jdL} {I I1 I2 : jdI} (h : NT Z I Z1 I1) (h2 : NT Z1 I1 Z2 I2) : NT Z I Z2 I2 := ⟨fun a k q => (h2.1 a k q).trans (h.1 a k q), h2.2.1.trans h.2.1, fun u hu a k q1 q2 => (h2.2.2 u (by rw [h.2.1]; exact hu) a k q1 q2).trans (h.2.2 u hu a k q1 q2)⟩
theorem IV_kept {Z : jdL} {I : jdI} {u : Nat} (h : IV Z I) (hu : Z.2.1 45 20 = some u) : 83 ≤ u ∧ u + 38 ≤ Z.2.2 := (h.2.2.2.2.2.2.2.1 u hu).2.2
theorem NT_fr {Z : jdL} {I I2 : jdI} {p : Nat → Nat → Prop} (h : IV Z I) (hF : Fr p I I2) (hp : ∀ a k, p a k → ¬ (a = 25 + 1 ∨ a = 45 + 16 ∨ (a = 1 ∧ 3 ≤ k ∧ k ≤ 6) ∨ (2 ≤ a ∧ a ≤ 8) ∨ (a = 45 ∧ (k = 10 ∨ k = 14 ∨ k = 15 ∨ k = 19)) ∨ a = 45 + 18 ∨ a = 45 + 19 ∨ (45 + 21 ≤ a ∧ a ≤ 45 + 28)) ∧ a ≤ 82) : NT Z I Z I2 := ⟨fun a k q => hF a k (fun w => (hp a k w).1 q), rfl, fun u hu a k h1 h2 => hF a k (fun w => by have := (hp a k w).2; have := IV_kept h hu; omega)⟩
theorem NT_all {Z Z2 : jdL} {I I2 : jdI} (h : IV Z I) (e : ∀ a k, a < 28 ∨ (45 ≤ a ∧ a < Z.2.2) → I2 a k = I a k) (hz : Z2.2.1 45 20 = Z.2.1 45 20) : NT Z I Z2 I2 := by
  have hb := h.2.2.2.2.2.1
  exact ⟨fun a k q => e a k (by omega), hz, fun u hu a k h1 h2 => e a k (by have := IV_kept h hu; omega)⟩
theorem NT_st {Z Z2 : jdL} {I I2 : jdI} {J J2 : jdJ} {y : Nat} (h : IV Z I) (hS : ST 45 21 y Z I J Z2 I2 J2) (hy : 20 ≤ y) : NT Z I Z2 I2 := by
  have hb := h.2.2.2.2.2.1
  exact ⟨fun a k q => hS.2.2.2.2.1 a k (by omega), hS.2.2.2.1 _ _ (by omega) (by omega), fun u hu a k h1 h2 => hS.2.2.2.2.2.2.1 rfl (by omega) u hu a k h1 h2⟩
theorem TM_eq {I I2 : jdI} {u : Nat} {s : Sd} (h : TM I u s) (hP : s.1.1 ≤ 8) (e : ∀ a k, u ≤ a → a ≤ u + 37 → I2 a k = I a k) : TM I2 u s := TM_fr (p := fun a _ => ¬ (u ≤ a ∧ a ≤ u + 37)) h hP (fun a k q => e a k (by omega) (by omega)) (by omega) (by omega) (by omega) (by omega) (by intro a k h1 h2 h3; omega)
theorem TX_eq {I I2 : jdI} {b : Nat} {s : Sd} (h : TX I b s) (e : ∀ a k, b ≤ a → a ≤ b + 3 → I2 a k = I a k) : TX I2 b s := TX_fr (p := fun a _ => ¬ (b ≤ a ∧ a ≤ b + 3)) h (fun a k q => e a k (by omega) (by omega)) (by intro a k h1 h2; omega)
theorem TX_k {I I2 : jdI} {b : Nat} {s : Sd} (h : TX I b s) (e : ∀ a k, (a = b ∧ 3 ≤ k ∧ k ≤ 6) ∨ (b + 1 ≤ a ∧ a ≤ b + 3) → I2 a k = I a k) : TX I2 b s := by
  obtain ⟨⟨w1, w2, w3, w4, w5⟩, w6⟩ := h
  exact ⟨⟨by rw [e b 3 (by omega)]; exact w1, fun i hi => by rw [e (b + 1) i (by omega), e (b + 2) i (by omega)]; exact w2 i hi, by rw [e b 4 (by omega)]; exact w3, by rw [e b 5 (by omega)]; exact w4, fun i j hi hj hne => by rw [e (b + 3) _ (by omega)]; exact w5 i j hi hj hne⟩, by rw [e b 6 (by omega)]; exact w6⟩
theorem TM_k {I I2 : jdI} {t : Nat} {s : Sd} (h : TM I t s) (hP : s.1.1 ≤ 8) (e : ∀ a k, (a = t ∧ (k = 10 ∨ k = 14 ∨ k = 15 ∨ k = 19)) ∨ a = t + 18 ∨ a = t + 19 ∨ (t + 21 ≤ a ∧ a ≤ t + 28) → I2 a k = I a k) : TM I2 t s := by
  obtain ⟨⟨w1, w2, w3, w4, w5⟩, w6⟩ := h
  exact ⟨⟨by rw [e t 10 (by omega)]; exact w1, fun i hi => by rw [e (t + 18) i (by omega), e (t + 19) i (by omega)]; exact w2 i hi, by rw [e t 14 (by omega)]; exact w3, by rw [e t 15 (by omega)]; exact w4, fun i j hi hj hne => by rw [e (t + 21 + i) _ (by omega)]; exact w5 i j hi hj hne⟩, by rw [e t 19 (by omega)]; exact w6⟩
theorem RK_eq {Z Z2 : jdL} {I I2 : jdI} (h : RK Z I) (hW : WX I) (hz : Z2.2.1 45 20 = Z.2.1 45 20) (e5 : ∀ a k, 5 ≤ a → a ≤ 8 → I2 a k = I a k) (eu : ∀ u, Z.2.1 45 20 = some u → ∀ a k, u ≤ a → a ≤ u + 37 → I2 a k = I a k) : RK Z2 I2 := fun u hu => by
  rw [hz] at hu
  obtain ⟨s, k, g1, g2⟩ := h u hu
  have hw := WX_f hW
  have l1 := g1.1.1
  exact ⟨s, k, TX_eq g1 e5, TM_eq g2 (show s.1.1 ≤ 8 by omega) (eu u hu)⟩
theorem RK_fr {Z : jdL} {I I2 : jdI} {p : Nat → Nat → Prop} (hv : IV Z I) (h : RK Z I) (hF : Fr p I I2) (hp : ∀ a k, p a k → ¬ (5 ≤ a ∧ a ≤ 8) ∧ a ≤ 82) : RK Z I2 := RK_eq h hv.2.2.1 rfl (fun a k h1 h2 => hF a k (fun w => by have := hp a k w; omega)) (fun u hu a k h1 h2 => hF a k (fun w => by have := hp a k w; have := IV_kept hv hu; omega))
theorem RT_keep {Z Z2 : jdL} {I I2 : jdI} (hv : IV Z I) (h : RT Z I) (n : NT Z I Z2 I2) : RT Z2 I2 := by
  obtain ⟨h0, ⟨s, hk, h1, h2⟩, h3⟩ := h
  obtain ⟨n1, n2, n3⟩ := n
  have a1 : I2 (25 + 1) = I (25 + 1) := funext (fun j => n1 _ _ (by omega))
  have a2 : I2 (45 + 16) = I (45 + 16) := funext (fun j => n1 _ _ (by omega))
  have hw := WX_f hv.2.2.1
  have l1 := h1.1.1
  exact ⟨by rw [a1, a2]; exact h0, ⟨s, hk, TX_k h1 (fun a k q => n1 a k (by omega)), TM_k h2 (show s.1.1 ≤ 8 by omega) (fun a k q => n1 a k (by omega))⟩, RK_eq h3 hv.2.2.1 n2 (fun a j q1 q2 => n1 a j (by omega)) n3⟩
theorem TP_fr {I I2 : jdI} {p : Nat → Nat → Prop} (h : I (25 + 1) = I (45 + 16)) (hF : Fr p I I2) (hp : ∀ a k, p a k → ¬ a = 25 + 1 ∧ ¬ a = 45 + 16) : I2 (25 + 1) = I2 (45 + 16) := by
  have a1 : I2 (25 + 1) = I (25 + 1) := funext (fun j => hF _ _ (fun w => (hp _ _ w).1 rfl))
  have a2 : I2 (45 + 16) = I (45 + 16) := funext (fun j => hF _ _ (fun w => (hp _ _ w).2 rfl))
  rw [a1, a2]
  exact h
theorem tn_k {T : Nat → Int32} {n : Int} {w : Tw} {q : Q3} {v1 v2 : Int32} {I1 I2 : jdI} (hk : OKT w) (h1 : XTn (rd T n 63 w q 1) w v1 I1 1) (h2 : MTn (rd T n 63 w q 1) w v2 I2 45) : v1 = v2 ∧ ∃ w2, OKT w2 ∧ RX I1 1 w2 ∧ RM I2 45 w2 := by
  cases e : rd T n 63 w q 1 with
  | inl p =>
    rw [e] at h1 h2
    rcases h1 with ⟨_, g, _⟩ | ⟨p1, g1, g2, g3⟩
    · cases g
    · rcases h2 with ⟨_, g, _⟩ | ⟨p2, f1, f2, f3⟩
      · cases g
      · cases g1
        cases f1
        exact ⟨g2.trans f2.symm, w, hk, g3, f3⟩
  | inr a =>
    have ho : OKT a.1 := rd_ok T n 63 w q 1 a.1 a.2 hk e
    rw [e] at h1 h2
    rcases h1 with ⟨x1, g1, g2⟩ | ⟨_, g, _⟩
    · rcases h2 with ⟨x2, f1, f2⟩ | ⟨_, g, _⟩
      · injection g1 with g1
        injection f1 with f1
        rw [g1] at f1
        injection f1 with f1 f4
        rw [← f1] at f2
        rw [g1] at ho
        exact ⟨Int32.toInt_inj.mp f4, x1, ho, g2, f2⟩
      · cases g
    · cases g
/-- coachmen's cells lie behind the two objects, their numbers are those that the model keeps -/
def RA (Z : jdL) (I : jdI) : Prop := ∀ i, i < 8 → ∀ w, Z.2.1 (29 + 2 * i) 3 = some w → 82 < w ∧ I w 0 = I (45 + 15) i
theorem RA_hi {Z : jdL} {I : jdI} (h : RA Z I) : zHi Z := fun i hi w hw => (h i hi w hw).1
def NA (Z : jdL) (I : jdI) (Z2 : jdL) (I2 : jdI) : Prop := ∀ i, i < 8 → Z2.2.1 (29 + 2 * i) 3 = Z.2.1 (29 + 2 * i) 3 ∧ I2 (45 + 15) i = I (45 + 15) i ∧ ∀ w, Z.2.1 (29 + 2 * i) 3 = some w → 82 < w → I2 w 0 = I w 0
theorem NA.rf {Z : jdL} {I : jdI} : NA Z I Z I := fun _ _ => ⟨rfl, rfl, fun _ _ _ => rfl⟩
theorem NA.tr {Z Z1 Z2 : jdL} {I I1 I2 : jdI} (h : NA Z I Z1 I1) (h2 : NA Z1 I1 Z2 I2) : NA Z I Z2 I2 := fun i hi => by
  obtain ⟨a1, a2, a3⟩ := h i hi
  obtain ⟨b1, b2, b3⟩ := h2 i hi
  exact ⟨b1.trans a1, b2.trans a2, fun w hw hl => (b3 w (a1.trans hw) hl).trans (a3 w hw hl)⟩
theorem NA_fr {Z : jdL} {I I2 : jdI} {p : Nat → Nat → Prop} (hF : Fr p I I2) (hp : ∀ a k, p a k → a ≤ 82 ∧ ¬ a = 45 + 15) : NA Z I Z I2 := fun i hi => ⟨rfl, hF _ _ (fun q => (hp _ _ q).2 rfl), fun w hw hl => hF _ _ (fun q => by have := (hp _ _ q).1; omega)⟩
theorem NA_st {Z Z2 : jdL} {I I2 : jdI} {J J2 : jdJ} {x y : Nat} (h : IV Z I) (hS : ST 45 x y Z I J Z2 I2 J2) : NA Z I Z2 I2 := fun i hi => by
  have hb := h.2.2.2.2.2.1
  refine ⟨hS.2.2.2.1 _ _ (by omega) (by omega), hS.2.2.2.2.1 _ _ (by omega), fun w hw hl => ?_⟩
  obtain ⟨ci, hci, hz⟩ := h.2.1 i hi w hw
  exact hS.2.2.2.2.2.2.2 w ci (h.2.2.2.2.2.2.1 _ _ hz) (by omega) hz (by omega) 0
theorem RA_keep {Z Z2 : jdL} {I I2 : jdI} (h : RA Z I) (n : NA Z I Z2 I2) : RA Z2 I2 := fun i hi w hw => by
  obtain ⟨a1, a2, a3⟩ := n i hi
  rw [a1] at hw
  have g := h i hi w hw
  exact ⟨g.1, by rw [a2, a3 w hw g.1]; exact g.2⟩
/-- what a method of X does to the coachman of the shelf x1 where ok holds -/
def XA (ok : Prop) (x1 : Int32) (v : Option Int32) (Z : jdL) (I : jdI) (Z2 : jdL) (I2 : jdI) : Prop := ∀ i, i < 8 → (¬ (ok ∧ i = Int32.toNatClampNeg x1) → Z2.2.1 (29 + 2 * i) 3 = Z.2.1 (29 + 2 * i) 3 ∧ ∀ w, Z.2.1 (29 + 2 * i) 3 = some w → 82 < w → I2 w 0 = I w 0) ∧ (ok → i = Int32.toNatClampNeg x1 → ∀ w, Z2.2.1 (29 + 2 * i) 3 = some w → 82 < w ∧ some (I2 w 0) = v)
theorem XA_no {ok : Prop} {x1 : Int32} {v : Option Int32} {Z : jdL} {I I2 : jdI} {p : Nat → Nat → Prop} (hF : Fr p I I2) (hp : ∀ a k, p a k → a = 28) (h : ¬ ok) : XA ok x1 v Z I Z I2 := fun i hi => ⟨fun _ => ⟨rfl, fun w hw hl => hF _ _ (fun q => by have := hp _ _ q; omega)⟩, fun q => absurd q h⟩
theorem RA_row {Z Z1 : jdL} {I I1 I2 : jdI} {x1 : Int32} {ok : Prop} (h : RA Z I) (hI : ∀ i, i < 8 → I1 (45 + 15) i = I (45 + 15) i) (hx : XA ok x1 none Z I Z1 I1) (hF : Fr (fun a k => ((a = 45 + 1 ∨ a = 45 + 2 ∨ a = 45 + 3) ∧ k = (Int32.toNatClampNeg x1)) ∨ a = 45 + 17) I1 I2) : RA Z1 I2 := fun i hi w hw => by
  obtain ⟨c1, c2⟩ := hx i hi
  by_cases c : ok ∧ i = Int32.toNatClampNeg x1
  · have := (c2 c.1 c.2 w hw).2
    cases this
  · obtain ⟨d1, d2⟩ := c1 c
    rw [d1] at hw
    have g := h i hi w hw
    have gl := g.1
    exact ⟨g.1, by rw [hF w 0 (by omega), hF (45 + 15) i (by omega), hI i hi, d2 w hw g.1]; exact g.2⟩
theorem RA_man {Z Z1 : jdL} {I I1 I2 : jdI} {x1 x3 : Int32} {ok : Prop} (h : RA Z I) (hI : ∀ i, i < 8 → I1 (45 + 15) i = I (45 + 15) i) (hx : XA ok x1 (some x3) Z I Z1 I1) (hF : Fr (fun a k => ((a = 45 + 1 ∨ a = 45 + 14 ∨ a = 45 + 15) ∧ k = (Int32.toNatClampNeg x1)) ∨ a = 45 + 17) I1 I2) (hp : (ok → I2 (45 + 15) (Int32.toNatClampNeg x1) = x3) ∧ (¬ ok → I2 (45 + 15) (Int32.toNatClampNeg x1) = I1 (45 + 15) (Int32.toNatClampNeg x1))) : RA Z1 I2 := fun i hi w hw => by
  obtain ⟨c1, c2⟩ := hx i hi
  by_cases c : ok ∧ i = Int32.toNatClampNeg x1
  · have g := c2 c.1 c.2 w hw
    have gl := g.1
    have e : I1 w 0 = x3 := by
      have := g.2
      injection this
    exact ⟨g.1, by rw [hF w 0 (by omega), e, c.2, hp.1 c.1]⟩
  · obtain ⟨d1, d2⟩ := c1 c
    rw [d1] at hw
    have g := h i hi w hw
    have gl := g.1
    have e : I2 (45 + 15) i = I1 (45 + 15) i := by
      by_cases d : i = Int32.toNatClampNeg x1
      · rw [d]
        exact hp.2 (fun q => c ⟨q, d⟩)
      · exact hF _ _ (by omega)
    exact ⟨g.1, by rw [hF w 0 (by omega), e, hI i hi, d2 w hw g.1]; exact g.2⟩
theorem mk_0 {Z : jdL} {i : Nat} (h : mk Z i = 0) : Z.2.1 (29 + 2 * i) 3 = none := by
  cases e : Z.2.1 (29 + 2 * i) 3 with
  | none => rfl
  | some w =>
    rw [mk_some e] at h
    have := ckI_r (Z.1 w)
    omega
theorem mk_1 {Z : jdL} {i : Nat} (h : 1 ≤ mk Z i) : ∃ w, Z.2.1 (29 + 2 * i) 3 = some w := by
  cases e : Z.2.1 (29 + 2 * i) 3 with
  | none =>
    rw [mk_none e] at h
    omega
  | some w => exact ⟨w, rfl⟩
/-- a coachman's shelf is the same on both sides -/
theorem MAN_eq {Z : jdL} {I I1 : jdI} {x : Int32} (hrs : RS Z I) (hra : RA Z I) (e1 : ∀ k, I1 (45 + 1) k = I (45 + 1) k) (e14 : ∀ k, I1 (45 + 14) k = I (45 + 14) k) (e15 : ∀ k, I1 (45 + 15) k = I (45 + 15) k) : cM I1 45 x = cX Z I x ∧ (cX Z I x = 0 → (I1 (45 + 14) (Int32.toNatClampNeg x)).toInt = mk Z (Int32.toNatClampNeg x) ∧ I1 (45 + 15) (Int32.toNatClampNeg x) = aX Z I x) := by
  have n1 := tn_eq x
  unfold cM cX
  by_cases c : 0 ≤ x.toInt ∧ x.toInt < 8
  · rw [if_pos c, if_pos c, e1, e14, e15]
    have s := hrs (Int32.toNatClampNeg x) (by omega)
    unfold SRI at s
    rcases s with s | s | s
    · rw [mk_0 s.2.2, if_neg (by omega), if_pos s.1, if_pos rfl, if_pos s.2.1]
      exact ⟨rfl, fun z => by omega⟩
    · rw [mk_0 s.2.2.2.2.2, if_pos s.1, if_pos rfl, if_neg (by omega)]
      exact ⟨rfl, fun z => by omega⟩
    · obtain ⟨w, hw⟩ := mk_1 (Z := Z) (i := (Int32.toNatClampNeg x)) (by omega)
      rw [if_neg (by omega), if_neg (by omega), if_neg (by rw [hw]; exact fun z => (by cases z)), aX_some hw]
      exact ⟨rfl, fun _ => ⟨s.2.2.1.symm, ((hra _ (by omega) w hw).2).symm⟩⟩
  · rw [if_neg c, if_neg c]
    exact ⟨rfl, fun z => by omega⟩
theorem TOLD_eq {Z : jdL} {I I1 : jdI} {J : jdJ} {x1 x2 : Int32} (hrs : RS Z I) (hrj : RJ I J) (e1 : ∀ k, I1 (45 + 1) k = I (45 + 1) k) (e3 : ∀ k, I1 (45 + 3) k = I (45 + 3) k) : tM I1 45 x1 x2 = tX Z I x1 x2 ∧ (tX Z I x1 x2 = 0 → ∀ j, j < 40 → J (45 + 5 + (Int32.toNatClampNeg x1)) j = J (29 + 2 * (Int32.toNatClampNeg x1) + 1) j) := by
  have n1 := tn_eq x1
  unfold tM tX
  by_cases c : (0 ≤ x1.toInt ∧ x1.toInt < 8) ∧ 0 ≤ x2.toInt ∧ x2.toInt ≤ 7
  · rw [if_pos c, if_pos c, e1, e3]
    have s := hrs (Int32.toNatClampNeg x1) (by omega)
    unfold SRI at s
    rcases s with s | s | s
    · rw [if_neg (by omega), if_pos s.1, if_pos s.2.1, if_pos s.2.2]
      exact ⟨rfl, fun z => by omega⟩
    · rw [if_neg (show ¬ (I (45 + 1) (Int32.toNatClampNeg x1)).toInt = 2 by omega), if_neg (show ¬ (I (45 + 1) (Int32.toNatClampNeg x1)).toInt = 0 by omega), if_neg (show ¬ (I (29 + 2 * (Int32.toNatClampNeg x1)) 1).toInt = -1 by omega), s.2.2.2.2.1]
      exact ⟨rfl, fun _ j hj => (hrj _ (by omega) s.1 j hj).symm⟩
    · rw [if_pos s.1, if_pos s.2.1, if_neg (by omega)]
      exact ⟨rfl, fun z => by omega⟩
  · rw [if_neg c, if_neg c]
    exact ⟨rfl, fun z => by omega⟩
theorem oDay_c {s : Sd} {c kd kd2 : Int} {a a2 : Int32} (h : c = 0 → kd = kd2 ∧ a = a2) : oDay s c kd a = oDay s c kd2 a2 := by
  unfold oDay
  by_cases d : c = 0
  · rw [if_pos d, if_pos d, (h d).1, (h d).2]
  · rw [if_neg d, if_neg d]
theorem oRides_c {s : Sd} {c : Int} {r r2 : Nat → Int64} {m : Nat} (h : c = 0 → ∀ j, j < m → r j = r2 j) : oRides s c r m = oRides s c r2 m := by
  unfold oRides
  by_cases d : c = 0
  · rw [if_pos d, if_pos d, wrg_c m 0 0 (fun j _ hj => h d j (by omega)), rowL_c m 0 (fun j _ hj => h d j (by omega))]
  · rw [if_neg d, if_neg d]
theorem lX6_takeRow_17 {G : jdG} {n rc rs : Nat} {Z : jdL} {I : jdI} {J0 : jdJ} {Q : jdQ} {t : Nat} {x1 x2 : Int32} (ht : zShelf Z t) (hQ : ∀ J2, (∀ q : Nat, q < 40 → J2 (t + 1) q = 0) → (∀ a, a ≠ t + 1 → J2 a = J0 a) → Q none Z I J2) : ∀ m : Nat, ∀ (J : jdJ) (x3 : Int32), 0 ≤ x3.toInt ∧ x3.toInt ≤ 40 → (∀ q : Nat, (q : Int) < x3.toInt → J (t + 1) q = 0) → (∀ a, a ≠ t + 1 → J a = J0 a) → 40 - x3.toInt < (m : Int) → Jd G mX6_takeRow (jdFm G Q) n rc rs 17 [(0, .ref (gb G + t)), (1, .int x1), (2, .int x2), (3, .int x3)] [] Z I J := by
  intro m
  induction m with
  | zero =>
    intro J x3 h1 j1 j2 h2
    omega
  | succ m ih =>
    intro J x3 h1 j1 j2 h2
    have q40 : (40 : Int32).toInt = 40 := rfl
    have q1 : (1 : Int32).toInt = 1 := rfl
    have e1 := i32_add x3 1 (by omega) (by omega)
    have hn := tn_eq x3
    refine rX6_takeRow_17 ht ⟨fun hc => ?_, fun hc => ?_⟩
    · have hc := Int32.le_iff_toInt_le.mp hc
      exact hQ J (fun q hq => j1 q (by omega)) j2
    · have hc := mt Int32.le_iff_toInt_le.mpr hc
      refine ⟨vp_of (by omega) (by omega), ih _ (x3 + 1) (by omega) (fun q hq => ?_) (fun a ha => (uJ_n _ _ _ ha).trans (j2 a ha)) (by omega)⟩
      rw [uJ_ap]
      split
      · rfl
      · rename_i hne
        exact j1 q (by have : ¬ q = Int32.toNatClampNeg x3 := fun e => hne ⟨rfl, e⟩; omega)
theorem qX6_takeRow {G : jdG} {n : Nat} {Z : jdL} {I : jdI} {J : jdJ} {Q : jdQ} {t : Nat} {x1 x2 : Int32} (ht : zShelf Z t) (hQ : ∀ J2, (∀ q : Nat, q < 40 → J2 (t + 1) q = 0) → (∀ a, a ≠ t + 1 → J2 a = J a) → Q none (uP Z t 3 none) (uI (uI I t 1 x1) t 2 x2) J2) : Cl G mX6_takeRow n 0 0 [.ref (gb G + t), .int x1, .int x2] Z I J Q := by
  have hz : zShelf (uP Z t 3 none) t := ⟨ht.1, by rw [uP_ap, if_neg (by omega)]; exact ht.2.1, ht.2.2⟩
  exact eX6_takeRow ht ⟨hz, lX6_takeRow_17 hz hQ 41 J 0 (by decide) (fun q hq => by have z : (0 : Int32).toInt = 0 := rfl; exfalso; omega) (fun _ _ => rfl) (by decide)⟩
theorem qX6_takeMan {G : jdG} {n : Nat} {Z : jdL} {I : jdI} {J : jdJ} {Q : jdQ} {t u1 : Nat} (ht : zShelf Z t) (hQ : Q none (uP Z t 3 (some u1)) (uI (uI I t 1 (-1)) t 2 0) J) : Cl G mX6_takeMan n 0 0 [.ref (gb G + t), .ref (gb G + u1)] Z I J Q :=
  eX6_takeMan ht ⟨⟨ht.1, by rw [uP_ap, if_neg (by omega)]; exact ht.2.1, ht.2.2⟩, hQ⟩
theorem pX12_coachman {G : jdG} {n : Nat} {Z : jdL} {J : jdJ} {K : Int32 → jdI → jdJ → Prop} {I : jdI} {t : Nat} {x1 x2 x3 : Int32} (ht : zModel Z t) (hW : WM 7 t I) (hK : ∀ (v : Int32) (I2 : jdI), WM 7 t I2 → Fr (fun a k => ((a = t + 1 ∨ a = t + 14 ∨ a = t + 15) ∧ k = (Int32.toNatClampNeg x1)) ∨ a = t + 17) I I2 → ((v.toInt = 1 ∧ ((0 ≤ x1.toInt ∧ x1.toInt ≤ 7) ∧ (1 ≤ x2.toInt ∧ x2.toInt ≤ 5) ∧ 0 ≤ x3.toInt ∧ x3.toInt ≤ 9) ∧ (I2 (t + 1) (Int32.toNatClampNeg x1)).toInt = 2 ∧ (I2 (t + 14) (Int32.toNatClampNeg x1)).toInt = x2.toInt) ∨ (v.toInt = -2 ∧ ¬ ((0 ≤ x1.toInt ∧ x1.toInt ≤ 7) ∧ (1 ≤ x2.toInt ∧ x2.toInt ≤ 5) ∧ 0 ≤ x3.toInt ∧ x3.toInt ≤ 9) ∧ (I2 (t + 1) (Int32.toNatClampNeg x1)).toInt = (I (t + 1) (Int32.toNatClampNeg x1)).toInt ∧ (I2 (t + 14) (Int32.toNatClampNeg x1)).toInt = (I (t + 14) (Int32.toNatClampNeg x1)).toInt)) → ((((0 ≤ x1.toInt ∧ x1.toInt ≤ 7) ∧ (1 ≤ x2.toInt ∧ x2.toInt ≤ 5) ∧ 0 ≤ x3.toInt ∧ x3.toInt ≤ 9)) → I2 (t + 15) (Int32.toNatClampNeg x1) = x3) ∧ (¬ (((0 ≤ x1.toInt ∧ x1.toInt ≤ 7) ∧ (1 ≤ x2.toInt ∧ x2.toInt ≤ 5) ∧ 0 ≤ x3.toInt ∧ x3.toInt ≤ 9)) → I2 (t + 15) (Int32.toNatClampNeg x1) = I (t + 15) (Int32.toNatClampNeg x1)) → K v I2 J) : Cl G mX12_coachman (n + 1) 0 0 [.ref (gb G + t), .int x1, .int x2, .int x3] Z I J (qi Z K) := by
  have e1 : (Int32.toInt64 x1).toInt = x1.toInt := Int32.toInt_toInt64 _
  have e2 : (Int32.toInt64 x2).toInt = x2.toInt := Int32.toInt_toInt64 _
  have e3 : (Int32.toInt64 x3).toInt = x3.toInt := Int32.toInt_toInt64 _
  have z0 : (0 : Int64).toInt = 0 := rfl
  have z1 : (1 : Int64).toInt = 1 := rfl
  have z5 : (5 : Int64).toInt = 5 := rfl
  have z7 : (7 : Int64).toInt = 7 := rfl
  have z9 : (9 : Int64).toInt = 9 := rfl
  have q2 : (2 : Int32).toInt = 2 := rfl
  have hw := WM_f hW
  have no : ¬ (((0 ≤ x1.toInt ∧ x1.toInt ≤ 7) ∧ (1 ≤ x2.toInt ∧ x2.toInt ≤ 5) ∧ 0 ≤ x3.toInt ∧ x3.toInt ≤ 9)) → Cl G mX12_refuse n 0 0 [.ref (gb G + t), .int (-2)] Z I J (qi Z K) := fun hn => sfX12_refuse ht (by decide) hW (by decide) (fun v I3 hW3 hF3 hp3 => hK v I3 hW3 (Fr.tr Fr.rf hF3 (by intro a k h; omega)) (Or.inr ⟨hp3, hn, by rw [hF3 (t + 1) _ (by omega)], by rw [hF3 (t + 14) _ (by omega)]⟩) ⟨fun q => absurd q hn, fun _ => hF3 (t + 15) _ (by omega)⟩)
  refine eX12_coachman ht ?_
  refine sfX12_in trivial (fun v2 p2 => ⟨fun c2 => ?_, fun c2 => ?_⟩)
  · have c2 := i0 c2
    exact no (by omega)
  · have c2 := i1 c2
    refine sfX12_in trivial (fun v6 p6 => ⟨fun c6 => ?_, fun c6 => ?_⟩)
    · have c6 := i0 c6
      exact no (by omega)
    · have c6 := i1 c6
      refine sfX12_in trivial (fun v10 p10 => ⟨fun c10 => ?_, fun c10 => ?_⟩)
      · have c10 := i1 c10
        refine ⟨vp_of (by omega) (by omega), vp_of (by omega) (by omega), vp_of (by omega) (by omega), ?_⟩
        have w1 : WM 7 t (uI I (t + 1) (Int32.toNatClampNeg x1) 2) := WM_uI hW (by first | exact okMo (by decide) (by decide) (by decide) (by decide) (by decide) | exact okMf (by decide) (by decide) (by decide) (by decide) (by decide) (by decide) (by decide) (by decide) | exact okM30 (by omega) | exact okM42 (by omega) | exact okM33 (by omega) | exact okM10 (by omega) | exact okM8 (by omega) | exact okM22 (by omega) | exact okM24 (by omega) | exact okM14 (by omega) | exact okMa31 (by omega) | exact okMa35 (by omega) | exact okMa36 (by omega) | exact okMa3 (by omega) | exact okMr (by omega) | (unfold okM; refine ⟨?_, ?_, ?_, ?_, ?_, ?_, ?_, ?_, ?_, ?_, ?_, ?_⟩ <;> intro h <;> omega))
        have w2 : WM 7 t (uI (uI I (t + 1) (Int32.toNatClampNeg x1) 2) (t + 14) (Int32.toNatClampNeg x1) x2) := WM_uI w1 (by first | exact okMo (by decide) (by decide) (by decide) (by decide) (by decide) | exact okMf (by decide) (by decide) (by decide) (by decide) (by decide) (by decide) (by decide) (by decide) | exact okM30 (by omega) | exact okM42 (by omega) | exact okM33 (by omega) | exact okM10 (by omega) | exact okM8 (by omega) | exact okM22 (by omega) | exact okM24 (by omega) | exact okM14 (by omega) | exact okMa31 (by omega) | exact okMa35 (by omega) | exact okMa36 (by omega) | exact okMa3 (by omega) | exact okMr (by omega) | (unfold okM; refine ⟨?_, ?_, ?_, ?_, ?_, ?_, ?_, ?_, ?_, ?_, ?_, ?_⟩ <;> intro h <;> omega))
        refine hK 1 _ (WM_uI w2 (by first | exact okMo (by decide) (by decide) (by decide) (by decide) (by decide) | exact okMf (by decide) (by decide) (by decide) (by decide) (by decide) (by decide) (by decide) (by decide) | exact okM30 (by omega) | exact okM42 (by omega) | exact okM33 (by omega) | exact okM10 (by omega) | exact okM8 (by omega) | exact okM22 (by omega) | exact okM24 (by omega) | exact okM14 (by omega) | exact okMa31 (by omega) | exact okMa35 (by omega) | exact okMa36 (by omega) | exact okMa3 (by omega) | exact okMr (by omega) | (unfold okM; refine ⟨?_, ?_, ?_, ?_, ?_, ?_, ?_, ?_, ?_, ?_, ?_, ?_⟩ <;> intro h <;> omega))) (Fr_uI (Fr_uI (Fr_uI Fr.rf (by omega)) (by omega)) (by omega)) (Or.inl ⟨rfl, by omega, ?_, ?_⟩) ⟨fun _ => by rw [uI_ap, if_pos ⟨rfl, rfl⟩], fun q => absurd (by omega) q⟩
        · rw [uI_ap, if_neg (by omega), uI_ap, if_neg (by omega), uI_ap, if_pos ⟨rfl, rfl⟩]
          rfl
        · rw [uI_ap, if_neg (by omega), uI_ap, if_pos ⟨rfl, rfl⟩]
      · have c10 := i0 c10
        exact no (by omega)
theorem qX11_newCoachman {G : jdG} {n : Nat} {Z : jdL} {I : jdI} {J : jdJ} {Q : jdQ} {x0 x1 : Int32} (h : IV Z I) (hQ : ∀ (w : Nat) (Z2 : jdL) (I2 : jdI), IV Z2 I2 → zMan Z2 w → NX Z I Z2 I2 → ((∀ a k, a < Z.2.2 → I2 a k = I a k) ∧ (∀ i, i < 8 → mk Z2 i = mk Z i) ∧ (1 ≤ x0.toInt → x0.toInt ≤ 5 → ckI (Z2.1 w) = x0.toInt) ∧ 82 < w ∧ I2 w 0 = x1 ∧ ∀ i, i < 8 → Z2.2.1 (29 + 2 * i) 3 = Z.2.1 (29 + 2 * i) 3) → Q (some (.ref (gb G + w))) Z2 I2 J) : Cl G mX11_newCoachman (n + 4) 1 1 [.int x0, .int x1] Z I J Q := by
  have hb := h.2.2.2.2.2.1
  refine eX11_newCoachman ⟨fun hc => ?_, fun hc => ?_, fun hc => ?_, fun hc => ?_, fun hc => ?_⟩
  · refine ⟨0, 0, Nat.le_refl _, Nat.le_refl _, 0, 0, 0, 0, Nat.le_refl _, Nat.le_refl _, ?_⟩
    refine v_X0_init_0 (by rw [nZ_ap, if_pos rfl]) ⟨rfl, hQ _ _ _ (IV_nZ (IV_hi h (p := fun a _ => a = Z.2.2) (Fr_uI (Fr_zI Fr.rf (fun _ => rfl)) rfl) (by intro a k h; omega))) ⟨0, by decide, by rw [nZ_ap, if_pos rfl]⟩ (NX.tr (NX_fr (p := fun a _ => a = Z.2.2) (Fr_uI (Fr_zI Fr.rf (fun _ => rfl)) rfl) (by omega) (by omega) (by omega)) (NX_nZ (IV_hi h (p := fun a _ => a = Z.2.2) (Fr_uI (Fr_zI Fr.rf (fun _ => rfl)) rfl) (by intro a k h; omega)))) ⟨fun a k ha => by rw [uI_ap, if_neg (by omega), zI_ap, if_neg (by omega)], fun i hi => mk_nZ h hi, fun q1 q2 => by rw [nZ_ap, if_pos rfl]; show (5 : Int) = _; omega, by omega, by rw [uI_ap, if_pos ⟨rfl, rfl⟩], fun i hi => by rw [nZ_ap2, if_neg (by omega)]⟩⟩
  · refine ⟨0, 0, Nat.le_refl _, Nat.le_refl _, 0, 0, 0, 0, Nat.le_refl _, Nat.le_refl _, ?_⟩
    refine v_X4_init_3 (by rw [nZ_ap, if_pos rfl]) ⟨rfl, hQ _ _ _ (IV_nZ (IV_hi h (p := fun a _ => a = Z.2.2) (Fr_uI (Fr_zI Fr.rf (fun _ => rfl)) rfl) (by intro a k h; omega))) ⟨3, by decide, by rw [nZ_ap, if_pos rfl]⟩ (NX.tr (NX_fr (p := fun a _ => a = Z.2.2) (Fr_uI (Fr_zI Fr.rf (fun _ => rfl)) rfl) (by omega) (by omega) (by omega)) (NX_nZ (IV_hi h (p := fun a _ => a = Z.2.2) (Fr_uI (Fr_zI Fr.rf (fun _ => rfl)) rfl) (by intro a k h; omega)))) ⟨fun a k ha => by rw [uI_ap, if_neg (by omega), zI_ap, if_neg (by omega)], fun i hi => mk_nZ h hi, fun q1 q2 => by rw [nZ_ap, if_pos rfl]; show (1 : Int) = _; omega, by omega, by rw [uI_ap, if_pos ⟨rfl, rfl⟩], fun i hi => by rw [nZ_ap2, if_neg (by omega)]⟩⟩
  · refine ⟨0, 0, Nat.le_refl _, Nat.le_refl _, 0, 0, 0, 0, Nat.le_refl _, Nat.le_refl _, ?_⟩
    refine v_X1_init_1 (by rw [nZ_ap, if_pos rfl]) ⟨rfl, hQ _ _ _ (IV_nZ (IV_hi h (p := fun a _ => a = Z.2.2) (Fr_uI (Fr_zI Fr.rf (fun _ => rfl)) rfl) (by intro a k h; omega))) ⟨1, by decide, by rw [nZ_ap, if_pos rfl]⟩ (NX.tr (NX_fr (p := fun a _ => a = Z.2.2) (Fr_uI (Fr_zI Fr.rf (fun _ => rfl)) rfl) (by omega) (by omega) (by omega)) (NX_nZ (IV_hi h (p := fun a _ => a = Z.2.2) (Fr_uI (Fr_zI Fr.rf (fun _ => rfl)) rfl) (by intro a k h; omega)))) ⟨fun a k ha => by rw [uI_ap, if_neg (by omega), zI_ap, if_neg (by omega)], fun i hi => mk_nZ h hi, fun q1 q2 => by rw [nZ_ap, if_pos rfl]; show (2 : Int) = _; omega, by omega, by rw [uI_ap, if_pos ⟨rfl, rfl⟩], fun i hi => by rw [nZ_ap2, if_neg (by omega)]⟩⟩
  · refine ⟨0, 0, Nat.le_refl _, Nat.le_refl _, 0, 0, 0, 0, Nat.le_refl _, Nat.le_refl _, ?_⟩
    refine v_X10_init_9 (by rw [nZ_ap, if_pos rfl]) ⟨rfl, hQ _ _ _ (IV_nZ (IV_hi h (p := fun a _ => a = Z.2.2) (Fr_uI (Fr_zI Fr.rf (fun _ => rfl)) rfl) (by intro a k h; omega))) ⟨9, by decide, by rw [nZ_ap, if_pos rfl]⟩ (NX.tr (NX_fr (p := fun a _ => a = Z.2.2) (Fr_uI (Fr_zI Fr.rf (fun _ => rfl)) rfl) (by omega) (by omega) (by omega)) (NX_nZ (IV_hi h (p := fun a _ => a = Z.2.2) (Fr_uI (Fr_zI Fr.rf (fun _ => rfl)) rfl) (by intro a k h; omega)))) ⟨fun a k ha => by rw [uI_ap, if_neg (by omega), zI_ap, if_neg (by omega)], fun i hi => mk_nZ h hi, fun q1 q2 => by rw [nZ_ap, if_pos rfl]; show (3 : Int) = _; omega, by omega, by rw [uI_ap, if_pos ⟨rfl, rfl⟩], fun i hi => by rw [nZ_ap2, if_neg (by omega)]⟩⟩
  · refine ⟨0, 0, Nat.le_refl _, Nat.le_refl _, 0, 0, 0, 0, Nat.le_refl _, Nat.le_refl _, ?_⟩
    refine v_X7_init_6 (by rw [nZ_ap, if_pos rfl]) ⟨rfl, hQ _ _ _ (IV_nZ (IV_hi h (p := fun a _ => a = Z.2.2) (Fr_uI (Fr_zI Fr.rf (fun _ => rfl)) rfl) (by intro a k h; omega))) ⟨6, by decide, by rw [nZ_ap, if_pos rfl]⟩ (NX.tr (NX_fr (p := fun a _ => a = Z.2.2) (Fr_uI (Fr_zI Fr.rf (fun _ => rfl)) rfl) (by omega) (by omega) (by omega)) (NX_nZ (IV_hi h (p := fun a _ => a = Z.2.2) (Fr_uI (Fr_zI Fr.rf (fun _ => rfl)) rfl) (by intro a k h; omega)))) ⟨fun a k ha => by rw [uI_ap, if_neg (by omega), zI_ap, if_neg (by omega)], fun i hi => mk_nZ h hi, fun q1 q2 => by rw [nZ_ap, if_pos rfl]; show (4 : Int) = _; omega, by omega, by rw [uI_ap, if_pos ⟨rfl, rfl⟩], fun i hi => by rw [nZ_ap2, if_neg (by omega)]⟩⟩
theorem qX11_row {G : jdG} {n : Nat} {Z : jdL} {I : jdI} {J : jdJ} {Q : jdQ} {x1 x2 x3 : Int32} (h : IV Z I) (hQ : ∀ (v : Int32) (Z2 : jdL) (I2 : jdI) (J2 : jdJ), IV Z2 I2 → ((v.toInt = 1 ∧ ((0 ≤ x1.toInt ∧ x1.toInt ≤ 7) ∧ (0 ≤ x2.toInt ∧ x2.toInt ≤ 4) ∧ 0 ≤ x3.toInt ∧ x3.toInt ≤ 40)) ∨ (v.toInt = -2 ∧ ¬ ((0 ≤ x1.toInt ∧ x1.toInt ≤ 7) ∧ (0 ≤ x2.toInt ∧ x2.toInt ≤ 4) ∧ 0 ≤ x3.toInt ∧ x3.toInt ≤ 40))) → NX Z I Z2 I2 → XS (((0 ≤ x1.toInt ∧ x1.toInt ≤ 7) ∧ (0 ≤ x2.toInt ∧ x2.toInt ≤ 4) ∧ 0 ≤ x3.toInt ∧ x3.toInt ≤ 40)) x1 x2.toInt x3.toInt 0 Z I Z2 I2 → XA (((0 ≤ x1.toInt ∧ x1.toInt ≤ 7) ∧ (0 ≤ x2.toInt ∧ x2.toInt ≤ 4) ∧ 0 ≤ x3.toInt ∧ x3.toInt ≤ 40)) x1 none Z I Z2 I2 → (((((0 ≤ x1.toInt ∧ x1.toInt ≤ 7) ∧ (0 ≤ x2.toInt ∧ x2.toInt ≤ 4) ∧ 0 ≤ x3.toInt ∧ x3.toInt ≤ 40)) → (∀ q : Nat, q < 40 → J2 (29 + 2 * (Int32.toNatClampNeg x1) + 1) q = 0) ∧ ∀ a, a ≠ 29 + 2 * (Int32.toNatClampNeg x1) + 1 → J2 a = J a) ∧ (¬ (((0 ≤ x1.toInt ∧ x1.toInt ≤ 7) ∧ (0 ≤ x2.toInt ∧ x2.toInt ≤ 4) ∧ 0 ≤ x3.toInt ∧ x3.toInt ≤ 40)) → J2 = J)) → NT Z I Z2 I2 → Q (some (.int v)) Z2 I2 J2) : Cl G mX11_row (n + 1) 0 0 [.ref (gb G + 0), .int x1, .int x2, .int x3] Z I J Q := by
  have q0 : (0 : Int32).toInt = 0 := rfl
  have q1 : (1 : Int32).toInt = 1 := rfl
  have q2 : (-2 : Int32).toInt = -2 := rfl
  have q5 : (5 : Int32).toInt = 5 := rfl
  have q6 : (6 : Int32).toInt = 6 := rfl
  have q9 : (9 : Int32).toInt = 9 := rfl
  have q40 : (40 : Int32).toInt = 40 := rfl
  refine eX11_row h.1 ?_
  refine sfX11_isShelf h.2.2.1 (fun v2 hp => ⟨fun hc => ?_, fun hc => ?_⟩)
  · have hc := i0 hc
    refine sfX11_refuse h.1 h.2.2.1 (fun v4 I3 hW3 hF3 hp3 => ?_)
    exact hQ _ _ _ _ (IV_x h hW3 hF3 (by intro a k h; omega)) (by rw [hp3]; omega) (NX_fr hF3 (by omega) (by omega) (by omega)) (XS_no hF3 (fun a k q => q) (by omega)) (XA_no hF3 (fun a k q => q) (by omega)) ⟨fun q => absurd q (by omega), fun _ => rfl⟩ (NT_fr h hF3 (by intro a k h; omega))
  · have hc := i1 hc
    refine ⟨fun hc2 => ?_, fun hc2 => ⟨fun hc3 => ?_, fun hc3 => ⟨fun hc4 => ?_, fun hc4 => ⟨fun hc5 => ?_, fun hc5 => ?_⟩⟩⟩⟩
    · have hc2 := Int32.lt_iff_toInt_lt.mp hc2
      refine sfX11_refuse h.1 h.2.2.1 (fun v4 I3 hW3 hF3 hp3 => ?_)
      exact hQ _ _ _ _ (IV_x h hW3 hF3 (by intro a k h; omega)) (by rw [hp3]; omega) (NX_fr hF3 (by omega) (by omega) (by omega)) (XS_no hF3 (fun a k q => q) (by omega)) (XA_no hF3 (fun a k q => q) (by omega)) ⟨fun q => absurd q (by omega), fun _ => rfl⟩ (NT_fr h hF3 (by intro a k h; omega))
    · have hc3 := Int32.le_iff_toInt_le.mp hc3
      refine sfX11_refuse h.1 h.2.2.1 (fun v4 I3 hW3 hF3 hp3 => ?_)
      exact hQ _ _ _ _ (IV_x h hW3 hF3 (by intro a k h; omega)) (by rw [hp3]; omega) (NX_fr hF3 (by omega) (by omega) (by omega)) (XS_no hF3 (fun a k q => q) (by omega)) (XA_no hF3 (fun a k q => q) (by omega)) ⟨fun q => absurd q (by omega), fun _ => rfl⟩ (NT_fr h hF3 (by intro a k h; omega))
    · have hc4 := Int32.lt_iff_toInt_lt.mp hc4
      refine sfX11_refuse h.1 h.2.2.1 (fun v4 I3 hW3 hF3 hp3 => ?_)
      exact hQ _ _ _ _ (IV_x h hW3 hF3 (by intro a k h; omega)) (by rw [hp3]; omega) (NX_fr hF3 (by omega) (by omega) (by omega)) (XS_no hF3 (fun a k q => q) (by omega)) (XA_no hF3 (fun a k q => q) (by omega)) ⟨fun q => absurd q (by omega), fun _ => rfl⟩ (NT_fr h hF3 (by intro a k h; omega))
    · have hc2 := mt Int32.lt_iff_toInt_lt.mpr hc2
      have hc3 := mt Int32.le_iff_toInt_le.mpr hc3
      have hc4 := mt Int32.lt_iff_toInt_lt.mpr hc4
      have hc5 := Int32.le_iff_toInt_le.mp hc5
      refine ⟨vp_of (by omega) (by omega), ?_⟩
      refine ⟨0, 0, 0, 0, Nat.zero_le _, Nat.zero_le _, ?_⟩
      have hn := tn_eq x1
      have hz := zX_shelf h.1 (i := Int32.toNatClampNeg x1) (by omega)
      have w1 : WX (uI I (29 + 2 * (Int32.toNatClampNeg x1)) 1 x2) := WX_uI h.2.2.1 (by first | exact okXo (by decide) | (unfold okX; refine ⟨?_, ?_, ?_, ?_, ?_, ?_, ?_, ?_, ?_, ?_⟩ <;> intro h <;> omega))
      have w2 : WX (uI (uI I (29 + 2 * (Int32.toNatClampNeg x1)) 1 x2) (29 + 2 * (Int32.toNatClampNeg x1)) 2 x3) := WX_uI w1 (by first | exact okXo (by decide) | (unfold okX; refine ⟨?_, ?_, ?_, ?_, ?_, ?_, ?_, ?_, ?_, ?_⟩ <;> intro h <;> omega))
      refine qX6_takeRow hz (fun J2 hj1 hj2 => ?_)
      have h2 := IV_uP (IV_x h w2 (p := fun a _ => a < 45) (Fr_uI (Fr_uI Fr.rf (by omega)) (by omega)) (fun a k h => h)) (i := Int32.toNatClampNeg x1) (v := none) (by omega) (fun w e => by cases e)
      have hxs : XS (((0 ≤ x1.toInt ∧ x1.toInt ≤ 7) ∧ (0 ≤ x2.toInt ∧ x2.toInt ≤ 4) ∧ 0 ≤ x3.toInt ∧ x3.toInt ≤ 40)) x1 x2.toInt x3.toInt 0 Z I (uP Z (29 + 2 * (Int32.toNatClampNeg x1)) 3 none) (uI (uI I (29 + 2 * (Int32.toNatClampNeg x1)) 1 x2) (29 + 2 * (Int32.toNatClampNeg x1)) 2 x3) := by
        refine ⟨fun a k ha _ => by rw [uI_ap, if_neg (by omega), uI_ap, if_neg (by omega)], fun i hi => ⟨fun q => ?_, fun q1 q2 => ?_⟩⟩
        · have hne : i ≠ Int32.toNatClampNeg x1 := fun e => q ⟨by omega, e⟩
          exact ⟨by rw [uI_ap, if_neg (by omega), uI_ap, if_neg (by omega)], by rw [uI_ap, if_neg (by omega), uI_ap, if_neg (by omega)], mk_uP_ne hne⟩
        · rw [q2]
          exact ⟨by rw [uI_ap, if_neg (by omega), uI_ap, if_pos ⟨rfl, rfl⟩], by rw [uI_ap, if_pos ⟨rfl, rfl⟩], mk_uP_none⟩
      have hxa : XA (((0 ≤ x1.toInt ∧ x1.toInt ≤ 7) ∧ (0 ≤ x2.toInt ∧ x2.toInt ≤ 4) ∧ 0 ≤ x3.toInt ∧ x3.toInt ≤ 40)) x1 none Z I (uP Z (29 + 2 * (Int32.toNatClampNeg x1)) 3 none) (uI (uI I (29 + 2 * (Int32.toNatClampNeg x1)) 1 x2) (29 + 2 * (Int32.toNatClampNeg x1)) 2 x3) := fun i hi => by
        refine ⟨fun q => ?_, fun q1 q2 w hw => ?_⟩
        · have hne : i ≠ Int32.toNatClampNeg x1 := fun e => q ⟨by omega, e⟩
          exact ⟨by rw [uP_ap, if_neg (by omega)], fun w hw hl => by rw [uI_ap, if_neg (by omega), uI_ap, if_neg (by omega)]⟩
        · rw [q2, uP_ap, if_pos ⟨rfl, rfl⟩] at hw
          cases hw
      exact ⟨rfl, h2.1, hQ _ _ _ _ h2 (by omega) (NX.tr (NX_fr (p := fun a _ => 29 ≤ a ∧ a < 45) (Fr_uI (Fr_uI Fr.rf (by omega)) (by omega)) (by omega) (by omega) (by omega)) (NX_uP (by omega))) hxs hxa ⟨fun _ => ⟨hj1, hj2⟩, fun q => absurd (by omega) q⟩ (NT_all h (fun a k ha => by rw [uI_ap, if_neg (by omega), uI_ap, if_neg (by omega)]) (by rw [uP_ap, if_neg (by omega)]))⟩
    · have hc5 := mt Int32.le_iff_toInt_le.mpr hc5
      refine sfX11_refuse h.1 h.2.2.1 (fun v4 I3 hW3 hF3 hp3 => ?_)
      exact hQ _ _ _ _ (IV_x h hW3 hF3 (by intro a k h; omega)) (by rw [hp3]; omega) (NX_fr hF3 (by omega) (by omega) (by omega)) (XS_no hF3 (fun a k q => q) (by omega)) (XA_no hF3 (fun a k q => q) (by omega)) ⟨fun q => absurd q (by omega), fun _ => rfl⟩ (NT_fr h hF3 (by intro a k h; omega))
theorem qX11_coachman {G : jdG} {n : Nat} {Z : jdL} {I : jdI} {J : jdJ} {Q : jdQ} {x1 x2 x3 : Int32} (h : IV Z I) (hQ : ∀ (v : Int32) (Z2 : jdL) (I2 : jdI) (J2 : jdJ), IV Z2 I2 → ((v.toInt = 1 ∧ ((0 ≤ x1.toInt ∧ x1.toInt ≤ 7) ∧ (1 ≤ x2.toInt ∧ x2.toInt ≤ 5) ∧ 0 ≤ x3.toInt ∧ x3.toInt ≤ 9)) ∨ (v.toInt = -2 ∧ ¬ ((0 ≤ x1.toInt ∧ x1.toInt ≤ 7) ∧ (1 ≤ x2.toInt ∧ x2.toInt ≤ 5) ∧ 0 ≤ x3.toInt ∧ x3.toInt ≤ 9))) → NX Z I Z2 I2 → XS (((0 ≤ x1.toInt ∧ x1.toInt ≤ 7) ∧ (1 ≤ x2.toInt ∧ x2.toInt ≤ 5) ∧ 0 ≤ x3.toInt ∧ x3.toInt ≤ 9)) x1 (-1) 0 x2.toInt Z I Z2 I2 → XA (((0 ≤ x1.toInt ∧ x1.toInt ≤ 7) ∧ (1 ≤ x2.toInt ∧ x2.toInt ≤ 5) ∧ 0 ≤ x3.toInt ∧ x3.toInt ≤ 9)) x1 (some x3) Z I Z2 I2 → J2 = J → NT Z I Z2 I2 → Q (some (.int v)) Z2 I2 J2) : Cl G mX11_coachman (n + 5) 1 1 [.ref (gb G + 0), .int x1, .int x2, .int x3] Z I J Q := by
  have q0 : (0 : Int32).toInt = 0 := rfl
  have q1 : (1 : Int32).toInt = 1 := rfl
  have q2 : (-2 : Int32).toInt = -2 := rfl
  have q5 : (5 : Int32).toInt = 5 := rfl
  have q6 : (6 : Int32).toInt = 6 := rfl
  have q9 : (9 : Int32).toInt = 9 := rfl
  have q40 : (40 : Int32).toInt = 40 := rfl
  refine eX11_coachman h.1 ?_
  refine sfX11_isShelf h.2.2.1 (fun v2 hp => ⟨fun hc => ?_, fun hc => ?_⟩)
  · have hc := i0 hc
    refine sfX11_refuse h.1 h.2.2.1 (fun v4 I3 hW3 hF3 hp3 => ?_)
    exact hQ _ _ _ _ (IV_x h hW3 hF3 (by intro a k h; omega)) (by rw [hp3]; omega) (NX_fr hF3 (by omega) (by omega) (by omega)) (XS_no hF3 (fun a k q => q) (by omega)) (XA_no hF3 (fun a k q => q) (by omega)) rfl (NT_fr h hF3 (by intro a k h; omega))
  · have hc := i1 hc
    refine ⟨fun hc2 => ?_, fun hc2 => ⟨fun hc3 => ?_, fun hc3 => ⟨fun hc4 => ?_, fun hc4 => ⟨fun hc5 => ?_, fun hc5 => ?_⟩⟩⟩⟩
    · have hc2 := Int32.lt_iff_toInt_lt.mp hc2
      refine sfX11_refuse h.1 h.2.2.1 (fun v4 I3 hW3 hF3 hp3 => ?_)
      exact hQ _ _ _ _ (IV_x h hW3 hF3 (by intro a k h; omega)) (by rw [hp3]; omega) (NX_fr hF3 (by omega) (by omega) (by omega)) (XS_no hF3 (fun a k q => q) (by omega)) (XA_no hF3 (fun a k q => q) (by omega)) rfl (NT_fr h hF3 (by intro a k h; omega))
    · have hc3 := Int32.le_iff_toInt_le.mp hc3
      refine sfX11_refuse h.1 h.2.2.1 (fun v4 I3 hW3 hF3 hp3 => ?_)
      exact hQ _ _ _ _ (IV_x h hW3 hF3 (by intro a k h; omega)) (by rw [hp3]; omega) (NX_fr hF3 (by omega) (by omega) (by omega)) (XS_no hF3 (fun a k q => q) (by omega)) (XA_no hF3 (fun a k q => q) (by omega)) rfl (NT_fr h hF3 (by intro a k h; omega))
    · have hc4 := Int32.lt_iff_toInt_lt.mp hc4
      refine sfX11_refuse h.1 h.2.2.1 (fun v4 I3 hW3 hF3 hp3 => ?_)
      exact hQ _ _ _ _ (IV_x h hW3 hF3 (by intro a k h; omega)) (by rw [hp3]; omega) (NX_fr hF3 (by omega) (by omega) (by omega)) (XS_no hF3 (fun a k q => q) (by omega)) (XA_no hF3 (fun a k q => q) (by omega)) rfl (NT_fr h hF3 (by intro a k h; omega))
    · have hc2 := mt Int32.lt_iff_toInt_lt.mpr hc2
      have hc3 := mt Int32.le_iff_toInt_le.mpr hc3
      have hc4 := mt Int32.lt_iff_toInt_lt.mpr hc4
      have hc5 := Int32.le_iff_toInt_le.mp hc5
      refine ⟨vp_of (by omega) (by omega), ?_⟩
      refine ⟨1, 1, 0, 0, Nat.le_refl _, Nat.le_refl _, ?_⟩
      have hn := tn_eq x1
      refine qX11_newCoachman h (fun w Z2 I2 h2 hm hnx hnw => ⟨w, rfl, h2.1, 0, 0, 0, 0, Nat.le_refl _, Nat.le_refl _, ?_⟩)
      have hz := zX_shelf h2.1 (i := Int32.toNatClampNeg x1) (by omega)
      have w1 : WX (uI I2 (29 + 2 * (Int32.toNatClampNeg x1)) 1 (-1)) := WX_uI h2.2.2.1 (by first | exact okXo (by decide) | (unfold okX; refine ⟨?_, ?_, ?_, ?_, ?_, ?_, ?_, ?_, ?_, ?_⟩ <;> intro h <;> omega))
      have w2 : WX (uI (uI I2 (29 + 2 * (Int32.toNatClampNeg x1)) 1 (-1)) (29 + 2 * (Int32.toNatClampNeg x1)) 2 0) := WX_uI w1 (by first | exact okXo (by decide) | (unfold okX; refine ⟨?_, ?_, ?_, ?_, ?_, ?_, ?_, ?_, ?_, ?_⟩ <;> intro h <;> omega))
      refine qX6_takeMan hz ?_
      have h3 := IV_uP (IV_x h2 w2 (p := fun a _ => a < 45) (Fr_uI (Fr_uI Fr.rf (by omega)) (by omega)) (fun a k h => h)) (i := Int32.toNatClampNeg x1) (v := some w) (by omega) (fun w' e => by cases e; exact hm)
      have hb := h.2.2.2.2.2.1
      have hxs : XS (((0 ≤ x1.toInt ∧ x1.toInt ≤ 7) ∧ (1 ≤ x2.toInt ∧ x2.toInt ≤ 5) ∧ 0 ≤ x3.toInt ∧ x3.toInt ≤ 9)) x1 (-1) 0 x2.toInt Z I (uP Z2 (29 + 2 * (Int32.toNatClampNeg x1)) 3 (some w)) (uI (uI I2 (29 + 2 * (Int32.toNatClampNeg x1)) 1 (-1)) (29 + 2 * (Int32.toNatClampNeg x1)) 2 0) := by
        refine ⟨fun a k ha hz => by rw [uI_ap, if_neg (by omega), uI_ap, if_neg (by omega)]; exact hnw.1 a k hz, fun i hi => ⟨fun q => ?_, fun q1 q2 => ?_⟩⟩
        · have hne : i ≠ Int32.toNatClampNeg x1 := fun e => q ⟨by omega, e⟩
          exact ⟨by rw [uI_ap, if_neg (by omega), uI_ap, if_neg (by omega)]; exact hnw.1 _ _ (by omega), by rw [uI_ap, if_neg (by omega), uI_ap, if_neg (by omega)]; exact hnw.1 _ _ (by omega), (mk_uP_ne hne).trans (hnw.2.1 i hi)⟩
        · rw [q2]
          exact ⟨by rw [uI_ap, if_neg (by omega), uI_ap, if_pos ⟨rfl, rfl⟩]; rfl, by rw [uI_ap, if_pos ⟨rfl, rfl⟩]; rfl, mk_uP_some.trans (hnw.2.2.1 (by omega) (by omega))⟩
      have hxa : XA (((0 ≤ x1.toInt ∧ x1.toInt ≤ 7) ∧ (1 ≤ x2.toInt ∧ x2.toInt ≤ 5) ∧ 0 ≤ x3.toInt ∧ x3.toInt ≤ 9)) x1 (some x3) Z I (uP Z2 (29 + 2 * (Int32.toNatClampNeg x1)) 3 (some w)) (uI (uI I2 (29 + 2 * (Int32.toNatClampNeg x1)) 1 (-1)) (29 + 2 * (Int32.toNatClampNeg x1)) 2 0) := fun i hi => by
        have hwl := hnw.2.2.2.1
        refine ⟨fun q => ?_, fun q1 q2 v hv => ?_⟩
        · have hne : i ≠ Int32.toNatClampNeg x1 := fun e => q ⟨by omega, e⟩
          refine ⟨by rw [uP_ap, if_neg (by omega)]; exact hnw.2.2.2.2.2 i hi, fun v hv hl => ?_⟩
          obtain ⟨ci, hci, hz9⟩ := h.2.1 i hi v hv
          rw [uI_ap, if_neg (by omega), uI_ap, if_neg (by omega)]
          exact hnw.1 _ _ (h.2.2.2.2.2.2.1 _ _ hz9)
        · rw [q2, uP_ap, if_pos ⟨rfl, rfl⟩] at hv
          cases hv
          exact ⟨hnw.2.2.2.1, by rw [uI_ap, if_neg (by omega), uI_ap, if_neg (by omega), hnw.2.2.2.2.1]⟩
      exact ⟨rfl, h3.1, hQ _ _ _ _ h3 (by omega) (NX.tr hnx (NX.tr (NX_fr (p := fun a _ => 29 ≤ a ∧ a < 45) (Fr_uI (Fr_uI Fr.rf (by omega)) (by omega)) (by omega) (by omega) (by omega)) (NX_uP (by omega)))) hxs hxa rfl (NT_all h (fun a k ha => by rw [uI_ap, if_neg (by omega), uI_ap, if_neg (by omega)]; exact hnw.1 a k (by omega)) (by rw [uP_ap, if_neg (by omega)]; exact hnx.2.2.2))⟩
    · have hc5 := mt Int32.le_iff_toInt_le.mpr hc5
      refine sfX11_refuse h.1 h.2.2.1 (fun v4 I3 hW3 hF3 hp3 => ?_)
      exact hQ _ _ _ _ (IV_x h hW3 hF3 (by intro a k h; omega)) (by rw [hp3]; omega) (NX_fr hF3 (by omega) (by omega) (by omega)) (XS_no hF3 (fun a k q => q) (by omega)) (XA_no hF3 (fun a k q => q) (by omega)) rfl (NT_fr h hF3 (by intro a k h; omega))
set_option maxRecDepth 20000 in
set_option maxHeartbeats 4000000 in
/-- the law's loop goes on well -/
theorem lL_law {G : jdG} {nm : String} {b L : Nat} {xs : Nat → Int32} {sA sV : Nat → Nat} (hG : gOK G sA sV) (hXs : ∀ U, G.2.2.2.2 U → va_X b L xs U G.2.2.1) (hL : L ≤ 100000) : ∀ m : Nat, ∀ (Z : jdL) (I : jdI) (J : jdJ) (rc rs : Nat) (x3 : Int32), IV Z I → RV Z I → RS Z I → RJ I J → RT Z I → RA Z I → 0 ≤ x3.toInt → (L : Int) - x3.toInt + 6 < (m : Int) → 20 * ((L : Int) - x3.toInt) ≤ (rc : Int) → 350 * ((L : Int) - x3.toInt) ≤ (rs : Int) → x3.toInt ≤ (L : Int) → Jd G (mLaw nm) (lawF G) (2046 + 1) rc rs 18 [(0, .ref b), (1, .ref (gb G + 0)), (2, .ref (gb G + 45)), (3, .int x3)] [] Z I J := by
  intro m
  induction m with
  | zero =>
    intro Z I J rc rs x3 h hr hrs hrj hrt hra h0 hm h1 h2 h3
    have hr1 := hr.1
    omega
  | succ m ih0 =>
    have ih : ∀ (Z : jdL) (I : jdI) (J : jdJ) (rc rs : Nat) (x3 : Int32), IV Z I → RV Z I → RS Z I → RJ I J → RT Z I → RA Z I → 0 ≤ x3.toInt → (L : Int) - x3.toInt + 6 < (m : Int) → 20 * ((L : Int) - x3.toInt) ≤ (rc : Int) → 350 * ((L : Int) - x3.toInt) ≤ (rs : Int) ∧ x3.toInt ≤ (L : Int) → Jd G (mLaw nm) (lawF G) (2046 + 1) rc rs 18 [(0, .ref b), (1, .ref (gb G + 0)), (2, .ref (gb G + 45)), (3, .int x3)] [] Z I J := fun Z I J rc rs x3 h hr hrs hrj hrt hra a1 a2 a3 a4 => ih0 Z I J rc rs x3 h hr hrs hrj hrt hra a1 a2 a3 a4.1 a4.2
    intro Z I J rc rs x3 h hr hrs hrj hrt hra h0 hm h1 h2 h3
    have hr1 := hr.1
    obtain ⟨s, hok, ht1, ht2⟩ := hrt.2.1
    have hP7 := ht1.1.1
    have hwx := WX_f h.2.2.1
    have hs8 : s.1.1 ≤ 8 := by omega
    have qL : (Nat.toInt32 L).toInt = (L : Int) := nI_toInt (by omega)
    have q6 : (6 : Int32).toInt = 6 := rfl
    have q1 : (1 : Int32).toInt = 1 := rfl
    have q2 : (2 : Int32).toInt = 2 := rfl
    have q3 : (3 : Int32).toInt = 3 := rfl
    have q4 : (4 : Int32).toInt = 4 := rfl
    have q5 : (5 : Int32).toInt = 5 := rfl
    have s6 := i32_sub (Nat.toInt32 L) 6 (by omega) (by omega)
    refine rL_law hXs h.1 h.2.2.2.1 ⟨fun _ => trivial, fun hc => ?_⟩
    have hc := mt Int32.lt_iff_toInt_lt.mpr hc
    have e6 := i32_add x3 6 (by omega) (by omega)
    have hv0 : vp_in x3 L := vp_of (by omega) (by omega)
    have e1 := i32_add x3 1 (by omega) (by omega)
    have hv1 : vp_in (x3 + 1) L := vp_of (by omega) (by omega)
    have e2 := i32_add x3 2 (by omega) (by omega)
    have hv2 : vp_in (x3 + 2) L := vp_of (by omega) (by omega)
    have e3 := i32_add x3 3 (by omega) (by omega)
    have hv3 : vp_in (x3 + 3) L := vp_of (by omega) (by omega)
    have e4 := i32_add x3 4 (by omega) (by omega)
    have hv4 : vp_in (x3 + 4) L := vp_of (by omega) (by omega)
    have e5 := i32_add x3 5 (by omega) (by omega)
    have hv5 : vp_in (x3 + 5) L := vp_of (by omega) (by omega)
    have f1 : 0 ≤ (x3 + 6).toInt := by omega
    have f2 : (L : Int) - (x3 + 6).toInt + 6 < (m : Int) := by omega
    have f3 : 20 * ((L : Int) - (x3 + 6).toInt) ≤ (rc : Int) := by omega
    have f4 : 350 * ((L : Int) - (x3 + 6).toInt) ≤ (rs : Int) ∧ (x3 + 6).toInt ≤ (L : Int) := by omega
    refine ⟨hv0, ?_⟩
    refine ⟨fun hc1 => ?_, fun hc2 => ?_, fun hc3 => ?_, fun hc4 => ?_, fun hc5 => ?_, fun hc6 => ?_, fun hc7 => ?_, fun hc8 => ?_, fun hc9 => ?_, fun hc10 => ?_, fun hc11 => ?_, fun hc12 => ?_, fun hc13 => ?_, fun hc14 => ?_, fun hc15 => ?_, fun hc16 => ?_, fun hc17 => ?_, fun hc18 => ?_, fun hc19 => ?_, fun hc20 => ?_, fun hc21 => ?_, fun hc22 => ?_, fun hc23 => ?_, fun hc24 => ?_, fun hc25 => ?_, fun hc26 => ?_, fun hc27 => ?_, fun hc28 => ?_, fun hc29 => ?_, fun hc30 => ?_, fun hc31 => ?_, fun hc32 => ?_, fun hc33 => ?_, fun hc34 => ?_, fun hc35 => ?_, fun hc36 => ?_, fun hc37 => ?_, fun hc38 => ?_, fun hc39 => ?_, fun hc40 => ?_, fun hc41 => ?_, fun hc42 => ?_, fun hc43 => ?_, fun hc44 => ?_, fun hc45 => ?_, fun hc46 => ?_, fun hc47 => ?_, fun hc48 => ?_⟩
    · clear hwx e1 e2 e3 e4 e5 e6 s6 q1 q2 q3 q4 q5 q6 h0 hm h1 h2 h3 hc
      have hr49 := hr
      have hs50 := hrs
      have hj51 := hrj
      exact ih Z I J rc rs (x3 + 6) h hr49 hs50 hj51 hrt hra f1 f2 f3 f4
    · clear hwx
      refine ⟨hv1, ?_⟩
      refine ⟨hv2, ?_⟩
      refine ⟨hv3, ?_⟩
      refine ⟨0, 0, rc - 100, rs - 2100, by omega, by omega, ?_⟩
      refine qX11_row h (fun v55 Z5 I5 J5 hS53 hp54 nx56 hx57 ha58 hj59 nt60 => ⟨v55, rfl, hS53.1, hS53.2.2.2.1, ?_⟩)
      refine ⟨hv1, ?_⟩
      refine ⟨hv2, ?_⟩
      refine ⟨hv3, ?_⟩
      refine sfX12_row hS53.2.2.2.1 hS53.2.2.2.2.1 (fun v10 I9 J9 hW62 hF63 hp61 => ?_)
      have nt64 : NT Z5 I5 Z5 I9 := NT_fr hS53 hF63 (by intro a k h; omega)
      have h65 := IV_m hS53 hW62 hF63 (by intro a k h; omega)
      have nx66 : NX Z5 I5 Z5 I9 := NX_fr hF63 (by omega) (by omega) (by omega)
      have hr67 := RV_keep hr (NX.tr nx56 nx66)
      have hs68 := RS_row h hrs hx57 hF63 hp61
      have hj69 := RJ_row hrj (fun i hi => hx57.1 _ _ (by omega) (by have := h.2.2.2.2.2.1; omega)) hj59 hF63 hp61
      have ht70 := RT_keep h hrt (NT.tr nt60 nt64)
      have ha71 := RA_row hra (fun i hi => hx57.1 _ _ (by omega) (by have := h.2.2.2.2.2.1; omega)) ha58 hF63
      exact ih Z5 I9 J9 (rc - 100) (rs - 2100) (x3 + 6) h65 hr67 hs68 hj69 ht70 ha71 (by omega) (by omega) (by omega) (by omega)
    · clear hwx e1 e2 e3 e4 e5 e6 s6 q1 q2 q3 q4 q5 q6 h0 hm h1 h2 h3 hc
      refine ⟨hv1, ?_⟩
      refine ⟨hv2, ?_⟩
      refine ⟨hv3, ?_⟩
      refine ⟨hv4, ?_⟩
      refine sfX11_set h.1 h.2.2.1 (fun v16 I15 J15 hW73 hF74 hp72 => ?_)
      have nt75 : NT Z I Z I15 := NT_fr h hF74 (by intro a k h; omega)
      have h76 := IV_x h hW73 hF74 (by intro a k h; omega)
      have nx77 : NX Z I Z I15 := NX_fr hF74 (by omega) (by omega) (by omega)
      have ns78 : NS Z I Z I15 := NS_fr hF74 (by intro a k h; omega)
      have na79 : NA Z I Z I15 := NA_fr hF74 (by intro a k h; omega)
      refine ⟨hv1, ?_⟩
      refine ⟨hv2, ?_⟩
      refine ⟨hv3, ?_⟩
      refine ⟨hv4, ?_⟩
      refine sfX12_set h76.2.2.2.1 h76.2.2.2.2.1 (fun v22 I21 J21 hW81 hF82 hp80 => ?_)
      have nt83 : NT Z I15 Z I21 := NT_fr h76 hF82 (by intro a k h; omega)
      have h84 := IV_m h76 hW81 hF82 (by intro a k h; omega)
      have nx85 : NX Z I15 Z I21 := NX_fr hF82 (by omega) (by omega) (by omega)
      have ns86 : NS Z I15 Z I21 := NS_fr hF82 (by intro a k h; omega)
      have na87 : NA Z I15 Z I21 := NA_fr hF82 (by intro a k h; omega)
      have hr88 := RV_keep hr (NX.tr nx77 nx85)
      have hs89 := RS_keep hrs (NS.tr ns78 ns86)
      have hj90 := RJ_set hrs hrj ns78 (NS.tr ns78 ns86) hp72 hp80
      have ht91 := RT_keep h hrt (NT.tr nt75 nt83)
      have ha92 := RA_keep hra (NA.tr na79 na87)
      exact ih Z I21 J21 rc rs (x3 + 6) h84 hr88 hs89 hj90 ht91 ha92 f1 f2 f3 f4
    · clear hwx e1 e2 e3 e4 e5 e6 s6 q1 q2 q3 q4 q5 q6 h0 hm h1 h2 h3 hc
      refine ⟨hv1, ?_⟩
      refine ⟨hv2, ?_⟩
      refine ⟨hv3, ?_⟩
      refine ⟨hv4, ?_⟩
      refine ⟨hv5, ?_⟩
      refine sfX11_copy h.1 h.2.2.1 (fun v29 I28 J28 hW94 hF95 hp93 => ?_)
      have nt96 : NT Z I Z I28 := NT_fr h hF95 (by intro a k h; omega)
      have h97 := IV_x h hW94 hF95 (by intro a k h; omega)
      have nx98 : NX Z I Z I28 := NX_fr hF95 (by omega) (by omega) (by omega)
      have ns99 : NS Z I Z I28 := NS_fr hF95 (by intro a k h; omega)
      have na100 : NA Z I Z I28 := NA_fr hF95 (by intro a k h; omega)
      refine ⟨hv1, ?_⟩
      refine ⟨hv2, ?_⟩
      refine ⟨hv3, ?_⟩
      refine ⟨hv4, ?_⟩
      refine ⟨hv5, ?_⟩
      refine sfX12_copy h97.2.2.2.1 h97.2.2.2.2.1 (fun v36 I35 J35 hW102 hF103 hp101 => ?_)
      have nt104 : NT Z I28 Z I35 := NT_fr h97 hF103 (by intro a k h; omega)
      have h105 := IV_m h97 hW102 hF103 (by intro a k h; omega)
      have nx106 : NX Z I28 Z I35 := NX_fr hF103 (by omega) (by omega) (by omega)
      have ns107 : NS Z I28 Z I35 := NS_fr hF103 (by intro a k h; omega)
      have na108 : NA Z I28 Z I35 := NA_fr hF103 (by intro a k h; omega)
      have hr109 := RV_keep hr (NX.tr nx98 nx106)
      have hs110 := RS_keep hrs (NS.tr ns99 ns107)
      have hj111 := RJ_copy h.2.2.2.2.1 hrs hrj ns99 (NS.tr ns99 ns107) hp93 hp101
      have ht112 := RT_keep h hrt (NT.tr nt96 nt104)
      have ha113 := RA_keep hra (NA.tr na100 na108)
      exact ih Z I35 J35 rc rs (x3 + 6) h105 hr109 hs110 hj111 ht112 ha113 f1 f2 f3 f4
    · clear hwx e1 e2 e3 e4 e5 e6 s6 q1 q2 q3 q4 q5 q6 h0 hm h1 h2 h3 hc
      refine ⟨hv1, ?_⟩
      refine ⟨hv2, ?_⟩
      refine sfX11_element h.1 h.2.2.1 (fun v40  hp114 => ?_)
      have nx115 : NX Z I Z I := NX.rf
      have ns116 : NS Z I Z I := NS.rf
      have nt117 : NT Z I Z I := NT.rf
      have na118 : NA Z I Z I := NA.rf
      refine ⟨hv1, ?_⟩
      refine ⟨hv2, ?_⟩
      refine sfX12_element h.2.2.2.1 h.2.2.2.2.1 (fun v44  hp119 => ?_)
      have nx120 : NX Z I Z I := NX.rf
      have ns121 : NS Z I Z I := NS.rf
      have nt122 : NT Z I Z I := NT.rf
      have na123 : NA Z I Z I := NA.rf
      have hr124 := RV_keep hr (NX.tr nx115 nx120)
      have hs125 := RS_keep hrs (NS.tr ns116 ns121)
      have hj126 := RJ_keep hrj (NS.tr ns116 ns121) NJ.rf
      have ht127 := RT_keep h hrt (NT.tr nt117 nt122)
      have ha128 := RA_keep hra (NA.tr na118 na123)
      exact ih Z I J rc rs (x3 + 6) h hr124 hs125 hj126 ht127 ha128 f1 f2 f3 f4
    · clear hwx e1 e2 e3 e4 e5 e6 s6 q1 q2 q3 q4 q5 q6 h0 hm h1 h2 h3 hc
      refine ⟨hv1, ?_⟩
      refine sfX11_holds hG h.1 h.2.1 h.2.2.1 (fun v47  hp129 => ?_)
      have nx130 : NX Z I Z I := NX.rf
      have ns131 : NS Z I Z I := NS.rf
      have nt132 : NT Z I Z I := NT.rf
      have na133 : NA Z I Z I := NA.rf
      refine ⟨hv1, ?_⟩
      refine sfX12_holds h.2.2.2.1 h.2.2.2.2.1 (fun v50  hp134 => ?_)
      have nx135 : NX Z I Z I := NX.rf
      have ns136 : NS Z I Z I := NS.rf
      have nt137 : NT Z I Z I := NT.rf
      have na138 : NA Z I Z I := NA.rf
      have hr139 := RV_keep hr (NX.tr nx130 nx135)
      have hs140 := RS_keep hrs (NS.tr ns131 ns136)
      have hj141 := RJ_keep hrj (NS.tr ns131 ns136) NJ.rf
      have ht142 := RT_keep h hrt (NT.tr nt132 nt137)
      have ha143 := RA_keep hra (NA.tr na133 na138)
      exact ih Z I J rc rs (x3 + 6) h hr139 hs140 hj141 ht142 ha143 f1 f2 f3 f4
    · clear hwx
      refine ⟨hv1, ?_⟩
      refine ⟨hv2, ?_⟩
      refine ⟨hv3, ?_⟩
      refine ⟨1, 1, rc - 100, rs - 2100, by omega, by omega, ?_⟩
      refine qX11_coachman h (fun v146 Z54 I54 J54 hS144 hp145 nx147 hx148 ha149 hj150 nt151 => ⟨v146, rfl, hS144.1, hS144.2.2.2.1, ?_⟩)
      refine ⟨hv1, ?_⟩
      refine ⟨hv2, ?_⟩
      refine ⟨hv3, ?_⟩
      refine pX12_coachman hS144.2.2.2.1 hS144.2.2.2.2.1 (fun v59 I58 hW153 hF154 hp152 mb155 => ?_)
      have nt156 : NT Z54 I54 Z54 I58 := NT_fr hS144 hF154 (by intro a k h; omega)
      have h157 := IV_m hS144 hW153 hF154 (by intro a k h; omega)
      have nx158 : NX Z54 I54 Z54 I58 := NX_fr hF154 (by omega) (by omega) (by omega)
      have hr159 := RV_keep hr (NX.tr nx147 nx158)
      have hs160 := RS_man h hrs hx148 hF154 hp152
      rw [hj150]
      have hj161 := RJ_man hrj (fun i hi => hx148.1 _ _ (by omega) (by have := h.2.2.2.2.2.1; omega)) hF154 hp152
      have ht162 := RT_keep h hrt (NT.tr nt151 nt156)
      have ha163 := RA_man hra (fun i hi => hx148.1 _ _ (by omega) (by have := h.2.2.2.2.2.1; omega)) ha149 hF154 mb155
      exact ih Z54 I58 J (rc - 100) (rs - 2100) (x3 + 6) h157 hr159 hs160 hj161 ht162 ha163 (by omega) (by omega) (by omega) (by omega)
    · clear hwx e1 e2 e3 e4 e5 e6 s6 q1 q2 q3 q4 q5 q6 h0 hm h1 h2 h3 hc
      refine ⟨hv1, ?_⟩
      refine ⟨hv2, ?_⟩
      refine sfX11_says hG h.1 h.2.1 h.2.2.1 (fun v63 I62 hW165 hF166 => ?_)
      have nt167 : NT Z I Z I62 := NT_fr h hF166 (by intro a k h; omega)
      have h168 := IV_x h hW165 hF166 (by intro a k h; omega)
      have nx169 : NX Z I Z I62 := NX_fr hF166 (by omega) (by omega) (by omega)
      have ns170 : NS Z I Z I62 := NS_fr hF166 (by intro a k h; omega)
      have na171 : NA Z I Z I62 := NA_fr hF166 (by intro a k h; omega)
      refine ⟨hv1, ?_⟩
      refine ⟨hv2, ?_⟩
      refine sfX12_says h168.2.2.2.1 h168.2.2.2.2.1 (fun v67 I66 hW173 hF174 => ?_)
      have nt175 : NT Z I62 Z I66 := NT_fr h168 hF174 (by intro a k h; omega)
      have h176 := IV_m h168 hW173 hF174 (by intro a k h; omega)
      have nx177 : NX Z I62 Z I66 := NX_fr hF174 (by omega) (by omega) (by omega)
      have ns178 : NS Z I62 Z I66 := NS_fr hF174 (by intro a k h; omega)
      have na179 : NA Z I62 Z I66 := NA_fr hF174 (by intro a k h; omega)
      have hr180 := RV_keep hr (NX.tr nx169 nx177)
      have hs181 := RS_keep hrs (NS.tr ns170 ns178)
      have hj182 := RJ_keep hrj (NS.tr ns170 ns178) NJ.rf
      have ht183 := RT_keep h hrt (NT.tr nt167 nt175)
      have ha184 := RA_keep hra (NA.tr na171 na179)
      exact ih Z I66 J rc rs (x3 + 6) h176 hr180 hs181 hj182 ht183 ha184 f1 f2 f3 f4
    · clear hwx e1 e2 e3 e4 e5 e6 s6 q1 q2 q3 q4 q5 q6 h0 hm h1 h2 h3 hc
      refine ⟨hv1, ?_⟩
      refine ⟨hv2, ?_⟩
      refine pX11_person h.1 h.2.2.1 ht1 (fun v71 I70 hW186 hF187 hp185 => ?_)
      have tm188 := TM_fr ht2 (show s.1.1 ≤ 8 by omega) hF187 (by omega) (by omega) (by omega) (by omega) (by intro a k h1 h2 h3; omega)
      have rk189 := RK_fr h hrt.2.2 hF187 (by intro a k h; omega)
      have tp190 := TP_fr hrt.1 hF187 (by intro a k h; omega)
      have h191 := IV_x h hW186 hF187 (by intro a k h; omega)
      have nx192 : NX Z I Z I70 := NX_fr hF187 (by omega) (by omega) (by omega)
      have ns193 : NS Z I Z I70 := NS_fr hF187 (by intro a k h; omega)
      have na194 : NA Z I Z I70 := NA_fr hF187 (by intro a k h; omega)
      refine ⟨hv1, ?_⟩
      refine ⟨hv2, ?_⟩
      refine pX12_personS h191.2.2.2.1 h191.2.2.2.2.1 tm188 (fun v75 I74 hW196 hF197 hp195 => ?_)
      have rk198 := RK_fr h191 rk189 hF197 (by intro a k h; omega)
      have tp199 := TP_fr tp190 hF197 (by intro a k h; omega)
      have h200 := IV_m h191 hW196 hF197 (by intro a k h; omega)
      have nx201 : NX Z I70 Z I74 := NX_fr hF197 (by omega) (by omega) (by omega)
      have ns202 : NS Z I70 Z I74 := NS_fr hF197 (by intro a k h; omega)
      have na203 : NA Z I70 Z I74 := NA_fr hF197 (by intro a k h; omega)
      have hr204 := RV_keep hr (NX.tr nx192 nx201)
      have hs205 := RS_keep hrs (NS.tr ns193 ns202)
      have hj206 := RJ_keep hrj (NS.tr ns193 ns202) NJ.rf
      have ht207 : RT Z I74 := ⟨tp199, ⟨_, oPerson_ok hok, TX_fr hp185.2 hF197 (by intro a k h1 h2; omega), hp195.2⟩, rk198⟩
      have ha208 := RA_keep hra (NA.tr na194 na203)
      exact ih Z I74 J rc rs (x3 + 6) h200 hr204 hs205 hj206 ht207 ha208 f1 f2 f3 f4
    · clear hwx e1 e2 e3 e4 e5 e6 s6 q1 q2 q3 q4 q5 q6 h0 hm h1 h2 h3 hc
      refine ⟨hv1, ?_⟩
      refine ⟨hv2, ?_⟩
      refine ⟨hv3, ?_⟩
      refine fsfX11_change h.1 h.2.2.1 ht1 (fun v80 I79 hW210 hF211 hp209 => ?_)
      have tm212 := TM_fr ht2 (show s.1.1 ≤ 8 by omega) hF211 (by omega) (by omega) (by omega) (by omega) (by intro a k h1 h2 h3; omega)
      have rk213 := RK_fr h hrt.2.2 hF211 (by intro a k h; omega)
      have tp214 := TP_fr hrt.1 hF211 (by intro a k h; omega)
      have h215 := IV_x h hW210 hF211 (by intro a k h; omega)
      have nx216 : NX Z I Z I79 := NX_fr hF211 (by omega) (by omega) (by omega)
      have ns217 : NS Z I Z I79 := NS_fr hF211 (by intro a k h; omega)
      have na218 : NA Z I Z I79 := NA_fr hF211 (by intro a k h; omega)
      refine ⟨hv1, ?_⟩
      refine ⟨hv2, ?_⟩
      refine ⟨hv3, ?_⟩
      refine fsfX12_change h215.2.2.2.1 h215.2.2.2.2.1 tm212 (fun v85 I84 hW220 hF221 hp219 => ?_)
      have rk222 := RK_fr h215 rk213 hF221 (by intro a k h; omega)
      have tp223 := TP_fr tp214 hF221 (by intro a k h; omega)
      have h224 := IV_m h215 hW220 hF221 (by intro a k h; omega)
      have nx225 : NX Z I79 Z I84 := NX_fr hF221 (by omega) (by omega) (by omega)
      have ns226 : NS Z I79 Z I84 := NS_fr hF221 (by intro a k h; omega)
      have na227 : NA Z I79 Z I84 := NA_fr hF221 (by intro a k h; omega)
      have hr228 := RV_keep hr (NX.tr nx216 nx225)
      have hs229 := RS_keep hrs (NS.tr ns217 ns226)
      have hj230 := RJ_keep hrj (NS.tr ns217 ns226) NJ.rf
      have ht231 : RT Z I84 := ⟨tp223, ⟨_, oChange_ok hok, TX_fr hp209.2 hF221 (by intro a k h1 h2; omega), hp219.2⟩, rk222⟩
      have ha232 := RA_keep hra (NA.tr na218 na227)
      exact ih Z I84 J rc rs (x3 + 6) h224 hr228 hs229 hj230 ht231 ha232 f1 f2 f3 f4
    · clear hwx e1 e2 e3 e4 e5 e6 s6 q1 q2 q3 q4 q5 q6 h0 hm h1 h2 h3 hc
      refine ⟨hv1, ?_⟩
      refine ⟨hv2, ?_⟩
      refine ⟨hv3, ?_⟩
      refine pX11_know h.1 h.2.2.1 ht1 (fun v90 I89 hW234 hF235 hp233 => ?_)
      have tm236 := TM_fr ht2 (show s.1.1 ≤ 8 by omega) hF235 (by omega) (by omega) (by omega) (by omega) (by intro a k h1 h2 h3; omega)
      have rk237 := RK_fr h hrt.2.2 hF235 (by intro a k h; omega)
      have tp238 := TP_fr hrt.1 hF235 (by intro a k h; omega)
      have h239 := IV_x h hW234 hF235 (by intro a k h; omega)
      have nx240 : NX Z I Z I89 := NX_fr hF235 (by omega) (by omega) (by omega)
      have ns241 : NS Z I Z I89 := NS_fr hF235 (by intro a k h; omega)
      have na242 : NA Z I Z I89 := NA_fr hF235 (by intro a k h; omega)
      refine ⟨hv1, ?_⟩
      refine ⟨hv2, ?_⟩
      refine ⟨hv3, ?_⟩
      refine pX12_know h239.2.2.2.1 h239.2.2.2.2.1 tm236 (fun v95 I94 hW244 hF245 hp243 => ?_)
      have rk246 := RK_fr h239 rk237 hF245 (by intro a k h; omega)
      have tp247 := TP_fr tp238 hF245 (by intro a k h; omega)
      have h248 := IV_m h239 hW244 hF245 (by intro a k h; omega)
      have nx249 : NX Z I89 Z I94 := NX_fr hF245 (by omega) (by omega) (by omega)
      have ns250 : NS Z I89 Z I94 := NS_fr hF245 (by intro a k h; omega)
      have na251 : NA Z I89 Z I94 := NA_fr hF245 (by intro a k h; omega)
      have hr252 := RV_keep hr (NX.tr nx240 nx249)
      have hs253 := RS_keep hrs (NS.tr ns241 ns250)
      have hj254 := RJ_keep hrj (NS.tr ns241 ns250) NJ.rf
      have ht255 : RT Z I94 := ⟨tp247, ⟨_, oKnow_ok hok, TX_fr hp233.2 hF245 (by intro a k h1 h2; omega), hp243.2⟩, rk246⟩
      have ha256 := RA_keep hra (NA.tr na242 na251)
      exact ih Z I94 J rc rs (x3 + 6) h248 hr252 hs253 hj254 ht255 ha256 f1 f2 f3 f4
    · clear hwx e1 e2 e3 e4 e5 e6 s6 q1 q2 q3 q4 q5 q6 h0 hm h1 h2 h3 hc
      refine ⟨hv1, ?_⟩
      refine ⟨hv2, ?_⟩
      refine fsfX11_ask h.1 h.2.2.1 ht1 (fun v99 I98 hW258 hF259 hp257 => ?_)
      have tm260 := TM_fr ht2 (show s.1.1 ≤ 8 by omega) hF259 (by omega) (by omega) (by omega) (by omega) (by intro a k h1 h2 h3; omega)
      have rk261 := RK_fr h hrt.2.2 hF259 (by intro a k h; omega)
      have tp262 := TP_fr hrt.1 hF259 (by intro a k h; omega)
      have h263 := IV_x h hW258 hF259 (by intro a k h; omega)
      have nx264 : NX Z I Z I98 := NX_fr hF259 (by omega) (by omega) (by omega)
      have ns265 : NS Z I Z I98 := NS_fr hF259 (by intro a k h; omega)
      have na266 : NA Z I Z I98 := NA_fr hF259 (by intro a k h; omega)
      refine ⟨hv1, ?_⟩
      refine ⟨hv2, ?_⟩
      refine fsfX12_ask h263.2.2.2.1 h263.2.2.2.2.1 tm260 (fun v103 I102 hW268 hF269 hp267 => ?_)
      have rk270 := RK_fr h263 rk261 hF269 (by intro a k h; omega)
      have tp271 := TP_fr tp262 hF269 (by intro a k h; omega)
      have h272 := IV_m h263 hW268 hF269 (by intro a k h; omega)
      have nx273 : NX Z I98 Z I102 := NX_fr hF269 (by omega) (by omega) (by omega)
      have ns274 : NS Z I98 Z I102 := NS_fr hF269 (by intro a k h; omega)
      have na275 : NA Z I98 Z I102 := NA_fr hF269 (by intro a k h; omega)
      have hr276 := RV_keep hr (NX.tr nx264 nx273)
      have hs277 := RS_keep hrs (NS.tr ns265 ns274)
      have hj278 := RJ_keep hrj (NS.tr ns265 ns274) NJ.rf
      have ht279 : RT Z I102 := ⟨tp271, ⟨_, oAsk_ok hok, TX_fr hp257.2 hF269 (by intro a k h1 h2; omega), hp267.2⟩, rk270⟩
      have ha280 := RA_keep hra (NA.tr na266 na275)
      exact ih Z I102 J rc rs (x3 + 6) h272 hr276 hs277 hj278 ht279 ha280 f1 f2 f3 f4
    · clear hwx e1 e2 e3 e4 e5 e6 s6 q1 q2 q3 q4 q5 q6 h0 hm h1 h2 h3 hc
      refine ⟨hv1, ?_⟩
      refine pX11_feed h.1 h.2.2.1 (fun v106 I105 hW282 hF283 hp281 pF284 => ?_)
      have tm285 := TM_fr ht2 (show s.1.1 ≤ 8 by omega) hF283 (by omega) (by omega) (by omega) (by omega) (by intro a k h1 h2 h3; omega)
      have rk286 := RK_fr h hrt.2.2 hF283 (by intro a k h; omega)
      have h287 := IV_x h hW282 hF283 (by intro a k h; omega)
      have e08 := congrArg Int32.toInt (hF283 0 8 (by omega))
      have e458 := congrArg Int32.toInt (hF283 45 8 (by omega))
      have ns288 : NS Z I Z I105 := NS_fr hF283 (by intro a k h; omega)
      have na289 : NA Z I Z I105 := NA_fr hF283 (by intro a k h; omega)
      refine ⟨hv1, ?_⟩
      refine pX12_feed h287.2.2.2.1 h287.2.2.2.2.1 (fun v109 I108 hW291 hF292 hp290 pF293 => ?_)
      have rk294 := RK_fr h287 rk286 hF292 (by intro a k h; omega)
      have h295 := IV_m h287 hW291 hF292 (by intro a k h; omega)
      have m25 := congrArg Int32.toInt (hF292 25 1 (by omega))
      have m08 := congrArg Int32.toInt (hF292 0 8 (by omega))
      have ns296 : NS Z I105 Z I108 := NS_fr hF292 (by intro a k h; omega)
      have na297 : NA Z I105 Z I108 := NA_fr hF292 (by intro a k h; omega)
      have hr298 : RV Z I108 := ⟨by omega, by rw [show (I108 0 8).toInt = (I 0 8).toInt by omega]; exact hr.2⟩
      have hs299 := RS_keep hrs (NS.tr ns288 ns296)
      have hj300 := RJ_keep hrj (NS.tr ns288 ns296) NJ.rf
      have ta : I108 (25 + 1) = I105 (25 + 1) := funext (fun k => hF292 (25 + 1) k (by omega))
      have tb : I105 (45 + 16) = I (45 + 16) := funext (fun k => hF283 (45 + 16) k (by omega))
      have tc : (I105 45 8).toInt = (I 25 1).toInt := by rw [hF283 45 8 (by omega)]; exact hr.1.symm
      have ht301 : RT Z I108 := ⟨by rw [ta, pF284, pF293, tb, tc, hrt.1], ⟨s, hok, TX_fr (TX_fr ht1 hF283 (by intro a k h1 h2; omega)) hF292 (by intro a k h1 h2; omega), TM_fr tm285 (show s.1.1 ≤ 8 by omega) hF292 (by omega) (by omega) (by omega) (by omega) (by intro a k h1 h2 h3; omega)⟩, rk294⟩
      have ha302 := RA_keep hra (NA.tr na289 na297)
      exact ih Z I108 J rc rs (x3 + 6) h295 hr298 hs299 hj300 ht301 ha302 f1 f2 f3 f4
    · clear hwx e1 e2 e3 e4 e5 e6 s6 q1 q2 q3 q4 q5 q6 h0 hm h1 h2 h3 hc
      refine sfX11_wipe h.1 h.2.2.1 (fun v111 I110 hW304 hF305 hp303 => ?_)
      have nt306 : NT Z I Z I110 := NT_fr h hF305 (by intro a k h; omega)
      have h307 := IV_x h hW304 hF305 (by intro a k h; omega)
      have e08 := congrArg Int32.toInt (hF305 0 8 (by omega))
      have e458 := congrArg Int32.toInt (hF305 45 8 (by omega))
      have ns308 : NS Z I Z I110 := NS_fr hF305 (by intro a k h; omega)
      have na309 : NA Z I Z I110 := NA_fr hF305 (by intro a k h; omega)
      refine sfX12_wipe h307.2.2.2.1 h307.2.2.2.2.1 (fun v113 I112 hW311 hF312 hp310 => ?_)
      have nt313 : NT Z I110 Z I112 := NT_fr h307 hF312 (by intro a k h; omega)
      have h314 := IV_m h307 hW311 hF312 (by intro a k h; omega)
      have m25 := congrArg Int32.toInt (hF312 25 1 (by omega))
      have m08 := congrArg Int32.toInt (hF312 0 8 (by omega))
      have ns315 : NS Z I110 Z I112 := NS_fr hF312 (by intro a k h; omega)
      have na316 : NA Z I110 Z I112 := NA_fr hF312 (by intro a k h; omega)
      have hr317 : RV Z I112 := ⟨by omega, by rw [show (I112 0 8).toInt = (I 0 8).toInt by omega]; exact hr.2⟩
      have hs318 := RS_keep hrs (NS.tr ns308 ns315)
      have hj319 := RJ_keep hrj (NS.tr ns308 ns315) NJ.rf
      have ht320 := RT_keep h hrt (NT.tr nt306 nt313)
      have ha321 := RA_keep hra (NA.tr na309 na316)
      exact ih Z I112 J rc rs (x3 + 6) h314 hr317 hs318 hj319 ht320 ha321 f1 f2 f3 f4
    · clear hwx
      refine pX11_town hG h.1 h.2.2.1 ht1 (fun v115 I114 hW323 hF324 hp322 pT325 pS326 => ?_)
      have tm327 := TM_fr ht2 (show s.1.1 ≤ 8 by omega) hF324 (by omega) (by omega) (by omega) (by omega) (by intro a k h1 h2 h3; omega)
      have rk328 := RK_fr h hrt.2.2 hF324 (by intro a k h; omega)
      have tp329 := TP_fr hrt.1 hF324 (by intro a k h; omega)
      have h330 := IV_x h hW323 hF324 (by intro a k h; omega)
      have e08 := congrArg Int32.toInt (hF324 0 8 (by omega))
      have e458 := congrArg Int32.toInt (hF324 45 8 (by omega))
      have ns331 : NS Z I Z I114 := NS_fr hF324 (by intro a k h; omega)
      have na332 : NA Z I Z I114 := NA_fr hF324 (by intro a k h; omega)
      have hfc := fC_le Z 45
      refine ⟨(fC Z 45), (fS Z 45), rc - 100, rs - 2100, by omega, by omega, ?_⟩
      refine qX12_town hG h330.2.2.2 tm327.1 (fun v335 Z116 I116 J116 hS333 hp334 pT337 pS338 => ⟨v335, rfl, (IV_s h330 hS333).1, hS333.1.1, ?_⟩)
      have h339 := IV_s h330 hS333
      have hbz := h330.2.2.2.2.2.1
      have m25 := congrArg Int32.toInt (hS333.2.2.2.2.1 25 1 (by omega))
      have m08 := congrArg Int32.toInt (hS333.2.2.2.2.1 0 8 (by omega))
      have eZ := hS333.2.2.2.1 45 20 (by omega) (by omega)
      have ns340 := NS_st h330 hS333
      have na341 := NA_st h330 hS333
      have nj342 := NJ_st h330 hS333
      have hr343 : RV Z116 I116 := ⟨by omega, by rw [show (I116 0 8).toInt = (I 0 8).toInt by omega, eZ]; exact hr.2⟩
      have hs344 := RS_keep hrs (NS.tr ns331 ns340)
      have hj345 := RJ_keep hrj (NS.tr ns331 ns340) nj342
      have e16 : I114 (45 + 16) = I (25 + 1) := (funext (fun k => hF324 (45 + 16) k (by omega))).trans hrt.1.symm
      have e8 : (I114 45 8).toInt = (I 25 1).toInt := by rw [hF324 45 8 (by omega)]; exact hr.1.symm
      rw [e16, e8] at pT337
      obtain ⟨ev, w2, k2, r1, r2⟩ := tn_k hok pT325 pT337
      have ht346 : RT Z116 I116 := ⟨TP_fr tp329 hS333.2.2.2.2.1 (by intro a k h; omega), ⟨(w2, s.2), k2, ⟨RX_fr r1 hS333.2.2.2.2.1 (by intro a k h1 h2; omega), by rw [hS333.2.2.2.2.1 1 6 (by omega)]; exact pS326⟩, ⟨r2, pS338.trans tm327.2⟩⟩, RK_eq rk328 h330.2.2.1 eZ (fun a k h1 h2 => hS333.2.2.2.2.1 a k (by omega)) (fun u hu a k h1 h2 => hS333.2.2.2.2.2.2.1 rfl (by omega) u hu a k h1 h2)⟩
      have ha347 := RA_keep hra (NA.tr na332 na341)
      exact ih Z116 I116 J116 (rc - 100) (rs - 2100) (x3 + 6) h339 hr343 hs344 hj345 ht346 ha347 (by omega) (by omega) (by omega) (by omega)
    · clear hwx e1 e2 e3 e4 e5 e6 s6 q1 q2 q3 q4 q5 q6 h0 hm h1 h2 h3 hc
      refine ⟨hv1, ?_⟩
      refine ⟨hv2, ?_⟩
      refine sfX11_personOf h.1 h.2.2.1 (fun v120 I119 hW349 hF350 => ?_)
      have nt351 : NT Z I Z I119 := NT_fr h hF350 (by intro a k h; omega)
      have h352 := IV_x h hW349 hF350 (by intro a k h; omega)
      have nx353 : NX Z I Z I119 := NX_fr hF350 (by omega) (by omega) (by omega)
      have ns354 : NS Z I Z I119 := NS_fr hF350 (by intro a k h; omega)
      have na355 : NA Z I Z I119 := NA_fr hF350 (by intro a k h; omega)
      refine ⟨hv1, ?_⟩
      refine ⟨hv2, ?_⟩
      refine sfX12_personOf h352.2.2.2.1 h352.2.2.2.2.1 (fun v124 I123 hW357 hF358 => ?_)
      have nt359 : NT Z I119 Z I123 := NT_fr h352 hF358 (by intro a k h; omega)
      have h360 := IV_m h352 hW357 hF358 (by intro a k h; omega)
      have nx361 : NX Z I119 Z I123 := NX_fr hF358 (by omega) (by omega) (by omega)
      have ns362 : NS Z I119 Z I123 := NS_fr hF358 (by intro a k h; omega)
      have na363 : NA Z I119 Z I123 := NA_fr hF358 (by intro a k h; omega)
      have hr364 := RV_keep hr (NX.tr nx353 nx361)
      have hs365 := RS_keep hrs (NS.tr ns354 ns362)
      have hj366 := RJ_keep hrj (NS.tr ns354 ns362) NJ.rf
      have ht367 := RT_keep h hrt (NT.tr nt351 nt359)
      have ha368 := RA_keep hra (NA.tr na355 na363)
      exact ih Z I123 J rc rs (x3 + 6) h360 hr364 hs365 hj366 ht367 ha368 f1 f2 f3 f4
    · clear hwx e1 e2 e3 e4 e5 e6 s6 q1 q2 q3 q4 q5 q6 h0 hm h1 h2 h3 hc
      refine ⟨hv1, ?_⟩
      refine ⟨hv2, ?_⟩
      refine sfX11_knownOf h.1 h.2.2.1 (fun v128 I127 hW370 hF371 => ?_)
      have nt372 : NT Z I Z I127 := NT_fr h hF371 (by intro a k h; omega)
      have h373 := IV_x h hW370 hF371 (by intro a k h; omega)
      have nx374 : NX Z I Z I127 := NX_fr hF371 (by omega) (by omega) (by omega)
      have ns375 : NS Z I Z I127 := NS_fr hF371 (by intro a k h; omega)
      have na376 : NA Z I Z I127 := NA_fr hF371 (by intro a k h; omega)
      refine ⟨hv1, ?_⟩
      refine ⟨hv2, ?_⟩
      refine sfX12_knownOf h373.2.2.2.1 h373.2.2.2.2.1 (fun v132 I131 hW378 hF379 => ?_)
      have nt380 : NT Z I127 Z I131 := NT_fr h373 hF379 (by intro a k h; omega)
      have h381 := IV_m h373 hW378 hF379 (by intro a k h; omega)
      have nx382 : NX Z I127 Z I131 := NX_fr hF379 (by omega) (by omega) (by omega)
      have ns383 : NS Z I127 Z I131 := NS_fr hF379 (by intro a k h; omega)
      have na384 : NA Z I127 Z I131 := NA_fr hF379 (by intro a k h; omega)
      have hr385 := RV_keep hr (NX.tr nx374 nx382)
      have hs386 := RS_keep hrs (NS.tr ns375 ns383)
      have hj387 := RJ_keep hrj (NS.tr ns375 ns383) NJ.rf
      have ht388 := RT_keep h hrt (NT.tr nt372 nt380)
      have ha389 := RA_keep hra (NA.tr na376 na384)
      exact ih Z I131 J rc rs (x3 + 6) h381 hr385 hs386 hj387 ht388 ha389 f1 f2 f3 f4
    · clear hwx e1 e2 e3 e4 e5 e6 s6 q1 q2 q3 q4 q5 q6 h0 hm h1 h2 h3 hc
      refine ⟨hv1, ?_⟩
      refine sfX11_isGroup h.1 h.2.2.1 (fun v135 I134 hW391 hF392 => ?_)
      have nt393 : NT Z I Z I134 := NT_fr h hF392 (by intro a k h; omega)
      have h394 := IV_x h hW391 hF392 (by intro a k h; omega)
      have nx395 : NX Z I Z I134 := NX_fr hF392 (by omega) (by omega) (by omega)
      have ns396 : NS Z I Z I134 := NS_fr hF392 (by intro a k h; omega)
      have na397 : NA Z I Z I134 := NA_fr hF392 (by intro a k h; omega)
      refine ⟨hv1, ?_⟩
      refine sfX12_isGroup h394.2.2.2.1 h394.2.2.2.2.1 (fun v138 I137 hW399 hF400 => ?_)
      have nt401 : NT Z I134 Z I137 := NT_fr h394 hF400 (by intro a k h; omega)
      have h402 := IV_m h394 hW399 hF400 (by intro a k h; omega)
      have nx403 : NX Z I134 Z I137 := NX_fr hF400 (by omega) (by omega) (by omega)
      have ns404 : NS Z I134 Z I137 := NS_fr hF400 (by intro a k h; omega)
      have na405 : NA Z I134 Z I137 := NA_fr hF400 (by intro a k h; omega)
      have hr406 := RV_keep hr (NX.tr nx395 nx403)
      have hs407 := RS_keep hrs (NS.tr ns396 ns404)
      have hj408 := RJ_keep hrj (NS.tr ns396 ns404) NJ.rf
      have ht409 := RT_keep h hrt (NT.tr nt393 nt401)
      have ha410 := RA_keep hra (NA.tr na397 na405)
      exact ih Z I137 J rc rs (x3 + 6) h402 hr406 hs407 hj408 ht409 ha410 f1 f2 f3 f4
    · clear hwx e1 e2 e3 e4 e5 e6 s6 q1 q2 q3 q4 q5 q6 h0 hm h1 h2 h3 hc
      refine ⟨hv1, ?_⟩
      refine sfX11_groups h.1 h.2.2.1 (fun v141 I140 hW412 hF413 => ?_)
      have nt414 : NT Z I Z I140 := NT_fr h hF413 (by intro a k h; omega)
      have h415 := IV_x h hW412 hF413 (by intro a k h; omega)
      have nx416 : NX Z I Z I140 := NX_fr hF413 (by omega) (by omega) (by omega)
      have ns417 : NS Z I Z I140 := NS_fr hF413 (by intro a k h; omega)
      have na418 : NA Z I Z I140 := NA_fr hF413 (by intro a k h; omega)
      refine ⟨hv1, ?_⟩
      refine sfX12_groups h415.2.2.2.1 h415.2.2.2.2.1 (fun v144 I143 hW420 hF421 => ?_)
      have nt422 : NT Z I140 Z I143 := NT_fr h415 hF421 (by intro a k h; omega)
      have h423 := IV_m h415 hW420 hF421 (by intro a k h; omega)
      have nx424 : NX Z I140 Z I143 := NX_fr hF421 (by omega) (by omega) (by omega)
      have ns425 : NS Z I140 Z I143 := NS_fr hF421 (by intro a k h; omega)
      have na426 : NA Z I140 Z I143 := NA_fr hF421 (by intro a k h; omega)
      have hr427 := RV_keep hr (NX.tr nx416 nx424)
      have hs428 := RS_keep hrs (NS.tr ns417 ns425)
      have hj429 := RJ_keep hrj (NS.tr ns417 ns425) NJ.rf
      have ht430 := RT_keep h hrt (NT.tr nt414 nt422)
      have ha431 := RA_keep hra (NA.tr na418 na426)
      exact ih Z I143 J rc rs (x3 + 6) h423 hr427 hs428 hj429 ht430 ha431 f1 f2 f3 f4
    · clear hwx e1 e2 e3 e4 e5 e6 s6 q1 q2 q3 q4 q5 q6 h0 hm h1 h2 h3 hc
      refine ⟨hv1, ?_⟩
      refine sfX11_firstOf h.1 h.2.2.1 (fun v147 I146 hW433 hF434 => ?_)
      have nt435 : NT Z I Z I146 := NT_fr h hF434 (by intro a k h; omega)
      have h436 := IV_x h hW433 hF434 (by intro a k h; omega)
      have nx437 : NX Z I Z I146 := NX_fr hF434 (by omega) (by omega) (by omega)
      have ns438 : NS Z I Z I146 := NS_fr hF434 (by intro a k h; omega)
      have na439 : NA Z I Z I146 := NA_fr hF434 (by intro a k h; omega)
      refine ⟨hv1, ?_⟩
      refine sfX12_firstOf h436.2.2.2.1 h436.2.2.2.2.1 (fun v150 I149 hW441 hF442 => ?_)
      have nt443 : NT Z I146 Z I149 := NT_fr h436 hF442 (by intro a k h; omega)
      have h444 := IV_m h436 hW441 hF442 (by intro a k h; omega)
      have nx445 : NX Z I146 Z I149 := NX_fr hF442 (by omega) (by omega) (by omega)
      have ns446 : NS Z I146 Z I149 := NS_fr hF442 (by intro a k h; omega)
      have na447 : NA Z I146 Z I149 := NA_fr hF442 (by intro a k h; omega)
      have hr448 := RV_keep hr (NX.tr nx437 nx445)
      have hs449 := RS_keep hrs (NS.tr ns438 ns446)
      have hj450 := RJ_keep hrj (NS.tr ns438 ns446) NJ.rf
      have ht451 := RT_keep h hrt (NT.tr nt435 nt443)
      have ha452 := RA_keep hra (NA.tr na439 na447)
      exact ih Z I149 J rc rs (x3 + 6) h444 hr448 hs449 hj450 ht451 ha452 f1 f2 f3 f4
    · clear hwx e1 e2 e3 e4 e5 e6 s6 q1 q2 q3 q4 q5 q6 h0 hm h1 h2 h3 hc
      refine ⟨hv1, ?_⟩
      refine sfX11_most h.1 h.2.2.1 (fun v153 I152 hW454 hF455 => ?_)
      have nt456 : NT Z I Z I152 := NT_fr h hF455 (by intro a k h; omega)
      have h457 := IV_x h hW454 hF455 (by intro a k h; omega)
      have nx458 : NX Z I Z I152 := NX_fr hF455 (by omega) (by omega) (by omega)
      have ns459 : NS Z I Z I152 := NS_fr hF455 (by intro a k h; omega)
      have na460 : NA Z I Z I152 := NA_fr hF455 (by intro a k h; omega)
      refine ⟨hv1, ?_⟩
      refine sfX12_most h457.2.2.2.1 h457.2.2.2.2.1 (fun v156 I155 hW462 hF463 => ?_)
      have nt464 : NT Z I152 Z I155 := NT_fr h457 hF463 (by intro a k h; omega)
      have h465 := IV_m h457 hW462 hF463 (by intro a k h; omega)
      have nx466 : NX Z I152 Z I155 := NX_fr hF463 (by omega) (by omega) (by omega)
      have ns467 : NS Z I152 Z I155 := NS_fr hF463 (by intro a k h; omega)
      have na468 : NA Z I152 Z I155 := NA_fr hF463 (by intro a k h; omega)
      have hr469 := RV_keep hr (NX.tr nx458 nx466)
      have hs470 := RS_keep hrs (NS.tr ns459 ns467)
      have hj471 := RJ_keep hrj (NS.tr ns459 ns467) NJ.rf
      have ht472 := RT_keep h hrt (NT.tr nt456 nt464)
      have ha473 := RA_keep hra (NA.tr na460 na468)
      exact ih Z I155 J rc rs (x3 + 6) h465 hr469 hs470 hj471 ht472 ha473 f1 f2 f3 f4
    · clear hwx e1 e2 e3 e4 e5 e6 s6 q1 q2 q3 q4 q5 q6 h0 hm h1 h2 h3 hc
      refine ⟨hv1, ?_⟩
      refine ⟨hv2, ?_⟩
      refine sfX11_mostOf h.1 h.2.2.1 (fun v160 I159 hW475 hF476 => ?_)
      have nt477 : NT Z I Z I159 := NT_fr h hF476 (by intro a k h; omega)
      have h478 := IV_x h hW475 hF476 (by intro a k h; omega)
      have nx479 : NX Z I Z I159 := NX_fr hF476 (by omega) (by omega) (by omega)
      have ns480 : NS Z I Z I159 := NS_fr hF476 (by intro a k h; omega)
      have na481 : NA Z I Z I159 := NA_fr hF476 (by intro a k h; omega)
      refine ⟨hv1, ?_⟩
      refine ⟨hv2, ?_⟩
      refine sfX12_mostOf h478.2.2.2.1 h478.2.2.2.2.1 (fun v164 I163 hW483 hF484 => ?_)
      have nt485 : NT Z I159 Z I163 := NT_fr h478 hF484 (by intro a k h; omega)
      have h486 := IV_m h478 hW483 hF484 (by intro a k h; omega)
      have nx487 : NX Z I159 Z I163 := NX_fr hF484 (by omega) (by omega) (by omega)
      have ns488 : NS Z I159 Z I163 := NS_fr hF484 (by intro a k h; omega)
      have na489 : NA Z I159 Z I163 := NA_fr hF484 (by intro a k h; omega)
      have hr490 := RV_keep hr (NX.tr nx479 nx487)
      have hs491 := RS_keep hrs (NS.tr ns480 ns488)
      have hj492 := RJ_keep hrj (NS.tr ns480 ns488) NJ.rf
      have ht493 := RT_keep h hrt (NT.tr nt477 nt485)
      have ha494 := RA_keep hra (NA.tr na481 na489)
      exact ih Z I163 J rc rs (x3 + 6) h486 hr490 hs491 hj492 ht493 ha494 f1 f2 f3 f4
    · clear hwx e1 e2 e3 e4 e5 e6 s6 q1 q2 q3 q4 q5 q6 h0 hm h1 h2 h3 hc
      refine ⟨hv1, ?_⟩
      refine ⟨hv2, ?_⟩
      refine ⟨hv3, ?_⟩
      refine sfX11_sends h.1 h.2.1 h.2.2.1 (fun v169 I168 hW496 hF497 => ?_)
      have nt498 : NT Z I Z I168 := NT_fr h hF497 (by intro a k h; omega)
      have h499 := IV_x h hW496 hF497 (by intro a k h; omega)
      have nx500 : NX Z I Z I168 := NX_fr hF497 (by omega) (by omega) (by omega)
      have ns501 : NS Z I Z I168 := NS_fr hF497 (by intro a k h; omega)
      have na502 : NA Z I Z I168 := NA_fr hF497 (by intro a k h; omega)
      refine ⟨hv1, ?_⟩
      refine ⟨hv2, ?_⟩
      refine ⟨hv3, ?_⟩
      refine sfX12_sends h499.2.2.2.1 h499.2.2.2.2.1 (fun v174 I173 hW504 hF505 => ?_)
      have nt506 : NT Z I168 Z I173 := NT_fr h499 hF505 (by intro a k h; omega)
      have h507 := IV_m h499 hW504 hF505 (by intro a k h; omega)
      have nx508 : NX Z I168 Z I173 := NX_fr hF505 (by omega) (by omega) (by omega)
      have ns509 : NS Z I168 Z I173 := NS_fr hF505 (by intro a k h; omega)
      have na510 : NA Z I168 Z I173 := NA_fr hF505 (by intro a k h; omega)
      have hr511 := RV_keep hr (NX.tr nx500 nx508)
      have hs512 := RS_keep hrs (NS.tr ns501 ns509)
      have hj513 := RJ_keep hrj (NS.tr ns501 ns509) NJ.rf
      have ht514 := RT_keep h hrt (NT.tr nt498 nt506)
      have ha515 := RA_keep hra (NA.tr na502 na510)
      exact ih Z I173 J rc rs (x3 + 6) h507 hr511 hs512 hj513 ht514 ha515 f1 f2 f3 f4
    · clear hwx e1 e2 e3 e4 e5 e6 s6 q1 q2 q3 q4 q5 q6 h0 hm h1 h2 h3 hc
      refine ⟨hv1, ?_⟩
      refine sfX11_run h.1 h.2.1 h.2.2.1 (fun v177 I176 hW517 hF518 => ?_)
      have nt519 : NT Z I Z I176 := NT_fr h hF518 (by intro a k h; omega)
      have h520 := IV_x h hW517 hF518 (by intro a k h; omega)
      have nx521 : NX Z I Z I176 := NX_fr hF518 (by omega) (by omega) (by omega)
      have ns522 : NS Z I Z I176 := NS_fr hF518 (by intro a k h; omega)
      have na523 : NA Z I Z I176 := NA_fr hF518 (by intro a k h; omega)
      refine ⟨hv1, ?_⟩
      refine sfX12_run h520.2.2.2.1 h520.2.2.2.2.1 (fun v180 I179 hW525 hF526 => ?_)
      have nt527 : NT Z I176 Z I179 := NT_fr h520 hF526 (by intro a k h; omega)
      have h528 := IV_m h520 hW525 hF526 (by intro a k h; omega)
      have nx529 : NX Z I176 Z I179 := NX_fr hF526 (by omega) (by omega) (by omega)
      have ns530 : NS Z I176 Z I179 := NS_fr hF526 (by intro a k h; omega)
      have na531 : NA Z I176 Z I179 := NA_fr hF526 (by intro a k h; omega)
      have hr532 := RV_keep hr (NX.tr nx521 nx529)
      have hs533 := RS_keep hrs (NS.tr ns522 ns530)
      have hj534 := RJ_keep hrj (NS.tr ns522 ns530) NJ.rf
      have ht535 := RT_keep h hrt (NT.tr nt519 nt527)
      have ha536 := RA_keep hra (NA.tr na523 na531)
      exact ih Z I179 J rc rs (x3 + 6) h528 hr532 hs533 hj534 ht535 ha536 f1 f2 f3 f4
    · clear hwx e1 e2 e3 e4 e5 e6 s6 q1 q2 q3 q4 q5 q6 h0 hm h1 h2 h3 hc
      refine ⟨hv1, ?_⟩
      refine ⟨hv2, ?_⟩
      refine sfX11_coach h.1 h.2.1 h.2.2.1 (fun v184 I183 hW538 hF539 => ?_)
      have nt540 : NT Z I Z I183 := NT_fr h hF539 (by intro a k h; omega)
      have h541 := IV_x h hW538 hF539 (by intro a k h; omega)
      have nx542 : NX Z I Z I183 := NX_fr hF539 (by omega) (by omega) (by omega)
      have ns543 : NS Z I Z I183 := NS_fr hF539 (by intro a k h; omega)
      have na544 : NA Z I Z I183 := NA_fr hF539 (by intro a k h; omega)
      refine ⟨hv1, ?_⟩
      refine ⟨hv2, ?_⟩
      refine sfX12_coach h541.2.2.2.1 h541.2.2.2.2.1 (fun v188 I187 hW546 hF547 => ?_)
      have nt548 : NT Z I183 Z I187 := NT_fr h541 hF547 (by intro a k h; omega)
      have h549 := IV_m h541 hW546 hF547 (by intro a k h; omega)
      have nx550 : NX Z I183 Z I187 := NX_fr hF547 (by omega) (by omega) (by omega)
      have ns551 : NS Z I183 Z I187 := NS_fr hF547 (by intro a k h; omega)
      have na552 : NA Z I183 Z I187 := NA_fr hF547 (by intro a k h; omega)
      have hr553 := RV_keep hr (NX.tr nx542 nx550)
      have hs554 := RS_keep hrs (NS.tr ns543 ns551)
      have hj555 := RJ_keep hrj (NS.tr ns543 ns551) NJ.rf
      have ht556 := RT_keep h hrt (NT.tr nt540 nt548)
      have ha557 := RA_keep hra (NA.tr na544 na552)
      exact ih Z I187 J rc rs (x3 + 6) h549 hr553 hs554 hj555 ht556 ha557 f1 f2 f3 f4
    · clear hwx e1 e2 e3 e4 e5 e6 s6 q1 q2 q3 q4 q5 q6 h0 hm h1 h2 h3 hc
      refine ⟨hv1, ?_⟩
      refine sfX11_left h.1 h.2.1 h.2.2.1 (fun v191 I190 hW559 hF560 => ?_)
      have nt561 : NT Z I Z I190 := NT_fr h hF560 (by intro a k h; omega)
      have h562 := IV_x h hW559 hF560 (by intro a k h; omega)
      have nx563 : NX Z I Z I190 := NX_fr hF560 (by omega) (by omega) (by omega)
      have ns564 : NS Z I Z I190 := NS_fr hF560 (by intro a k h; omega)
      have na565 : NA Z I Z I190 := NA_fr hF560 (by intro a k h; omega)
      refine ⟨hv1, ?_⟩
      refine sfX12_left h562.2.2.2.1 h562.2.2.2.2.1 (fun v194 I193 hW567 hF568 => ?_)
      have nt569 : NT Z I190 Z I193 := NT_fr h562 hF568 (by intro a k h; omega)
      have h570 := IV_m h562 hW567 hF568 (by intro a k h; omega)
      have nx571 : NX Z I190 Z I193 := NX_fr hF568 (by omega) (by omega) (by omega)
      have ns572 : NS Z I190 Z I193 := NS_fr hF568 (by intro a k h; omega)
      have na573 : NA Z I190 Z I193 := NA_fr hF568 (by intro a k h; omega)
      have hr574 := RV_keep hr (NX.tr nx563 nx571)
      have hs575 := RS_keep hrs (NS.tr ns564 ns572)
      have hj576 := RJ_keep hrj (NS.tr ns564 ns572) NJ.rf
      have ht577 := RT_keep h hrt (NT.tr nt561 nt569)
      have ha578 := RA_keep hra (NA.tr na565 na573)
      exact ih Z I193 J rc rs (x3 + 6) h570 hr574 hs575 hj576 ht577 ha578 f1 f2 f3 f4
    · clear hwx e1 e2 e3 e4 e5 e6 s6 q1 q2 q3 q4 q5 q6 h0 hm h1 h2 h3 hc
      refine ⟨hv1, ?_⟩
      refine ⟨hv2, ?_⟩
      refine sfX11_waits h.1 h.2.1 h.2.2.1 (fun v198 I197 hW580 hF581 => ?_)
      have nt582 : NT Z I Z I197 := NT_fr h hF581 (by intro a k h; omega)
      have h583 := IV_x h hW580 hF581 (by intro a k h; omega)
      have nx584 : NX Z I Z I197 := NX_fr hF581 (by omega) (by omega) (by omega)
      have ns585 : NS Z I Z I197 := NS_fr hF581 (by intro a k h; omega)
      have na586 : NA Z I Z I197 := NA_fr hF581 (by intro a k h; omega)
      refine ⟨hv1, ?_⟩
      refine ⟨hv2, ?_⟩
      refine sfX12_waits h583.2.2.2.1 h583.2.2.2.2.1 (fun v202 I201 hW588 hF589 => ?_)
      have nt590 : NT Z I197 Z I201 := NT_fr h583 hF589 (by intro a k h; omega)
      have h591 := IV_m h583 hW588 hF589 (by intro a k h; omega)
      have nx592 : NX Z I197 Z I201 := NX_fr hF589 (by omega) (by omega) (by omega)
      have ns593 : NS Z I197 Z I201 := NS_fr hF589 (by intro a k h; omega)
      have na594 : NA Z I197 Z I201 := NA_fr hF589 (by intro a k h; omega)
      have hr595 := RV_keep hr (NX.tr nx584 nx592)
      have hs596 := RS_keep hrs (NS.tr ns585 ns593)
      have hj597 := RJ_keep hrj (NS.tr ns585 ns593) NJ.rf
      have ht598 := RT_keep h hrt (NT.tr nt582 nt590)
      have ha599 := RA_keep hra (NA.tr na586 na594)
      exact ih Z I201 J rc rs (x3 + 6) h591 hr595 hs596 hj597 ht598 ha599 f1 f2 f3 f4
    · clear hwx e1 e2 e3 e4 e5 e6 s6 q1 q2 q3 q4 q5 q6 h0 hm h1 h2 h3 hc
      refine ⟨hv1, ?_⟩
      refine sfX11_least h.1 h.2.2.1 (fun v205 I204 hW601 hF602 => ?_)
      have nt603 : NT Z I Z I204 := NT_fr h hF602 (by intro a k h; omega)
      have h604 := IV_x h hW601 hF602 (by intro a k h; omega)
      have nx605 : NX Z I Z I204 := NX_fr hF602 (by omega) (by omega) (by omega)
      have ns606 : NS Z I Z I204 := NS_fr hF602 (by intro a k h; omega)
      have na607 : NA Z I Z I204 := NA_fr hF602 (by intro a k h; omega)
      refine ⟨hv1, ?_⟩
      refine sfX12_least h604.2.2.2.1 h604.2.2.2.2.1 (fun v208 I207 hW609 hF610 => ?_)
      have nt611 : NT Z I204 Z I207 := NT_fr h604 hF610 (by intro a k h; omega)
      have h612 := IV_m h604 hW609 hF610 (by intro a k h; omega)
      have nx613 : NX Z I204 Z I207 := NX_fr hF610 (by omega) (by omega) (by omega)
      have ns614 : NS Z I204 Z I207 := NS_fr hF610 (by intro a k h; omega)
      have na615 : NA Z I204 Z I207 := NA_fr hF610 (by intro a k h; omega)
      have hr616 := RV_keep hr (NX.tr nx605 nx613)
      have hs617 := RS_keep hrs (NS.tr ns606 ns614)
      have hj618 := RJ_keep hrj (NS.tr ns606 ns614) NJ.rf
      have ht619 := RT_keep h hrt (NT.tr nt603 nt611)
      have ha620 := RA_keep hra (NA.tr na607 na615)
      exact ih Z I207 J rc rs (x3 + 6) h612 hr616 hs617 hj618 ht619 ha620 f1 f2 f3 f4
    · clear hwx e1 e2 e3 e4 e5 e6 s6 q1 q2 q3 q4 q5 q6 h0 hm h1 h2 h3 hc
      refine sfX11_head h.1 h.2.1 h.2.2.1 (fun v210 I209 hW622 hF623 => ?_)
      have nt624 : NT Z I Z I209 := NT_fr h hF623 (by intro a k h; omega)
      have h625 := IV_x h hW622 hF623 (by intro a k h; omega)
      have nx626 : NX Z I Z I209 := NX_fr hF623 (by omega) (by omega) (by omega)
      have ns627 : NS Z I Z I209 := NS_fr hF623 (by intro a k h; omega)
      have na628 : NA Z I Z I209 := NA_fr hF623 (by intro a k h; omega)
      refine sfX12_head h625.2.2.2.1 h625.2.2.2.2.1 (fun v212 I211 hW630 hF631 => ?_)
      have nt632 : NT Z I209 Z I211 := NT_fr h625 hF631 (by intro a k h; omega)
      have h633 := IV_m h625 hW630 hF631 (by intro a k h; omega)
      have nx634 : NX Z I209 Z I211 := NX_fr hF631 (by omega) (by omega) (by omega)
      have ns635 : NS Z I209 Z I211 := NS_fr hF631 (by intro a k h; omega)
      have na636 : NA Z I209 Z I211 := NA_fr hF631 (by intro a k h; omega)
      have hr637 := RV_keep hr (NX.tr nx626 nx634)
      have hs638 := RS_keep hrs (NS.tr ns627 ns635)
      have hj639 := RJ_keep hrj (NS.tr ns627 ns635) NJ.rf
      have ht640 := RT_keep h hrt (NT.tr nt624 nt632)
      have ha641 := RA_keep hra (NA.tr na628 na636)
      exact ih Z I211 J rc rs (x3 + 6) h633 hr637 hs638 hj639 ht640 ha641 f1 f2 f3 f4
    · clear hwx
      refine ⟨hv1, ?_⟩
      refine sfX11_days h.1 h.2.1 h.2.2.1 (fun v215 I214 hW643 hF644 => ?_)
      have nt645 : NT Z I Z I214 := NT_fr h hF644 (by intro a k h; omega)
      have h646 := IV_x h hW643 hF644 (by intro a k h; omega)
      have nx647 : NX Z I Z I214 := NX_fr hF644 (by omega) (by omega) (by omega)
      have ns648 : NS Z I Z I214 := NS_fr hF644 (by intro a k h; omega)
      have na649 : NA Z I Z I214 := NA_fr hF644 (by intro a k h; omega)
      refine ⟨hv1, ?_⟩
      have hfc := fC_le Z 45
      refine ⟨(fC Z 45), (fS Z 45), rc - 100, rs - 2100, by omega, by omega, ?_⟩
      refine qX12_days hG h646.2.2.2 (fun v652 Z217 I217 J217 hS650 => ⟨v652, rfl, (IV_s h646 hS650).1, hS650.1.1, ?_⟩)
      have h654 := IV_s h646 hS650
      have nx655 := NX_st h646 hS650 (by decide)
      have ns656 := NS_st h646 hS650
      have na657 := NA_st h646 hS650
      have nj658 := NJ_st h646 hS650
      have nt659 := NT_st h646 hS650 (by decide)
      have hr660 := RV_keep hr (NX.tr nx647 nx655)
      have hs661 := RS_keep hrs (NS.tr ns648 ns656)
      have hj662 := RJ_keep hrj (NS.tr ns648 ns656) nj658
      have ht663 := RT_keep h hrt (NT.tr nt645 nt659)
      have ha664 := RA_keep hra (NA.tr na649 na657)
      exact ih Z217 I217 J217 (rc - 100) (rs - 2100) (x3 + 6) h654 hr660 hs661 hj662 ht663 ha664 (by omega) (by omega) (by omega) (by omega)
    · clear hwx
      refine ⟨hv1, ?_⟩
      refine sfX11_ever h.1 h.2.2.1 (fun v220 I219 hW666 hF667 => ?_)
      have nt668 : NT Z I Z I219 := NT_fr h hF667 (by intro a k h; omega)
      have h669 := IV_x h hW666 hF667 (by intro a k h; omega)
      have nx670 : NX Z I Z I219 := NX_fr hF667 (by omega) (by omega) (by omega)
      have ns671 : NS Z I Z I219 := NS_fr hF667 (by intro a k h; omega)
      have na672 : NA Z I Z I219 := NA_fr hF667 (by intro a k h; omega)
      refine ⟨hv1, ?_⟩
      refine ⟨1, 40, rc - 100, rs - 2100, by omega, by omega, ?_⟩
      refine qX12_ever h669.2.2.2 (fun v675 Z222 I222 J222 hS673 => ⟨v675, rfl, (IV_s h669 hS673).1, hS673.1.1, ?_⟩)
      have h677 := IV_s h669 hS673
      have nx678 := NX_st h669 hS673 (by decide)
      have ns679 := NS_st h669 hS673
      have na680 := NA_st h669 hS673
      have nj681 := NJ_st h669 hS673
      have nt682 := NT_st h669 hS673 (by decide)
      have hr683 := RV_keep hr (NX.tr nx670 nx678)
      have hs684 := RS_keep hrs (NS.tr ns671 ns679)
      have hj685 := RJ_keep hrj (NS.tr ns671 ns679) nj681
      have ht686 := RT_keep h hrt (NT.tr nt668 nt682)
      have ha687 := RA_keep hra (NA.tr na672 na680)
      exact ih Z222 I222 J222 (rc - 100) (rs - 2100) (x3 + 6) h677 hr683 hs684 hj685 ht686 ha687 (by omega) (by omega) (by omega) (by omega)
    · clear hwx
      refine sfX11_hire h.1 h.2.2.1 (fun v224 I223 hW689 hF690 => ?_)
      have nt691 : NT Z I Z I223 := NT_fr h hF690 (by intro a k h; omega)
      have h692 := IV_x h hW689 hF690 (by intro a k h; omega)
      have nx693 : NX Z I Z I223 := NX_fr hF690 (by omega) (by omega) (by omega)
      have ns694 : NS Z I Z I223 := NS_fr hF690 (by intro a k h; omega)
      have na695 : NA Z I Z I223 := NA_fr hF690 (by intro a k h; omega)
      have hfc := fC_le Z 45
      refine ⟨(fC Z 45), (fS Z 45), rc - 100, rs - 2100, by omega, by omega, ?_⟩
      refine qX12_hire hG h692.2.2.2 (fun v698 Z225 I225 J225 hS696 => ⟨v698, rfl, (IV_s h692 hS696).1, hS696.1.1, ?_⟩)
      have h700 := IV_s h692 hS696
      have nx701 := NX_st h692 hS696 (by decide)
      have ns702 := NS_st h692 hS696
      have na703 := NA_st h692 hS696
      have nj704 := NJ_st h692 hS696
      have nt705 := NT_st h692 hS696 (by decide)
      have hr706 := RV_keep hr (NX.tr nx693 nx701)
      have hs707 := RS_keep hrs (NS.tr ns694 ns702)
      have hj708 := RJ_keep hrj (NS.tr ns694 ns702) nj704
      have ht709 := RT_keep h hrt (NT.tr nt691 nt705)
      have ha710 := RA_keep hra (NA.tr na695 na703)
      exact ih Z225 I225 J225 (rc - 100) (rs - 2100) (x3 + 6) h700 hr706 hs707 hj708 ht709 ha710 (by omega) (by omega) (by omega) (by omega)
    · clear hwx
      refine ⟨hv1, ?_⟩
      refine sfX11_feast h.1 h.2.2.1 (fun v228 I227 hW712 hF713 => ?_)
      have nt714 : NT Z I Z I227 := NT_fr h hF713 (by intro a k h; omega)
      have h715 := IV_x h hW712 hF713 (by intro a k h; omega)
      have nx716 : NX Z I Z I227 := NX_fr hF713 (by omega) (by omega) (by omega)
      have ns717 : NS Z I Z I227 := NS_fr hF713 (by intro a k h; omega)
      have na718 : NA Z I Z I227 := NA_fr hF713 (by intro a k h; omega)
      refine ⟨hv1, ?_⟩
      refine ⟨40, 2026, rc - 100, rs - 2100, by omega, by omega, ?_⟩
      refine qX12_feast hG h715.2.2.2 (fun v721 Z230 I230 J230 hS719 => ⟨v721, rfl, (IV_s h715 hS719).1, hS719.1.1, ?_⟩)
      have h723 := IV_s h715 hS719
      have nx724 := NX_st h715 hS719 (by decide)
      have ns725 := NS_st h715 hS719
      have na726 := NA_st h715 hS719
      have nj727 := NJ_st h715 hS719
      have nt728 := NT_st h715 hS719 (by decide)
      have hr729 := RV_keep hr (NX.tr nx716 nx724)
      have hs730 := RS_keep hrs (NS.tr ns717 ns725)
      have hj731 := RJ_keep hrj (NS.tr ns717 ns725) nj727
      have ht732 := RT_keep h hrt (NT.tr nt714 nt728)
      have ha733 := RA_keep hra (NA.tr na718 na726)
      exact ih Z230 I230 J230 (rc - 100) (rs - 2100) (x3 + 6) h723 hr729 hs730 hj731 ht732 ha733 (by omega) (by omega) (by omega) (by omega)
    · clear hwx
      refine ⟨hv1, ?_⟩
      refine ⟨hv2, ?_⟩
      refine sfX11_closes h.1 h.2.2.1 (fun v234 I233 hW735 hF736 => ?_)
      have nt737 : NT Z I Z I233 := NT_fr h hF736 (by intro a k h; omega)
      have h738 := IV_x h hW735 hF736 (by intro a k h; omega)
      have nx739 : NX Z I Z I233 := NX_fr hF736 (by omega) (by omega) (by omega)
      have ns740 : NS Z I Z I233 := NS_fr hF736 (by intro a k h; omega)
      have na741 : NA Z I Z I233 := NA_fr hF736 (by intro a k h; omega)
      refine ⟨hv1, ?_⟩
      refine ⟨hv2, ?_⟩
      have hfc := fC_le Z 45
      refine ⟨(fC Z 45), (fS Z 45), rc - 100, rs - 2100, by omega, by omega, ?_⟩
      refine qX12_closes hG h738.2.2.2 (fun v744 Z237 I237 J237 hS742 => ⟨v744, rfl, (IV_s h738 hS742).1, hS742.1.1, ?_⟩)
      have h746 := IV_s h738 hS742
      have nx747 := NX_st h738 hS742 (by decide)
      have ns748 := NS_st h738 hS742
      have na749 := NA_st h738 hS742
      have nj750 := NJ_st h738 hS742
      have nt751 := NT_st h738 hS742 (by decide)
      have hr752 := RV_keep hr (NX.tr nx739 nx747)
      have hs753 := RS_keep hrs (NS.tr ns740 ns748)
      have hj754 := RJ_keep hrj (NS.tr ns740 ns748) nj750
      have ht755 := RT_keep h hrt (NT.tr nt737 nt751)
      have ha756 := RA_keep hra (NA.tr na741 na749)
      exact ih Z237 I237 J237 (rc - 100) (rs - 2100) (x3 + 6) h746 hr752 hs753 hj754 ht755 ha756 (by omega) (by omega) (by omega) (by omega)
    · clear hwx
      refine sfX11_worst h.1 h.2.2.1 (fun v239 I238 hW758 hF759 => ?_)
      have nt760 : NT Z I Z I238 := NT_fr h hF759 (by intro a k h; omega)
      have h761 := IV_x h hW758 hF759 (by intro a k h; omega)
      have nx762 : NX Z I Z I238 := NX_fr hF759 (by omega) (by omega) (by omega)
      have ns763 : NS Z I Z I238 := NS_fr hF759 (by intro a k h; omega)
      have na764 : NA Z I Z I238 := NA_fr hF759 (by intro a k h; omega)
      have hfc := fC_le Z 45
      refine ⟨(fC Z 45), (fS Z 45), rc - 100, rs - 2100, by omega, by omega, ?_⟩
      refine qX12_worst hG h761.2.2.2 (fun v767 Z240 I240 J240 hS765 => ⟨v767, rfl, (IV_s h761 hS765).1, hS765.1.1, ?_⟩)
      have h769 := IV_s h761 hS765
      have nx770 := NX_st h761 hS765 (by decide)
      have ns771 := NS_st h761 hS765
      have na772 := NA_st h761 hS765
      have nj773 := NJ_st h761 hS765
      have nt774 := NT_st h761 hS765 (by decide)
      have hr775 := RV_keep hr (NX.tr nx762 nx770)
      have hs776 := RS_keep hrs (NS.tr ns763 ns771)
      have hj777 := RJ_keep hrj (NS.tr ns763 ns771) nj773
      have ht778 := RT_keep h hrt (NT.tr nt760 nt774)
      have ha779 := RA_keep hra (NA.tr na764 na772)
      exact ih Z240 I240 J240 (rc - 100) (rs - 2100) (x3 + 6) h769 hr775 hs776 hj777 ht778 ha779 (by omega) (by omega) (by omega) (by omega)
    · clear hwx
      refine ⟨hv1, ?_⟩
      refine sfX11_fits h.1 h.2.2.1 (fun v243 I242 hW781 hF782 => ?_)
      have nt783 : NT Z I Z I242 := NT_fr h hF782 (by intro a k h; omega)
      have h784 := IV_x h hW781 hF782 (by intro a k h; omega)
      have nx785 : NX Z I Z I242 := NX_fr hF782 (by omega) (by omega) (by omega)
      have ns786 : NS Z I Z I242 := NS_fr hF782 (by intro a k h; omega)
      have na787 : NA Z I Z I242 := NA_fr hF782 (by intro a k h; omega)
      refine ⟨hv1, ?_⟩
      have hfc := fC_le Z 45
      refine ⟨(fC Z 45), (fS Z 45), rc - 100, rs - 2100, by omega, by omega, ?_⟩
      refine qX12_fits hG h784.2.2.2 (fun v790 Z245 I245 J245 hS788 => ⟨v790, rfl, (IV_s h784 hS788).1, hS788.1.1, ?_⟩)
      have h792 := IV_s h784 hS788
      have nx793 := NX_st h784 hS788 (by decide)
      have ns794 := NS_st h784 hS788
      have na795 := NA_st h784 hS788
      have nj796 := NJ_st h784 hS788
      have nt797 := NT_st h784 hS788 (by decide)
      have hr798 := RV_keep hr (NX.tr nx785 nx793)
      have hs799 := RS_keep hrs (NS.tr ns786 ns794)
      have hj800 := RJ_keep hrj (NS.tr ns786 ns794) nj796
      have ht801 := RT_keep h hrt (NT.tr nt783 nt797)
      have ha802 := RA_keep hra (NA.tr na787 na795)
      exact ih Z245 I245 J245 (rc - 100) (rs - 2100) (x3 + 6) h792 hr798 hs799 hj800 ht801 ha802 (by omega) (by omega) (by omega) (by omega)
    · clear hwx
      refine ⟨hv1, ?_⟩
      refine sfX11_sure h.1 h.2.2.1 (fun v248 I247 hW804 hF805 => ?_)
      have nt806 : NT Z I Z I247 := NT_fr h hF805 (by intro a k h; omega)
      have h807 := IV_x h hW804 hF805 (by intro a k h; omega)
      have nx808 : NX Z I Z I247 := NX_fr hF805 (by omega) (by omega) (by omega)
      have ns809 : NS Z I Z I247 := NS_fr hF805 (by intro a k h; omega)
      have na810 : NA Z I Z I247 := NA_fr hF805 (by intro a k h; omega)
      refine ⟨hv1, ?_⟩
      have hfc := fC_le Z 45
      refine ⟨(fC Z 45), (fS Z 45), rc - 100, rs - 2100, by omega, by omega, ?_⟩
      refine qX12_sure hG h807.2.2.2 (fun v813 Z250 I250 J250 hS811 => ⟨v813, rfl, (IV_s h807 hS811).1, hS811.1.1, ?_⟩)
      have h815 := IV_s h807 hS811
      have nx816 := NX_st h807 hS811 (by decide)
      have ns817 := NS_st h807 hS811
      have na818 := NA_st h807 hS811
      have nj819 := NJ_st h807 hS811
      have nt820 := NT_st h807 hS811 (by decide)
      have hr821 := RV_keep hr (NX.tr nx808 nx816)
      have hs822 := RS_keep hrs (NS.tr ns809 ns817)
      have hj823 := RJ_keep hrj (NS.tr ns809 ns817) nj819
      have ht824 := RT_keep h hrt (NT.tr nt806 nt820)
      have ha825 := RA_keep hra (NA.tr na810 na818)
      exact ih Z250 I250 J250 (rc - 100) (rs - 2100) (x3 + 6) h815 hr821 hs822 hj823 ht824 ha825 (by omega) (by omega) (by omega) (by omega)
    · clear hwx e1 e2 e3 e4 e5 e6 s6 q1 q2 q3 q4 q5 q6 h0 hm h1 h2 h3 hc
      refine ⟨hv1, ?_⟩
      refine ⟨hv2, ?_⟩
      refine sfX11_judge h.1 h.2.2.1 (fun v254 I253 hW827 hF828 => ?_)
      have nt829 : NT Z I Z I253 := NT_fr h hF828 (by intro a k h; omega)
      have h830 := IV_x h hW827 hF828 (by intro a k h; omega)
      have nx831 : NX Z I Z I253 := NX_fr hF828 (by omega) (by omega) (by omega)
      have ns832 : NS Z I Z I253 := NS_fr hF828 (by intro a k h; omega)
      have na833 : NA Z I Z I253 := NA_fr hF828 (by intro a k h; omega)
      refine ⟨hv1, ?_⟩
      refine ⟨hv2, ?_⟩
      refine sfX12_judge h830.2.2.2.1 h830.2.2.2.2.1 (fun v258 I257 hW835 hF836 => ?_)
      have nt837 : NT Z I253 Z I257 := NT_fr h830 hF836 (by intro a k h; omega)
      have h838 := IV_m h830 hW835 hF836 (by intro a k h; omega)
      have nx839 : NX Z I253 Z I257 := NX_fr hF836 (by omega) (by omega) (by omega)
      have ns840 : NS Z I253 Z I257 := NS_fr hF836 (by intro a k h; omega)
      have na841 : NA Z I253 Z I257 := NA_fr hF836 (by intro a k h; omega)
      have hr842 := RV_keep hr (NX.tr nx831 nx839)
      have hs843 := RS_keep hrs (NS.tr ns832 ns840)
      have hj844 := RJ_keep hrj (NS.tr ns832 ns840) NJ.rf
      have ht845 := RT_keep h hrt (NT.tr nt829 nt837)
      have ha846 := RA_keep hra (NA.tr na833 na841)
      exact ih Z I257 J rc rs (x3 + 6) h838 hr842 hs843 hj844 ht845 ha846 f1 f2 f3 f4
    · clear hwx
      refine ⟨hv1, ?_⟩
      refine ⟨hv2, ?_⟩
      refine ⟨hv3, ?_⟩
      refine sfX11_behind h.1 h.2.2.1 (fun v263 I262 hW848 hF849 => ?_)
      have nt850 : NT Z I Z I262 := NT_fr h hF849 (by intro a k h; omega)
      have h851 := IV_x h hW848 hF849 (by intro a k h; omega)
      have nx852 : NX Z I Z I262 := NX_fr hF849 (by omega) (by omega) (by omega)
      have ns853 : NS Z I Z I262 := NS_fr hF849 (by intro a k h; omega)
      have na854 : NA Z I Z I262 := NA_fr hF849 (by intro a k h; omega)
      refine ⟨hv1, ?_⟩
      refine ⟨hv2, ?_⟩
      refine ⟨hv3, ?_⟩
      have hfc := fC_le Z 45
      refine ⟨(fC Z 45), (fS Z 45), rc - 100, rs - 2100, by omega, by omega, ?_⟩
      refine qX12_behind hG h851.2.2.2 (fun v857 Z267 I267 J267 hS855 => ⟨v857, rfl, (IV_s h851 hS855).1, hS855.1.1, ?_⟩)
      have h859 := IV_s h851 hS855
      have nx860 := NX_st h851 hS855 (by decide)
      have ns861 := NS_st h851 hS855
      have na862 := NA_st h851 hS855
      have nj863 := NJ_st h851 hS855
      have nt864 := NT_st h851 hS855 (by decide)
      have hr865 := RV_keep hr (NX.tr nx852 nx860)
      have hs866 := RS_keep hrs (NS.tr ns853 ns861)
      have hj867 := RJ_keep hrj (NS.tr ns853 ns861) nj863
      have ht868 := RT_keep h hrt (NT.tr nt850 nt864)
      have ha869 := RA_keep hra (NA.tr na854 na862)
      exact ih Z267 I267 J267 (rc - 100) (rs - 2100) (x3 + 6) h859 hr865 hs866 hj867 ht868 ha869 (by omega) (by omega) (by omega) (by omega)
    · clear hwx e1 e2 e3 e4 e5 e6 s6 q1 q2 q3 q4 q5 q6 h0 hm h1 h2 h3 hc
      refine ⟨hv1, ?_⟩
      refine ⟨hv2, ?_⟩
      refine pX11_rides h.1 h.2.1 h.2.2.1 ht1 hok (fun v271 I270 hW871 hF872 hp870 => ?_)
      have tm873 := TM_fr ht2 (show s.1.1 ≤ 8 by omega) hF872 (by omega) (by omega) (by omega) (by omega) (by intro a k h1 h2 h3; omega)
      have rk874 := RK_fr h hrt.2.2 hF872 (by intro a k h; omega)
      have tp875 := TP_fr hrt.1 hF872 (by intro a k h; omega)
      have h876 := IV_x h hW871 hF872 (by intro a k h; omega)
      have nx877 : NX Z I Z I270 := NX_fr hF872 (by omega) (by omega) (by omega)
      have ns878 : NS Z I Z I270 := NS_fr hF872 (by intro a k h; omega)
      have na879 : NA Z I Z I270 := NA_fr hF872 (by intro a k h; omega)
      refine ⟨hv1, ?_⟩
      refine ⟨hv2, ?_⟩
      refine pX12_rides h876.2.2.2.1 h876.2.2.2.2.1 tm873 (fun v275 I274 hW881 hF882 hp880 => ?_)
      have rk883 := RK_fr h876 rk874 hF882 (by intro a k h; omega)
      have tp884 := TP_fr tp875 hF882 (by intro a k h; omega)
      have h885 := IV_m h876 hW881 hF882 (by intro a k h; omega)
      have nx886 : NX Z I270 Z I274 := NX_fr hF882 (by omega) (by omega) (by omega)
      have ns887 : NS Z I270 Z I274 := NS_fr hF882 (by intro a k h; omega)
      have na888 : NA Z I270 Z I274 := NA_fr hF882 (by intro a k h; omega)
      have hr889 := RV_keep hr (NX.tr nx877 nx886)
      have hs890 := RS_keep hrs (NS.tr ns878 ns887)
      have hj891 := RJ_keep hrj (NS.tr ns878 ns887) NJ.rf
      have hte := TOLD_eq (x1 := (xs (Int32.toNatClampNeg (x3 + 1)))) (x2 := (xs (Int32.toNatClampNeg (x3 + 2)))) hrs hrj (fun k => hF872 (45 + 1) k (by omega)) (fun k => hF872 (45 + 3) k (by omega))
      rw [hte.1, oRides_c (fun q j hj => hte.2 q j (by have := tX_0 q; omega))] at hp880
      have ht892 : RT Z I274 := ⟨tp884, ⟨_, oRides_ok hok, TX_fr hp870.2 hF882 (by intro a k h1 h2; omega), hp880.2⟩, rk883⟩
      have ha893 := RA_keep hra (NA.tr na879 na888)
      exact ih Z I274 J rc rs (x3 + 6) h885 hr889 hs890 hj891 ht892 ha893 f1 f2 f3 f4
    · clear hwx e1 e2 e3 e4 e5 e6 s6 q1 q2 q3 q4 q5 q6 h0 hm h1 h2 h3 hc
      refine ⟨hv1, ?_⟩
      refine pX11_day h.1 h.2.1 (RA_hi hra) h.2.2.1 ht1 hok (fun v278 I277 hW895 hF896 hp894 => ?_)
      have tm897 := TM_fr ht2 (show s.1.1 ≤ 8 by omega) hF896 (by omega) (by omega) (by omega) (by omega) (by intro a k h1 h2 h3; omega)
      have rk898 := RK_fr h hrt.2.2 hF896 (by intro a k h; omega)
      have tp899 := TP_fr hrt.1 hF896 (by intro a k h; omega)
      have h900 := IV_x h hW895 hF896 (by intro a k h; omega)
      have nx901 : NX Z I Z I277 := NX_fr hF896 (by omega) (by omega) (by omega)
      have ns902 : NS Z I Z I277 := NS_fr hF896 (by intro a k h; omega)
      have na903 : NA Z I Z I277 := NA_fr hF896 (by intro a k h; omega)
      refine ⟨hv1, ?_⟩
      refine pX12_day h900.2.2.2.1 h900.2.2.2.2.1 tm897 hok (fun v281 I280 hW905 hF906 hp904 => ?_)
      have rk907 := RK_fr h900 rk898 hF906 (by intro a k h; omega)
      have tp908 := TP_fr tp899 hF906 (by intro a k h; omega)
      have h909 := IV_m h900 hW905 hF906 (by intro a k h; omega)
      have nx910 : NX Z I277 Z I280 := NX_fr hF906 (by omega) (by omega) (by omega)
      have ns911 : NS Z I277 Z I280 := NS_fr hF906 (by intro a k h; omega)
      have na912 : NA Z I277 Z I280 := NA_fr hF906 (by intro a k h; omega)
      have hr913 := RV_keep hr (NX.tr nx901 nx910)
      have hs914 := RS_keep hrs (NS.tr ns902 ns911)
      have hj915 := RJ_keep hrj (NS.tr ns902 ns911) NJ.rf
      have hme := MAN_eq (x := (xs (Int32.toNatClampNeg (x3 + 1)))) hrs hra (fun k => hF896 (45 + 1) k (by omega)) (fun k => hF896 (45 + 14) k (by omega)) (fun k => hF896 (45 + 15) k (by omega))
      rw [hme.1, oDay_c hme.2] at hp904
      have ht916 : RT Z I280 := ⟨tp908, ⟨_, oDay_ok hok, TX_fr hp894.2 hF906 (by intro a k h1 h2; omega), hp904.2⟩, rk907⟩
      have ha917 := RA_keep hra (NA.tr na903 na912)
      exact ih Z I280 J rc rs (x3 + 6) h909 hr913 hs914 hj915 ht916 ha917 f1 f2 f3 f4
    · clear hwx e1 e2 e3 e4 e5 e6 s6 q1 q2 q3 q4 q5 q6 h0 hm h1 h2 h3 hc
      refine ⟨hv1, ?_⟩
      refine pX11_meet h.1 h.2.2.1 ht1 (fun v284 I283 hW919 hF920 hp918 => ?_)
      have tm921 := TM_fr ht2 (show s.1.1 ≤ 8 by omega) hF920 (by omega) (by omega) (by omega) (by omega) (by intro a k h1 h2 h3; omega)
      have rk922 := RK_fr h hrt.2.2 hF920 (by intro a k h; omega)
      have tp923 := TP_fr hrt.1 hF920 (by intro a k h; omega)
      have h924 := IV_x h hW919 hF920 (by intro a k h; omega)
      have nx925 : NX Z I Z I283 := NX_fr hF920 (by omega) (by omega) (by omega)
      have ns926 : NS Z I Z I283 := NS_fr hF920 (by intro a k h; omega)
      have na927 : NA Z I Z I283 := NA_fr hF920 (by intro a k h; omega)
      refine ⟨hv1, ?_⟩
      refine pX12_meet h924.2.2.2.1 h924.2.2.2.2.1 tm921 (fun v287 I286 hW929 hF930 hp928 => ?_)
      have rk931 := RK_fr h924 rk922 hF930 (by intro a k h; omega)
      have tp932 := TP_fr tp923 hF930 (by intro a k h; omega)
      have h933 := IV_m h924 hW929 hF930 (by intro a k h; omega)
      have nx934 : NX Z I283 Z I286 := NX_fr hF930 (by omega) (by omega) (by omega)
      have ns935 : NS Z I283 Z I286 := NS_fr hF930 (by intro a k h; omega)
      have na936 : NA Z I283 Z I286 := NA_fr hF930 (by intro a k h; omega)
      have hr937 := RV_keep hr (NX.tr nx925 nx934)
      have hs938 := RS_keep hrs (NS.tr ns926 ns935)
      have hj939 := RJ_keep hrj (NS.tr ns926 ns935) NJ.rf
      have ht940 : RT Z I286 := ⟨tp932, ⟨_, oMeet_ok hok, TX_fr hp918.2 hF930 (by intro a k h1 h2; omega), hp928.2⟩, rk931⟩
      have ha941 := RA_keep hra (NA.tr na927 na936)
      exact ih Z I286 J rc rs (x3 + 6) h933 hr937 hs938 hj939 ht940 ha941 f1 f2 f3 f4
    · clear hwx e1 e2 e3 e4 e5 e6 s6 q1 q2 q3 q4 q5 q6 h0 hm h1 h2 h3 hc
      refine pX11_year h.1 h.2.2.1 ht1 hok (fun v289 I288 hW943 hF944 hp942 => ?_)
      have tm945 := TM_fr ht2 (show s.1.1 ≤ 8 by omega) hF944 (by omega) (by omega) (by omega) (by omega) (by intro a k h1 h2 h3; omega)
      have rk946 := RK_fr h hrt.2.2 hF944 (by intro a k h; omega)
      have tp947 := TP_fr hrt.1 hF944 (by intro a k h; omega)
      have h948 := IV_x h hW943 hF944 (by intro a k h; omega)
      have nx949 : NX Z I Z I288 := NX_fr hF944 (by omega) (by omega) (by omega)
      have ns950 : NS Z I Z I288 := NS_fr hF944 (by intro a k h; omega)
      have na951 : NA Z I Z I288 := NA_fr hF944 (by intro a k h; omega)
      refine pX12_year h948.2.2.2.1 h948.2.2.2.2.1 tm945 hok (fun v291 I290 hW953 hF954 hp952 => ?_)
      have rk955 := RK_fr h948 rk946 hF954 (by intro a k h; omega)
      have tp956 := TP_fr tp947 hF954 (by intro a k h; omega)
      have h957 := IV_m h948 hW953 hF954 (by intro a k h; omega)
      have nx958 : NX Z I288 Z I290 := NX_fr hF954 (by omega) (by omega) (by omega)
      have ns959 : NS Z I288 Z I290 := NS_fr hF954 (by intro a k h; omega)
      have na960 : NA Z I288 Z I290 := NA_fr hF954 (by intro a k h; omega)
      have hr961 := RV_keep hr (NX.tr nx949 nx958)
      have hs962 := RS_keep hrs (NS.tr ns950 ns959)
      have hj963 := RJ_keep hrj (NS.tr ns950 ns959) NJ.rf
      have ht964 : RT Z I290 := ⟨tp956, ⟨_, oYear_ok hok, TX_fr hp942.2 hF954 (by intro a k h1 h2; omega), hp952.2⟩, rk955⟩
      have ha965 := RA_keep hra (NA.tr na951 na960)
      exact ih Z I290 J rc rs (x3 + 6) h957 hr961 hs962 hj963 ht964 ha965 f1 f2 f3 f4
    · skip
      refine ⟨hv1, ?_⟩
      refine pX11_come h.1 h.2.2.1 ht1 (fun v294 I293 hW967 hF968 hp966 => ?_)
      have tm969 := TM_fr ht2 (show s.1.1 ≤ 8 by omega) hF968 (by omega) (by omega) (by omega) (by omega) (by intro a k h1 h2 h3; omega)
      have rk970 := RK_fr h hrt.2.2 hF968 (by intro a k h; omega)
      have tp971 := TP_fr hrt.1 hF968 (by intro a k h; omega)
      have h972 := IV_x h hW967 hF968 (by intro a k h; omega)
      have nx973 : NX Z I Z I293 := NX_fr hF968 (by omega) (by omega) (by omega)
      have ns974 : NS Z I Z I293 := NS_fr hF968 (by intro a k h; omega)
      have na975 : NA Z I Z I293 := NA_fr hF968 (by intro a k h; omega)
      refine ⟨hv1, ?_⟩
      refine pX12_come h972.2.2.2.1 h972.2.2.2.2.1 tm969 (fun v297 I296 hW977 hF978 hp976 => ?_)
      have rk979 := RK_fr h972 rk970 hF978 (by intro a k h; omega)
      have tp980 := TP_fr tp971 hF978 (by intro a k h; omega)
      have h981 := IV_m h972 hW977 hF978 (by intro a k h; omega)
      have nx982 : NX Z I293 Z I296 := NX_fr hF978 (by omega) (by omega) (by omega)
      have ns983 : NS Z I293 Z I296 := NS_fr hF978 (by intro a k h; omega)
      have na984 : NA Z I293 Z I296 := NA_fr hF978 (by intro a k h; omega)
      refine ⟨fun hc985 => ?_, fun hc986 => ?_⟩
      · skip
        have hr987 := RV_keep hr (NX.tr nx973 nx982)
        have hs988 := RS_keep hrs (NS.tr ns974 ns983)
        have hj989 := RJ_keep hrj (NS.tr ns974 ns983) NJ.rf
        have ht990 : RT Z I296 := ⟨tp980, ⟨_, oCome_ok hok, TX_fr hp966.2 hF978 (by intro a k h1 h2; omega), hp976.2⟩, rk979⟩
        have ha991 := RA_keep hra (NA.tr na975 na984)
        exact ih Z I296 J rc rs (x3 + 6) h981 hr987 hs988 hj989 ht990 ha991 (by omega) (by omega) (by omega) (by omega)
      · skip
        exact hc986 (Int32.toInt_inj.mp (hp966.1.trans hp976.1.symm))
    · clear hwx e1 e2 e3 e4 e5 e6 s6 q1 q2 q3 q4 q5 q6 h0 hm h1 h2 h3 hc
      refine ⟨hv1, ?_⟩
      refine fsfX11_seed h.1 h.2.2.1 ht1 (fun v300 I299 hW993 hF994 hp992 => ?_)
      have tm995 := TM_fr ht2 (show s.1.1 ≤ 8 by omega) hF994 (by omega) (by omega) (by omega) (by omega) (by intro a k h1 h2 h3; omega)
      have rk996 := RK_fr h hrt.2.2 hF994 (by intro a k h; omega)
      have tp997 := TP_fr hrt.1 hF994 (by intro a k h; omega)
      have h998 := IV_x h hW993 hF994 (by intro a k h; omega)
      have nx999 : NX Z I Z I299 := NX_fr hF994 (by omega) (by omega) (by omega)
      have ns1000 : NS Z I Z I299 := NS_fr hF994 (by intro a k h; omega)
      have na1001 : NA Z I Z I299 := NA_fr hF994 (by intro a k h; omega)
      refine ⟨hv1, ?_⟩
      refine fsfX12_seed h998.2.2.2.1 h998.2.2.2.2.1 tm995 (fun v303 I302 hW1003 hF1004 hp1002 => ?_)
      have rk1005 := RK_fr h998 rk996 hF1004 (by intro a k h; omega)
      have tp1006 := TP_fr tp997 hF1004 (by intro a k h; omega)
      have h1007 := IV_m h998 hW1003 hF1004 (by intro a k h; omega)
      have nx1008 : NX Z I299 Z I302 := NX_fr hF1004 (by omega) (by omega) (by omega)
      have ns1009 : NS Z I299 Z I302 := NS_fr hF1004 (by intro a k h; omega)
      have na1010 : NA Z I299 Z I302 := NA_fr hF1004 (by intro a k h; omega)
      have hr1011 := RV_keep hr (NX.tr nx999 nx1008)
      have hs1012 := RS_keep hrs (NS.tr ns1000 ns1009)
      have hj1013 := RJ_keep hrj (NS.tr ns1000 ns1009) NJ.rf
      have ht1014 : RT Z I302 := ⟨tp1006, ⟨_, oSeed_ok hok, TX_fr hp992.2 hF1004 (by intro a k h1 h2; omega), hp1002.2⟩, rk1005⟩
      have ha1015 := RA_keep hra (NA.tr na1001 na1010)
      exact ih Z I302 J rc rs (x3 + 6) h1007 hr1011 hs1012 hj1013 ht1014 ha1015 f1 f2 f3 f4
    · clear hwx
      refine pX11_image h.1 h.2.2.1 ht1 (fun v305 I304 hW1017 hF1018 hp1016 pI1019 => ?_)
      have tm1020 := TM_fr ht2 (show s.1.1 ≤ 8 by omega) hF1018 (by omega) (by omega) (by omega) (by omega) (by intro a k h1 h2 h3; omega)
      have tp1021 := TP_fr hrt.1 hF1018 (by intro a k h; omega)
      have h1022 := IV_x h hW1017 hF1018 (by intro a k h; omega)
      have e25 := congrArg Int32.toInt (hF1018 25 1 (by omega))
      have e458 := congrArg Int32.toInt (hF1018 45 8 (by omega))
      have ns1023 : NS Z I Z I304 := NS_fr hF1018 (by intro a k h; omega)
      have na1024 : NA Z I Z I304 := NA_fr hF1018 (by intro a k h; omega)
      refine ⟨38, 1946, rc - 100, rs - 2100, by omega, by omega, ?_⟩
      refine qX12_image hG h1022.2.2.2 (fun Z306 I306 J306 hS1025 hpi hFi => ⟨1, rfl, (IV_s h1022 hS1025).1, hS1025.1.1, ?_⟩)
      have h1029 := IV_s h1022 hS1025
      have m25 := congrArg Int32.toInt (hS1025.2.2.2.2.1 25 1 (by omega))
      have m458 := congrArg Int32.toInt (hS1025.2.2.2.2.1 45 8 (by omega))
      have m08 := congrArg Int32.toInt (hS1025.2.2.2.2.1 0 8 (by omega))
      have ns1030 := NS_st h1022 hS1025
      have na1031 := NA_st h1022 hS1025
      have nj1032 := NJ_st h1022 hS1025
      have hr1033 : RV Z306 I306 := ⟨by omega, ⟨fun q => absurd q (by omega), fun q => by obtain ⟨w9, hw9, _⟩ := hpi; rw [hw9] at q; cases q⟩⟩
      have hs1034 := RS_keep hrs (NS.tr ns1023 ns1030)
      have hj1035 := RJ_keep hrj (NS.tr ns1023 ns1030) nj1032
      obtain ⟨w9, hw9, c1, c2, c3⟩ := hpi
      have ht1036 : RT Z306 I306 := ⟨TP_fr tp1021 hFi (by intro a k h; omega), ⟨s, hok, TX_fr (TX_fr ht1 hF1018 (by intro a k h1 h2; omega)) hFi (by intro a k h1 h2; omega), TM_fr tm1020 (show s.1.1 ≤ 8 by omega) hFi (by omega) (by omega) (by omega) (by omega) (by intro a k h1 h2 h3; omega)⟩, fun u hu => by rw [hw9] at hu; cases hu; exact ⟨s, hok, TX_fr pI1019 hFi (by intro a k h1 h2; omega), RM_cm tm1020.1 (show s.1.1 ≤ 8 by omega) c3, by rw [c3.2.2.2 19 (by decide) (by decide)]; exact tm1020.2⟩⟩
      have ha1037 := RA_keep hra (NA.tr na1024 na1031)
      exact ih Z306 I306 J306 (rc - 100) (rs - 2100) (x3 + 6) h1029 hr1033 hs1034 hj1035 ht1036 ha1037 (by omega) (by omega) (by omega) (by omega)
    · clear hwx e1 e2 e3 e4 e5 e6 s6 q1 q2 q3 q4 q5 q6 h0 hm h1 h2 h3 hc
      refine pX11_back h.1 h.2.2.1 (fun v308 I307 hW1039 hF1040 hp1038 pB1041 pB1042 => ?_)
      have tm1043 := TM_fr ht2 (show s.1.1 ≤ 8 by omega) hF1040 (by omega) (by omega) (by omega) (by omega) (by intro a k h1 h2 h3; omega)
      have rk1044 := RK_fr h hrt.2.2 hF1040 (by intro a k h; omega)
      have tp1045 := TP_fr hrt.1 hF1040 (by intro a k h; omega)
      have h1046 := IV_x h hW1039 hF1040 (by intro a k h; omega)
      have nx1047 : NX Z I Z I307 := NX_fr hF1040 (by omega) (by omega) (by omega)
      have ns1048 : NS Z I Z I307 := NS_fr hF1040 (by intro a k h; omega)
      have na1049 : NA Z I Z I307 := NA_fr hF1040 (by intro a k h; omega)
      refine qX12_back h1046.2.2.2 (fun v310 I309 hS1050 hpb => ?_)
      have h1051 := IV_s h1046 hS1050
      have nx1052 := NX_st h1046 hS1050 (by decide)
      have ns1053 := NS_st h1046 hS1050
      have na1054 := NA_st h1046 hS1050
      have nj1055 := NJ_st h1046 hS1050
      have hr1056 := RV_keep hr (NX.tr nx1047 nx1052)
      have hs1057 := RS_keep hrs (NS.tr ns1048 ns1053)
      have hj1058 := RJ_keep hrj (NS.tr ns1048 ns1053) nj1055
      have hmain : ∃ s : Sd, OKT s.1 ∧ TX I309 1 s ∧ TM I309 45 s := by
        cases hz9 : Z.2.1 45 20 with
        | none =>
          have g := hr.2.mpr hz9
          obtain ⟨_, fB⟩ := hpb.1 hz9
          exact ⟨s, hok, TX_fr (pB1042 g s ht1) fB (by intro a k h1 h2; omega), TM_fr tm1043 (show s.1.1 ≤ 8 by omega) fB (by omega) (by omega) (by omega) (by omega) (by intro a k h1 h2 h3; omega)⟩
        | some w9 =>
          have hne : ¬ Z.2.1 45 20 = none := by rw [hz9]; exact fun e => by cases e
          have g := mt hr.2.mp hne
          obtain ⟨s9, k9, g1, g2⟩ := hrt.2.2 w9 hz9
          have l9 := g1.1.1
          have hwk := IV_kept h hz9
          have hw9 := WX_f h.2.2.1
          obtain ⟨_, c3⟩ := hpb.2 hne
          have c3 := c3 w9 hz9
          have g3 := TM_fr g2 (show s9.1.1 ≤ 8 by omega) hF1040 (by omega) (by omega) (by omega) (by omega) (by intro a k h1 h2 h3; omega)
          exact ⟨s9, k9, TX_fr (pB1041 g s9 g1) hS1050.2.2.2.2.1 (by intro a k h1 h2; omega), RM_cm g3.1 (show s9.1.1 ≤ 8 by omega) c3, by rw [c3.2.2.2 19 (by decide) (by decide)]; exact g3.2⟩
      have hbz := h.2.2.2.2.2.1
      have ht1059 : RT Z I309 := ⟨TP_fr tp1045 hS1050.2.2.2.2.1 (by intro a k h; omega), hmain, RK_eq rk1044 h1046.2.2.1 rfl (fun a k h1 h2 => hS1050.2.2.2.2.1 a k (by omega)) (fun u hu a k h1 h2 => hS1050.2.2.2.2.2.2.1 rfl (by omega) u hu a k h1 h2)⟩
      have ha1060 := RA_keep hra (NA.tr na1049 na1054)
      exact ih Z I309 J rc rs (x3 + 6) h1051 hr1056 hs1057 hj1058 ht1059 ha1060 f1 f2 f3 f4
    · clear hwx e1 e2 e3 e4 e5 e6 s6 q1 q2 q3 q4 q5 q6 h0 hm h1 h2 h3 hc
      refine ⟨hv1, ?_⟩
      refine sfX11_status h.1 h.2.2.1 (fun v313  => ?_)
      have nx1062 : NX Z I Z I := NX.rf
      have ns1063 : NS Z I Z I := NS.rf
      have nt1064 : NT Z I Z I := NT.rf
      have na1065 : NA Z I Z I := NA.rf
      refine ⟨hv1, ?_⟩
      refine sfX12_status h.2.2.2.1 h.2.2.2.2.1 (fun v316  => ?_)
      have nx1067 : NX Z I Z I := NX.rf
      have ns1068 : NS Z I Z I := NS.rf
      have nt1069 : NT Z I Z I := NT.rf
      have na1070 : NA Z I Z I := NA.rf
      have hr1071 := RV_keep hr (NX.tr nx1062 nx1067)
      have hs1072 := RS_keep hrs (NS.tr ns1063 ns1068)
      have hj1073 := RJ_keep hrj (NS.tr ns1063 ns1068) NJ.rf
      have ht1074 := RT_keep h hrt (NT.tr nt1064 nt1069)
      have ha1075 := RA_keep hra (NA.tr na1065 na1070)
      exact ih Z I J rc rs (x3 + 6) h hr1071 hs1072 hj1073 ht1074 ha1075 f1 f2 f3 f4
