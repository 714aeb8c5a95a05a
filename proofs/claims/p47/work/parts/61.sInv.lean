theorem zTown_tr {Z Z2 : jdL} {t : Nat} (h : zTown Z t) (ht : t + 3 < 45) (h1 : ∀ a, a < 45 → Z2.1 a = Z.1 a) (h2 : ∀ a k, a < 45 → ¬ (29 ≤ a ∧ k = 3) → Z2.2.1 a k = Z.2.1 a k) (h3 : t + 3 < 29 ∨ 3 ≤ 3) : zTown Z2 t :=
  ⟨(h1 t (by omega)).trans h.1, ⟨(h2 t 0 (by omega) (by omega)).trans (zTown_p0 h), (h1 (t + 1) (by omega)).trans (zTown_a0 h)⟩, ⟨(h2 t 1 (by omega) (by omega)).trans (zTown_p1 h), (h1 (t + 2) (by omega)).trans (zTown_a1 h)⟩, ⟨(h2 t 2 (by omega) (by omega)).trans (zTown_p2 h), (h1 (t + 3) (by omega)).trans (zTown_a2 h)⟩⟩
theorem zTies_tr {Z Z2 : jdL} {t : Nat} (h : zTies Z t) (ht : t + 6 < 45) (h1 : ∀ a, a < 45 → Z2.1 a = Z.1 a) (h2 : ∀ a k, a < 45 → ¬ (29 ≤ a ∧ k = 3) → Z2.2.1 a k = Z.2.1 a k) (h3 : t + 3 < 29 ∨ 6 ≤ 3) : zTies Z2 t :=
  ⟨(h1 t (by omega)).trans h.1, ⟨(h2 t 0 (by omega) (by omega)).trans (zTies_p0 h), (h1 (t + 1) (by omega)).trans (zTies_a0 h)⟩, ⟨(h2 t 1 (by omega) (by omega)).trans (zTies_p1 h), (h1 (t + 2) (by omega)).trans (zTies_a1 h)⟩, ⟨(h2 t 2 (by omega) (by omega)).trans (zTies_p2 h), (h1 (t + 3) (by omega)).trans (zTies_a2 h)⟩, ⟨(h2 t 3 (by omega) (by omega)).trans (zTies_p3 h), (h1 (t + 4) (by omega)).trans (zTies_a3 h)⟩, ⟨(h2 t 4 (by omega) (by omega)).trans (zTies_p4 h), (h1 (t + 5) (by omega)).trans (zTies_a4 h)⟩, ⟨(h2 t 5 (by omega) (by omega)).trans (zTies_p5 h), (h1 (t + 6) (by omega)).trans (zTies_a5 h)⟩⟩
theorem zDay_tr {Z Z2 : jdL} {t : Nat} (h : zDay Z t) (ht : t + 4 < 45) (h1 : ∀ a, a < 45 → Z2.1 a = Z.1 a) (h2 : ∀ a k, a < 45 → ¬ (29 ≤ a ∧ k = 3) → Z2.2.1 a k = Z.2.1 a k) (h3 : t + 3 < 29 ∨ 4 ≤ 3) : zDay Z2 t :=
  ⟨(h1 t (by omega)).trans h.1, ⟨(h2 t 0 (by omega) (by omega)).trans (zDay_p0 h), (h1 (t + 1) (by omega)).trans (zDay_a0 h)⟩, ⟨(h2 t 1 (by omega) (by omega)).trans (zDay_p1 h), (h1 (t + 2) (by omega)).trans (zDay_a1 h)⟩, ⟨(h2 t 2 (by omega) (by omega)).trans (zDay_p2 h), (h1 (t + 3) (by omega)).trans (zDay_a2 h)⟩, ⟨(h2 t 3 (by omega) (by omega)).trans (zDay_p3 h), (h1 (t + 4) (by omega)).trans (zDay_a3 h)⟩⟩
theorem zScribe_tr {Z Z2 : jdL} {t : Nat} (h : zScribe Z t) (ht : t + 1 < 45) (h1 : ∀ a, a < 45 → Z2.1 a = Z.1 a) (h2 : ∀ a k, a < 45 → ¬ (29 ≤ a ∧ k = 3) → Z2.2.1 a k = Z.2.1 a k) (h3 : t + 3 < 29 ∨ 1 ≤ 3) : zScribe Z2 t :=
  ⟨(h1 t (by omega)).trans h.1, ⟨(h2 t 0 (by omega) (by omega)).trans (zScribe_p0 h), (h1 (t + 1) (by omega)).trans (zScribe_a0 h)⟩⟩
theorem zShelf_tr {Z Z2 : jdL} {t : Nat} (h : zShelf Z t) (ht : t + 1 < 45) (h1 : ∀ a, a < 45 → Z2.1 a = Z.1 a) (h2 : ∀ a k, a < 45 → ¬ (29 ≤ a ∧ k = 3) → Z2.2.1 a k = Z.2.1 a k) (h3 : t + 3 < 29 ∨ 1 ≤ 3) : zShelf Z2 t :=
  ⟨(h1 t (by omega)).trans h.1, ⟨(h2 t 0 (by omega) (by omega)).trans (zShelf_p0 h), (h1 (t + 1) (by omega)).trans (zShelf_a0 h)⟩⟩
theorem zX_tr {Z Z2 : jdL} (h : zX Z) (h1 : ∀ a, a < 45 → Z2.1 a = Z.1 a) (h2 : ∀ a k, a < 45 → ¬ (29 ≤ a ∧ k = 3) → Z2.2.1 a k = Z.2.1 a k) : zX Z2 :=
  ⟨(h1 0 (by decide)).trans h.1, ⟨(h2 0 0 (by decide) (by decide)).trans (zX_p0 h), zTown_tr (zX_o0 h) (by decide) h1 h2 (by decide)⟩, ⟨(h2 0 1 (by decide) (by decide)).trans (zX_p1 h), zTown_tr (zX_o1 h) (by decide) h1 h2 (by decide)⟩, ⟨(h2 0 2 (by decide) (by decide)).trans (zX_p2 h), zTown_tr (zX_o2 h) (by decide) h1 h2 (by decide)⟩, ⟨(h2 0 3 (by decide) (by decide)).trans (zX_p3 h), zTies_tr (zX_o3 h) (by decide) h1 h2 (by decide)⟩, ⟨(h2 0 4 (by decide) (by decide)).trans (zX_p4 h), zDay_tr (zX_o4 h) (by decide) h1 h2 (by decide)⟩, ⟨(h2 0 5 (by decide) (by decide)).trans (zX_p5 h), zScribe_tr (zX_o5 h) (by decide) h1 h2 (by decide)⟩, ⟨(h2 0 6 (by decide) (by decide)).trans (zX_p6 h), (h1 27 (by decide)).trans (zX_a6 h)⟩, ⟨(h2 0 7 (by decide) (by decide)).trans (zX_p7 h), (h1 28 (by decide)).trans (zX_a7 h)⟩, fun i hi => ⟨(h2 27 i (by decide) (by omega)).trans (zX_sh h hi), zShelf_tr (zX_shelf h hi) (by omega) h1 h2 (by omega)⟩⟩
/-- the invariant of the two objects -/
def IV (Z : jdL) (I : jdI) : Prop := zX Z ∧ zMen Z ∧ WX I ∧ MI Z I 45
theorem IV_x {Z : jdL} {I I2 : jdI} {p : Nat → Nat → Prop} (h : IV Z I) (hW : WX I2) (hF : Fr p I I2) (hp : ∀ a k, p a k → a < 45) : IV Z I2 := ⟨h.1, h.2.1, hW, MI_lo h.2.2.2 hF hp⟩
theorem IV_m {Z : jdL} {I I2 : jdI} {p : Nat → Nat → Prop} (h : IV Z I) (hW : WM 7 45 I2) (hF : Fr p I I2) (hp : ∀ a k, p a k → 45 ≤ a ∧ a ≤ 82) : IV Z I2 := ⟨h.1, h.2.1, WX_fr h.2.2.1 hF (fun a k h1 h2 => by have := hp a k h2; omega), MI_t h.2.2.2 hW hF (fun a k q => Or.inl (hp a k q))⟩
theorem IV_s {Z Z2 : jdL} {I I2 : jdI} {J J2 : jdJ} {x y : Nat} (h : IV Z I) (hS : ST 45 x y Z I J Z2 I2 J2) : IV Z2 I2 := by
  obtain ⟨h0, h1, h2, h3⟩ := h
  obtain ⟨m0, r0, r1, r2, r3, r4⟩ := hS
  have hb := h3.2.2.1
  refine ⟨zX_tr h0 (fun a ha => r1 a (by omega)) (fun a k ha _ => r2 a k (by omega) (by omega)), fun i hi w hw => ?_, WX_fr h2 r3 (fun a k h1 h2 => by omega), m0⟩
  rw [r2 _ _ (by omega) (by omega)] at hw
  obtain ⟨ci, hci, hz⟩ := h1 i hi w hw
  have hl := h3.2.2.2.1 _ _ hz
  exact ⟨ci, hci, (r1 w hl).trans hz⟩
theorem MI_uP {Z : jdL} {I : jdI} {t a k : Nat} {v : Option Nat} (h : MI Z I t) (ha : a < t) : MI (uP Z a k v) I t := by
  obtain ⟨b0, b1, b2, b3, b4, b5, b6⟩ := h
  have tr : ∀ w, t ≤ w → zModel Z w → zModel (uP Z a k v) w := fun w hw h => zModel_tr h (fun _ _ _ => rfl) (fun c j h1 h2 _ => by rw [uP_ap, if_neg (by omega)])
  have e : ∀ j, (uP Z a k v).2.1 t j = Z.2.1 t j := fun j => by rw [uP_ap, if_neg (by omega)]
  refine ⟨tr t (Nat.le_refl _) b0, b1, b2, b3, fun w hw => ?_, fun u hu => ?_, fun w u hw hu => ?_⟩
  · rw [e] at hw
    obtain ⟨c0, c1, c2, c3⟩ := b4 w hw
    exact ⟨tr w (by omega) c0, c1, c2, c3⟩
  · rw [e] at hu
    obtain ⟨c0, c1, c2, c3⟩ := b5 u hu
    exact ⟨tr u (by omega) c0, c1, c2, c3⟩
  · rw [e] at hw hu
    exact b6 w u hw hu
theorem IV_uP {Z : jdL} {I : jdI} {i : Nat} {v : Option Nat} (h : IV Z I) (hi : i < 8) (hv : ∀ w, v = some w → zMan Z w) : IV (uP Z (29 + 2 * i) 3 v) I := by
  obtain ⟨h0, h1, h2, h3⟩ := h
  refine ⟨zX_tr h0 (fun _ _ => rfl) (fun a k ha hk => by rw [uP_ap, if_neg (by omega)]), fun j hj w hw => ?_, h2, MI_uP h3 (by omega)⟩
  rw [uP_ap] at hw
  by_cases e : 29 + 2 * j = 29 + 2 * i ∧ 3 = 3
  · rw [if_pos e] at hw
    exact hv w hw
  · rw [if_neg e] at hw
    exact h1 j hj w hw
theorem IV_hi {Z : jdL} {I I2 : jdI} {p : Nat → Nat → Prop} (h : IV Z I) (hF : Fr p I I2) (hp : ∀ a k, p a k → Z.2.2 ≤ a) : IV Z I2 := by
  have hb := h.2.2.2.2.2.1
  exact ⟨h.1, h.2.1, WX_fr h.2.2.1 hF (fun a k h1 h2 => by have := hp a k h2; omega), MI_t h.2.2.2 (WM_fr h.2.2.2.2.1 hF (fun a k h1 h2 h3 => by have := hp a k h3; omega)) hF (fun a k q => Or.inr (hp a k q))⟩
theorem IV_nZ {Z : jdL} {I : jdI} {ty : Nat × Nat} (h : IV Z I) : IV (nZ Z ty) I := by
  obtain ⟨h0, h1, h2, h3⟩ := h
  have hb := h3.2.2.1
  refine ⟨zX_tr h0 (fun a ha => by rw [nZ_ap, if_neg (by omega)]) (fun a k ha hk => by rw [nZ_ap2, if_neg (by omega)]), fun j hj w hw => ?_, h2, MI_nZ h3⟩
  rw [nZ_ap2, if_neg (by omega)] at hw
  obtain ⟨ci, hci, hz⟩ := h1 j hj w hw
  have hl := h3.2.2.2.1 _ _ hz
  exact ⟨ci, hci, by rw [nZ_ap, if_neg (by omega)]; exact hz⟩
/-- the size of the tape and the flag of what is kept stay, on both sides -/
def NX (Z : jdL) (I : jdI) (Z2 : jdL) (I2 : jdI) : Prop := I2 25 1 = I 25 1 ∧ I2 0 8 = I 0 8 ∧ I2 45 8 = I 45 8 ∧ Z2.2.1 45 20 = Z.2.1 45 20
theorem NX.rf {Z : jdL} {I : jdI} : NX Z I Z I := ⟨rfl, rfl, rfl, rfl⟩
theorem NX.tr {Z Z1 Z2 : jdL} {I I1 I2 : jdI} (h : NX Z I Z1 I1) (h2 : NX Z1 I1 Z2 I2) : NX Z I Z2 I2 := ⟨h2.1.trans h.1, h2.2.1.trans h.2.1, h2.2.2.1.trans h.2.2.1, h2.2.2.2.trans h.2.2.2⟩
theorem NX_fr {Z : jdL} {I I2 : jdI} {p : Nat → Nat → Prop} (hF : Fr p I I2) (h1 : ¬ p 25 1) (h2 : ¬ p 0 8) (h3 : ¬ p 45 8) : NX Z I Z I2 := ⟨hF _ _ h1, hF _ _ h2, hF _ _ h3, rfl⟩
theorem NX_st {Z Z2 : jdL} {I I2 : jdI} {J J2 : jdJ} (h : IV Z I) (hS : ST 45 21 10 Z I J Z2 I2 J2) : NX Z I Z2 I2 := by
  have hb := h.2.2.2.2.2.1
  exact ⟨hS.2.2.2.2.1 _ _ (by omega), hS.2.2.2.2.1 _ _ (by omega), hS.2.2.2.2.1 _ _ (by omega), hS.2.2.2.1 _ _ (by omega) (by omega)⟩
theorem NX_nZ {Z : jdL} {I : jdI} {ty : Nat × Nat} (h : IV Z I) : NX Z I (nZ Z ty) I := by
  have hb := h.2.2.2.2.2.1
  exact ⟨rfl, rfl, rfl, by rw [nZ_ap2, if_neg (by omega)]⟩
theorem NX_uP {Z : jdL} {I : jdI} {a k : Nat} {v : Option Nat} (h : a < 45) : NX Z I (uP Z a k v) I := ⟨rfl, rfl, rfl, by rw [uP_ap, if_neg (by omega)]⟩
/-- what the two objects have in common, of the tape's size and of what is kept -/
def RV (Z : jdL) (I : jdI) : Prop := (I 25 1).toInt = (I 45 8).toInt ∧ ((I 0 8).toInt = 0 ↔ Z.2.1 45 20 = none)
theorem RV_keep {Z Z2 : jdL} {I I2 : jdI} (h : RV Z I) (n : NX Z I Z2 I2) : RV Z2 I2 := by
  obtain ⟨n1, n2, n3, n4⟩ := n
  refine ⟨?_, ?_⟩
  · rw [n1, n3]
    exact h.1
  · rw [n2, n4]
    exact h.2
theorem lX6_takeRow_17 {G : jdG} {n rc rs : Nat} {Z : jdL} {I : jdI} {Q : jdQ} {t : Nat} {x1 x2 : Int32} (ht : zShelf Z t) (hQ : ∀ J2, Q none Z I J2) : ∀ m : Nat, ∀ (J : jdJ) (x3 : Int32), 0 ≤ x3.toInt ∧ x3.toInt ≤ 40 → 40 - x3.toInt < (m : Int) → Jd G mX6_takeRow (jdFm G Q) n rc rs 17 [(0, .ref (gb G + t)), (1, .int x1), (2, .int x2), (3, .int x3)] [] Z I J := by
  intro m
  induction m with
  | zero =>
    intro J x3 h1 h2
    omega
  | succ m ih =>
    intro J x3 h1 h2
    have q40 : (40 : Int32).toInt = 40 := rfl
    have q1 : (1 : Int32).toInt = 1 := rfl
    have e1 := i32_add x3 1 (by omega) (by omega)
    refine rX6_takeRow_17 ht ⟨fun _ => hQ J, fun hc => ?_⟩
    have hc := mt Int32.le_iff_toInt_le.mpr hc
    exact ⟨vp_of (by omega) (by omega), ih _ (x3 + 1) (by omega) (by omega)⟩
theorem qX6_takeRow {G : jdG} {n : Nat} {Z : jdL} {I : jdI} {J : jdJ} {Q : jdQ} {t : Nat} {x1 x2 : Int32} (ht : zShelf Z t) (hQ : ∀ J2, Q none (uP Z t 3 none) (uI (uI I t 1 x1) t 2 x2) J2) : Cl G mX6_takeRow n 0 0 [.ref (gb G + t), .int x1, .int x2] Z I J Q := by
  have hz : zShelf (uP Z t 3 none) t := ⟨ht.1, by rw [uP_ap, if_neg (by omega)]; exact ht.2.1, ht.2.2⟩
  exact eX6_takeRow ht ⟨hz, lX6_takeRow_17 hz hQ 41 J 0 (by decide) (by decide)⟩
theorem qX6_takeMan {G : jdG} {n : Nat} {Z : jdL} {I : jdI} {J : jdJ} {Q : jdQ} {t u1 : Nat} (ht : zShelf Z t) (hQ : Q none (uP Z t 3 (some u1)) (uI (uI I t 1 (-1)) t 2 0) J) : Cl G mX6_takeMan n 0 0 [.ref (gb G + t), .ref (gb G + u1)] Z I J Q :=
  eX6_takeMan ht ⟨⟨ht.1, by rw [uP_ap, if_neg (by omega)]; exact ht.2.1, ht.2.2⟩, hQ⟩
theorem qX11_newCoachman {G : jdG} {n : Nat} {Z : jdL} {I : jdI} {J : jdJ} {Q : jdQ} {x0 x1 : Int32} (h : IV Z I) (hQ : ∀ (w : Nat) (Z2 : jdL) (I2 : jdI), IV Z2 I2 → zMan Z2 w → NX Z I Z2 I2 → Q (some (.ref (gb G + w))) Z2 I2 J) : Cl G mX11_newCoachman (n + 4) 1 1 [.int x0, .int x1] Z I J Q := by
  have hb := h.2.2.2.2.2.1
  refine eX11_newCoachman ⟨fun _ => ?_, fun _ => ?_, fun _ => ?_, fun _ => ?_, fun _ => ?_⟩
  · refine ⟨0, 0, Nat.le_refl _, Nat.le_refl _, 0, 0, 0, 0, Nat.le_refl _, Nat.le_refl _, ?_⟩
    refine v_X0_init_0 (by rw [nZ_ap, if_pos rfl]) ⟨rfl, hQ _ _ _ (IV_nZ (IV_hi h (p := fun a _ => a = Z.2.2) (Fr_uI (Fr_zI Fr.rf (fun _ => rfl)) rfl) (by intro a k h; omega))) ⟨0, by decide, by rw [nZ_ap, if_pos rfl]⟩ (NX.tr (NX_fr (p := fun a _ => a = Z.2.2) (Fr_uI (Fr_zI Fr.rf (fun _ => rfl)) rfl) (by omega) (by omega) (by omega)) (NX_nZ (IV_hi h (p := fun a _ => a = Z.2.2) (Fr_uI (Fr_zI Fr.rf (fun _ => rfl)) rfl) (by intro a k h; omega))))⟩
  · refine ⟨0, 0, Nat.le_refl _, Nat.le_refl _, 0, 0, 0, 0, Nat.le_refl _, Nat.le_refl _, ?_⟩
    refine v_X4_init_3 (by rw [nZ_ap, if_pos rfl]) ⟨rfl, hQ _ _ _ (IV_nZ (IV_hi h (p := fun a _ => a = Z.2.2) (Fr_uI (Fr_zI Fr.rf (fun _ => rfl)) rfl) (by intro a k h; omega))) ⟨3, by decide, by rw [nZ_ap, if_pos rfl]⟩ (NX.tr (NX_fr (p := fun a _ => a = Z.2.2) (Fr_uI (Fr_zI Fr.rf (fun _ => rfl)) rfl) (by omega) (by omega) (by omega)) (NX_nZ (IV_hi h (p := fun a _ => a = Z.2.2) (Fr_uI (Fr_zI Fr.rf (fun _ => rfl)) rfl) (by intro a k h; omega))))⟩
  · refine ⟨0, 0, Nat.le_refl _, Nat.le_refl _, 0, 0, 0, 0, Nat.le_refl _, Nat.le_refl _, ?_⟩
    refine v_X1_init_1 (by rw [nZ_ap, if_pos rfl]) ⟨rfl, hQ _ _ _ (IV_nZ (IV_hi h (p := fun a _ => a = Z.2.2) (Fr_uI (Fr_zI Fr.rf (fun _ => rfl)) rfl) (by intro a k h; omega))) ⟨1, by decide, by rw [nZ_ap, if_pos rfl]⟩ (NX.tr (NX_fr (p := fun a _ => a = Z.2.2) (Fr_uI (Fr_zI Fr.rf (fun _ => rfl)) rfl) (by omega) (by omega) (by omega)) (NX_nZ (IV_hi h (p := fun a _ => a = Z.2.2) (Fr_uI (Fr_zI Fr.rf (fun _ => rfl)) rfl) (by intro a k h; omega))))⟩
  · refine ⟨0, 0, Nat.le_refl _, Nat.le_refl _, 0, 0, 0, 0, Nat.le_refl _, Nat.le_refl _, ?_⟩
    refine v_X10_init_9 (by rw [nZ_ap, if_pos rfl]) ⟨rfl, hQ _ _ _ (IV_nZ (IV_hi h (p := fun a _ => a = Z.2.2) (Fr_uI (Fr_zI Fr.rf (fun _ => rfl)) rfl) (by intro a k h; omega))) ⟨9, by decide, by rw [nZ_ap, if_pos rfl]⟩ (NX.tr (NX_fr (p := fun a _ => a = Z.2.2) (Fr_uI (Fr_zI Fr.rf (fun _ => rfl)) rfl) (by omega) (by omega) (by omega)) (NX_nZ (IV_hi h (p := fun a _ => a = Z.2.2) (Fr_uI (Fr_zI Fr.rf (fun _ => rfl)) rfl) (by intro a k h; omega))))⟩
  · refine ⟨0, 0, Nat.le_refl _, Nat.le_refl _, 0, 0, 0, 0, Nat.le_refl _, Nat.le_refl _, ?_⟩
    refine v_X7_init_6 (by rw [nZ_ap, if_pos rfl]) ⟨rfl, hQ _ _ _ (IV_nZ (IV_hi h (p := fun a _ => a = Z.2.2) (Fr_uI (Fr_zI Fr.rf (fun _ => rfl)) rfl) (by intro a k h; omega))) ⟨6, by decide, by rw [nZ_ap, if_pos rfl]⟩ (NX.tr (NX_fr (p := fun a _ => a = Z.2.2) (Fr_uI (Fr_zI Fr.rf (fun _ => rfl)) rfl) (by omega) (by omega) (by omega)) (NX_nZ (IV_hi h (p := fun a _ => a = Z.2.2) (Fr_uI (Fr_zI Fr.rf (fun _ => rfl)) rfl) (by intro a k h; omega))))⟩
theorem qX11_row {G : jdG} {n : Nat} {Z : jdL} {I : jdI} {J : jdJ} {Q : jdQ} {x1 x2 x3 : Int32} (h : IV Z I) (hQ : ∀ (v : Int32) (Z2 : jdL) (I2 : jdI) (J2 : jdJ), IV Z2 I2 → ((v.toInt = 1 ∧ ((0 ≤ x1.toInt ∧ x1.toInt ≤ 7) ∧ (0 ≤ x2.toInt ∧ x2.toInt ≤ 4) ∧ 0 ≤ x3.toInt ∧ x3.toInt ≤ 40)) ∨ (v.toInt = -2 ∧ ¬ ((0 ≤ x1.toInt ∧ x1.toInt ≤ 7) ∧ (0 ≤ x2.toInt ∧ x2.toInt ≤ 4) ∧ 0 ≤ x3.toInt ∧ x3.toInt ≤ 40))) → NX Z I Z2 I2 → Q (some (.int v)) Z2 I2 J2) : Cl G mX11_row (n + 1) 0 0 [.ref (gb G + 0), .int x1, .int x2, .int x3] Z I J Q := by
  have q0 : (0 : Int32).toInt = 0 := rfl
  have q1 : (1 : Int32).toInt = 1 := rfl
  have q2 : (-2 : Int32).toInt = -2 := rfl
  have q5 : (5 : Int32).toInt = 5 := rfl
  have q6 : (6 : Int32).toInt = 6 := rfl
  have q9 : (9 : Int32).toInt = 9 := rfl
  have q40 : (40 : Int32).toInt = 40 := rfl
  refine eX11_row h.1 ?_
  refine sfX11_isShelf h.2.2.1 (fun v2 hp => ⟨fun hc => ?_, fun hc => ?_⟩)
  · have hc := i0 hc
    refine sfX11_refuse h.1 h.2.2.1 (fun v4 I3 hW3 hF3 hp3 => ?_)
    exact hQ _ _ _ _ (IV_x h hW3 hF3 (by intro a k h; omega)) (by rw [hp3]; omega) (NX_fr hF3 (by omega) (by omega) (by omega))
  · have hc := i1 hc
    refine ⟨fun hc2 => ?_, fun hc2 => ⟨fun hc3 => ?_, fun hc3 => ⟨fun hc4 => ?_, fun hc4 => ⟨fun hc5 => ?_, fun hc5 => ?_⟩⟩⟩⟩
    · have hc2 := Int32.lt_iff_toInt_lt.mp hc2
      refine sfX11_refuse h.1 h.2.2.1 (fun v4 I3 hW3 hF3 hp3 => ?_)
      exact hQ _ _ _ _ (IV_x h hW3 hF3 (by intro a k h; omega)) (by rw [hp3]; omega) (NX_fr hF3 (by omega) (by omega) (by omega))
    · have hc3 := Int32.le_iff_toInt_le.mp hc3
      refine sfX11_refuse h.1 h.2.2.1 (fun v4 I3 hW3 hF3 hp3 => ?_)
      exact hQ _ _ _ _ (IV_x h hW3 hF3 (by intro a k h; omega)) (by rw [hp3]; omega) (NX_fr hF3 (by omega) (by omega) (by omega))
    · have hc4 := Int32.lt_iff_toInt_lt.mp hc4
      refine sfX11_refuse h.1 h.2.2.1 (fun v4 I3 hW3 hF3 hp3 => ?_)
      exact hQ _ _ _ _ (IV_x h hW3 hF3 (by intro a k h; omega)) (by rw [hp3]; omega) (NX_fr hF3 (by omega) (by omega) (by omega))
    · have hc2 := mt Int32.lt_iff_toInt_lt.mpr hc2
      have hc3 := mt Int32.le_iff_toInt_le.mpr hc3
      have hc4 := mt Int32.lt_iff_toInt_lt.mpr hc4
      have hc5 := Int32.le_iff_toInt_le.mp hc5
      refine ⟨vp_of (by omega) (by omega), ?_⟩
      refine ⟨0, 0, 0, 0, Nat.zero_le _, Nat.zero_le _, ?_⟩
      have hn := tn_eq x1
      have hz := zX_shelf h.1 (i := Int32.toNatClampNeg x1) (by omega)
      have w1 : WX (uI I (29 + 2 * (Int32.toNatClampNeg x1)) 1 x2) := WX_uI h.2.2.1 (by unfold okX; refine ⟨?_, ?_, ?_, ?_, ?_, ?_, ?_, ?_, ?_, ?_⟩ <;> intro h <;> omega)
      have w2 : WX (uI (uI I (29 + 2 * (Int32.toNatClampNeg x1)) 1 x2) (29 + 2 * (Int32.toNatClampNeg x1)) 2 x3) := WX_uI w1 (by unfold okX; refine ⟨?_, ?_, ?_, ?_, ?_, ?_, ?_, ?_, ?_, ?_⟩ <;> intro h <;> omega)
      refine qX6_takeRow hz (fun J2 => ?_)
      have h2 := IV_uP (IV_x h w2 (p := fun a _ => a < 45) (Fr_uI (Fr_uI Fr.rf (by omega)) (by omega)) (fun a k h => h)) (i := Int32.toNatClampNeg x1) (v := none) (by omega) (fun w e => by cases e)
      exact ⟨rfl, h2.1, hQ _ _ _ _ h2 (by omega) (NX.tr (NX_fr (p := fun a _ => 29 ≤ a ∧ a < 45) (Fr_uI (Fr_uI Fr.rf (by omega)) (by omega)) (by omega) (by omega) (by omega)) (NX_uP (by omega)))⟩
    · have hc5 := mt Int32.le_iff_toInt_le.mpr hc5
      refine sfX11_refuse h.1 h.2.2.1 (fun v4 I3 hW3 hF3 hp3 => ?_)
      exact hQ _ _ _ _ (IV_x h hW3 hF3 (by intro a k h; omega)) (by rw [hp3]; omega) (NX_fr hF3 (by omega) (by omega) (by omega))
theorem qX11_coachman {G : jdG} {n : Nat} {Z : jdL} {I : jdI} {J : jdJ} {Q : jdQ} {x1 x2 x3 : Int32} (h : IV Z I) (hQ : ∀ (v : Int32) (Z2 : jdL) (I2 : jdI) (J2 : jdJ), IV Z2 I2 → ((v.toInt = 1 ∧ ((0 ≤ x1.toInt ∧ x1.toInt ≤ 7) ∧ (1 ≤ x2.toInt ∧ x2.toInt ≤ 5) ∧ 0 ≤ x3.toInt ∧ x3.toInt ≤ 9)) ∨ (v.toInt = -2 ∧ ¬ ((0 ≤ x1.toInt ∧ x1.toInt ≤ 7) ∧ (1 ≤ x2.toInt ∧ x2.toInt ≤ 5) ∧ 0 ≤ x3.toInt ∧ x3.toInt ≤ 9))) → NX Z I Z2 I2 → Q (some (.int v)) Z2 I2 J2) : Cl G mX11_coachman (n + 5) 1 1 [.ref (gb G + 0), .int x1, .int x2, .int x3] Z I J Q := by
  have q0 : (0 : Int32).toInt = 0 := rfl
  have q1 : (1 : Int32).toInt = 1 := rfl
  have q2 : (-2 : Int32).toInt = -2 := rfl
  have q5 : (5 : Int32).toInt = 5 := rfl
  have q6 : (6 : Int32).toInt = 6 := rfl
  have q9 : (9 : Int32).toInt = 9 := rfl
  have q40 : (40 : Int32).toInt = 40 := rfl
  refine eX11_coachman h.1 ?_
  refine sfX11_isShelf h.2.2.1 (fun v2 hp => ⟨fun hc => ?_, fun hc => ?_⟩)
  · have hc := i0 hc
    refine sfX11_refuse h.1 h.2.2.1 (fun v4 I3 hW3 hF3 hp3 => ?_)
    exact hQ _ _ _ _ (IV_x h hW3 hF3 (by intro a k h; omega)) (by rw [hp3]; omega) (NX_fr hF3 (by omega) (by omega) (by omega))
  · have hc := i1 hc
    refine ⟨fun hc2 => ?_, fun hc2 => ⟨fun hc3 => ?_, fun hc3 => ⟨fun hc4 => ?_, fun hc4 => ⟨fun hc5 => ?_, fun hc5 => ?_⟩⟩⟩⟩
    · have hc2 := Int32.lt_iff_toInt_lt.mp hc2
      refine sfX11_refuse h.1 h.2.2.1 (fun v4 I3 hW3 hF3 hp3 => ?_)
      exact hQ _ _ _ _ (IV_x h hW3 hF3 (by intro a k h; omega)) (by rw [hp3]; omega) (NX_fr hF3 (by omega) (by omega) (by omega))
    · have hc3 := Int32.le_iff_toInt_le.mp hc3
      refine sfX11_refuse h.1 h.2.2.1 (fun v4 I3 hW3 hF3 hp3 => ?_)
      exact hQ _ _ _ _ (IV_x h hW3 hF3 (by intro a k h; omega)) (by rw [hp3]; omega) (NX_fr hF3 (by omega) (by omega) (by omega))
    · have hc4 := Int32.lt_iff_toInt_lt.mp hc4
      refine sfX11_refuse h.1 h.2.2.1 (fun v4 I3 hW3 hF3 hp3 => ?_)
      exact hQ _ _ _ _ (IV_x h hW3 hF3 (by intro a k h; omega)) (by rw [hp3]; omega) (NX_fr hF3 (by omega) (by omega) (by omega))
    · have hc2 := mt Int32.lt_iff_toInt_lt.mpr hc2
      have hc3 := mt Int32.le_iff_toInt_le.mpr hc3
      have hc4 := mt Int32.lt_iff_toInt_lt.mpr hc4
      have hc5 := Int32.le_iff_toInt_le.mp hc5
      refine ⟨vp_of (by omega) (by omega), ?_⟩
      refine ⟨1, 1, 0, 0, Nat.le_refl _, Nat.le_refl _, ?_⟩
      have hn := tn_eq x1
      refine qX11_newCoachman h (fun w Z2 I2 h2 hm hnx => ⟨w, rfl, h2.1, 0, 0, 0, 0, Nat.le_refl _, Nat.le_refl _, ?_⟩)
      have hz := zX_shelf h2.1 (i := Int32.toNatClampNeg x1) (by omega)
      have w1 : WX (uI I2 (29 + 2 * (Int32.toNatClampNeg x1)) 1 (-1)) := WX_uI h2.2.2.1 (by unfold okX; refine ⟨?_, ?_, ?_, ?_, ?_, ?_, ?_, ?_, ?_, ?_⟩ <;> intro h <;> omega)
      have w2 : WX (uI (uI I2 (29 + 2 * (Int32.toNatClampNeg x1)) 1 (-1)) (29 + 2 * (Int32.toNatClampNeg x1)) 2 0) := WX_uI w1 (by unfold okX; refine ⟨?_, ?_, ?_, ?_, ?_, ?_, ?_, ?_, ?_, ?_⟩ <;> intro h <;> omega)
      refine qX6_takeMan hz ?_
      have h3 := IV_uP (IV_x h2 w2 (p := fun a _ => a < 45) (Fr_uI (Fr_uI Fr.rf (by omega)) (by omega)) (fun a k h => h)) (i := Int32.toNatClampNeg x1) (v := some w) (by omega) (fun w' e => by cases e; exact hm)
      exact ⟨rfl, h3.1, hQ _ _ _ _ h3 (by omega) (NX.tr hnx (NX.tr (NX_fr (p := fun a _ => 29 ≤ a ∧ a < 45) (Fr_uI (Fr_uI Fr.rf (by omega)) (by omega)) (by omega) (by omega) (by omega)) (NX_uP (by omega))))⟩
    · have hc5 := mt Int32.le_iff_toInt_le.mpr hc5
      refine sfX11_refuse h.1 h.2.2.1 (fun v4 I3 hW3 hF3 hp3 => ?_)
      exact hQ _ _ _ _ (IV_x h hW3 hF3 (by intro a k h; omega)) (by rw [hp3]; omega) (NX_fr hF3 (by omega) (by omega) (by omega))
