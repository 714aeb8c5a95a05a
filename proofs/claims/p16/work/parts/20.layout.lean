/-! what the cells of each object are -/
theorem vp_lt {i : Int32} {k : Nat} (h : vp_in i k) : i.toNatClampNeg < k := Nat.not_le.mp fun q => h (Or.inr q)
def zTown (Z : jdL) (t : Nat) : Prop := Z.1 t = some (8 + 10, 0) ∧ (Z.2.1 t 0 = some (t + 1) ∧ Z.1 (t + 1) = some (0, 7)) ∧ (Z.2.1 t 1 = some (t + 2) ∧ Z.1 (t + 2) = some (0, 7)) ∧ (Z.2.1 t 2 = some (t + 3) ∧ Z.1 (t + 3) = some (0, 49))
theorem zTown_p0 {Z : jdL} {t : Nat} (h : zTown Z t) : Z.2.1 t 0 = some (t + 1) := h.2.1.1
theorem zTown_a0 {Z : jdL} {t : Nat} (h : zTown Z t) : Z.1 (t + 1) = some (0, 7) := h.2.1.2
theorem zTown_p1 {Z : jdL} {t : Nat} (h : zTown Z t) : Z.2.1 t 1 = some (t + 2) := h.2.2.1.1
theorem zTown_a1 {Z : jdL} {t : Nat} (h : zTown Z t) : Z.1 (t + 2) = some (0, 7) := h.2.2.1.2
theorem zTown_p2 {Z : jdL} {t : Nat} (h : zTown Z t) : Z.2.1 t 2 = some (t + 3) := h.2.2.2.1
theorem zTown_a2 {Z : jdL} {t : Nat} (h : zTown Z t) : Z.1 (t + 3) = some (0, 49) := h.2.2.2.2
def zTies (Z : jdL) (t : Nat) : Prop := Z.1 t = some (7 + 10, 0) ∧ (Z.2.1 t 0 = some (t + 1) ∧ Z.1 (t + 1) = some (0, 8)) ∧ (Z.2.1 t 1 = some (t + 2) ∧ Z.1 (t + 2) = some (0, 8)) ∧ (Z.2.1 t 2 = some (t + 3) ∧ Z.1 (t + 3) = some (0, 70)) ∧ (Z.2.1 t 3 = some (t + 4) ∧ Z.1 (t + 4) = some (0, 70)) ∧ (Z.2.1 t 4 = some (t + 5) ∧ Z.1 (t + 5) = some (0, 256)) ∧ (Z.2.1 t 5 = some (t + 6) ∧ Z.1 (t + 6) = some (0, 28))
theorem zTies_p0 {Z : jdL} {t : Nat} (h : zTies Z t) : Z.2.1 t 0 = some (t + 1) := h.2.1.1
theorem zTies_a0 {Z : jdL} {t : Nat} (h : zTies Z t) : Z.1 (t + 1) = some (0, 8) := h.2.1.2
theorem zTies_p1 {Z : jdL} {t : Nat} (h : zTies Z t) : Z.2.1 t 1 = some (t + 2) := h.2.2.1.1
theorem zTies_a1 {Z : jdL} {t : Nat} (h : zTies Z t) : Z.1 (t + 2) = some (0, 8) := h.2.2.1.2
theorem zTies_p2 {Z : jdL} {t : Nat} (h : zTies Z t) : Z.2.1 t 2 = some (t + 3) := h.2.2.2.1.1
theorem zTies_a2 {Z : jdL} {t : Nat} (h : zTies Z t) : Z.1 (t + 3) = some (0, 70) := h.2.2.2.1.2
theorem zTies_p3 {Z : jdL} {t : Nat} (h : zTies Z t) : Z.2.1 t 3 = some (t + 4) := h.2.2.2.2.1.1
theorem zTies_a3 {Z : jdL} {t : Nat} (h : zTies Z t) : Z.1 (t + 4) = some (0, 70) := h.2.2.2.2.1.2
theorem zTies_p4 {Z : jdL} {t : Nat} (h : zTies Z t) : Z.2.1 t 4 = some (t + 5) := h.2.2.2.2.2.1.1
theorem zTies_a4 {Z : jdL} {t : Nat} (h : zTies Z t) : Z.1 (t + 5) = some (0, 256) := h.2.2.2.2.2.1.2
theorem zTies_p5 {Z : jdL} {t : Nat} (h : zTies Z t) : Z.2.1 t 5 = some (t + 6) := h.2.2.2.2.2.2.1
theorem zTies_a5 {Z : jdL} {t : Nat} (h : zTies Z t) : Z.1 (t + 6) = some (0, 28) := h.2.2.2.2.2.2.2
def zDay (Z : jdL) (t : Nat) : Prop := Z.1 t = some (2 + 10, 0) ∧ (Z.2.1 t 0 = some (t + 1) ∧ Z.1 (t + 1) = some (0, 7)) ∧ (Z.2.1 t 1 = some (t + 2) ∧ Z.1 (t + 2) = some (0, 7)) ∧ (Z.2.1 t 2 = some (t + 3) ∧ Z.1 (t + 3) = some (0, 128)) ∧ (Z.2.1 t 3 = some (t + 4) ∧ Z.1 (t + 4) = some (0, 70))
theorem zDay_p0 {Z : jdL} {t : Nat} (h : zDay Z t) : Z.2.1 t 0 = some (t + 1) := h.2.1.1
theorem zDay_a0 {Z : jdL} {t : Nat} (h : zDay Z t) : Z.1 (t + 1) = some (0, 7) := h.2.1.2
theorem zDay_p1 {Z : jdL} {t : Nat} (h : zDay Z t) : Z.2.1 t 1 = some (t + 2) := h.2.2.1.1
theorem zDay_a1 {Z : jdL} {t : Nat} (h : zDay Z t) : Z.1 (t + 2) = some (0, 7) := h.2.2.1.2
theorem zDay_p2 {Z : jdL} {t : Nat} (h : zDay Z t) : Z.2.1 t 2 = some (t + 3) := h.2.2.2.1.1
theorem zDay_a2 {Z : jdL} {t : Nat} (h : zDay Z t) : Z.1 (t + 3) = some (0, 128) := h.2.2.2.1.2
theorem zDay_p3 {Z : jdL} {t : Nat} (h : zDay Z t) : Z.2.1 t 3 = some (t + 4) := h.2.2.2.2.1
theorem zDay_a3 {Z : jdL} {t : Nat} (h : zDay Z t) : Z.1 (t + 4) = some (0, 70) := h.2.2.2.2.2
def zScribe (Z : jdL) (t : Nat) : Prop := Z.1 t = some (4 + 10, 0) ∧ (Z.2.1 t 0 = some (t + 1) ∧ Z.1 (t + 1) = some (0, 250))
theorem zScribe_p0 {Z : jdL} {t : Nat} (h : zScribe Z t) : Z.2.1 t 0 = some (t + 1) := h.2.1
theorem zScribe_a0 {Z : jdL} {t : Nat} (h : zScribe Z t) : Z.1 (t + 1) = some (0, 250) := h.2.2
def zShelf (Z : jdL) (t : Nat) : Prop := Z.1 t = some (5 + 10, 0) ∧ (Z.2.1 t 0 = some (t + 1) ∧ Z.1 (t + 1) = some (1, 40))
theorem zShelf_p0 {Z : jdL} {t : Nat} (h : zShelf Z t) : Z.2.1 t 0 = some (t + 1) := h.2.1
theorem zShelf_a0 {Z : jdL} {t : Nat} (h : zShelf Z t) : Z.1 (t + 1) = some (1, 40) := h.2.2
def zModel (Z : jdL) (t : Nat) : Prop := Z.1 t = some (11 + 10, 0) ∧ (Z.2.1 t 0 = some (t + 1) ∧ Z.1 (t + 1) = some (0, 8)) ∧ (Z.2.1 t 1 = some (t + 2) ∧ Z.1 (t + 2) = some (0, 8)) ∧ (Z.2.1 t 2 = some (t + 3) ∧ Z.1 (t + 3) = some (0, 8)) ∧ (Z.2.1 t 3 = some (t + 4) ∧ Z.1 (t + 4) = some (3, 8)) ∧ (Z.2.1 t 4 = some (t + 13) ∧ Z.1 (t + 13) = some (1, 40)) ∧ (Z.2.1 t 5 = some (t + 14) ∧ Z.1 (t + 14) = some (0, 8)) ∧ (Z.2.1 t 6 = some (t + 15) ∧ Z.1 (t + 15) = some (0, 8)) ∧ (Z.2.1 t 7 = some (t + 16) ∧ Z.1 (t + 16) = some (0, 250)) ∧ (Z.2.1 t 9 = some (t + 17) ∧ Z.1 (t + 17) = some (0, 8)) ∧ (Z.2.1 t 11 = some (t + 18) ∧ Z.1 (t + 18) = some (0, 8)) ∧ (Z.2.1 t 12 = some (t + 19) ∧ Z.1 (t + 19) = some (0, 8)) ∧ (Z.2.1 t 13 = some (t + 20) ∧ Z.1 (t + 20) = some (2, 8)) ∧ (Z.2.1 t 27 = some (t + 29) ∧ Z.1 (t + 29) = some (0, 2)) ∧ (Z.2.1 t 29 = some (t + 30) ∧ Z.1 (t + 30) = some (0, 70)) ∧ (Z.2.1 t 31 = some (t + 31) ∧ Z.1 (t + 31) = some (0, 7)) ∧ (Z.2.1 t 32 = some (t + 32) ∧ Z.1 (t + 32) = some (0, 7)) ∧ (Z.2.1 t 35 = some (t + 33) ∧ Z.1 (t + 33) = some (0, 7)) ∧ (Z.2.1 t 36 = some (t + 34) ∧ Z.1 (t + 34) = some (0, 1024)) ∧ (Z.2.1 t 39 = some (t + 35) ∧ Z.1 (t + 35) = some (0, 10)) ∧ (Z.2.1 t 40 = some (t + 36) ∧ Z.1 (t + 36) = some (0, 10)) ∧ (Z.2.1 t 41 = some (t + 37) ∧ Z.1 (t + 37) = some (0, 10)) ∧ (∀ i, i < 8 → Z.2.1 (t + 4) i = some (t + 5 + i) ∧ Z.1 (t + 5 + i) = some (1, 40)) ∧ (∀ i, i < 8 → Z.2.1 (t + 20) i = some (t + 21 + i) ∧ Z.1 (t + 21 + i) = some (0, 8))
theorem zModel_p0 {Z : jdL} {t : Nat} (h : zModel Z t) : Z.2.1 t 0 = some (t + 1) := h.2.1.1
theorem zModel_a0 {Z : jdL} {t : Nat} (h : zModel Z t) : Z.1 (t + 1) = some (0, 8) := h.2.1.2
theorem zModel_p1 {Z : jdL} {t : Nat} (h : zModel Z t) : Z.2.1 t 1 = some (t + 2) := h.2.2.1.1
theorem zModel_a1 {Z : jdL} {t : Nat} (h : zModel Z t) : Z.1 (t + 2) = some (0, 8) := h.2.2.1.2
theorem zModel_p2 {Z : jdL} {t : Nat} (h : zModel Z t) : Z.2.1 t 2 = some (t + 3) := h.2.2.2.1.1
theorem zModel_a2 {Z : jdL} {t : Nat} (h : zModel Z t) : Z.1 (t + 3) = some (0, 8) := h.2.2.2.1.2
theorem zModel_p3 {Z : jdL} {t : Nat} (h : zModel Z t) : Z.2.1 t 3 = some (t + 4) := h.2.2.2.2.1.1
theorem zModel_a3 {Z : jdL} {t : Nat} (h : zModel Z t) : Z.1 (t + 4) = some (3, 8) := h.2.2.2.2.1.2
theorem zModel_p4 {Z : jdL} {t : Nat} (h : zModel Z t) : Z.2.1 t 4 = some (t + 13) := h.2.2.2.2.2.1.1
theorem zModel_a4 {Z : jdL} {t : Nat} (h : zModel Z t) : Z.1 (t + 13) = some (1, 40) := h.2.2.2.2.2.1.2
theorem zModel_p5 {Z : jdL} {t : Nat} (h : zModel Z t) : Z.2.1 t 5 = some (t + 14) := h.2.2.2.2.2.2.1.1
theorem zModel_a5 {Z : jdL} {t : Nat} (h : zModel Z t) : Z.1 (t + 14) = some (0, 8) := h.2.2.2.2.2.2.1.2
theorem zModel_p6 {Z : jdL} {t : Nat} (h : zModel Z t) : Z.2.1 t 6 = some (t + 15) := h.2.2.2.2.2.2.2.1.1
theorem zModel_a6 {Z : jdL} {t : Nat} (h : zModel Z t) : Z.1 (t + 15) = some (0, 8) := h.2.2.2.2.2.2.2.1.2
theorem zModel_p7 {Z : jdL} {t : Nat} (h : zModel Z t) : Z.2.1 t 7 = some (t + 16) := h.2.2.2.2.2.2.2.2.1.1
theorem zModel_a7 {Z : jdL} {t : Nat} (h : zModel Z t) : Z.1 (t + 16) = some (0, 250) := h.2.2.2.2.2.2.2.2.1.2
theorem zModel_p9 {Z : jdL} {t : Nat} (h : zModel Z t) : Z.2.1 t 9 = some (t + 17) := h.2.2.2.2.2.2.2.2.2.1.1
theorem zModel_a9 {Z : jdL} {t : Nat} (h : zModel Z t) : Z.1 (t + 17) = some (0, 8) := h.2.2.2.2.2.2.2.2.2.1.2
theorem zModel_p11 {Z : jdL} {t : Nat} (h : zModel Z t) : Z.2.1 t 11 = some (t + 18) := h.2.2.2.2.2.2.2.2.2.2.1.1
theorem zModel_a11 {Z : jdL} {t : Nat} (h : zModel Z t) : Z.1 (t + 18) = some (0, 8) := h.2.2.2.2.2.2.2.2.2.2.1.2
theorem zModel_p12 {Z : jdL} {t : Nat} (h : zModel Z t) : Z.2.1 t 12 = some (t + 19) := h.2.2.2.2.2.2.2.2.2.2.2.1.1
theorem zModel_a12 {Z : jdL} {t : Nat} (h : zModel Z t) : Z.1 (t + 19) = some (0, 8) := h.2.2.2.2.2.2.2.2.2.2.2.1.2
theorem zModel_p13 {Z : jdL} {t : Nat} (h : zModel Z t) : Z.2.1 t 13 = some (t + 20) := h.2.2.2.2.2.2.2.2.2.2.2.2.1.1
theorem zModel_a13 {Z : jdL} {t : Nat} (h : zModel Z t) : Z.1 (t + 20) = some (2, 8) := h.2.2.2.2.2.2.2.2.2.2.2.2.1.2
theorem zModel_p27 {Z : jdL} {t : Nat} (h : zModel Z t) : Z.2.1 t 27 = some (t + 29) := h.2.2.2.2.2.2.2.2.2.2.2.2.2.1.1
theorem zModel_a27 {Z : jdL} {t : Nat} (h : zModel Z t) : Z.1 (t + 29) = some (0, 2) := h.2.2.2.2.2.2.2.2.2.2.2.2.2.1.2
theorem zModel_p29 {Z : jdL} {t : Nat} (h : zModel Z t) : Z.2.1 t 29 = some (t + 30) := h.2.2.2.2.2.2.2.2.2.2.2.2.2.2.1.1
theorem zModel_a29 {Z : jdL} {t : Nat} (h : zModel Z t) : Z.1 (t + 30) = some (0, 70) := h.2.2.2.2.2.2.2.2.2.2.2.2.2.2.1.2
theorem zModel_p31 {Z : jdL} {t : Nat} (h : zModel Z t) : Z.2.1 t 31 = some (t + 31) := h.2.2.2.2.2.2.2.2.2.2.2.2.2.2.2.1.1
theorem zModel_a31 {Z : jdL} {t : Nat} (h : zModel Z t) : Z.1 (t + 31) = some (0, 7) := h.2.2.2.2.2.2.2.2.2.2.2.2.2.2.2.1.2
theorem zModel_p32 {Z : jdL} {t : Nat} (h : zModel Z t) : Z.2.1 t 32 = some (t + 32) := h.2.2.2.2.2.2.2.2.2.2.2.2.2.2.2.2.1.1
theorem zModel_a32 {Z : jdL} {t : Nat} (h : zModel Z t) : Z.1 (t + 32) = some (0, 7) := h.2.2.2.2.2.2.2.2.2.2.2.2.2.2.2.2.1.2
theorem zModel_p35 {Z : jdL} {t : Nat} (h : zModel Z t) : Z.2.1 t 35 = some (t + 33) := h.2.2.2.2.2.2.2.2.2.2.2.2.2.2.2.2.2.1.1
theorem zModel_a35 {Z : jdL} {t : Nat} (h : zModel Z t) : Z.1 (t + 33) = some (0, 7) := h.2.2.2.2.2.2.2.2.2.2.2.2.2.2.2.2.2.1.2
theorem zModel_p36 {Z : jdL} {t : Nat} (h : zModel Z t) : Z.2.1 t 36 = some (t + 34) := h.2.2.2.2.2.2.2.2.2.2.2.2.2.2.2.2.2.2.1.1
theorem zModel_a36 {Z : jdL} {t : Nat} (h : zModel Z t) : Z.1 (t + 34) = some (0, 1024) := h.2.2.2.2.2.2.2.2.2.2.2.2.2.2.2.2.2.2.1.2
theorem zModel_p39 {Z : jdL} {t : Nat} (h : zModel Z t) : Z.2.1 t 39 = some (t + 35) := h.2.2.2.2.2.2.2.2.2.2.2.2.2.2.2.2.2.2.2.1.1
theorem zModel_a39 {Z : jdL} {t : Nat} (h : zModel Z t) : Z.1 (t + 35) = some (0, 10) := h.2.2.2.2.2.2.2.2.2.2.2.2.2.2.2.2.2.2.2.1.2
theorem zModel_p40 {Z : jdL} {t : Nat} (h : zModel Z t) : Z.2.1 t 40 = some (t + 36) := h.2.2.2.2.2.2.2.2.2.2.2.2.2.2.2.2.2.2.2.2.1.1
theorem zModel_a40 {Z : jdL} {t : Nat} (h : zModel Z t) : Z.1 (t + 36) = some (0, 10) := h.2.2.2.2.2.2.2.2.2.2.2.2.2.2.2.2.2.2.2.2.1.2
theorem zModel_p41 {Z : jdL} {t : Nat} (h : zModel Z t) : Z.2.1 t 41 = some (t + 37) := h.2.2.2.2.2.2.2.2.2.2.2.2.2.2.2.2.2.2.2.2.2.1.1
theorem zModel_a41 {Z : jdL} {t : Nat} (h : zModel Z t) : Z.1 (t + 37) = some (0, 10) := h.2.2.2.2.2.2.2.2.2.2.2.2.2.2.2.2.2.2.2.2.2.1.2
theorem zModel_rows {Z : jdL} {t i : Nat} (h : zModel Z t) (hi : i < 8) : Z.2.1 (t + 4) i = some (t + 5 + i) := (h.2.2.2.2.2.2.2.2.2.2.2.2.2.2.2.2.2.2.2.2.2.2.1 i hi).1
theorem zModel_rowsA {Z : jdL} {t i : Nat} (h : zModel Z t) (hi : i < 8) : Z.1 (t + 5 + i) = some (1, 40) := (h.2.2.2.2.2.2.2.2.2.2.2.2.2.2.2.2.2.2.2.2.2.2.1 i hi).2
theorem zModel_known {Z : jdL} {t i : Nat} (h : zModel Z t) (hi : i < 8) : Z.2.1 (t + 20) i = some (t + 21 + i) := (h.2.2.2.2.2.2.2.2.2.2.2.2.2.2.2.2.2.2.2.2.2.2.2 i hi).1
theorem zModel_knownA {Z : jdL} {t i : Nat} (h : zModel Z t) (hi : i < 8) : Z.1 (t + 21 + i) = some (0, 8) := (h.2.2.2.2.2.2.2.2.2.2.2.2.2.2.2.2.2.2.2.2.2.2.2 i hi).2
def zX (Z : jdL) : Prop := Z.1 0 = some (10 + 10, 0) ∧ (Z.2.1 0 0 = some 1 ∧ zTown Z 1) ∧ (Z.2.1 0 1 = some 5 ∧ zTown Z 5) ∧ (Z.2.1 0 2 = some 9 ∧ zTown Z 9) ∧ (Z.2.1 0 3 = some 13 ∧ zTies Z 13) ∧ (Z.2.1 0 4 = some 20 ∧ zDay Z 20) ∧ (Z.2.1 0 5 = some 25 ∧ zScribe Z 25) ∧ (Z.2.1 0 6 = some 27 ∧ Z.1 27 = some (4, 8)) ∧ (Z.2.1 0 7 = some 28 ∧ Z.1 28 = some (0, 7)) ∧ (∀ i, i < 8 → Z.2.1 27 i = some (29 + 2 * i) ∧ zShelf Z (29 + 2 * i))
theorem zX_p0 {Z : jdL} (h : zX Z) : Z.2.1 0 0 = some 1 := h.2.1.1
theorem zX_o0 {Z : jdL} (h : zX Z) : zTown Z 1 := h.2.1.2
theorem zX_p1 {Z : jdL} (h : zX Z) : Z.2.1 0 1 = some 5 := h.2.2.1.1
theorem zX_o1 {Z : jdL} (h : zX Z) : zTown Z 5 := h.2.2.1.2
theorem zX_p2 {Z : jdL} (h : zX Z) : Z.2.1 0 2 = some 9 := h.2.2.2.1.1
theorem zX_o2 {Z : jdL} (h : zX Z) : zTown Z 9 := h.2.2.2.1.2
theorem zX_p3 {Z : jdL} (h : zX Z) : Z.2.1 0 3 = some 13 := h.2.2.2.2.1.1
theorem zX_o3 {Z : jdL} (h : zX Z) : zTies Z 13 := h.2.2.2.2.1.2
theorem zX_p4 {Z : jdL} (h : zX Z) : Z.2.1 0 4 = some 20 := h.2.2.2.2.2.1.1
theorem zX_o4 {Z : jdL} (h : zX Z) : zDay Z 20 := h.2.2.2.2.2.1.2
theorem zX_p5 {Z : jdL} (h : zX Z) : Z.2.1 0 5 = some 25 := h.2.2.2.2.2.2.1.1
theorem zX_o5 {Z : jdL} (h : zX Z) : zScribe Z 25 := h.2.2.2.2.2.2.1.2
theorem zX_p6 {Z : jdL} (h : zX Z) : Z.2.1 0 6 = some 27 := h.2.2.2.2.2.2.2.1.1
theorem zX_a6 {Z : jdL} (h : zX Z) : Z.1 27 = some (4, 8) := h.2.2.2.2.2.2.2.1.2
theorem zX_p7 {Z : jdL} (h : zX Z) : Z.2.1 0 7 = some 28 := h.2.2.2.2.2.2.2.2.1.1
theorem zX_a7 {Z : jdL} (h : zX Z) : Z.1 28 = some (0, 7) := h.2.2.2.2.2.2.2.2.1.2
theorem zX_sh {Z : jdL} {i : Nat} (h : zX Z) (hi : i < 8) : Z.2.1 27 i = some (29 + 2 * i) := (h.2.2.2.2.2.2.2.2.2 i hi).1
theorem zX_shelf {Z : jdL} {i : Nat} (h : zX Z) (hi : i < 8) : zShelf Z (29 + 2 * i) := (h.2.2.2.2.2.2.2.2.2 i hi).2
theorem uI_ss (I : jdI) (id k : Nat) (v : Int32) : uI I id k v id k = v := by
  rw [uI_s]
  exact if_pos rfl
theorem uI_sk {I : jdI} {id k j : Nat} {v e : Int32} (h : j ≠ k) (he : I id j = e) : uI I id k v id j = e := by
  rw [uI_s]
  exact (if_neg h).trans he
theorem uI_ne {I : jdI} {id a k j : Nat} {v e : Int32} (h : a ≠ id) (he : I a j = e) : uI I id k v a j = e := by
  rw [uI_n I k v h]
  exact he
theorem jd_getIe {G : jdG} {M : jdM} {F : jdF} {n rc rs pc : Nat} {lv : List (Nat × Value)} {st : List Value} {Z : jdL} {I : jdI} {J : jdJ} {id ci k index : Nat} {e : Int32} (he : I id k = e) (hf : jdFg ci k M.1.cls index) (hT : Z.1 id = some (ci + 10, 0)) (hk : (jdk ci)[k]? = some false) (hdg : decode M.2.1 pc = .ok (.getfield index, 3)) (kk : Jd G M F n rc rs (pc + 3) lv (.int e :: st) Z I J) : Jd G M F n rc rs pc lv (.ref (gb G + id) :: st) Z I J := by
  subst he
  exact jd_getI hf hT hk hdg kk
theorem jd_ialdE {G : jdG} {M : jdM} {F : jdF} {n rc rs pc : Nat} {lv : List (Nat × Value)} {st : List Value} {Z : jdL} {I : jdI} {J : jdJ} {id len : Nat} {i e : Int32} (he : I id i.toNatClampNeg = e) (hT : Z.1 id = some (0, len)) (hin : vp_in i len) (hdg : decode M.2.1 pc = .ok (.iaload, 1)) (kk : Jd G M F n rc rs (pc + 1) lv (.int e :: st) Z I J) : Jd G M F n rc rs pc lv (.int i :: .ref (gb G + id) :: st) Z I J := by
  subst he
  exact jd_iald hT hin hdg kk
