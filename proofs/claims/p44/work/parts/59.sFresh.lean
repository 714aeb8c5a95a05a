/-! a new model's cells, copying, and the invariant of the model with what it keeps -/
theorem i0 {v : Int32} (h : v = 0) : v.toInt = 0 := by
  rw [h]
  rfl
theorem i1 {v : Int32} (h : ¬ v = 0) : ¬ v.toInt = 0 := fun e => h (Int32.toInt_inj.mp (show v.toInt = (0 : Int32).toInt from e))
theorem uP_ap (Z : jdL) (id k : Nat) (v : Option Nat) (a j : Nat) : (uP Z id k v).2.1 a j = if a = id ∧ j = k then v else Z.2.1 a j := by
  show (if a = id then va_up (Z.2.1 id) k v else Z.2.1 a) j = _
  by_cases h : a = id
  · subst h
    rw [if_pos rfl]
    by_cases h2 : j = k
    · subst h2
      rw [if_pos ⟨rfl, rfl⟩]
      exact if_pos rfl
    · rw [if_neg (fun q => h2 q.2)]
      exact if_neg h2
  · rw [if_neg h, if_neg (fun q => h q.1)]
theorem nZ_ap (Z : jdL) (ty : Nat × Nat) (a : Nat) : (nZ Z ty).1 a = if a = Z.2.2 then some ty else Z.1 a := rfl
theorem nZ_ap2 (Z : jdL) (ty : Nat × Nat) (a j : Nat) : (nZ Z ty).2.1 a j = if a = Z.2.2 then none else Z.2.1 a j := by
  show (if a = Z.2.2 then (fun _ => none) else Z.2.1 a) j = _
  by_cases h : a = Z.2.2
  · rw [if_pos h, if_pos h]
  · rw [if_neg h, if_neg h]
theorem sA_ap (Z : jdL) (t k : Nat) (ty : Nat × Nat) (a : Nat) : (sA Z t k ty).1 a = if a = Z.2.2 then some ty else Z.1 a := rfl
theorem sA_ap2 (Z : jdL) (t k : Nat) (ty : Nat × Nat) (a j : Nat) : (sA Z t k ty).2.1 a j = if a = t ∧ j = k then some Z.2.2 else if a = Z.2.2 then none else Z.2.1 a j := by
  show (uP (nZ Z ty) t k (some Z.2.2)).2.1 a j = _
  rw [uP_ap, nZ_ap2]
theorem mZ_ap2 (Z : jdL) (kd N : Nat) (ty : Nat × Nat) (a j : Nat) : (mZ Z kd N ty).2.1 a j = if a = Z.2.2 then (if j < N then some (Z.2.2 + 1 + j) else none) else if Z.2.2 < a ∧ a ≤ Z.2.2 + N then none else Z.2.1 a j := by
  show (if a = Z.2.2 then (fun i => if i < N then some (Z.2.2 + 1 + i) else none) else if Z.2.2 < a ∧ a ≤ Z.2.2 + N then (fun _ => none) else Z.2.1 a) j = _
  by_cases h : a = Z.2.2
  · rw [if_pos h, if_pos h]
  · rw [if_neg h, if_neg h]
    by_cases h2 : Z.2.2 < a ∧ a ≤ Z.2.2 + N
    · rw [if_pos h2, if_pos h2]
    · rw [if_neg h2, if_neg h2]
theorem zModel_tr {Z Z2 : jdL} {w : Nat} (h : zModel Z w) (h1 : ∀ a, w ≤ a → a ≤ w + 37 → Z2.1 a = Z.1 a) (h2 : ∀ a k, w ≤ a → a ≤ w + 37 → ¬ (a = w ∧ (k = 20 ∨ k = 21)) → Z2.2.1 a k = Z.2.1 a k) : zModel Z2 w :=
  ⟨(h1 w (by omega) (by omega)).trans h.1, ⟨(h2 w 0 (by omega) (by omega) (by omega)).trans (zModel_p0 h), (h1 (w + 1) (by omega) (by omega)).trans (zModel_a0 h)⟩, ⟨(h2 w 1 (by omega) (by omega) (by omega)).trans (zModel_p1 h), (h1 (w + 2) (by omega) (by omega)).trans (zModel_a1 h)⟩, ⟨(h2 w 2 (by omega) (by omega) (by omega)).trans (zModel_p2 h), (h1 (w + 3) (by omega) (by omega)).trans (zModel_a2 h)⟩, ⟨(h2 w 3 (by omega) (by omega) (by omega)).trans (zModel_p3 h), (h1 (w + 4) (by omega) (by omega)).trans (zModel_a3 h)⟩, ⟨(h2 w 4 (by omega) (by omega) (by omega)).trans (zModel_p4 h), (h1 (w + 13) (by omega) (by omega)).trans (zModel_a4 h)⟩, ⟨(h2 w 5 (by omega) (by omega) (by omega)).trans (zModel_p5 h), (h1 (w + 14) (by omega) (by omega)).trans (zModel_a5 h)⟩, ⟨(h2 w 6 (by omega) (by omega) (by omega)).trans (zModel_p6 h), (h1 (w + 15) (by omega) (by omega)).trans (zModel_a6 h)⟩, ⟨(h2 w 7 (by omega) (by omega) (by omega)).trans (zModel_p7 h), (h1 (w + 16) (by omega) (by omega)).trans (zModel_a7 h)⟩, ⟨(h2 w 9 (by omega) (by omega) (by omega)).trans (zModel_p9 h), (h1 (w + 17) (by omega) (by omega)).trans (zModel_a9 h)⟩, ⟨(h2 w 11 (by omega) (by omega) (by omega)).trans (zModel_p11 h), (h1 (w + 18) (by omega) (by omega)).trans (zModel_a11 h)⟩, ⟨(h2 w 12 (by omega) (by omega) (by omega)).trans (zModel_p12 h), (h1 (w + 19) (by omega) (by omega)).trans (zModel_a12 h)⟩, ⟨(h2 w 13 (by omega) (by omega) (by omega)).trans (zModel_p13 h), (h1 (w + 20) (by omega) (by omega)).trans (zModel_a13 h)⟩, ⟨(h2 w 27 (by omega) (by omega) (by omega)).trans (zModel_p27 h), (h1 (w + 29) (by omega) (by omega)).trans (zModel_a27 h)⟩, ⟨(h2 w 29 (by omega) (by omega) (by omega)).trans (zModel_p29 h), (h1 (w + 30) (by omega) (by omega)).trans (zModel_a29 h)⟩, ⟨(h2 w 31 (by omega) (by omega) (by omega)).trans (zModel_p31 h), (h1 (w + 31) (by omega) (by omega)).trans (zModel_a31 h)⟩, ⟨(h2 w 32 (by omega) (by omega) (by omega)).trans (zModel_p32 h), (h1 (w + 32) (by omega) (by omega)).trans (zModel_a32 h)⟩, ⟨(h2 w 35 (by omega) (by omega) (by omega)).trans (zModel_p35 h), (h1 (w + 33) (by omega) (by omega)).trans (zModel_a35 h)⟩, ⟨(h2 w 36 (by omega) (by omega) (by omega)).trans (zModel_p36 h), (h1 (w + 34) (by omega) (by omega)).trans (zModel_a36 h)⟩, ⟨(h2 w 39 (by omega) (by omega) (by omega)).trans (zModel_p39 h), (h1 (w + 35) (by omega) (by omega)).trans (zModel_a39 h)⟩, ⟨(h2 w 40 (by omega) (by omega) (by omega)).trans (zModel_p40 h), (h1 (w + 36) (by omega) (by omega)).trans (zModel_a40 h)⟩, ⟨(h2 w 41 (by omega) (by omega) (by omega)).trans (zModel_p41 h), (h1 (w + 37) (by omega) (by omega)).trans (zModel_a41 h)⟩, fun i hi => ⟨(h2 (w + 4) i (by omega) (by omega) (by omega)).trans (zModel_rows h hi), (h1 (w + 5 + i) (by omega) (by omega)).trans (zModel_rowsA h hi)⟩, fun i hi => ⟨(h2 (w + 20) i (by omega) (by omega) (by omega)).trans (zModel_known h hi), (h1 (w + 21 + i) (by omega) (by omega)).trans (zModel_knownA h hi)⟩⟩
def mTy (i : Nat) : Nat × Nat := [(0, 0), (0, 8), (0, 8), (0, 8), (3, 8), (1, 40), (1, 40), (1, 40), (1, 40), (1, 40), (1, 40), (1, 40), (1, 40), (1, 40), (0, 8), (0, 8), (0, 250), (0, 8), (0, 8), (0, 8), (2, 8), (0, 8), (0, 8), (0, 8), (0, 8), (0, 8), (0, 8), (0, 8), (0, 8), (0, 2), (0, 70), (0, 7), (0, 7), (0, 7), (0, 1024), (0, 10), (0, 10), (0, 10)][i]?.getD (0, 0)
def mFd (i : Nat) : Nat := [99, 0, 1, 2, 3, 99, 99, 99, 99, 99, 99, 99, 99, 4, 5, 6, 7, 9, 11, 12, 13, 99, 99, 99, 99, 99, 99, 99, 99, 27, 29, 31, 32, 35, 36, 39, 40, 41][i]?.getD 99
/-- the first m cells of a model are made at t, over Z0 -/
def PM (Z0 Z : jdL) (t m : Nat) : Prop := Z.2.2 = t + m ∧ (∀ a, a ≤ t → Z.1 a = Z0.1 a) ∧ (∀ a k, a < t → Z.2.1 a k = Z0.2.1 a k) ∧ (∀ k, k = 20 ∨ k = 21 → Z.2.1 t k = Z0.2.1 t k) ∧ (∀ i, 0 < i → i < m → Z.1 (t + i) = some (mTy i)) ∧ (∀ a, t + m ≤ a → Z.1 a = Z0.1 a) ∧ (∀ i, i < m → mFd i ≠ 99 → Z.2.1 t (mFd i) = some (t + i)) ∧ (4 < m → ∀ i, i < 8 → Z.2.1 (t + 4) i = some (t + 5 + i)) ∧ (20 < m → ∀ i, i < 8 → Z.2.1 (t + 20) i = some (t + 21 + i))
theorem PM_sA {Z0 Z : jdL} {t m k : Nat} {ty : Nat × Nat} (h : PM Z0 Z t m) (hm : 0 < m) (hm2 : m ≠ 4 ∧ m ≠ 20) (h1 : mTy m = ty) (h2 : mFd m = k) (h3 : ∀ i, i < m → mFd i ≠ k) (hk : k ≠ 20 ∧ k ≠ 21) : PM Z0 (sA Z t k ty) t (m + 1) := by
  obtain ⟨a0, a1, a2, a3, a4, a5, a6, a7, a8⟩ := h
  refine ⟨by show Z.2.2 + 1 = _; omega, fun a ha => ?_, fun a j ha => ?_, fun j hj => ?_, fun i hi him => ?_, fun a ha => ?_, fun i hi hn => ?_, fun hm4 i hi => ?_, fun hm4 i hi => ?_⟩
  · rw [sA_ap, if_neg (by omega)]
    exact a1 a ha
  · rw [sA_ap2, if_neg (by omega), if_neg (by omega)]
    exact a2 a j ha
  · rw [sA_ap2, if_neg (by omega), if_neg (by omega)]
    exact a3 j hj
  · rw [sA_ap]
    by_cases e : i = m
    · subst e
      rw [if_pos (by omega), h1]
    · rw [if_neg (by omega)]
      exact a4 i hi (by omega)
  · rw [sA_ap, if_neg (by omega)]
    exact a5 a (by omega)
  · rw [sA_ap2]
    by_cases e : i = m
    · subst e
      rw [if_pos ⟨rfl, h2⟩, a0]
    · rw [if_neg (fun q => h3 i (by omega) q.2), if_neg (by omega)]
      exact a6 i (by omega) hn
  · rw [sA_ap2, if_neg (by omega), if_neg (by omega)]
    exact a7 (by omega) i hi
  · rw [sA_ap2, if_neg (by omega), if_neg (by omega)]
    exact a8 (by omega) i hi
theorem PM_mZ {Z0 Z : jdL} {t m k kd : Nat} {ty : Nat × Nat} (h : PM Z0 Z t m) (hm : m = 4 ∨ m = 20) (h1 : mTy m = (kd, 8)) (h4 : ∀ j, j < 8 → mTy (m + 1 + j) = ty) (h2 : mFd m = k) (h3 : ∀ i, i < m + 9 → i ≠ m → mFd i ≠ k) (h5 : ∀ j, j < 8 → mFd (m + 1 + j) = 99) (hk : k ≠ 20 ∧ k ≠ 21) : PM Z0 (uP (mZ Z kd 8 ty) t k (some (t + m))) t (m + 9) := by
  obtain ⟨a0, a1, a2, a3, a4, a5, a6, a7, a8⟩ := h
  have e1 : ∀ a, (uP (mZ Z kd 8 ty) t k (some (t + m))).1 a = if a = Z.2.2 then some (kd, 8) else if Z.2.2 < a ∧ a ≤ Z.2.2 + 8 then some ty else Z.1 a := fun _ => rfl
  refine ⟨by show Z.2.2 + 1 + 8 = _; omega, fun a ha => ?_, fun a j ha => ?_, fun j hj => ?_, fun i hi him => ?_, fun a ha => ?_, fun i hi hn => ?_, fun hm4 i hi => ?_, fun hm4 i hi => ?_⟩
  · rw [e1, if_neg (by omega), if_neg (by omega)]
    exact a1 a ha
  · rw [uP_ap, if_neg (by omega), mZ_ap2, if_neg (by omega), if_neg (by omega)]
    exact a2 a j ha
  · rw [uP_ap, if_neg (by omega), mZ_ap2, if_neg (by omega), if_neg (by omega)]
    exact a3 j hj
  · rw [e1]
    by_cases e : i = m
    · subst e
      rw [if_pos (by omega), h1]
    · rw [if_neg (by omega)]
      by_cases e2 : i < m
      · rw [if_neg (by omega)]
        exact a4 i hi e2
      · rw [if_pos (by omega), show i = m + 1 + (i - m - 1) by omega, h4 (i - m - 1) (by omega)]
  · rw [e1, if_neg (by omega), if_neg (by omega)]
    exact a5 a (by omega)
  · rw [uP_ap]
    by_cases e : i = m
    · subst e
      rw [if_pos ⟨rfl, h2⟩]
    · by_cases e2 : i < m
      · rw [if_neg (fun q => h3 i (by omega) e q.2), mZ_ap2, if_neg (by omega), if_neg (by omega)]
        exact a6 i e2 hn
      · exact absurd (show mFd i = 99 by rw [show i = m + 1 + (i - m - 1) by omega]; exact h5 (i - m - 1) (by omega)) hn
  · rw [uP_ap, if_neg (by omega), mZ_ap2]
    by_cases e : m = 4
    · rw [if_pos (by omega), if_pos hi]
      congr 1
      omega
    · rw [if_neg (by omega), if_neg (by omega)]
      exact a7 (by omega) i hi
  · rw [uP_ap, if_neg (by omega), mZ_ap2]
    by_cases e : m = 20
    · rw [if_pos (by omega), if_pos hi]
      congr 1
      omega
    · exact absurd hm4 (by omega)
theorem PM_model {Z : jdL} {t : Nat} (hz : Z.2.2 = t + 1) : PM Z (kModelZ Z t) t 38 := by
  have h0 : PM Z Z t 1 := ⟨hz, fun _ _ => rfl, fun _ _ _ => rfl, fun _ _ => rfl, fun i h1 h2 => absurd h2 (by omega), fun _ _ => rfl, fun i h1 h2 => absurd (show mFd i = 99 by rw [show i = 0 by omega]; rfl) h2, fun h => absurd h (by omega), fun h => absurd h (by omega)⟩
  exact (PM_sA (k := 41) (ty := (0, 10)) (PM_sA (k := 40) (ty := (0, 10)) (PM_sA (k := 39) (ty := (0, 10)) (PM_sA (k := 36) (ty := (0, 1024)) (PM_sA (k := 35) (ty := (0, 7)) (PM_sA (k := 32) (ty := (0, 7)) (PM_sA (k := 31) (ty := (0, 7)) (PM_sA (k := 29) (ty := (0, 70)) (PM_sA (k := 27) (ty := (0, 2)) (PM_mZ (k := 13) (kd := 2) (ty := (0, 8)) (PM_sA (k := 12) (ty := (0, 8)) (PM_sA (k := 11) (ty := (0, 8)) (PM_sA (k := 9) (ty := (0, 8)) (PM_sA (k := 7) (ty := (0, 250)) (PM_sA (k := 6) (ty := (0, 8)) (PM_sA (k := 5) (ty := (0, 8)) (PM_sA (k := 4) (ty := (1, 40)) (PM_mZ (k := 3) (kd := 3) (ty := (1, 40)) (PM_sA (k := 2) (ty := (0, 8)) (PM_sA (k := 1) (ty := (0, 8)) (PM_sA (k := 0) (ty := (0, 8)) h0 (by decide) (by decide) rfl rfl (by decide) (by decide)) (by decide) (by decide) rfl rfl (by decide) (by decide)) (by decide) (by decide) rfl rfl (by decide) (by decide)) (by decide) rfl (by decide) rfl (by decide) (by decide) (by decide)) (by decide) (by decide) rfl rfl (by decide) (by decide)) (by decide) (by decide) rfl rfl (by decide) (by decide)) (by decide) (by decide) rfl rfl (by decide) (by decide)) (by decide) (by decide) rfl rfl (by decide) (by decide)) (by decide) (by decide) rfl rfl (by decide) (by decide)) (by decide) (by decide) rfl rfl (by decide) (by decide)) (by decide) (by decide) rfl rfl (by decide) (by decide)) (by decide) rfl (by decide) rfl (by decide) (by decide) (by decide)) (by decide) (by decide) rfl rfl (by decide) (by decide)) (by decide) (by decide) rfl rfl (by decide) (by decide)) (by decide) (by decide) rfl rfl (by decide) (by decide)) (by decide) (by decide) rfl rfl (by decide) (by decide)) (by decide) (by decide) rfl rfl (by decide) (by decide)) (by decide) (by decide) rfl rfl (by decide) (by decide)) (by decide) (by decide) rfl rfl (by decide) (by decide)) (by decide) (by decide) rfl rfl (by decide) (by decide)) (by decide) (by decide) rfl rfl (by decide) (by decide))
theorem mTy_r1 : ∀ i, i < 8 → mTy (5 + i) = (1, 40) := by decide
theorem mTy_r2 : ∀ i, i < 8 → mTy (21 + i) = (0, 8) := by decide
theorem zModel_new {Z : jdL} {t : Nat} (hz : Z.2.2 = t + 1) (hT : Z.1 t = some (11 + 10, 0)) : zModel (kModelZ Z t) t := by
  obtain ⟨a0, a1, a2, a3, a4, a5, a6, a7, a8⟩ := PM_model hz
  exact ⟨(a1 t (Nat.le_refl _)).trans hT, ⟨a6 1 (by decide) (by decide), a4 1 (by decide) (by decide)⟩, ⟨a6 2 (by decide) (by decide), a4 2 (by decide) (by decide)⟩, ⟨a6 3 (by decide) (by decide), a4 3 (by decide) (by decide)⟩, ⟨a6 4 (by decide) (by decide), a4 4 (by decide) (by decide)⟩, ⟨a6 13 (by decide) (by decide), a4 13 (by decide) (by decide)⟩, ⟨a6 14 (by decide) (by decide), a4 14 (by decide) (by decide)⟩, ⟨a6 15 (by decide) (by decide), a4 15 (by decide) (by decide)⟩, ⟨a6 16 (by decide) (by decide), a4 16 (by decide) (by decide)⟩, ⟨a6 17 (by decide) (by decide), a4 17 (by decide) (by decide)⟩, ⟨a6 18 (by decide) (by decide), a4 18 (by decide) (by decide)⟩, ⟨a6 19 (by decide) (by decide), a4 19 (by decide) (by decide)⟩, ⟨a6 20 (by decide) (by decide), a4 20 (by decide) (by decide)⟩, ⟨a6 29 (by decide) (by decide), a4 29 (by decide) (by decide)⟩, ⟨a6 30 (by decide) (by decide), a4 30 (by decide) (by decide)⟩, ⟨a6 31 (by decide) (by decide), a4 31 (by decide) (by decide)⟩, ⟨a6 32 (by decide) (by decide), a4 32 (by decide) (by decide)⟩, ⟨a6 33 (by decide) (by decide), a4 33 (by decide) (by decide)⟩, ⟨a6 34 (by decide) (by decide), a4 34 (by decide) (by decide)⟩, ⟨a6 35 (by decide) (by decide), a4 35 (by decide) (by decide)⟩, ⟨a6 36 (by decide) (by decide), a4 36 (by decide) (by decide)⟩, ⟨a6 37 (by decide) (by decide), a4 37 (by decide) (by decide)⟩, fun i hi => ⟨a7 (by decide) i hi, (by rw [Nat.add_assoc, a4 (5 + i) (by omega) (by omega), mTy_r1 i hi])⟩, fun i hi => ⟨a8 (by decide) i hi, (by rw [Nat.add_assoc, a4 (21 + i) (by omega) (by omega), mTy_r2 i hi])⟩⟩
theorem zI_ap (I : jdI) (id a k : Nat) : zI I id a k = if a = id then 0 else I a k := by
  show (if a = id then (fun _ => 0) else I a) k = _
  by_cases h : a = id
  · rw [if_pos h, if_pos h]
  · rw [if_neg h, if_neg h]
theorem mzI_ap (I : jdI) (b N a k : Nat) : mzI I b N a k = if b < a ∧ a ≤ b + N then 0 else I a k := by
  show (if b < a ∧ a ≤ b + N then (fun _ => 0) else I a) k = _
  by_cases h : b < a ∧ a ≤ b + N
  · rw [if_pos h, if_pos h]
  · rw [if_neg h, if_neg h]
theorem Fr_zI {p : Nat → Nat → Prop} {id : Nat} {I I1 : jdI} (h : Fr p I I1) (h1 : ∀ k, p id k) : Fr p I (zI I1 id) := fun a b ha => by
  rw [zI_ap, if_neg]
  · exact h a b ha
  · intro e
    rw [e] at ha
    exact ha (h1 b)
theorem Fr_mzI {p : Nat → Nat → Prop} {b N : Nat} {I I1 : jdI} (h : Fr p I I1) (h1 : ∀ a k, b < a → a ≤ b + N → p a k) : Fr p I (mzI I1 b N) := fun a k ha => by
  rw [mzI_ap, if_neg]
  · exact h a k ha
  · intro e
    exact ha (h1 a k e.1 e.2)
/-- a memory with only the fields 14 and 19 of a new model other than 0 -/
def ZN (t : Nat) (I : jdI) : Prop := (∀ k, k ≠ 14 → k ≠ 19 → I t k = 0) ∧ I t 14 = 3
theorem WM_new {t : Nat} {I : jdI} (h : ZN t I) (h1 : ∀ k, I (t + 3) k = 0) (h2 : ∀ k, I (t + 31) k = 0) (h3 : ∀ k, I (t + 35) k = 0) (h4 : ∀ k, I (t + 36) k = 0) : WM 7 t I := by
  have q : (0 : Int32).toInt = 0 := rfl
  have q3 : (3 : Int32).toInt = 3 := rfl
  refine ⟨⟨?_, ?_, ?_, ?_, ?_, ?_, ?_, ?_⟩, fun i _ => ?_, fun i _ => ?_, fun i _ => ?_, fun i _ => ?_⟩
  all_goals first | (rw [h.1 _ (by decide) (by decide)]; omega) | (rw [h.2]; omega) | (rw [h1]; omega) | (rw [h2]; omega) | (rw [h3]; omega) | (rw [h4]; omega)
theorem Fr_model (I : jdI) (t : Nat) : Fr (fun a _ => t ≤ a) I (kModelI (zI I t) t) :=
  (Fr_zI (Fr_zI (Fr_zI (Fr_zI (Fr_zI (Fr_zI (Fr_zI (Fr_zI (Fr_zI (Fr_uI (Fr_uI (Fr_mzI (Fr_zI (Fr_zI (Fr_zI (Fr_zI (Fr_zI (Fr_zI (Fr_zI (Fr_zI (Fr_zI (Fr_zI Fr.rf (fun k => by omega)) (fun k => by omega)) (fun k => by omega)) (fun k => by omega)) (fun k => by omega)) (fun k => by omega)) (fun k => by omega)) (fun k => by omega)) (fun k => by omega)) (fun k => by omega)) (fun a k h1 h2 => by omega)) (by omega)) (by omega)) (fun k => by omega)) (fun k => by omega)) (fun k => by omega)) (fun k => by omega)) (fun k => by omega)) (fun k => by omega)) (fun k => by omega)) (fun k => by omega)) (fun k => by omega))
theorem kModelI_0 (I : jdI) (t k : Nat) (h : k ≠ 14) (h2 : k ≠ 19) : kModelI (zI I t) t t k = 0 := by
  simp [kModelI, zI_ap, mzI_ap, uI_ap, h, h2]
theorem kModelI_14 (I : jdI) (t : Nat) : kModelI (zI I t) t t 14 = 3 := by
  simp [kModelI, zI_ap, mzI_ap, uI_ap]
theorem kModelI_a (I : jdI) (t i k : Nat) (h : i = 3 ∨ i = 31 ∨ i = 35 ∨ i = 36) : kModelI (zI I t) t (t + i) k = 0 := by
  rcases h with rfl | rfl | rfl | rfl <;> simp [kModelI, zI_ap, mzI_ap, uI_ap]
theorem WM_model (I : jdI) (t : Nat) : WM 7 t (kModelI (zI I t) t) :=
  WM_new ⟨kModelI_0 I t, kModelI_14 I t⟩ (fun k => kModelI_a I t 3 k (by decide)) (fun k => kModelI_a I t 31 k (by decide)) (fun k => kModelI_a I t 35 k (by decide)) (fun k => kModelI_a I t 36 k (by decide))
theorem WM_fr5 {c : Int} {b : Nat} {I I' : jdI} {p : Nat → Nat → Prop} (h : WM c b I) (hF : Fr p I I') (e0 : ∀ k, ¬ p b k) (e1 : ∀ k, ¬ p (b + 3) k) (e2 : ∀ k, ¬ p (b + 31) k) (e3 : ∀ k, ¬ p (b + 35) k) (e4 : ∀ k, ¬ p (b + 36) k) : WM c b I' := by
  obtain ⟨⟨h0, h1, h2, h3, h4, h5, h6, h7⟩, a0, a1, a2, a3⟩ := h
  exact ⟨⟨rg_eq h0 (hF _ _ (e0 _)), rg_eq h1 (hF _ _ (e0 _)), rg_eq h2 (hF _ _ (e0 _)), rg_eq h3 (hF _ _ (e0 _)), rg_eq h4 (hF _ _ (e0 _)), rg_eq h5 (hF _ _ (e0 _)), rg_eq h6 (hF _ _ (e0 _)), rg_eq h7 (hF _ _ (e0 _))⟩, fun i hi => rg_eq (a0 i hi) (hF _ _ (e1 i)), fun i hi => rg_eq (a1 i hi) (hF _ _ (e2 i)), fun i hi => rg_eq (a2 i hi) (hF _ _ (e3 i)), fun i hi => rg_eq (a3 i hi) (hF _ _ (e4 i))⟩
theorem WM_cut {c c2 : Int} {b : Nat} {I : jdI} (h : WM c b I) (hc : (I b 10).toInt ≤ c2) : WM c2 b I := by
  obtain ⟨⟨h0, h1, h2, h3, h4, h5, h6, h7⟩, a0, a1, a2, a3⟩ := h
  exact ⟨⟨⟨h0.1, hc⟩, h1, h2, h3, h4, h5, h6, h7⟩, a0, a1, a2, a3⟩
/-- the model at t with the two that it keeps -/
def MI (Z : jdL) (I : jdI) (t : Nat) : Prop := zModel Z t ∧ WM 7 t I ∧ t + 38 ≤ Z.2.2 ∧ (∀ a c, Z.1 a = some c → a < Z.2.2) ∧ (∀ w, Z.2.1 t 20 = some w → zModel Z w ∧ WM 7 w I ∧ t + 38 ≤ w ∧ w + 38 ≤ Z.2.2) ∧ (∀ u, Z.2.1 t 21 = some u → zModel Z u ∧ WM 8 u I ∧ t + 38 ≤ u ∧ u + 38 ≤ Z.2.2) ∧ (∀ w u, Z.2.1 t 20 = some w → Z.2.1 t 21 = some u → w + 38 ≤ u ∨ u + 38 ≤ w)
theorem MI_t {Z : jdL} {I I2 : jdI} {t : Nat} {p : Nat → Nat → Prop} (h : MI Z I t) (hW : WM 7 t I2) (hF : Fr p I I2) (hp : ∀ a k, p a k → (t ≤ a ∧ a ≤ t + 37) ∨ Z.2.2 ≤ a) : MI Z I2 t := by
  obtain ⟨b0, b1, b2, b3, b4, b5, b6⟩ := h
  refine ⟨b0, hW, b2, b3, fun w e => ?_, fun u e => ?_, b6⟩
  · obtain ⟨c0, c1, c2, c3⟩ := b4 w e
    exact ⟨c0, WM_fr c1 hF (fun a k h1 h2 h3 => by have := hp a k h3; omega), c2, c3⟩
  · obtain ⟨c0, c1, c2, c3⟩ := b5 u e
    exact ⟨c0, WM_fr c1 hF (fun a k h1 h2 h3 => by have := hp a k h3; omega), c2, c3⟩
theorem MI_lo {Z : jdL} {I I2 : jdI} {t : Nat} {p : Nat → Nat → Prop} (h : MI Z I t) (hF : Fr p I I2) (hp : ∀ a k, p a k → a < t) : MI Z I2 t := by
  obtain ⟨b0, b1, b2, b3, b4, b5, b6⟩ := h
  refine ⟨b0, WM_fr b1 hF (fun a k h1 h2 h3 => by have := hp a k h3; omega), b2, b3, fun w e => ?_, fun u e => ?_, b6⟩
  · obtain ⟨c0, c1, c2, c3⟩ := b4 w e
    exact ⟨c0, WM_fr c1 hF (fun a k h1 h2 h3 => by have := hp a k h3; omega), c2, c3⟩
  · obtain ⟨c0, c1, c2, c3⟩ := b5 u e
    exact ⟨c0, WM_fr c1 hF (fun a k h1 h2 h3 => by have := hp a k h3; omega), c2, c3⟩
theorem MI_u {Z : jdL} {I I2 : jdI} {t u : Nat} {p : Nat → Nat → Prop} (h : MI Z I t) (hu : Z.2.1 t 21 = some u) (hW : WM 8 u I2) (hF : Fr p I I2) (hp : ∀ a k, p a k → (u ≤ a ∧ a ≤ u + 37) ∨ Z.2.2 ≤ a) : MI Z I2 t := by
  obtain ⟨b0, b1, b2, b3, b4, b5, b6⟩ := h
  obtain ⟨d0, d1, d2, d3⟩ := b5 u hu
  refine ⟨b0, WM_fr b1 hF (fun a k h1 h2 h3 => by have := hp a k h3; omega), b2, b3, fun w e => ?_, fun v e => ?_, b6⟩
  · obtain ⟨c0, c1, c2, c3⟩ := b4 w e
    have hd := b6 w u e hu
    exact ⟨c0, WM_fr c1 hF (fun a k h1 h2 h3 => by have := hp a k h3; omega), c2, c3⟩
  · rw [hu] at e
    cases e
    exact ⟨d0, hW, d2, d3⟩
theorem MI_w {Z : jdL} {I I2 : jdI} {t w : Nat} {p : Nat → Nat → Prop} (h : MI Z I t) (hw : Z.2.1 t 20 = some w) (hW : WM 7 w I2) (hF : Fr p I I2) (hp : ∀ a k, p a k → (w ≤ a ∧ a ≤ w + 37) ∨ Z.2.2 ≤ a) : MI Z I2 t := by
  obtain ⟨b0, b1, b2, b3, b4, b5, b6⟩ := h
  obtain ⟨d0, d1, d2, d3⟩ := b4 w hw
  refine ⟨b0, WM_fr b1 hF (fun a k h1 h2 h3 => by have := hp a k h3; omega), b2, b3, fun v e => ?_, fun u e => ?_, b6⟩
  · rw [hw] at e
    cases e
    exact ⟨d0, hW, d2, d3⟩
  · obtain ⟨c0, c1, c2, c3⟩ := b5 u e
    have hd := b6 w u hw e
    exact ⟨c0, WM_fr c1 hF (fun a k h1 h2 h3 => by have := hp a k h3; omega), c2, c3⟩
theorem zno {Z : jdL} {a c n m : Nat} (e : Z.1 a = some (n, m)) (hn : n < 10) (hz : Z.1 a = some (c + 10, 0)) : c = 11 := by
  rw [e] at hz
  injection hz with hz
  injection hz with e1 e2
  omega
theorem zModel_tyj {Z : jdL} {u c : Nat} (h : zModel Z u) : ∀ j, j < 38 → Z.1 (u + j) = some (c + 10, 0) → c = 11
  | 0, _, hz => by
    rw [Nat.add_zero, h.1] at hz
    injection hz with hz
    injection hz with e1 e2
    omega
  | 1, _, hz => zno (zModel_a0 h) (by decide) hz
  | 2, _, hz => zno (zModel_a1 h) (by decide) hz
  | 3, _, hz => zno (zModel_a2 h) (by decide) hz
  | 4, _, hz => zno (zModel_a3 h) (by decide) hz
  | 5, _, hz => zno (zModel_rowsA (i := 0) h (by decide)) (by decide) hz
  | 6, _, hz => zno (zModel_rowsA (i := 1) h (by decide)) (by decide) hz
  | 7, _, hz => zno (zModel_rowsA (i := 2) h (by decide)) (by decide) hz
  | 8, _, hz => zno (zModel_rowsA (i := 3) h (by decide)) (by decide) hz
  | 9, _, hz => zno (zModel_rowsA (i := 4) h (by decide)) (by decide) hz
  | 10, _, hz => zno (zModel_rowsA (i := 5) h (by decide)) (by decide) hz
  | 11, _, hz => zno (zModel_rowsA (i := 6) h (by decide)) (by decide) hz
  | 12, _, hz => zno (zModel_rowsA (i := 7) h (by decide)) (by decide) hz
  | 13, _, hz => zno (zModel_a4 h) (by decide) hz
  | 14, _, hz => zno (zModel_a5 h) (by decide) hz
  | 15, _, hz => zno (zModel_a6 h) (by decide) hz
  | 16, _, hz => zno (zModel_a7 h) (by decide) hz
  | 17, _, hz => zno (zModel_a9 h) (by decide) hz
  | 18, _, hz => zno (zModel_a11 h) (by decide) hz
  | 19, _, hz => zno (zModel_a12 h) (by decide) hz
  | 20, _, hz => zno (zModel_a13 h) (by decide) hz
  | 21, _, hz => zno (zModel_knownA (i := 0) h (by decide)) (by decide) hz
  | 22, _, hz => zno (zModel_knownA (i := 1) h (by decide)) (by decide) hz
  | 23, _, hz => zno (zModel_knownA (i := 2) h (by decide)) (by decide) hz
  | 24, _, hz => zno (zModel_knownA (i := 3) h (by decide)) (by decide) hz
  | 25, _, hz => zno (zModel_knownA (i := 4) h (by decide)) (by decide) hz
  | 26, _, hz => zno (zModel_knownA (i := 5) h (by decide)) (by decide) hz
  | 27, _, hz => zno (zModel_knownA (i := 6) h (by decide)) (by decide) hz
  | 28, _, hz => zno (zModel_knownA (i := 7) h (by decide)) (by decide) hz
  | 29, _, hz => zno (zModel_a27 h) (by decide) hz
  | 30, _, hz => zno (zModel_a29 h) (by decide) hz
  | 31, _, hz => zno (zModel_a31 h) (by decide) hz
  | 32, _, hz => zno (zModel_a32 h) (by decide) hz
  | 33, _, hz => zno (zModel_a35 h) (by decide) hz
  | 34, _, hz => zno (zModel_a36 h) (by decide) hz
  | 35, _, hz => zno (zModel_a39 h) (by decide) hz
  | 36, _, hz => zno (zModel_a40 h) (by decide) hz
  | 37, _, hz => zno (zModel_a41 h) (by decide) hz
  | j + 38, hj, _ => absurd hj (by omega)
theorem zModel_ty {Z : jdL} {u a c : Nat} (h : zModel Z u) (h1 : u ≤ a) (h2 : a ≤ u + 37) (hz : Z.1 a = some (c + 10, 0)) : c = 11 := zModel_tyj h (a - u) (by omega) (by rw [show u + (a - u) = a by omega]; exact hz)
/-- what a method of the model at t leaves as it was -/
def RF (t x y : Nat) (Z : jdL) (I : jdI) (J : jdJ) (Z2 : jdL) (I2 : jdI) (J2 : jdJ) : Prop := Z.2.2 ≤ Z2.2.2 ∧ (∀ a, a < Z.2.2 → Z2.1 a = Z.1 a) ∧ (∀ a k, a < Z.2.2 → ¬ (a = t ∧ k = x) → Z2.2.1 a k = Z.2.1 a k) ∧ Fr (fun a k => (a = t ∧ y ≤ k) ∨ (t + 17 ≤ a ∧ ¬ (20 ≤ y ∧ t + 18 ≤ a ∧ a ≤ t + 28))) I I2 ∧ (∀ a, a < Z.2.2 → J2 a = J a) ∧ (x = 21 → t < Z.2.2 → ∀ w, Z.2.1 t 20 = some w → ∀ a k, w ≤ a → a ≤ w + 37 → I2 a k = I a k) ∧ (∀ a c, a < Z.2.2 → t + 38 ≤ a → Z.1 a = some (c + 10, 0) → c < 11 → ∀ k, I2 a k = I a k)
theorem RF.rf {t x y : Nat} {Z : jdL} {I : jdI} {J : jdJ} : RF t x y Z I J Z I J := ⟨Nat.le_refl _, fun _ _ => rfl, fun _ _ _ _ => rfl, Fr.rf, fun _ _ => rfl, fun _ _ _ _ _ _ _ _ => rfl, fun _ _ _ _ _ _ _ => rfl⟩
theorem RF.tr {t x y : Nat} {Z Z1 Z2 : jdL} {I I1 I2 : jdI} {J J1 J2 : jdJ} (h : RF t x y Z I J Z1 I1 J1) (h2 : RF t x y Z1 I1 J1 Z2 I2 J2) : RF t x y Z I J Z2 I2 J2 := by
  obtain ⟨a0, a1, a2, a3, a4, a5, a6⟩ := h
  obtain ⟨b0, b1, b2, b3, b4, b5, b6⟩ := h2
  exact ⟨by omega, fun a ha => (b1 a (by omega)).trans (a1 a ha), fun a k ha hn => (b2 a k (by omega) hn).trans (a2 a k ha hn), Fr.tr a3 b3 (fun _ _ h => h), fun a ha => (b4 a (by omega)).trans (a4 a ha), fun hx ht w hw a k h1 h2 => (b5 hx (by omega) w (by rw [a2 t 20 ht (by omega)]; exact hw) a k h1 h2).trans (a5 hx ht w hw a k h1 h2), fun a c ha ht hz hc k => (b6 a c (by omega) ht (by rw [a1 a ha]; exact hz) hc k).trans (a6 a c ha ht hz hc k)⟩
theorem RF_fr {t x y : Nat} {Z Z1 : jdL} {I I1 I2 : jdI} {J J1 : jdJ} {p : Nat → Nat → Prop} (h : RF t x y Z I J Z1 I1 J1) (hF : Fr p I1 I2) (hp : ∀ a k, p a k → (a = t ∧ y ≤ k) ∨ (t + 17 ≤ a ∧ ¬ (20 ≤ y ∧ t + 18 ≤ a ∧ a ≤ t + 28))) (hw : x = 21 → ∀ w, Z1.2.1 t 20 = some w → ∀ a k, w ≤ a → a ≤ w + 37 → ¬ p a k) (h6 : ∀ a c, a < Z1.2.2 → t + 38 ≤ a → Z1.1 a = some (c + 10, 0) → c < 11 → ∀ k, ¬ p a k) : RF t x y Z I J Z1 I2 J1 := by
  obtain ⟨a0, a1, a2, a3, a4, a5, a6⟩ := h
  exact ⟨a0, a1, a2, Fr.tr a3 hF hp, a4, fun hx ht w hw2 a k h1 h2 => (hF a k (hw hx w (by rw [a2 t 20 ht (by omega)]; exact hw2) a k h1 h2)).trans (a5 hx ht w hw2 a k h1 h2), fun a c ha ht hz hc k => (hF a k (h6 a c (by omega) ht (by rw [a1 a ha]; exact hz) hc k)).trans (a6 a c ha ht hz hc k)⟩
theorem MI_nZ {Z : jdL} {I : jdI} {t : Nat} {ty : Nat × Nat} (h : MI Z I t) : MI (nZ Z ty) I t := by
  obtain ⟨b0, b1, b2, b3, b4, b5, b6⟩ := h
  have tr : ∀ w, w + 38 ≤ Z.2.2 → zModel Z w → zModel (nZ Z ty) w := fun w hw h => zModel_tr h (fun a h1 h2 => by rw [nZ_ap, if_neg (by omega)]) (fun a k h1 h2 _ => by rw [nZ_ap2, if_neg (by omega)])
  have e : ∀ k, (nZ Z ty).2.1 t k = Z.2.1 t k := fun k => by rw [nZ_ap2, if_neg (by omega)]
  refine ⟨tr t b2 b0, b1, ?_, fun a c hc => ?_, fun w hw => ?_, fun u hu => ?_, fun w u hw hu => ?_⟩
  · show t + 38 ≤ Z.2.2 + 1
    omega
  · rw [nZ_ap] at hc
    show a < Z.2.2 + 1
    split at hc
    · omega
    · have := b3 a c hc
      omega
  · rw [e] at hw
    obtain ⟨c0, c1, c2, c3⟩ := b4 w hw
    exact ⟨tr w c3 c0, c1, c2, by show w + 38 ≤ Z.2.2 + 1; omega⟩
  · rw [e] at hu
    obtain ⟨c0, c1, c2, c3⟩ := b5 u hu
    exact ⟨tr u c3 c0, c1, c2, by show u + 38 ≤ Z.2.2 + 1; omega⟩
  · rw [e] at hw hu
    exact b6 w u hw hu
theorem RF_nZ {t x y : Nat} {Z0 Z : jdL} {I0 I : jdI} {J0 J : jdJ} {ty : Nat × Nat} (h : RF t x y Z0 I0 J0 Z I J) : RF t x y Z0 I0 J0 (nZ Z ty) I J := by
  obtain ⟨a0, a1, a2, a3, a4, a5, a6⟩ := h
  exact ⟨by show _ ≤ Z.2.2 + 1; omega, fun a ha => by rw [nZ_ap, if_neg (by omega)]; exact a1 a ha, fun a k ha hn => by rw [nZ_ap2, if_neg (by omega)]; exact a2 a k ha hn, a3, a4, a5, a6⟩
/-- a new model, made behind all cells and hung on the field k of t -/
theorem MI_make {Z : jdL} {I : jdI} {t k : Nat} (h : MI Z I t) (hk : k = 20 ∨ k = 21) (hn : Z.2.1 t k = none) : MI (uP (kModelZ (nZ Z (11 + 10, 0)) Z.2.2) t k (some Z.2.2)) (kModelI (zI I Z.2.2) Z.2.2) t := by
  obtain ⟨b0, b1, b2, b3, b4, b5, b6⟩ := h
  have hz : (nZ Z (11 + 10, 0)).2.2 = Z.2.2 + 1 := rfl
  obtain ⟨p0, p1, p2, p3, p4, p5, p6, p7, p8⟩ := PM_model (Z := nZ Z (11 + 10, 0)) (t := Z.2.2) hz
  have hN : zModel (kModelZ (nZ Z (11 + 10, 0)) Z.2.2) Z.2.2 := zModel_new hz (by rw [nZ_ap, if_pos rfl])
  have hF := Fr_model I Z.2.2
  have hWn := WM_model I Z.2.2
  generalize kModelZ (nZ Z (11 + 10, 0)) Z.2.2 = Z4 at p0 p1 p2 p3 p4 p5 p6 p7 p8 hN ⊢
  generalize kModelI (zI I Z.2.2) Z.2.2 = I4 at hF hWn ⊢
  have e1 : ∀ a, a < Z.2.2 → Z4.1 a = Z.1 a := fun a ha => by rw [p1 a (by omega), nZ_ap, if_neg (by omega)]
  have e2 : ∀ a j, a < Z.2.2 → Z4.2.1 a j = Z.2.1 a j := fun a j ha => by rw [p2 a j ha, nZ_ap2, if_neg (by omega)]
  have tr : ∀ w, t ≤ w → w + 38 ≤ Z.2.2 → zModel Z w → zModel (uP Z4 t k (some Z.2.2)) w := fun w hw0 hw h => zModel_tr h (fun a h1 h2 => e1 a (by omega)) (fun a j h1 h2 h3 => by rw [uP_ap, if_neg (by omega), e2 a j (by omega)])
  have hb : zModel (uP Z4 t k (some Z.2.2)) Z.2.2 := zModel_tr hN (fun a h1 h2 => rfl) (fun a j h1 h2 h3 => by rw [uP_ap, if_neg (by omega)])
  have f0 : ∀ j, j ≠ k → (uP Z4 t k (some Z.2.2)).2.1 t j = Z.2.1 t j := fun j hj => by rw [uP_ap, if_neg (by omega), e2 t j (by omega)]
  have f1 : (uP Z4 t k (some Z.2.2)).2.1 t k = some Z.2.2 := by rw [uP_ap, if_pos ⟨rfl, rfl⟩]
  have hs : (uP Z4 t k (some Z.2.2)).2.2 = Z.2.2 + 38 := p0
  have wo : ∀ (c : Int) (w : Nat), w + 38 ≤ Z.2.2 → WM c w I → WM c w I4 := fun c w hw h => WM_fr h hF (fun a k h1 h2 h3 => by omega)
  refine ⟨tr t (Nat.le_refl _) b2 b0, wo 7 t b2 b1, by rw [hs]; omega, fun a c hc => ?_, fun w hw => ?_, fun u hu => ?_, fun w u hw hu => ?_⟩
  · rw [hs]
    by_cases h9 : a < Z.2.2 + 38
    · exact h9
    · have hc2 : Z4.1 a = some c := hc
      rw [p5 a (by omega), nZ_ap, if_neg (by omega)] at hc2
      have := b3 a c hc2
      omega
  · rcases hk with rfl | rfl
    · rw [f1] at hw
      cases hw
      exact ⟨hb, hWn, b2, by rw [hs]; exact Nat.le_refl _⟩
    · rw [f0 20 (by decide)] at hw
      obtain ⟨c0, c1, c2, c3⟩ := b4 w hw
      exact ⟨tr w (by omega) c3 c0, wo 7 w c3 c1, c2, by rw [hs]; omega⟩
  · rcases hk with rfl | rfl
    · rw [f0 21 (by decide)] at hu
      obtain ⟨c0, c1, c2, c3⟩ := b5 u hu
      exact ⟨tr u (by omega) c3 c0, wo 8 u c3 c1, c2, by rw [hs]; omega⟩
    · rw [f1] at hu
      cases hu
      exact ⟨hb, WM_mono hWn (by decide), b2, by rw [hs]; exact Nat.le_refl _⟩
  · rcases hk with rfl | rfl
    · rw [f1] at hw
      rw [f0 21 (by decide)] at hu
      cases hw
      obtain ⟨c0, c1, c2, c3⟩ := b5 u hu
      exact Or.inr c3
    · rw [f1] at hu
      rw [f0 20 (by decide)] at hw
      cases hu
      obtain ⟨c0, c1, c2, c3⟩ := b4 w hw
      exact Or.inl c3
theorem RF_make {Z : jdL} {I : jdI} {J : jdJ} {t k y : Nat} (h : t + 38 ≤ Z.2.2) (hk : k = 20 ∨ k = 21) (hw : ∀ w, Z.2.1 t 20 = some w → w + 38 ≤ Z.2.2) : RF t k y Z I J (uP (kModelZ (nZ Z (11 + 10, 0)) Z.2.2) t k (some Z.2.2)) (kModelI (zI I Z.2.2) Z.2.2) (kModelJ J Z.2.2) := by
  have hz : (nZ Z (11 + 10, 0)).2.2 = Z.2.2 + 1 := rfl
  obtain ⟨p0, p1, p2, p3, p4, p5, p6, p7, p8⟩ := PM_model (Z := nZ Z (11 + 10, 0)) (t := Z.2.2) hz
  have hF := Fr_model I Z.2.2
  have hs : (uP (kModelZ (nZ Z (11 + 10, 0)) Z.2.2) t k (some Z.2.2)).2.2 = Z.2.2 + 38 := p0
  refine ⟨by rw [hs]; omega, fun a ha => ?_, fun a j ha hn => ?_, fun a j ha => hF a j (by omega), fun a ha => ?_, fun _ _ w e a j h1 h2 => hF a j (by have := hw w e; omega), fun a c ha _ _ _ j => hF a j (by omega)⟩
  · exact (p1 a (by omega)).trans (by rw [nZ_ap, if_neg (by omega)])
  · rw [uP_ap, if_neg (by omega), p2 a j ha, nZ_ap2, if_neg (by omega)]
  · show zJ (mzJ J (Z.2.2 + 4) 8) (Z.2.2 + 13) a = J a
    show (if a = Z.2.2 + 13 then (fun _ => 0) else if Z.2.2 + 4 < a ∧ a ≤ Z.2.2 + 4 + 8 then (fun _ => 0) else J a) = J a
    rw [if_neg (by omega), if_neg (by omega)]
