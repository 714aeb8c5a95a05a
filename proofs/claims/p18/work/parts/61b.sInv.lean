theorem RJ_copy {Z : jdL} {I I1 I2 : jdI} {J J1 J2 : jdJ} {x1 x2 x3 x4 x5 v1 v2 : Int32} (hW : WM 7 45 I) (hrs : RS Z I) (h : RJ I J) (n1 : NS Z I Z I1) (n2 : NS Z I Z I2) (hp1 : (¬ ((0 ≤ x1.toInt ∧ x1.toInt < 8) ∧ (0 ≤ x2.toInt ∧ x2.toInt < 8)) ∧ v1.toInt = -2 ∧ J1 = J) ∨ (((0 ≤ x1.toInt ∧ x1.toInt < 8) ∧ (0 ≤ x2.toInt ∧ x2.toInt < 8)) ∧ (1 ≤ mk Z (Int32.toNatClampNeg x1) ∨ 1 ≤ mk Z (Int32.toNatClampNeg x2)) ∧ v1.toInt = -3 ∧ J1 = J) ∨ (((0 ≤ x1.toInt ∧ x1.toInt < 8) ∧ (0 ≤ x2.toInt ∧ x2.toInt < 8)) ∧ (mk Z (Int32.toNatClampNeg x1) = 0 ∧ mk Z (Int32.toNatClampNeg x2) = 0) ∧ ((I (29 + 2 * (Int32.toNatClampNeg x1)) 1).toInt = -1 ∨ (I (29 + 2 * (Int32.toNatClampNeg x2)) 1).toInt = -1) ∧ v1.toInt = -4 ∧ J1 = J) ∨ (((0 ≤ x1.toInt ∧ x1.toInt < 8) ∧ (0 ≤ x2.toInt ∧ x2.toInt < 8)) ∧ (mk Z (Int32.toNatClampNeg x1) = 0 ∧ mk Z (Int32.toNatClampNeg x2) = 0) ∧ ¬ (I (29 + 2 * (Int32.toNatClampNeg x1)) 1).toInt = -1 ∧ ¬ (I (29 + 2 * (Int32.toNatClampNeg x2)) 1).toInt = -1 ∧ ¬ (I (29 + 2 * (Int32.toNatClampNeg x1)) 1).toInt = (I (29 + 2 * (Int32.toNatClampNeg x2)) 1).toInt ∧ v1.toInt = -3 ∧ J1 = J) ∨ (((0 ≤ x1.toInt ∧ x1.toInt < 8) ∧ (0 ≤ x2.toInt ∧ x2.toInt < 8)) ∧ (mk Z (Int32.toNatClampNeg x1) = 0 ∧ mk Z (Int32.toNatClampNeg x2) = 0) ∧ ¬ (I (29 + 2 * (Int32.toNatClampNeg x1)) 1).toInt = -1 ∧ ¬ (I (29 + 2 * (Int32.toNatClampNeg x2)) 1).toInt = -1 ∧ (I (29 + 2 * (Int32.toNatClampNeg x1)) 1).toInt = (I (29 + 2 * (Int32.toNatClampNeg x2)) 1).toInt ∧ (0 ≤ x3.toInt ∧ 0 ≤ x4.toInt ∧ 0 ≤ x5.toInt ∧ x5.toInt ≤ (I (29 + 2 * (Int32.toNatClampNeg x1)) 2).toInt - x3.toInt ∧ x5.toInt ≤ (I (29 + 2 * (Int32.toNatClampNeg x2)) 2).toInt - x4.toInt) ∧ v1.toInt = x5.toInt ∧ J1 = cJ J ((29 + 2 * (Int32.toNatClampNeg x1)) + 1) ((29 + 2 * (Int32.toNatClampNeg x2)) + 1) (Int32.toNatClampNeg x3) (Int32.toNatClampNeg x4) (Int32.toNatClampNeg x5)) ∨ (((0 ≤ x1.toInt ∧ x1.toInt < 8) ∧ (0 ≤ x2.toInt ∧ x2.toInt < 8)) ∧ (mk Z (Int32.toNatClampNeg x1) = 0 ∧ mk Z (Int32.toNatClampNeg x2) = 0) ∧ ¬ (I (29 + 2 * (Int32.toNatClampNeg x1)) 1).toInt = -1 ∧ ¬ (I (29 + 2 * (Int32.toNatClampNeg x2)) 1).toInt = -1 ∧ (I (29 + 2 * (Int32.toNatClampNeg x1)) 1).toInt = (I (29 + 2 * (Int32.toNatClampNeg x2)) 1).toInt ∧ ¬ (0 ≤ x3.toInt ∧ 0 ≤ x4.toInt ∧ 0 ≤ x5.toInt ∧ x5.toInt ≤ (I (29 + 2 * (Int32.toNatClampNeg x1)) 2).toInt - x3.toInt ∧ x5.toInt ≤ (I (29 + 2 * (Int32.toNatClampNeg x2)) 2).toInt - x4.toInt) ∧ v1.toInt = -2 ∧ J1 = J)) (hp2 : (¬ ((0 ≤ x1.toInt ∧ x1.toInt ≤ 7) ∧ 0 ≤ x2.toInt ∧ x2.toInt ≤ 7) ∧ v2.toInt = -2 ∧ J2 = J1) ∨ (((0 ≤ x1.toInt ∧ x1.toInt ≤ 7) ∧ 0 ≤ x2.toInt ∧ x2.toInt ≤ 7) ∧ ¬ ((0 ≤ (I1 (45 + 1) (Int32.toNatClampNeg x1)).toInt ∧ (I1 (45 + 1) (Int32.toNatClampNeg x1)).toInt ≤ 2) ∧ 0 ≤ (I1 (45 + 1) (Int32.toNatClampNeg x2)).toInt ∧ (I1 (45 + 1) (Int32.toNatClampNeg x2)).toInt ≤ 2)) ∨ (((0 ≤ x1.toInt ∧ x1.toInt ≤ 7) ∧ 0 ≤ x2.toInt ∧ x2.toInt ≤ 7) ∧ ((I1 (45 + 1) (Int32.toNatClampNeg x1)).toInt = 2 ∨ (I1 (45 + 1) (Int32.toNatClampNeg x2)).toInt = 2) ∧ v2.toInt = -3 ∧ J2 = J1) ∨ (((0 ≤ x1.toInt ∧ x1.toInt ≤ 7) ∧ 0 ≤ x2.toInt ∧ x2.toInt ≤ 7) ∧ ¬ (I1 (45 + 1) (Int32.toNatClampNeg x1)).toInt = 2 ∧ ¬ (I1 (45 + 1) (Int32.toNatClampNeg x2)).toInt = 2 ∧ ((I1 (45 + 1) (Int32.toNatClampNeg x1)).toInt = 0 ∨ (I1 (45 + 1) (Int32.toNatClampNeg x2)).toInt = 0) ∧ v2.toInt = -4 ∧ J2 = J1) ∨ (((0 ≤ x1.toInt ∧ x1.toInt ≤ 7) ∧ 0 ≤ x2.toInt ∧ x2.toInt ≤ 7) ∧ ((I1 (45 + 1) (Int32.toNatClampNeg x1)).toInt = 1 ∧ (I1 (45 + 1) (Int32.toNatClampNeg x2)).toInt = 1) ∧ ¬ (I1 (45 + 2) (Int32.toNatClampNeg x1)).toInt = (I1 (45 + 2) (Int32.toNatClampNeg x2)).toInt ∧ v2.toInt = -3 ∧ J2 = J1) ∨ (((0 ≤ x1.toInt ∧ x1.toInt ≤ 7) ∧ 0 ≤ x2.toInt ∧ x2.toInt ≤ 7) ∧ ((I1 (45 + 1) (Int32.toNatClampNeg x1)).toInt = 1 ∧ (I1 (45 + 1) (Int32.toNatClampNeg x2)).toInt = 1) ∧ (I1 (45 + 2) (Int32.toNatClampNeg x1)).toInt = (I1 (45 + 2) (Int32.toNatClampNeg x2)).toInt ∧ (0 ≤ x3.toInt ∧ 0 ≤ x4.toInt ∧ 0 ≤ x5.toInt ∧ x5.toInt ≤ (I1 (45 + 3) (Int32.toNatClampNeg x1)).toInt - x3.toInt ∧ x5.toInt ≤ (I1 (45 + 3) (Int32.toNatClampNeg x2)).toInt - x4.toInt) ∧ v2.toInt = x5.toInt ∧ ((∀ q : Nat, q < 40 → J2 (45 + 5 + (Int32.toNatClampNeg x2)) q = va_cpy (J1 (45 + 5 + (Int32.toNatClampNeg x1))) (J1 (45 + 5 + (Int32.toNatClampNeg x2))) (Int32.toNatClampNeg x3) (Int32.toNatClampNeg x4) (Int32.toNatClampNeg x5) q) ∧ ∀ a, a ≠ 45 + 13 → a ≠ 45 + 5 + (Int32.toNatClampNeg x2) → J2 a = J1 a)) ∨ (((0 ≤ x1.toInt ∧ x1.toInt ≤ 7) ∧ 0 ≤ x2.toInt ∧ x2.toInt ≤ 7) ∧ ((I1 (45 + 1) (Int32.toNatClampNeg x1)).toInt = 1 ∧ (I1 (45 + 1) (Int32.toNatClampNeg x2)).toInt = 1) ∧ (I1 (45 + 2) (Int32.toNatClampNeg x1)).toInt = (I1 (45 + 2) (Int32.toNatClampNeg x2)).toInt ∧ ¬ (0 ≤ x3.toInt ∧ 0 ≤ x4.toInt ∧ 0 ≤ x5.toInt ∧ x5.toInt ≤ (I1 (45 + 3) (Int32.toNatClampNeg x1)).toInt - x3.toInt ∧ x5.toInt ≤ (I1 (45 + 3) (Int32.toNatClampNeg x2)).toInt - x4.toInt) ∧ v2.toInt = -2 ∧ J2 = J1)) : RJ I2 J2 := fun i hi hw k hk => by
  obtain ⟨_, _, _, a4, _, _, _⟩ := n2 i hi
  rw [a4] at hw
  have hj := h i hi hw k hk
  have m1 := tn_eq x1
  have m2 := tn_eq x2
  have m3 := tn_eq x3
  have m4 := tn_eq x4
  have m5 := tn_eq x5
  by_cases r : (0 ≤ x1.toInt ∧ x1.toInt < 8) ∧ (0 ≤ x2.toInt ∧ x2.toInt < 8)
  · have s1 := hrs (Int32.toNatClampNeg x1) (by omega)
    have s2 := hrs (Int32.toNatClampNeg x2) (by omega)
    obtain ⟨_, _, _, b4, b5, b6, _⟩ := n1 (Int32.toNatClampNeg x1) (by omega)
    obtain ⟨_, _, _, c4, c5, c6, _⟩ := n1 (Int32.toNatClampNeg x2) (by omega)
    have b4 := congrArg Int32.toInt b4
    have b5 := congrArg Int32.toInt b5
    have b6 := congrArg Int32.toInt b6
    have c4 := congrArg Int32.toInt c4
    have c5 := congrArg Int32.toInt c5
    have c6 := congrArg Int32.toInt c6
    have w1 := WM_rowSize hW (k := Int32.toNatClampNeg x1) (by omega)
    have w2 := WM_rowSize hW (k := Int32.toNatClampNeg x2) (by omega)
    unfold SRI at s1 s2
    rcases hp1 with p | p | p | p | p | p
    · exact absurd r p.1
    · have e : J1 = J := p.2.2.2
      have p := p.2.1
      rcases hp2 with q | q | q | q | q | q | q
      · omega
      · omega
      · rw [q.2.2.2, e]; exact hj
      · rw [q.2.2.2.2.2, e]; exact hj
      · rw [q.2.2.2.2, e]; exact hj
      · omega
      · rw [q.2.2.2.2.2, e]; exact hj
    · have e : J1 = J := p.2.2.2.2
      have p1 := p.2.1
      have p := p.2.2.1
      rcases hp2 with q | q | q | q | q | q | q
      · omega
      · omega
      · rw [q.2.2.2, e]; exact hj
      · rw [q.2.2.2.2.2, e]; exact hj
      · rw [q.2.2.2.2, e]; exact hj
      · omega
      · rw [q.2.2.2.2.2, e]; exact hj
    · have e : J1 = J := p.2.2.2.2.2.2
      have p1 := p.2.1
      have p2 := p.2.2.1
      have p3 := p.2.2.2.1
      have p := p.2.2.2.2.1
      rcases hp2 with q | q | q | q | q | q | q
      · omega
      · omega
      · rw [q.2.2.2, e]; exact hj
      · rw [q.2.2.2.2.2, e]; exact hj
      · rw [q.2.2.2.2, e]; exact hj
      · omega
      · rw [q.2.2.2.2.2, e]; exact hj
    · obtain ⟨_, p1, p2, p3, p4, p5, _, e⟩ := p
      rcases hp2 with q | q | q | q | q | q | q
      · omega
      · omega
      · omega
      · omega
      · omega
      · obtain ⟨_, q1, q2, q3, _, g1, g2⟩ := q
        have hx : ∀ a, a ≠ 29 + 2 * (Int32.toNatClampNeg x2) + 1 → J1 a = J a := fun a ha => by
          rw [e]
          exact if_neg ha
        have hb : J1 (29 + 2 * (Int32.toNatClampNeg x2) + 1) = va_cpy (J (29 + 2 * (Int32.toNatClampNeg x1) + 1)) (J (29 + 2 * (Int32.toNatClampNeg x2) + 1)) (Int32.toNatClampNeg x3) (Int32.toNatClampNeg x4) (Int32.toNatClampNeg x5) := by
          rw [e]
          exact if_pos rfl
        by_cases d : i = Int32.toNatClampNeg x2
        · subst d
          rw [g2 _ (by omega) (by omega), hb, g1 k hk, hx _ (by omega), hx _ (by omega)]
          unfold va_cpy
          by_cases c : Int32.toNatClampNeg x4 ≤ k ∧ k < Int32.toNatClampNeg x4 + Int32.toNatClampNeg x5
          · rw [if_pos c, if_pos c]
            exact h (Int32.toNatClampNeg x1) (by omega) (by omega) _ (by omega)
          · rw [if_neg c, if_neg c]
            exact hj
        · rw [g2 _ (by omega) (by omega), g2 _ (by omega) (by omega), hx _ (by omega), hx _ (by omega)]
          exact hj
      · omega
    · have e : J1 = J := p.2.2.2.2.2.2.2
      obtain ⟨_, p1, p2, p3, p4, p5, _, _⟩ := p
      rcases hp2 with q | q | q | q | q | q | q
      · omega
      · omega
      · rw [q.2.2.2, e]; exact hj
      · rw [q.2.2.2.2.2, e]; exact hj
      · rw [q.2.2.2.2, e]; exact hj
      · omega
      · rw [q.2.2.2.2.2, e]; exact hj
  · rcases hp1 with p | p | p | p | p | p
    · rcases hp2 with q | q | q | q | q | q | q
      · rw [q.2.2, p.2.2]; exact hj
      · omega
      · omega
      · omega
      · omega
      · omega
      · omega
    · exact absurd p.1 r
    · exact absurd p.1 r
    · exact absurd p.1 r
    · exact absurd p.1 r
    · exact absurd p.1 r
/-- what is kept is the same town on both sides -/
def RK (Z : jdL) (I : jdI) : Prop := ∀ u, Z.2.1 45 20 = some u → ∃ s : Sd, OKT s.1 ∧ TX I 5 s ∧ TM I u s
/-- the tape and the town are the same on both sides -/
def RT (Z : jdL) (I : jdI) : Prop := I (25 + 1) = I (45 + 16) ∧ (∃ s : Sd, OKT s.1 ∧ TX I 1 s ∧ TM I 45 s) ∧ RK Z I
def NT (Z : jdL) (I : jdI) (Z2 : jdL) (I2 : jdI) : Prop := (∀ a k, a = 25 + 1 ∨ a = 45 + 16 ∨ (a = 1 ∧ 3 ≤ k ∧ k ≤ 6) ∨ (2 ≤ a ∧ a ≤ 8) ∨ (a = 45 ∧ (k = 10 ∨ k = 14 ∨ k = 15 ∨ k = 19)) ∨ a = 45 + 18 ∨ a = 45 + 19 ∨ (45 + 21 ≤ a ∧ a ≤ 45 + 28) → I2 a k = I a k) ∧ Z2.2.1 45 20 = Z.2.1 45 20 ∧ ∀ u, Z.2.1 45 20 = some u → ∀ a k, u ≤ a → a ≤ u + 37 → I2 a k = I a k
theorem NT.rf {Z : jdL} {I : jdI} : NT Z I Z I := ⟨fun _ _ _ => rfl, rfl, fun _ _ _ _ _ _ => rfl⟩
theorem NT.tr {Z Z1 Z2 : jdL} {I I1 I2 : jdI} (h : NT Z I Z1 I1) (h2 : NT Z1 I1 Z2 I2) : NT Z I Z2 I2 := ⟨fun a k q => (h2.1 a k q).trans (h.1 a k q), h2.2.1.trans h.2.1, fun u hu a k q1 q2 => (h2.2.2 u (by rw [h.2.1]; exact hu) a k q1 q2).trans (h.2.2 u hu a k q1 q2)⟩
theorem IV_kept {Z : jdL} {I : jdI} {u : Nat} (h : IV Z I) (hu : Z.2.1 45 20 = some u) : 83 ≤ u ∧ u + 38 ≤ Z.2.2 := (h.2.2.2.2.2.2.2.1 u hu).2.2
theorem NT_fr {Z : jdL} {I I2 : jdI} {p : Nat → Nat → Prop} (h : IV Z I) (hF : Fr p I I2) (hp : ∀ a k, p a k → ¬ (a = 25 + 1 ∨ a = 45 + 16 ∨ (a = 1 ∧ 3 ≤ k ∧ k ≤ 6) ∨ (2 ≤ a ∧ a ≤ 8) ∨ (a = 45 ∧ (k = 10 ∨ k = 14 ∨ k = 15 ∨ k = 19)) ∨ a = 45 + 18 ∨ a = 45 + 19 ∨ (45 + 21 ≤ a ∧ a ≤ 45 + 28)) ∧ a ≤ 82) : NT Z I Z I2 := ⟨fun a k q => hF a k (fun w => (hp a k w).1 q), rfl, fun u hu a k h1 h2 => hF a k (fun w => by have := (hp a k w).2; have := IV_kept h hu; omega)⟩
theorem NT_all {Z Z2 : jdL} {I I2 : jdI} (h : IV Z I) (e : ∀ a k, a < 28 ∨ (45 ≤ a ∧ a < Z.2.2) → I2 a k = I a k) (hz : Z2.2.1 45 20 = Z.2.1 45 20) : NT Z I Z2 I2 := by
  have hb := h.2.2.2.2.2.1
  exact ⟨fun a k q => e a k (by omega), hz, fun u hu a k h1 h2 => e a k (by have := IV_kept h hu; omega)⟩
theorem NT_st {Z Z2 : jdL} {I I2 : jdI} {J J2 : jdJ} {y : Nat} (h : IV Z I) (hS : ST 45 21 y Z I J Z2 I2 J2) (hy : 20 ≤ y) : NT Z I Z2 I2 := by
  have hb := h.2.2.2.2.2.1
  exact ⟨fun a k q => hS.2.2.2.2.1 a k (by omega), hS.2.2.2.1 _ _ (by omega) (by omega), fun u hu a k h1 h2 => hS.2.2.2.2.2.2.1 rfl (by omega) u hu a k h1 h2⟩
theorem TM_eq {I I2 : jdI} {u : Nat} {s : Sd} (h : TM I u s) (hP : s.1.1 ≤ 8) (e : ∀ a k, u ≤ a → a ≤ u + 37 → I2 a k = I a k) : TM I2 u s := TM_fr (p := fun a _ => ¬ (u ≤ a ∧ a ≤ u + 37)) h hP (fun a k q => e a k (by omega) (by omega)) (by omega) (by omega) (by omega) (by omega) (by intro a k h1 h2 h3; omega)
theorem TX_eq {I I2 : jdI} {b : Nat} {s : Sd} (h : TX I b s) (e : ∀ a k, b ≤ a → a ≤ b + 3 → I2 a k = I a k) : TX I2 b s := TX_fr (p := fun a _ => ¬ (b ≤ a ∧ a ≤ b + 3)) h (fun a k q => e a k (by omega) (by omega)) (by intro a k h1 h2; omega)
theorem TX_k {I I2 : jdI} {b : Nat} {s : Sd} (h : TX I b s) (e : ∀ a k, (a = b ∧ 3 ≤ k ∧ k ≤ 6) ∨ (b + 1 ≤ a ∧ a ≤ b + 3) → I2 a k = I a k) : TX I2 b s := by
  obtain ⟨⟨w1, w2, w3, w4, w5⟩, w6⟩ := h
  exact ⟨⟨by rw [e b 3 (by omega)]; exact w1, fun i hi => by rw [e (b + 1) i (by omega), e (b + 2) i (by omega)]; exact w2 i hi, by rw [e b 4 (by omega)]; exact w3, by rw [e b 5 (by omega)]; exact w4, fun i j hi hj hne => by rw [e (b + 3) _ (by omega)]; exact w5 i j hi hj hne⟩, by rw [e b 6 (by omega)]; exact w6⟩
theorem TM_k {I I2 : jdI} {t : Nat} {s : Sd} (h : TM I t s) (hP : s.1.1 ≤ 8) (e : ∀ a k, (a = t ∧ (k = 10 ∨ k = 14 ∨ k = 15 ∨ k = 19)) ∨ a = t + 18 ∨ a = t + 19 ∨ (t + 21 ≤ a ∧ a ≤ t + 28) → I2 a k = I a k) : TM I2 t s := by
  obtain ⟨⟨w1, w2, w3, w4, w5⟩, w6⟩ := h
  exact ⟨⟨by rw [e t 10 (by omega)]; exact w1, fun i hi => by rw [e (t + 18) i (by omega), e (t + 19) i (by omega)]; exact w2 i hi, by rw [e t 14 (by omega)]; exact w3, by rw [e t 15 (by omega)]; exact w4, fun i j hi hj hne => by rw [e (t + 21 + i) _ (by omega)]; exact w5 i j hi hj hne⟩, by rw [e t 19 (by omega)]; exact w6⟩
theorem RK_eq {Z Z2 : jdL} {I I2 : jdI} (h : RK Z I) (hW : WX I) (hz : Z2.2.1 45 20 = Z.2.1 45 20) (e5 : ∀ a k, 5 ≤ a → a ≤ 8 → I2 a k = I a k) (eu : ∀ u, Z.2.1 45 20 = some u → ∀ a k, u ≤ a → a ≤ u + 37 → I2 a k = I a k) : RK Z2 I2 := fun u hu => by
  rw [hz] at hu
  obtain ⟨s, k, g1, g2⟩ := h u hu
  have hw := WX_f hW
  have l1 := g1.1.1
  exact ⟨s, k, TX_eq g1 e5, TM_eq g2 (show s.1.1 ≤ 8 by omega) (eu u hu)⟩
theorem RK_fr {Z : jdL} {I I2 : jdI} {p : Nat → Nat → Prop} (hv : IV Z I) (h : RK Z I) (hF : Fr p I I2) (hp : ∀ a k, p a k → ¬ (5 ≤ a ∧ a ≤ 8) ∧ a ≤ 82) : RK Z I2 := RK_eq h hv.2.2.1 rfl (fun a k h1 h2 => hF a k (fun w => by have := hp a k w; omega)) (fun u hu a k h1 h2 => hF a k (fun w => by have := hp a k w; have := IV_kept hv hu; omega))
theorem RT_keep {Z Z2 : jdL} {I I2 : jdI} (hv : IV Z I) (h : RT Z I) (n : NT Z I Z2 I2) : RT Z2 I2 := by
  obtain ⟨h0, ⟨s, hk, h1, h2⟩, h3⟩ := h
  obtain ⟨n1, n2, n3⟩ := n
  have a1 : I2 (25 + 1) = I (25 + 1) := funext (fun j => n1 _ _ (by omega))
  have a2 : I2 (45 + 16) = I (45 + 16) := funext (fun j => n1 _ _ (by omega))
  have hw := WX_f hv.2.2.1
  have l1 := h1.1.1
  exact ⟨by rw [a1, a2]; exact h0, ⟨s, hk, TX_k h1 (fun a k q => n1 a k (by omega)), TM_k h2 (show s.1.1 ≤ 8 by omega) (fun a k q => n1 a k (by omega))⟩, RK_eq h3 hv.2.2.1 n2 (fun a j q1 q2 => n1 a j (by omega)) n3⟩
theorem TP_fr {I I2 : jdI} {p : Nat → Nat → Prop} (h : I (25 + 1) = I (45 + 16)) (hF : Fr p I I2) (hp : ∀ a k, p a k → ¬ a = 25 + 1 ∧ ¬ a = 45 + 16) : I2 (25 + 1) = I2 (45 + 16) := by
  have a1 : I2 (25 + 1) = I (25 + 1) := funext (fun j => hF _ _ (fun w => (hp _ _ w).1 rfl))
  have a2 : I2 (45 + 16) = I (45 + 16) := funext (fun j => hF _ _ (fun w => (hp _ _ w).2 rfl))
  rw [a1, a2]
  exact h
theorem tn_k {T : Nat → Int32} {n : Int} {w : Tw} {q : Q3} {v1 v2 : Int32} {I1 I2 : jdI} (hk : OKT w) (h1 : XTn (rd T n 63 w q 1) w v1 I1 1) (h2 : MTn (rd T n 63 w q 1) w v2 I2 45) : v1 = v2 ∧ ∃ w2, OKT w2 ∧ RX I1 1 w2 ∧ RM I2 45 w2 := by
  cases e : rd T n 63 w q 1 with
  | inl p =>
    rw [e] at h1 h2
    rcases h1 with ⟨_, g, _⟩ | ⟨p1, g1, g2, g3⟩
    · cases g
    · rcases h2 with ⟨_, g, _⟩ | ⟨p2, f1, f2, f3⟩
      · cases g
      · cases g1
        cases f1
        exact ⟨g2.trans f2.symm, w, hk, g3, f3⟩
  | inr a =>
    have ho : OKT a.1 := rd_ok T n 63 w q 1 a.1 a.2 hk e
    rw [e] at h1 h2
    rcases h1 with ⟨x1, g1, g2⟩ | ⟨_, g, _⟩
    · rcases h2 with ⟨x2, f1, f2⟩ | ⟨_, g, _⟩
      · injection g1 with g1
        injection f1 with f1
        rw [g1] at f1
        injection f1 with f1 f4
        rw [← f1] at f2
        rw [g1] at ho
        exact ⟨Int32.toInt_inj.mp f4, x1, ho, g2, f2⟩
      · cases g
    · cases g
/-- coachmen's cells lie behind the two objects, their numbers are those that the model keeps -/
def RA (Z : jdL) (I : jdI) : Prop := ∀ i, i < 8 → ∀ w, Z.2.1 (29 + 2 * i) 3 = some w → 82 < w ∧ I w 0 = I (45 + 15) i
theorem RA_hi {Z : jdL} {I : jdI} (h : RA Z I) : zHi Z := fun i hi w hw => (h i hi w hw).1
def NA (Z : jdL) (I : jdI) (Z2 : jdL) (I2 : jdI) : Prop := ∀ i, i < 8 → Z2.2.1 (29 + 2 * i) 3 = Z.2.1 (29 + 2 * i) 3 ∧ I2 (45 + 15) i = I (45 + 15) i ∧ ∀ w, Z.2.1 (29 + 2 * i) 3 = some w → 82 < w → I2 w 0 = I w 0
theorem NA.rf {Z : jdL} {I : jdI} : NA Z I Z I := fun _ _ => ⟨rfl, rfl, fun _ _ _ => rfl⟩
theorem NA.tr {Z Z1 Z2 : jdL} {I I1 I2 : jdI} (h : NA Z I Z1 I1) (h2 : NA Z1 I1 Z2 I2) : NA Z I Z2 I2 := fun i hi => by
  obtain ⟨a1, a2, a3⟩ := h i hi
  obtain ⟨b1, b2, b3⟩ := h2 i hi
  exact ⟨b1.trans a1, b2.trans a2, fun w hw hl => (b3 w (a1.trans hw) hl).trans (a3 w hw hl)⟩
theorem NA_fr {Z : jdL} {I I2 : jdI} {p : Nat → Nat → Prop} (hF : Fr p I I2) (hp : ∀ a k, p a k → a ≤ 82 ∧ ¬ a = 45 + 15) : NA Z I Z I2 := fun i hi => ⟨rfl, hF _ _ (fun q => (hp _ _ q).2 rfl), fun w hw hl => hF _ _ (fun q => by have := (hp _ _ q).1; omega)⟩
theorem NA_st {Z Z2 : jdL} {I I2 : jdI} {J J2 : jdJ} {x y : Nat} (h : IV Z I) (hS : ST 45 x y Z I J Z2 I2 J2) : NA Z I Z2 I2 := fun i hi => by
  have hb := h.2.2.2.2.2.1
  refine ⟨hS.2.2.2.1 _ _ (by omega) (by omega), hS.2.2.2.2.1 _ _ (by omega), fun w hw hl => ?_⟩
  obtain ⟨ci, hci, hz⟩ := h.2.1 i hi w hw
  exact hS.2.2.2.2.2.2.2 w ci (h.2.2.2.2.2.2.1 _ _ hz) (by omega) hz (by omega) 0
theorem RA_keep {Z Z2 : jdL} {I I2 : jdI} (h : RA Z I) (n : NA Z I Z2 I2) : RA Z2 I2 := fun i hi w hw => by
  obtain ⟨a1, a2, a3⟩ := n i hi
  rw [a1] at hw
  have g := h i hi w hw
  exact ⟨g.1, by rw [a2, a3 w hw g.1]; exact g.2⟩
/-- what a method of X does to the coachman of the shelf x1 where ok holds -/
def XA (ok : Prop) (x1 : Int32) (v : Option Int32) (Z : jdL) (I : jdI) (Z2 : jdL) (I2 : jdI) : Prop := ∀ i, i < 8 → (¬ (ok ∧ i = Int32.toNatClampNeg x1) → Z2.2.1 (29 + 2 * i) 3 = Z.2.1 (29 + 2 * i) 3 ∧ ∀ w, Z.2.1 (29 + 2 * i) 3 = some w → 82 < w → I2 w 0 = I w 0) ∧ (ok → i = Int32.toNatClampNeg x1 → ∀ w, Z2.2.1 (29 + 2 * i) 3 = some w → 82 < w ∧ some (I2 w 0) = v)
theorem XA_no {ok : Prop} {x1 : Int32} {v : Option Int32} {Z : jdL} {I I2 : jdI} {p : Nat → Nat → Prop} (hF : Fr p I I2) (hp : ∀ a k, p a k → a = 28) (h : ¬ ok) : XA ok x1 v Z I Z I2 := fun i hi => ⟨fun _ => ⟨rfl, fun w hw hl => hF _ _ (fun q => by have := hp _ _ q; omega)⟩, fun q => absurd q h⟩
theorem RA_row {Z Z1 : jdL} {I I1 I2 : jdI} {x1 : Int32} {ok : Prop} (h : RA Z I) (hI : ∀ i, i < 8 → I1 (45 + 15) i = I (45 + 15) i) (hx : XA ok x1 none Z I Z1 I1) (hF : Fr (fun a k => ((a = 45 + 1 ∨ a = 45 + 2 ∨ a = 45 + 3) ∧ k = (Int32.toNatClampNeg x1)) ∨ a = 45 + 17) I1 I2) : RA Z1 I2 := fun i hi w hw => by
  obtain ⟨c1, c2⟩ := hx i hi
  by_cases c : ok ∧ i = Int32.toNatClampNeg x1
  · have := (c2 c.1 c.2 w hw).2
    cases this
  · obtain ⟨d1, d2⟩ := c1 c
    rw [d1] at hw
    have g := h i hi w hw
    have gl := g.1
    exact ⟨g.1, by rw [hF w 0 (by omega), hF (45 + 15) i (by omega), hI i hi, d2 w hw g.1]; exact g.2⟩
theorem RA_man {Z Z1 : jdL} {I I1 I2 : jdI} {x1 x3 : Int32} {ok : Prop} (h : RA Z I) (hI : ∀ i, i < 8 → I1 (45 + 15) i = I (45 + 15) i) (hx : XA ok x1 (some x3) Z I Z1 I1) (hF : Fr (fun a k => ((a = 45 + 1 ∨ a = 45 + 14 ∨ a = 45 + 15) ∧ k = (Int32.toNatClampNeg x1)) ∨ a = 45 + 17) I1 I2) (hp : (ok → I2 (45 + 15) (Int32.toNatClampNeg x1) = x3) ∧ (¬ ok → I2 (45 + 15) (Int32.toNatClampNeg x1) = I1 (45 + 15) (Int32.toNatClampNeg x1))) : RA Z1 I2 := fun i hi w hw => by
  obtain ⟨c1, c2⟩ := hx i hi
  by_cases c : ok ∧ i = Int32.toNatClampNeg x1
  · have g := c2 c.1 c.2 w hw
    have gl := g.1
    have e : I1 w 0 = x3 := by
      have := g.2
      injection this
    exact ⟨g.1, by rw [hF w 0 (by omega), e, c.2, hp.1 c.1]⟩
  · obtain ⟨d1, d2⟩ := c1 c
    rw [d1] at hw
    have g := h i hi w hw
    have gl := g.1
    have e : I2 (45 + 15) i = I1 (45 + 15) i := by
      by_cases d : i = Int32.toNatClampNeg x1
      · rw [d]
        exact hp.2 (fun q => c ⟨q, d⟩)
      · exact hF _ _ (by omega)
    exact ⟨g.1, by rw [hF w 0 (by omega), e, hI i hi, d2 w hw g.1]; exact g.2⟩
theorem mk_0 {Z : jdL} {i : Nat} (h : mk Z i = 0) : Z.2.1 (29 + 2 * i) 3 = none := by
  cases e : Z.2.1 (29 + 2 * i) 3 with
  | none => rfl
  | some w =>
    rw [mk_some e] at h
    have := ckI_r (Z.1 w)
    omega
theorem mk_1 {Z : jdL} {i : Nat} (h : 1 ≤ mk Z i) : ∃ w, Z.2.1 (29 + 2 * i) 3 = some w := by
  cases e : Z.2.1 (29 + 2 * i) 3 with
  | none =>
    rw [mk_none e] at h
    omega
  | some w => exact ⟨w, rfl⟩
/-- a coachman's shelf is the same on both sides -/
theorem MAN_eq {Z : jdL} {I I1 : jdI} {x : Int32} (hrs : RS Z I) (hra : RA Z I) (e1 : ∀ k, I1 (45 + 1) k = I (45 + 1) k) (e14 : ∀ k, I1 (45 + 14) k = I (45 + 14) k) (e15 : ∀ k, I1 (45 + 15) k = I (45 + 15) k) : cM I1 45 x = cX Z I x ∧ (cX Z I x = 0 → (I1 (45 + 14) (Int32.toNatClampNeg x)).toInt = mk Z (Int32.toNatClampNeg x) ∧ I1 (45 + 15) (Int32.toNatClampNeg x) = aX Z I x) := by
  have n1 := tn_eq x
  unfold cM cX
  by_cases c : 0 ≤ x.toInt ∧ x.toInt < 8
  · rw [if_pos c, if_pos c, e1, e14, e15]
    have s := hrs (Int32.toNatClampNeg x) (by omega)
    unfold SRI at s
    rcases s with s | s | s
    · rw [mk_0 s.2.2, if_neg (by omega), if_pos s.1, if_pos rfl, if_pos s.2.1]
      exact ⟨rfl, fun z => by omega⟩
    · rw [mk_0 s.2.2.2.2.2, if_pos s.1, if_pos rfl, if_neg (by omega)]
      exact ⟨rfl, fun z => by omega⟩
    · obtain ⟨w, hw⟩ := mk_1 (Z := Z) (i := (Int32.toNatClampNeg x)) (by omega)
      rw [if_neg (by omega), if_neg (by omega), if_neg (by rw [hw]; exact fun z => (by cases z)), aX_some hw]
      exact ⟨rfl, fun _ => ⟨s.2.2.1.symm, ((hra _ (by omega) w hw).2).symm⟩⟩
  · rw [if_neg c, if_neg c]
    exact ⟨rfl, fun z => by omega⟩
theorem TOLD_eq {Z : jdL} {I I1 : jdI} {J : jdJ} {x1 x2 : Int32} (hrs : RS Z I) (hrj : RJ I J) (e1 : ∀ k, I1 (45 + 1) k = I (45 + 1) k) (e3 : ∀ k, I1 (45 + 3) k = I (45 + 3) k) : tM I1 45 x1 x2 = tX Z I x1 x2 ∧ (tX Z I x1 x2 = 0 → ∀ j, j < 40 → J (45 + 5 + (Int32.toNatClampNeg x1)) j = J (29 + 2 * (Int32.toNatClampNeg x1) + 1) j) := by
  have n1 := tn_eq x1
  unfold tM tX
  by_cases c : (0 ≤ x1.toInt ∧ x1.toInt < 8) ∧ 0 ≤ x2.toInt ∧ x2.toInt ≤ 7
  · rw [if_pos c, if_pos c, e1, e3]
    have s := hrs (Int32.toNatClampNeg x1) (by omega)
    unfold SRI at s
    rcases s with s | s | s
    · rw [if_neg (by omega), if_pos s.1, if_pos s.2.1, if_pos s.2.2]
      exact ⟨rfl, fun z => by omega⟩
    · rw [if_neg (show ¬ (I (45 + 1) (Int32.toNatClampNeg x1)).toInt = 2 by omega), if_neg (show ¬ (I (45 + 1) (Int32.toNatClampNeg x1)).toInt = 0 by omega), if_neg (show ¬ (I (29 + 2 * (Int32.toNatClampNeg x1)) 1).toInt = -1 by omega), s.2.2.2.2.1]
      exact ⟨rfl, fun _ j hj => (hrj _ (by omega) s.1 j hj).symm⟩
    · rw [if_pos s.1, if_pos s.2.1, if_neg (by omega)]
      exact ⟨rfl, fun z => by omega⟩
  · rw [if_neg c, if_neg c]
    exact ⟨rfl, fun z => by omega⟩
theorem oDay_c {s : Sd} {c kd kd2 : Int} {a a2 : Int32} (h : c = 0 → kd = kd2 ∧ a = a2) : oDay s c kd a = oDay s c kd2 a2 := by
  unfold oDay
  by_cases d : c = 0
  · rw [if_pos d, if_pos d, (h d).1, (h d).2]
  · rw [if_neg d, if_neg d]
theorem oRides_c {s : Sd} {c : Int} {r r2 : Nat → Int64} {m : Nat} (h : c = 0 → ∀ j, j < m → r j = r2 j) : oRides s c r m = oRides s c r2 m := by
  unfold oRides
  by_cases d : c = 0
  · rw [if_pos d, if_pos d, wrg_c m 0 0 (fun j _ hj => h d j (by omega)), rowL_c m 0 (fun j _ hj => h d j (by omega))]
  · rw [if_neg d, if_neg d]
theorem lX6_takeRow_17 {G : jdG} {n rc rs : Nat} {Z : jdL} {I : jdI} {J0 : jdJ} {Q : jdQ} {t : Nat} {x1 x2 : Int32} (ht : zShelf Z t) (hQ : ∀ J2, (∀ q : Nat, q < 40 → J2 (t + 1) q = 0) → (∀ a, a ≠ t + 1 → J2 a = J0 a) → Q none Z I J2) : ∀ m : Nat, ∀ (J : jdJ) (x3 : Int32), 0 ≤ x3.toInt ∧ x3.toInt ≤ 40 → (∀ q : Nat, (q : Int) < x3.toInt → J (t + 1) q = 0) → (∀ a, a ≠ t + 1 → J a = J0 a) → 40 - x3.toInt < (m : Int) → Jd G mX6_takeRow (jdFm G Q) n rc rs 17 [(0, .ref (gb G + t)), (1, .int x1), (2, .int x2), (3, .int x3)] [] Z I J := by
  intro m
  induction m with
  | zero =>
    intro J x3 h1 j1 j2 h2
    omega
  | succ m ih =>
    intro J x3 h1 j1 j2 h2
    have q40 : (40 : Int32).toInt = 40 := rfl
    have q1 : (1 : Int32).toInt = 1 := rfl
    have e1 := i32_add x3 1 (by omega) (by omega)
    have hn := tn_eq x3
    refine rX6_takeRow_17 ht ⟨fun hc => ?_, fun hc => ?_⟩
    · have hc := Int32.le_iff_toInt_le.mp hc
      exact hQ J (fun q hq => j1 q (by omega)) j2
    · have hc := mt Int32.le_iff_toInt_le.mpr hc
      refine ⟨vp_of (by omega) (by omega), ih _ (x3 + 1) (by omega) (fun q hq => ?_) (fun a ha => (uJ_n _ _ _ ha).trans (j2 a ha)) (by omega)⟩
      rw [uJ_ap]
      split
      · rfl
      · rename_i hne
        exact j1 q (by have : ¬ q = Int32.toNatClampNeg x3 := fun e => hne ⟨rfl, e⟩; omega)
