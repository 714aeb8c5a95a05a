theorem pX5_readMemory {G : jdG} {n : Nat} {Z : jdL} {J : jdJ} {K : Int32 → jdI → jdJ → Prop} {I : jdI} {u1 : Nat} {T : Nat → Int32} {m : Int} {w : Tw} (ht : zScribe Z 25) (hu1 : zTown Z u1) (hus : u1 = 1 ∨ u1 = 5 ∨ u1 = 9) (hW : WX I) (hS : SX T m I) (hw : RX I u1 w) (hK : ∀ (v : Int32) (I2 : jdI), WX I2 → Fr (fun a k => a = 25 ∨ (a = u1 ∧ 3 ≤ k ∧ k ≤ 5) ∨ (u1 + 1 ≤ a ∧ a ≤ u1 + 3)) I I2 → (I2 25 1).toInt = m → OX T m (stMemory T m w (qx I)) u1 v I2 → K v I2 J) : Cl G mX5_readMemory (n + 3) 0 0 [.ref (gb G + 25), .ref (gb G + u1)] Z I J (qi Z K) := by
  refine eX5_readMemory ht hu1 ?_
  refine pX5_advance ht hW hS (fun I1 hW1 hF1 hS1 hq1 h51 => ?_)
  refine pX5_readNumber (ok := fun _ => true) ht hW1 hS1 (by decide) (ok_0 0 99) (fun v I3 hW3 hF3 hp hm hT => ?_)
  have hF : Fr (fun a k => a = 25 ∨ (a = u1 ∧ 3 ≤ k ∧ k ≤ 5) ∨ (u1 + 1 ≤ a ∧ a ≤ u1 + 3)) I I3 := Fr.tr (Fr.tr Fr.rf hF1 (by intro a k h; omega)) hF3 (by intro a k h; omega)
  have hR := RX_fr (RX_fr hw hF1 (by intro a k h1 h2; omega)) hF3 (by intro a k h1 h2; omega)
  rw [hq1] at hp
  refine ⟨fun hv => ?_, fun hv => ?_⟩
  · have hv := nq hv
    rcases hp with ⟨p1, p2, p3, p4⟩ | ⟨p1, p2⟩
    · have f0 : Fr (fun a k => a = u1 ∧ k = 5) I3 (uI I3 u1 5 v) := Fr_uI Fr.rf ⟨rfl, rfl⟩
      obtain ⟨g1, g2, g3⟩ := SX_fr p2 f0 (by intro a k h; omega)
      refine hK 1 _ (WX_uI hW3 (by first | exact okXo (by decide) | (unfold okX; refine ⟨?_, ?_, ?_, ?_, ?_, ?_, ?_, ?_, ?_, ?_⟩ <;> intro h <;> omega))) (Fr.tr hF f0 (by intro a k h; omega)) g1.2.1 (Or.inl ⟨rfl, g1, memT w v.toInt, ?_, ?_⟩)
      · unfold stMemory
        rw [show nm T m (adv T m (qx I).2.2) 0 99 (fun _ => true) = .inr (v.toInt, qx I3) from p1, g2]
      · obtain ⟨r1, r2, r3, r4, r5⟩ := hR
        exact ⟨by rw [f0 u1 3 (by omega)]; exact r1, fun i hi => by rw [f0 (u1 + 1) i (by omega), f0 (u1 + 2) i (by omega)]; exact r2 i hi, by rw [f0 u1 4 (by omega)]; exact r3, by rw [uI_ap, if_pos ⟨rfl, rfl⟩]; rfl, fun i j hi hj hne => by rw [f0 (u1 + 3) _ (by omega)]; exact r5 i j hi hj hne⟩
    · exact absurd p2 hv
  · have hv1 : v.toInt = -1 := by rw [hv]; rfl
    rcases hp with ⟨p1, p2, p3, p4⟩ | ⟨p1, p2⟩
    · have p3 : 0 ≤ v.toInt := p3
      omega
    · refine hK 0 I3 hW3 hF hm (Or.inr ⟨rfl, ?_⟩)
      unfold stMemory
      rw [show nm T m (adv T m (qx I).2.2) 0 99 (fun _ => true) = .inl (I3 25 5).toInt from p1]
theorem pX5_readPerson {G : jdG} {n : Nat} {Z : jdL} {J : jdJ} {K : Int32 → jdI → jdJ → Prop} {I : jdI} {u1 : Nat} {T : Nat → Int32} {m : Int} {w : Tw} (ht : zScribe Z 25) (hu1 : zTown Z u1) (hus : u1 = 1 ∨ u1 = 5 ∨ u1 = 9) (hW : WX I) (hS : SX T m I) (hw : RX I u1 w) (hK : ∀ (v : Int32) (I2 : jdI), WX I2 → Fr (fun a k => a = 25 ∨ (a = u1 ∧ 3 ≤ k ∧ k ≤ 5) ∨ (u1 + 1 ≤ a ∧ a ≤ u1 + 3)) I I2 → (I2 25 1).toInt = m → OX T m (stPerson T m w (qx I)) u1 v I2 → K v I2 J) : Cl G mX5_readPerson (n + 3) 0 0 [.ref (gb G + 25), .ref (gb G + u1)] Z I J (qi Z K) := by
  have q7 : (7 : Int32).toInt = 7 := rfl
  have hw1 := hw.1
  refine eX5_readPerson ht hu1 ⟨fun hc => ?_, fun hc => ?_⟩
  · have hc := Int32.lt_iff_toInt_lt.mp hc
    have h7 : ¬ 7 ≤ w.1 := by omega
    refine pX5_advance ht hW hS (fun I1 hW1 hF1 hS1 hq1 h51 => ?_)
    refine pX5_readNumber (ok := fun _ => true) ht hW1 hS1 (by decide) (ok_0 0 23) (fun v I3 hW3 hF3 hp hm hT => ?_)
    have hF : Fr (fun a k => a = 25 ∨ (a = u1 ∧ 3 ≤ k ∧ k ≤ 5) ∨ (u1 + 1 ≤ a ∧ a ≤ u1 + 3)) I I3 := Fr.tr (Fr.tr Fr.rf hF1 (by intro a k h; omega)) hF3 (by intro a k h; omega)
    have hR := RX_fr (RX_fr hw hF1 (by intro a k h1 h2; omega)) hF3 (by intro a k h1 h2; omega)
    rw [hq1] at hp
    refine ⟨fun hv => ?_, fun hv => ?_⟩
    · have hv := nq hv
      rcases hp with ⟨p1, p2, p3, p4⟩ | ⟨p1, p2⟩
      · refine pX5_readNumber (ok := fun _ => true) ht hW3 p2 (by decide) (ok_0 0 9) (fun v6 I5 hW5 hF5 hp5 hm5 hT5 => ?_)
        have hF5' : Fr (fun a k => a = 25 ∨ (a = u1 ∧ 3 ≤ k ∧ k ≤ 5) ∨ (u1 + 1 ≤ a ∧ a ≤ u1 + 3)) I I5 := Fr.tr hF hF5 (by intro a k h; omega)
        have hR5 := RX_fr hR hF5 (by intro a k h1 h2; omega)
        have e1 : nm T m (adv T m (qx I).2.2) 0 23 (fun _ => true) = .inr (v.toInt, qx I3) := p1
        refine ⟨fun hv6 => ?_, fun hv6 => ?_⟩
        · have hv6 := nq hv6
          rcases hp5 with ⟨r1, r2, r3, r4⟩ | ⟨r1, r2⟩
          · refine pX9_add hu1 hus hW5 hR5 (by omega) (fun v8 I7 hW7 hF7 hR7 _ => ?_)
            obtain ⟨g1, g2, g3⟩ := SX_fr r2 hF7 (by intro a k h; omega)
            refine hK 1 I7 hW7 (Fr.tr hF5' hF7 (by intro a k h; omega)) g1.2.1 (Or.inl ⟨rfl, g1, _, ?_, hR7⟩)
            unfold stPerson
            rw [if_neg h7, e1]
            show (match nm T m (qx I3) 0 9 (fun _ => true) with | .inl p => Sum.inl p | .inr c => Sum.inr (addT w (Int32.ofInt v.toInt) (Int32.ofInt c.1), c.2)) = _
            rw [show nm T m (qx I3) 0 9 (fun _ => true) = .inr (v6.toInt, qx I5) from r1, g2]
            show Sum.inr (addT w (Int32.ofInt v.toInt) (Int32.ofInt v6.toInt), qx I5) = _
            rw [ofI, ofI]
          · exact absurd r2 hv6
        · have hv6 : v6.toInt = -1 := by rw [hv6]; rfl
          rcases hp5 with ⟨r1, r2, r3, r4⟩ | ⟨r1, r2⟩
          · have r3 : 0 ≤ v6.toInt := r3
            omega
          · refine hK 0 I5 hW5 hF5' hm5 (Or.inr ⟨rfl, ?_⟩)
            unfold stPerson
            rw [if_neg h7, e1]
            show (match nm T m (qx I3) 0 9 (fun _ => true) with | .inl p => Sum.inl p | .inr c => Sum.inr (addT w (Int32.ofInt v.toInt) (Int32.ofInt c.1), c.2)) = _
            rw [show nm T m (qx I3) 0 9 (fun _ => true) = .inl (I5 25 5).toInt from r1]
      · exact absurd p2 hv
    · have hv1 : v.toInt = -1 := by rw [hv]; rfl
      rcases hp with ⟨p1, p2, p3, p4⟩ | ⟨p1, p2⟩
      · have p3 : 0 ≤ v.toInt := p3
        omega
      · refine hK 0 I3 hW3 hF hm (Or.inr ⟨rfl, ?_⟩)
        unfold stPerson
        rw [if_neg h7, show nm T m (adv T m (qx I).2.2) 0 23 (fun _ => true) = .inl (I3 25 5).toInt from p1]
  · have hc := mt Int32.lt_iff_toInt_lt.mpr hc
    refine fsfX5_fail ht hW (fun v I9 hW9 hF9 hp => ⟨narrow_b (Or.inl hp.1), ?_⟩)
    refine hK v I9 hW9 (Fr.tr Fr.rf hF9 (by intro a k h; omega)) (by rw [hp.2.2]; exact hS.2.1) (Or.inr ⟨hp.1, ?_⟩)
    unfold stPerson
    rw [if_pos (by omega), hp.2.1]
    rfl
theorem one_all : ∀ a : Fin 7, ∀ b : Fin 7, ¬ ((1 : Int32) <<< (Int32.ofNat a.val &&& 31)).toInt = 0 ∧ ((((((1 : Int32) <<< (Int32.ofNat a.val &&& 31)) >>> (Int32.ofNat b.val &&& 31)) &&& 1).toInt = 0) ↔ ¬ b.val = a.val) := by decide +kernel
theorem one_bit {a b : Int32} (h0 : 0 ≤ a.toInt ∧ a.toInt ≤ 6) (h1 : 0 ≤ b.toInt ∧ b.toInt ≤ 6) : ¬ ((1 : Int32) <<< (a &&& 31)).toInt = 0 ∧ (((((1 : Int32) <<< (a &&& 31)) >>> (b &&& 31)) &&& 1).toInt = 0 ↔ ¬ b.toInt = a.toInt) := by
  have e := one_all ⟨a.toInt.toNat, by omega⟩ ⟨b.toInt.toNat, by omega⟩
  rw [← i32_ofNat h0.1, ← i32_ofNat h1.1] at e
  refine ⟨e.1, e.2.trans ?_⟩
  show ¬ b.toInt.toNat = a.toInt.toNat ↔ _
  omega
noncomputable def stSince (T : Nat → Int32) (n : Int) (w : Tw) (a b : Int) (q : Q3) : Sum Int (Tw × Q3) := match nm T n (adv T n q.2.2) 0 99 (fun _ => true) with
  | .inl p => .inl p
  | .inr d => .inr (tieT w a.toNat b.toNat (Int32.ofInt d.1), d.2)
/-- two people, and perhaps since when they know each other -/
noncomputable def stPair (T : Nat → Int32) (n : Int) (w : Tw) (q : Q3) (kn : Bool) : Sum Int (Tw × Q3) := match nm T n (adv T n q.2.2) 0 (w.1 - 1) (fun _ => true) with
  | .inl p => .inl p
  | .inr a => match nm T n a.2 0 (w.1 - 1) (fun x => decide (¬ x = a.1)) with
    | .inl p => .inl p
    | .inr b => @ite _ (kn = true ∧ WD T b.2.1 b.2.2.1 b.2.2.2 2) (Classical.propDecidable _) (stSince T n w a.1 b.1 b.2) (.inr (tieT w a.1.toNat b.1.toNat (if kn = true then 0 else -1), b.2))
theorem pX5_readPair {G : jdG} {n : Nat} {Z : jdL} {J : jdJ} {K : Int32 → jdI → jdJ → Prop} {I : jdI} {u1 : Nat} {T : Nat → Int32} {m : Int} {w : Tw} {sA sV : Nat → Nat} {x2 : Int32} (hG : gOK G sA sV) (ht : zScribe Z 25) (hu1 : zTown Z u1) (hus : u1 = 1 ∨ u1 = 5 ∨ u1 = 9) (hW : WX I) (hS : SX T m I) (hw : RX I u1 w) (kn : Bool) (hx2 : x2 = 0 ∧ kn = false ∨ ¬ x2 = 0 ∧ kn = true) (hK : ∀ (v : Int32) (I2 : jdI), WX I2 → Fr (fun a k => a = 25 ∨ (a = u1 ∧ 3 ≤ k ∧ k ≤ 5) ∨ (u1 + 1 ≤ a ∧ a ≤ u1 + 3)) I I2 → (I2 25 1).toInt = m → OX T m (stPair T m w (qx I) kn) u1 v I2 → K v I2 J) : Cl G mX5_readPair (n + 5) 0 0 [.ref (gb G + 25), .ref (gb G + u1), .int x2] Z I J (qi Z K) := by
  have hp0 := WX_town hW hus
  have hw1 := hw.1
  have q1 : (1 : Int32).toInt = 1 := rfl
  refine eX5_readPair hG ht hu1 ?_
  refine pX5_advance ht hW hS (fun I1 hW1 hF1 hS1 hq1 h51 => ?_)
  have hR1 := RX_fr hw hF1 (by intro a k h1 h2; omega)
  have p1' := hR1.1
  have s1 := i32_sub (I1 u1 3) 1 (by omega) (by omega)
  have e1 : ((I1 u1 3) - 1).toInt = w.1 - 1 := by omega
  refine pX5_readNumber (ok := fun _ => true) ht hW1 hS1 ⟨by decide, by omega⟩ (ok_0 0 _) (fun v4 I3 hW3 hF3 hp hm hT => ?_)
  have hF : Fr (fun a k => a = 25 ∨ (a = u1 ∧ 3 ≤ k ∧ k ≤ 5) ∨ (u1 + 1 ≤ a ∧ a ≤ u1 + 3)) I I3 := Fr.tr (Fr.tr Fr.rf hF1 (by intro a k h; omega)) hF3 (by intro a k h; omega)
  have hR := RX_fr hR1 hF3 (by intro a k h1 h2; omega)
  rw [hq1, e1] at hp
  refine ⟨fun hv => ?_, fun hv => ?_⟩
  · have hv := nq hv
    rcases hp with ⟨a1, a2, a3, a4⟩ | ⟨a1, a2⟩
    · have ga0 : 0 ≤ v4.toInt := a3
      have ga1 : v4.toInt < w.1 := by omega
      have eA : nm T m (adv T m (qx I).2.2) 0 (w.1 - 1) (fun _ => true) = .inr (v4.toInt, qx I3) := a1
      have p3' := hR.1
      have s3 := i32_sub (I3 u1 3) 1 (by omega) (by omega)
      have e3 : ((I3 u1 3) - 1).toInt = w.1 - 1 := by omega
      refine pX5_readNumber (ok := fun x => decide (¬ x = v4.toInt)) ht hW3 a2 ⟨by decide, by omega⟩ (fun z z0 z1 => ?_) (fun v6 I5 hW5 hF5 hp5 hm5 hT5 => ?_)
      · have z0 : 0 ≤ z.toInt := z0
        have ob := one_bit (a := v4) (b := z) ⟨by omega, by omega⟩ ⟨by omega, by omega⟩
        rw [decide_eq_true_iff]
        exact ⟨fun h => Or.inr (ob.2.mpr h), fun h => h.elim (fun g => absurd g ob.1) ob.2.mp⟩
      · have hF5' : Fr (fun a k => a = 25 ∨ (a = u1 ∧ 3 ≤ k ∧ k ≤ 5) ∨ (u1 + 1 ≤ a ∧ a ≤ u1 + 3)) I I5 := Fr.tr hF hF5 (by intro a k h; omega)
        have hR5 := RX_fr hR hF5 (by intro a k h1 h2; omega)
        rw [e3] at hp5
        refine ⟨fun hv6 => ?_, fun hv6 => ?_⟩
        · have hv6 := nq hv6
          rcases hp5 with ⟨b1, b2, b3, b4⟩ | ⟨b1, b2⟩
          · have gb0 : 0 ≤ v6.toInt := b3
            have gb1 : v6.toInt < w.1 := by omega
            have eB : nm T m (qx I3) 0 (w.1 - 1) (fun x => decide (¬ x = v4.toInt)) = .inr (v6.toInt, qx I5) := b1
            have eP : ∀ kn : Bool, stPair T m w (qx I) kn = @ite _ (kn = true ∧ WD T (qx I5).1 (qx I5).2.1 (qx I5).2.2 2) (Classical.propDecidable _) (stSince T m w v4.toInt v6.toInt (qx I5)) (.inr (tieT w v4.toInt.toNat v6.toInt.toNat (if kn = true then 0 else -1), qx I5)) := fun kn => by
              unfold stPair
              rw [eA]
              show (match nm T m (qx I3) 0 (w.1 - 1) (fun x => decide (¬ x = v4.toInt)) with | .inl p => Sum.inl p | .inr b => @ite _ (kn = true ∧ WD T b.2.1 b.2.2.1 b.2.2.2 2) (Classical.propDecidable _) (stSince T m w v4.toInt b.1 b.2) (.inr (tieT w v4.toInt.toNat b.1.toNat (if kn = true then 0 else -1), b.2))) = _
              rw [eB]
            rcases hx2 with ⟨hz, rfl⟩ | ⟨hz, rfl⟩
            · refine ⟨fun _ => ⟨fun _ => ?_, fun hn => absurd hz hn⟩, fun hn => absurd hz hn⟩
              have eN : stPair T m w (qx I) false = .inr (tieT w v4.toInt.toNat v6.toInt.toNat (-1), qx I5) := by
                rw [eP, if_neg (fun q => by cases q.1)]
                rfl
              refine pX9_tie hu1 hus hW5 hR5 ⟨ga0, ga1⟩ ⟨gb0, gb1⟩ (fun Ic hWc hFc hRc => ?_)
              obtain ⟨g1, g2, g3⟩ := SX_fr b2 hFc (by intro a k h; omega)
              refine hK 1 Ic hWc (Fr.tr hF5' hFc (by intro a k h; omega)) g1.2.1 (Or.inl ⟨rfl, g1, _, ?_, hRc⟩)
              rw [eN, g2]
              rfl
            · refine ⟨fun hn => absurd hn hz, fun _ => ⟨fun hn => absurd hn hz, fun _ => ?_⟩⟩
              refine fsfX5_isWord hG ht (by decide) hW5 (by rw [b2.1, b2.2.1]; exact b2.2.2) (fun v22 hwd => ⟨fun h0 => ?_, fun h0 => ?_⟩)
              · have h0 := i0 h0
                have nw : ¬ WD T (qx I5).1 (qx I5).2.1 (qx I5).2.2 2 := by
                  rw [b2.1] at hwd
                  rcases hwd with hwd | hwd
                  · omega
                  · exact hwd.2
                have eN : stPair T m w (qx I) true = .inr (tieT w v4.toInt.toNat v6.toInt.toNat 0, qx I5) := by
                  rw [eP, if_neg (fun q => nw q.2)]
                  rfl
                refine pX9_tie hu1 hus hW5 hR5 ⟨ga0, ga1⟩ ⟨gb0, gb1⟩ (fun Ic hWc hFc hRc => ?_)
                obtain ⟨g1, g2, g3⟩ := SX_fr b2 hFc (by intro a k h; omega)
                refine hK 1 Ic hWc (Fr.tr hF5' hFc (by intro a k h; omega)) g1.2.1 (Or.inl ⟨rfl, g1, _, ?_, hRc⟩)
                rw [eN, g2]
                rfl
              · have h0 := i1 h0
                have yw : WD T (qx I5).1 (qx I5).2.1 (qx I5).2.2 2 := by
                  rw [b2.1] at hwd
                  rcases hwd with hwd | hwd
                  · exact hwd.2
                  · omega
                have eS : stPair T m w (qx I) true = stSince T m w v4.toInt v6.toInt (qx I5) := by
                  rw [eP, if_pos ⟨rfl, yw⟩]
                refine pX5_advance ht hW5 b2 (fun Ia hWa hFa hSa hqa h5a => ?_)
                refine pX5_readNumber (ok := fun _ => true) ht hWa hSa (by decide) (ok_0 0 99) (fun vb Ib hWb hFb hpb hmb hTb => ?_)
                have hFb' : Fr (fun a k => a = 25 ∨ (a = u1 ∧ 3 ≤ k ∧ k ≤ 5) ∨ (u1 + 1 ≤ a ∧ a ≤ u1 + 3)) I Ib := Fr.tr (Fr.tr hF5' hFa (by intro a k h; omega)) hFb (by intro a k h; omega)
                have hRb := RX_fr (RX_fr hR5 hFa (by intro a k h1 h2; omega)) hFb (by intro a k h1 h2; omega)
                rw [hqa] at hpb
                refine ⟨fun hv => ?_, fun hv => ?_⟩
                · have hv := nq hv
                  rcases hpb with ⟨d1, d2, d3, d4⟩ | ⟨d1, d2⟩
                  · refine pX9_tie hu1 hus hWb hRb ⟨ga0, ga1⟩ ⟨gb0, gb1⟩ (fun Ic hWc hFc hRc => ?_)
                    obtain ⟨g1, g2, g3⟩ := SX_fr d2 hFc (by intro a k h; omega)
                    refine hK 1 Ic hWc (Fr.tr hFb' hFc (by intro a k h; omega)) g1.2.1 (Or.inl ⟨rfl, g1, _, ?_, hRc⟩)
                    rw [eS]
                    unfold stSince
                    rw [show nm T m (adv T m (qx I5).2.2) 0 99 (fun _ => true) = .inr (vb.toInt, qx Ib) from d1, g2]
                    show Sum.inr (tieT w v4.toInt.toNat v6.toInt.toNat (Int32.ofInt vb.toInt), qx Ib) = _
                    rw [ofI]
                    rfl
                  · exact absurd d2 hv
                · have hv1 : vb.toInt = -1 := by rw [hv]; rfl
                  rcases hpb with ⟨d1, d2, d3, d4⟩ | ⟨d1, d2⟩
                  · have d3 : 0 ≤ vb.toInt := d3
                    omega
                  · refine hK 0 Ib hWb hFb' hmb (Or.inr ⟨rfl, ?_⟩)
                    rw [eS]
                    unfold stSince
                    rw [show nm T m (adv T m (qx I5).2.2) 0 99 (fun _ => true) = .inl (Ib 25 5).toInt from d1]
          · exact absurd b2 hv6
        · have hv6 : v6.toInt = -1 := by rw [hv6]; rfl
          rcases hp5 with ⟨b1, b2, b3, b4⟩ | ⟨b1, b2⟩
          · have b3 : 0 ≤ v6.toInt := b3
            omega
          · refine hK 0 I5 hW5 hF5' hm5 (Or.inr ⟨rfl, ?_⟩)
            unfold stPair
            rw [eA]
            show (match nm T m (qx I3) 0 (w.1 - 1) (fun x => decide (¬ x = v4.toInt)) with | .inl p => Sum.inl p | .inr b => @ite _ (kn = true ∧ WD T b.2.1 b.2.2.1 b.2.2.2 2) (Classical.propDecidable _) (stSince T m w v4.toInt b.1 b.2) (.inr (tieT w v4.toInt.toNat b.1.toNat (if kn = true then 0 else -1), b.2))) = _
            rw [show nm T m (qx I3) 0 (w.1 - 1) (fun x => decide (¬ x = v4.toInt)) = .inl (I5 25 5).toInt from b1]
    · exact absurd a2 hv
  · have hv1 : v4.toInt = -1 := by rw [hv]; rfl
    rcases hp with ⟨a1, a2, a3, a4⟩ | ⟨a1, a2⟩
    · have a3 : 0 ≤ v4.toInt := a3
      omega
    · refine hK 0 I3 hW3 hF hm (Or.inr ⟨rfl, ?_⟩)
      unfold stPair
      rw [show nm T m (adv T m (qx I).2.2) 0 (w.1 - 1) (fun _ => true) = .inl (I3 25 5).toInt from a1]
/-! met, statements, texts -/
def fr7 (s : Int32) : Nat := (if bt s 0 then 0 else 1) + (if bt s 1 then 0 else 1) + (if bt s 2 then 0 else 1) + (if bt s 3 then 0 else 1) + (if bt s 4 then 0 else 1) + (if bt s 5 then 0 else 1) + (if bt s 6 then 0 else 1)
theorem fr_all : ∀ s : Fin 128, ∀ a : Fin 7, (bt (Int32.ofNat s.val) a.val = false → fr7 (Int32.ofNat s.val ||| ((1 : Int32) <<< (Int32.ofNat a.val &&& 31))) + 1 = fr7 (Int32.ofNat s.val)) ∧ 0 ≤ (Int32.ofNat s.val ||| ((1 : Int32) <<< (Int32.ofNat a.val &&& 31))).toInt ∧ (Int32.ofNat s.val ||| ((1 : Int32) <<< (Int32.ofNat a.val &&& 31))).toInt ≤ 127 := by decide +kernel
theorem fr_or {s a : Int32} (hs : 0 ≤ s.toInt ∧ s.toInt ≤ 127) (ha : 0 ≤ a.toInt ∧ a.toInt ≤ 6) : (bt s a.toInt.toNat = false → fr7 (s ||| ((1 : Int32) <<< (a &&& 31))) + 1 = fr7 s) ∧ 0 ≤ (s ||| ((1 : Int32) <<< (a &&& 31))).toInt ∧ (s ||| ((1 : Int32) <<< (a &&& 31))).toInt ≤ 127 := by
  have e := fr_all ⟨s.toInt.toNat, by omega⟩ ⟨a.toInt.toNat, by omega⟩
  rw [← i32_ofNat hs.1, ← i32_ofNat ha.1] at e
  exact e
theorem one_fr : ∀ a : Fin 7, fr7 ((1 : Int32) <<< (Int32.ofNat a.val &&& 31)) = 6 ∧ 0 ≤ ((1 : Int32) <<< (Int32.ofNat a.val &&& 31)).toInt ∧ ((1 : Int32) <<< (Int32.ofNat a.val &&& 31)).toInt ≤ 127 := by decide +kernel
theorem fr_1 {a : Int32} (ha : 0 ≤ a.toInt ∧ a.toInt ≤ 6) : fr7 ((1 : Int32) <<< (a &&& 31)) = 6 ∧ 0 ≤ ((1 : Int32) <<< (a &&& 31)).toInt ∧ ((1 : Int32) <<< (a &&& 31)).toInt ≤ 127 := by
  have e := one_fr ⟨a.toInt.toNat, by omega⟩
  rw [← i32_ofNat ha.1] at e
  exact e
theorem bt_z : ∀ a : Fin 7, bt 0 a.val = false := by decide +kernel
theorem zero_or_i (x : Int32) : (0 : Int32) ||| x = x := Int32.zero_or
/-- numbers of people, each but once -/
noncomputable def metR (T : Nat → Int32) (n p : Int) : Nat → Int32 → Q3 → Sum Int (Int32 × Q3)
  | 0, s, q => .inr (s, q)
  | f + 1, s, q => if q.1 = 2 then (match nm T n q 0 (p - 1) (fun x => !(bt s x.toNat)) with
    | .inl e => .inl e
    | .inr a => metR T n p f (s ||| ((1 : Int32) <<< (Int32.ofInt a.1 &&& 31))) a.2) else .inr (s, q)
def fin (w : Tw) (r : Sum Int (Int32 × Q3)) : Sum Int (Tw × Q3) := match r with
  | .inl p => .inl p
  | .inr b => .inr (acqT w b.1, b.2)
noncomputable def stMet (T : Nat → Int32) (n : Int) (w : Tw) (q : Q3) : Sum Int (Tw × Q3) := match nm T n (adv T n q.2.2) 0 (w.1 - 1) (fun _ => true) with
  | .inl p => .inl p
  | .inr a => fin w (metR T n w.1 7 ((1 : Int32) <<< (Int32.ofInt a.1 &&& 31)) a.2)
theorem metR_n {T : Nat → Int32} {n p : Int} {f : Nat} {s : Int32} {q : Q3} (h : ¬ q.1 = 2) : metR T n p (f + 1) s q = .inr (s, q) := if_neg h
theorem metR_y {T : Nat → Int32} {n p : Int} {f : Nat} {s v : Int32} {q q2 : Q3} (h : q.1 = 2) (e : nm T n q 0 (p - 1) (fun x => !(bt s x.toNat)) = .inr (v.toInt, q2)) : metR T n p (f + 1) s q = metR T n p f (s ||| ((1 : Int32) <<< (v &&& 31))) q2 := by
  show (if q.1 = 2 then (match nm T n q 0 (p - 1) (fun x => !(bt s x.toNat)) with
    | .inl e => (Sum.inl e : Sum Int (Int32 × Q3))
    | .inr a => metR T n p f (s ||| ((1 : Int32) <<< (Int32.ofInt a.1 &&& 31))) a.2) else .inr (s, q)) = _
  rw [if_pos h, e]
  show metR T n p f (s ||| ((1 : Int32) <<< (Int32.ofInt v.toInt &&& 31))) q2 = _
  rw [ofI]
theorem metR_e {T : Nat → Int32} {n p e2 : Int} {f : Nat} {s : Int32} {q : Q3} (h : q.1 = 2) (e : nm T n q 0 (p - 1) (fun x => !(bt s x.toNat)) = .inl e2) : metR T n p (f + 1) s q = .inl e2 := by
  show (if q.1 = 2 then (match nm T n q 0 (p - 1) (fun x => !(bt s x.toNat)) with
    | .inl e => (Sum.inl e : Sum Int (Int32 × Q3))
    | .inr a => metR T n p f (s ||| ((1 : Int32) <<< (Int32.ofInt a.1 &&& 31))) a.2) else .inr (s, q)) = _
  rw [if_pos h, e]
theorem nm_ok {T : Nat → Int32} {n : Int} {q : Q3} {lo hi : Int} {ok ok2 : Int → Bool} (h : q.1 = 2 → lo ≤ vl T q.2.1 q.2.2 → vl T q.2.1 q.2.2 ≤ hi → ok (vl T q.2.1 q.2.2) = ok2 (vl T q.2.1 q.2.2)) : nm T n q lo hi ok = nm T n q lo hi ok2 := by
  unfold nm
  by_cases c : q.1 = 2 ∧ lo ≤ vl T q.2.1 q.2.2 ∧ vl T q.2.1 q.2.2 ≤ hi
  · rw [h c.1 c.2.1 c.2.2]
  · rw [if_neg (fun z => c ⟨z.1, z.2.1, z.2.2.1⟩), if_neg (fun z => c ⟨z.1, z.2.1, z.2.2.1⟩)]
theorem nm_fst {T : Nat → Int32} {n : Int} {q : Q3} {lo hi g : Int} {q2 : Q3} {ok : Int → Bool} (h : nm T n q lo hi ok = .inr (g, q2)) : ok g = true := by
  unfold nm at h
  by_cases c : q.1 = 2 ∧ lo ≤ vl T q.2.1 q.2.2 ∧ vl T q.2.1 q.2.2 ≤ hi ∧ ok (vl T q.2.1 q.2.2) = true
  · rw [if_pos c] at h
    injection h with h
    injection h with h1 h2
    rw [← h1]
    exact c.2.2.2
  · rw [if_neg c] at h
    cases h
theorem ok_bt {s x2 : Int32} (hx : x2.toInt ≤ 6) : ∀ z : Int32, (0 : Int32).toInt ≤ z.toInt → z.toInt ≤ x2.toInt → ((fun x : Int => !(bt s x.toNat)) z.toInt = true ↔ s.toInt = 0 ∨ ((s >>> (z &&& 31)) &&& 1).toInt = 0) := fun z z0 z1 => by
  have z0 : 0 ≤ z.toInt := z0
  have b := bt_iff s z0
  have q0 : (0 : Int32).toInt = 0 := rfl
  show (!(bt s z.toInt.toNat)) = true ↔ _
  rw [Bool.not_eq_true']
  refine ⟨fun h => Or.inr ?_, fun h => ?_⟩
  · by_cases c : ((s >>> (z &&& 31)) &&& 1) = 0
    · rw [c]
      rfl
    · rw [b.mpr c] at h
      cases h
  · cases e : bt s z.toInt.toNat with
    | false => rfl
    | true =>
      have g := b.mp e
      rcases h with h | h
      · have : s = 0 := Int32.toInt_inj.mp (h.trans q0.symm)
        rw [this, bt_z ⟨z.toInt.toNat, by omega⟩] at e
        cases e
      · exact absurd (Int32.toInt_inj.mp (h.trans q0.symm)) g

theorem pX5_readMet_8 {G : jdG} {n rc rs : Nat} {Z : jdL} {J : jdJ} {K : Int32 → jdI → jdJ → Prop} {I0 : jdI} {u1 : Nat} {T : Nat → Int32} {m : Int} {w : Tw} {R : Sum Int (Tw × Q3)} (ht : zScribe Z 25) (hu1 : zTown Z u1) (hus : u1 = 1 ∨ u1 = 5 ∨ u1 = 9) (hK : ∀ (v : Int32) (I2 : jdI), WX I2 → Fr (fun a k => a = 25 ∨ (a = u1 ∧ 3 ≤ k ∧ k ≤ 5) ∨ (u1 + 1 ≤ a ∧ a ≤ u1 + 3)) I0 I2 → (I2 25 1).toInt = m → OX T m R u1 v I2 → K v I2 J) : ∀ f : Nat, ∀ (I : jdI) (x2 x3 : Int32), WX I → Fr (fun a k => a = 25 ∨ (a = u1 ∧ 3 ≤ k ∧ k ≤ 5) ∨ (u1 + 1 ≤ a ∧ a ≤ u1 + 3)) I0 I → SX T m I → RX I u1 w → x3.toInt = 8 - (f : Int) → 1 ≤ x3.toInt → fr7 x2 < f → 0 ≤ x2.toInt ∧ x2.toInt ≤ 127 → fin w (metR T m w.1 f x2 (qx I)) = R → Jd G mX5_readMet (jdFm G (qi Z K)) (n + 3) rc rs 8 [(0, .ref (gb G + 25)), (1, .ref (gb G + u1)), (2, .int x2), (3, .int x3)] [] Z I J := by
  intro f
  induction f with
  | zero =>
    intro I x2 x3 hW hF hS hR h3 h3b hf hx hr
    omega
  | succ f ih =>
    intro I x2 x3 hW hF hS hR h3 h3b hf hx hr
    have hp0 := WX_town hW hus
    have hw1 := hR.1
    have q0 : (0 : Int32).toInt = 0 := rfl
    have q7 : (7 : Int32).toInt = 7 := rfl
    have q1 : (1 : Int32).toInt = 1 := rfl
    have q2 : (2 : Int32).toInt = 2 := rfl
    refine rX5_readMet_8 ht hu1 ⟨fun hc => by have := Int32.lt_iff_toInt_lt.mp hc; omega, fun _ => ⟨fun hc => by rw [hc] at h3b; omega, fun _ => ⟨fun hc => ?_, fun hc => ?_⟩⟩⟩
    · have hn : ¬ (qx I).1 = 2 := fun z => hc (Int32.toInt_inj.mp (show (I 25 2).toInt = _ from z))
      rw [metR_n hn] at hr
      refine pX9_acquaint hu1 hus hW hR (fun v2 I1 hW1 hF1 hR1 _ => ?_)
      obtain ⟨g1, g2, g3⟩ := SX_fr hS hF1 (by intro a k h; omega)
      refine hK 1 I1 hW1 (Fr.tr hF hF1 (by intro a k h; omega)) g1.2.1 (Or.inl ⟨rfl, g1, _, ?_, hR1⟩)
      rw [← hr, g2]
      rfl
    · have hn : (qx I).1 = 2 := by
        show (I 25 2).toInt = 2
        rw [hc]
        rfl
      have s1 := i32_sub (I u1 3) 1 (by omega) (by omega)
      have e1 : ((I u1 3) - 1).toInt = w.1 - 1 := by omega
      refine pX5_readNumber (ok := fun x => !(bt x2 x.toNat)) ht hW hS ⟨by decide, by omega⟩ (ok_bt (by omega)) (fun v I3 hW3 hF3 hp hm hT => ?_)
      have hF' : Fr (fun a k => a = 25 ∨ (a = u1 ∧ 3 ≤ k ∧ k ≤ 5) ∨ (u1 + 1 ≤ a ∧ a ≤ u1 + 3)) I0 I3 := Fr.tr hF hF3 (by intro a k h; omega)
      have hR3 := RX_fr hR hF3 (by intro a k h1 h2; omega)
      rw [e1] at hp
      refine ⟨fun hv => ?_, fun hv => ?_⟩
      · have hv := nq hv
        rcases hp with ⟨p1, p2, p3, p4⟩ | ⟨p1, p2⟩
        · have p3 : 0 ≤ v.toInt := p3
          have hb : bt x2 v.toInt.toNat = false := by
            have := nm_fst p1
            rw [Bool.not_eq_true'] at this
            exact this
          obtain ⟨b1, b2, b3⟩ := fr_or hx ⟨p3, show v.toInt ≤ 6 by omega⟩
          have b1 := b1 hb
          have s3 := i32_add x3 1 (by omega) (by omega)
          refine ih I3 _ (x3 + 1) hW3 hF' p2 hR3 (by omega) (by omega) (by omega) ⟨b2, b3⟩ ?_
          rw [← hr, metR_y hn p1]
        · exact absurd p2 hv
      · have hv1 : v.toInt = -1 := by rw [hv]; rfl
        rcases hp with ⟨p1, p2, p3, p4⟩ | ⟨p1, p2⟩
        · have p3 : 0 ≤ v.toInt := p3
          omega
        · refine hK 0 I3 hW3 hF' hm (Or.inr ⟨rfl, ?_⟩)
          rw [← hr, metR_e hn p1]
          rfl
theorem pX5_readMet {G : jdG} {n : Nat} {Z : jdL} {J : jdJ} {K : Int32 → jdI → jdJ → Prop} {I : jdI} {u1 : Nat} {T : Nat → Int32} {m : Int} {w : Tw} (ht : zScribe Z 25) (hu1 : zTown Z u1) (hus : u1 = 1 ∨ u1 = 5 ∨ u1 = 9) (hW : WX I) (hS : SX T m I) (hw : RX I u1 w) (hK : ∀ (v : Int32) (I2 : jdI), WX I2 → Fr (fun a k => a = 25 ∨ (a = u1 ∧ 3 ≤ k ∧ k ≤ 5) ∨ (u1 + 1 ≤ a ∧ a ≤ u1 + 3)) I I2 → (I2 25 1).toInt = m → OX T m (stMet T m w (qx I)) u1 v I2 → K v I2 J) : Cl G mX5_readMet (n + 3) 0 0 [.ref (gb G + 25), .ref (gb G + u1)] Z I J (qi Z K) := by
  have q0 : (0 : Int32).toInt = 0 := rfl
  have q7 : (7 : Int32).toInt = 7 := rfl
  have q1 : (1 : Int32).toInt = 1 := rfl
  refine eX5_readMet ht hu1 ?_
  refine pX5_advance ht hW hS (fun I1 hW1 hF1 hS1 hq1 h51 => ?_)
  have hp0 := WX_town hW1 hus
  have hR1 := RX_fr hw hF1 (by intro a k h1 h2; omega)
  have p1' := hR1.1
  have s1 := i32_sub (I1 u1 3) 1 (by omega) (by omega)
  have e1 : ((I1 u1 3) - 1).toInt = w.1 - 1 := by omega
  refine rX5_readMet_8 ht hu1 ⟨fun hc => absurd hc (by decide), fun _ => ⟨fun _ => ?_, fun hc => absurd rfl hc⟩⟩
  refine pX5_readNumber (ok := fun _ => true) ht hW1 hS1 ⟨by decide, by omega⟩ (ok_0 0 _) (fun v I3 hW3 hF3 hp hm hT => ?_)
  have hF : Fr (fun a k => a = 25 ∨ (a = u1 ∧ 3 ≤ k ∧ k ≤ 5) ∨ (u1 + 1 ≤ a ∧ a ≤ u1 + 3)) I I3 := Fr.tr (Fr.tr Fr.rf hF1 (by intro a k h; omega)) hF3 (by intro a k h; omega)
  have hR := RX_fr hR1 hF3 (by intro a k h1 h2; omega)
  rw [hq1, e1] at hp
  refine ⟨fun hv => ?_, fun hv => ?_⟩
  · have hv := nq hv
    rcases hp with ⟨p1, p2, p3, p4⟩ | ⟨p1, p2⟩
    · have p3 : 0 ≤ v.toInt := p3
      obtain ⟨b1, b2, b3⟩ := fr_1 (a := v) ⟨p3, by omega⟩
      rw [zero_or_i]
      refine pX5_readMet_8 ht hu1 hus hK 7 I3 _ (0 + 1) hW3 hF p2 hR (by decide) (by decide) (by omega) ⟨b2, b3⟩ ?_
      unfold stMet
      rw [show nm T m (adv T m (qx I).2.2) 0 (w.1 - 1) (fun _ => true) = .inr (v.toInt, qx I3) from p1]
      show _ = fin w (metR T m w.1 7 ((1 : Int32) <<< (Int32.ofInt v.toInt &&& 31)) (qx I3))
      rw [ofI]
    · exact absurd p2 hv
  · have hv1 : v.toInt = -1 := by rw [hv]; rfl
    rcases hp with ⟨p1, p2, p3, p4⟩ | ⟨p1, p2⟩
    · have p3 : 0 ≤ v.toInt := p3
      omega
    · refine hK 0 I3 hW3 hF hm (Or.inr ⟨rfl, ?_⟩)
      unfold stMet
      rw [show nm T m (adv T m (qx I).2.2) 0 (w.1 - 1) (fun _ => true) = .inl (I3 25 5).toInt from p1]
