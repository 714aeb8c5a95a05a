theorem WD_0 {T : Nat → Int32} {tk s f : Int} (h : WD T tk s f 0) : ¬ WD T tk s f 1 ∧ ¬ WD T tk s f 3 ∧ ¬ WD T tk s f 4 ∧ ¬ WD T tk s f 5 ∧ ¬ WD T tk s f 6 := by
  have a0 : (sl 0).toInt = 6 := rfl
  have a1 : (sl 1).toInt = 4 := rfl
  have a3 : (sl 3).toInt = 7 := rfl
  have a4 : (sl 4).toInt = 5 := rfl
  have a6 : (sl 6).toInt = 3 := rfl
  have a5 : (sl 5).toInt = 6 := rfl
  have b := h.2.1
  refine ⟨fun g => by have := g.2.1; omega, fun g => by have := g.2.1; omega, fun g => by have := g.2.1; omega, fun g => ?_, fun g => by have := g.2.1; omega⟩
  have c := (h.2.2 0 (by rw [a0]; decide)).symm.trans (g.2.2 0 (by rw [a5]; decide))
  exact absurd c (by decide)
theorem uI_id (I : jdI) (a k : Nat) : uI I a k (I a k) = I := by
  funext x y
  rw [uI_ap]
  split
  · rename_i h
    rw [h.1, h.2]
  · rfl
theorem pX12_person {G : jdG} {n : Nat} {Z : jdL} {J : jdJ} {K : Int32 → jdI → jdJ → Prop} {I : jdI} {t : Nat} {T : Nat → Int32} {m : Int} {w : Tw} (ht : zModel Z t) (hW : WM 7 t I) (hS : SM T m I t) (hw : RM I t w) (h7 : w.1 < 7) (hK : ∀ (v : Int32) (I2 : jdI), WM 7 t I2 → Fr (fun a k => (a = t ∧ (k = 10 ∨ k = 14 ∨ k = 15 ∨ (22 ≤ k ∧ k ≤ 26))) ∨ a = t + 18 ∨ a = t + 19 ∨ (t + 21 ≤ a ∧ a ≤ t + 29)) I I2 → OM T m (stPerson T m w (qmo I t)) t v I2 → K v I2 J) : Cl G mX12_tells (n + 3) 0 0 [.ref (gb G + t), .int 0, .int 23] Z I J (qi Z (fun v52 I51 J51 => ((v52 = 0 → K 0 I51 J51) ∧ (¬ v52 = 0 → Cl G mX12_number (n + 3) 0 0 [.ref (gb G + t), .int 1, .int 0, .int 9] Z I51 J51 (qi Z (fun v54 I53 J53 => ((¬ v54 = 0 → Cl G mX12_addOne (n + 3) 0 0 [.ref (gb G + t), .int (I53 (t + 29) 0), .int (I53 (t + 29) 1)] Z I53 J53 (qv Z (fun I55 J55 => K 1 I55 J55))) ∧ (v54 = 0 → K 0 I53 J53)))))))) := by
  have h7' : ¬ 7 ≤ w.1 := by omega
  refine pX12_tells ht hW hS.1 hS.2.1 (tkp_f hS.2.2.1).1 (by decide) (fun v I1 hW1 hF1 hp1 => ⟨fun hv => ?_, fun hv => ?_⟩)
  · have hv := i0 hv
    rcases hp1 with ⟨p1, p2, p3, p4, p5, p6⟩ | ⟨p1, p2⟩
    · omega
    · refine hK 0 I1 hW1 (Fr.tr Fr.rf hF1 (by intro a k h; omega)) (Or.inr ⟨rfl, ?_⟩)
      unfold stPerson
      rw [if_neg h7', show nm T m (adv T m (qmo I t).2.2) 0 23 (fun _ => true) = .inl (I1 t 26).toInt from p2]
  · have hv := i1 hv
    rcases hp1 with ⟨p1, p2, p3, p4, p5, p6⟩ | ⟨p1, p2⟩
    · have hR1 := RM_fr hw (by omega) hF1 (by omega) (by omega) (by omega) (by intro a k h1 h2 h3; omega)
      have hF : Fr (fun a k => (a = t ∧ (k = 10 ∨ k = 14 ∨ k = 15 ∨ (22 ≤ k ∧ k ≤ 26))) ∨ a = t + 18 ∨ a = t + 19 ∨ (t + 21 ≤ a ∧ a ≤ t + 29)) I I1 := Fr.tr Fr.rf hF1 (by intro a k h; omega)
      have e1 : nm T m (adv T m (qmo I t).2.2) 0 23 (fun _ => true) = .inr ((I1 (t + 29) 0).toInt, qmo I1 t) := p3
      refine pX12_number ht hW1 p2 (Or.inr rfl) (by decide) (fun v4 I3 hW3 hF3 hp3 => ?_)
      have hF3' : Fr (fun a k => (a = t ∧ (k = 10 ∨ k = 14 ∨ k = 15 ∨ (22 ≤ k ∧ k ≤ 26))) ∨ a = t + 18 ∨ a = t + 19 ∨ (t + 21 ≤ a ∧ a ≤ t + 29)) I I3 := Fr.tr hF hF3 (by intro a k h; omega)
      rcases hp3 with ⟨r1, r2, g, r3, r4, r5, r6, _, r7⟩ | ⟨r1, r2⟩
      · obtain ⟨t1, t2⟩ := r7 rfl
        refine ⟨fun _ => ?_, fun hz => by have := i0 hz; omega⟩
        have hR3 := RM_fr hR1 (by omega) hF3 (by omega) (by omega) (by omega) (by intro a k h1 h2 h3; omega)
        refine pX12_addOne ht hW3 hR3 h7 (fun I5 hW5 hF5 hR5 => ?_)
        obtain ⟨g1, g2⟩ := SM_fr r2 hF5 (by omega) (by intro k h1 h2; omega) (by intro k; omega)
        refine hK 1 I5 hW5 (Fr.tr hF3' hF5 (by intro a k h; omega)) (Or.inl ⟨rfl, g1, _, ?_, hR5⟩)
        unfold stPerson
        rw [if_neg h7', e1]
        show (match nm T m (qmo I1 t) 0 9 (fun _ => true) with | .inl p => Sum.inl p | .inr c => Sum.inr (addT w (Int32.ofInt (I1 (t + 29) 0).toInt) (Int32.ofInt c.1), c.2)) = _
        rw [show nm T m (qmo I1 t) 0 9 (fun _ => true) = .inr (g, qmo I3 t) from r3, g2]
        show Sum.inr (addT w (Int32.ofInt (I1 (t + 29) 0).toInt) (Int32.ofInt g), qmo I3 t) = _
        rw [← t1, ← t2, ofI, ofI]
      · refine ⟨fun hz => by have := i1 hz; omega, fun _ => hK 0 I3 hW3 hF3' (Or.inr ⟨rfl, ?_⟩)⟩
        unfold stPerson
        rw [if_neg h7', e1]
        show (match nm T m (qmo I1 t) 0 9 (fun _ => true) with | .inl p => Sum.inl p | .inr c => Sum.inr (addT w (Int32.ofInt (I1 (t + 29) 0).toInt) (Int32.ofInt c.1), c.2)) = _
        rw [show nm T m (qmo I1 t) 0 9 (fun _ => true) = .inl (I3 t 26).toInt from r2]
    · omega
theorem pX12_strange {G : jdG} {n : Nat} {Z : jdL} {J : jdJ} {K : Int32 → jdI → jdJ → Prop} {I : jdI} {t : Nat} {T : Nat → Int32} {m : Int} {w : Tw} (ht : zModel Z t) (hW : WM 7 t I) (hS : SM T m I t) (hw : RM I t w) (hK : ∀ (v : Int32) (I2 : jdI), WM 7 t I2 → Fr (fun a k => (a = t ∧ (k = 10 ∨ k = 14 ∨ k = 15 ∨ (22 ≤ k ∧ k ≤ 26))) ∨ a = t + 18 ∨ a = t + 19 ∨ (t + 21 ≤ a ∧ a ≤ t + 29)) I I2 → OM T m (stPair T m w (qmo I t) false) t v I2 → K v I2 J) : Cl G mX12_twoTold (n + 4) 0 0 [.ref (gb G + t)] Z I J (qi Z (fun v22 I21 J21 => ((v22 = 0 → (narrow .boolean (.int v22) = .int v22 ∧ K v22 I21 J21)) ∧ (¬ v22 = 0 → Cl G mX12_knows (n + 4) 0 0 [.ref (gb G + t), .int (I21 (t + 29) 0), .int (I21 (t + 29) 1), .int (-1)] Z I21 J21 (qv Z (fun I23 J23 => (narrow .boolean (.int v22) = .int v22 ∧ K v22 I23 J23))))))) := by
  have hp := WM_f hW
  have hw1 := hw.1
  refine pX12_twoTold ht hW hS hw (fun v I1 hW1 hF1 hp1 => ⟨fun hv => ?_, fun hv => ?_⟩)
  · have hv := i0 hv
    rcases hp1 with ⟨p1, p2, p3, p4, p5⟩ | ⟨p1, p2⟩
    · omega
    · refine ⟨narrow_b (Or.inl p1), hK v I1 hW1 (Fr.tr Fr.rf hF1 (by intro a k h; omega)) (Or.inr ⟨p1, ?_⟩)⟩
      rw [stPair_two, p2]
  · have hv := i1 hv
    rcases hp1 with ⟨p1, p2, p3, p4, p5⟩ | ⟨p1, p2⟩
    · have hR1 := RM_fr hw (by omega) hF1 (by omega) (by omega) (by omega) (by intro a k h1 h2 h3; omega)
      have hF : Fr (fun a k => (a = t ∧ (k = 10 ∨ k = 14 ∨ k = 15 ∨ (22 ≤ k ∧ k ≤ 26))) ∨ a = t + 18 ∨ a = t + 19 ∨ (t + 21 ≤ a ∧ a ≤ t + 29)) I I1 := Fr.tr Fr.rf hF1 (by intro a k h; omega)
      have eN : stPair T m w (qmo I t) false = .inr (tieT w (I1 (t + 29) 0).toInt.toNat (I1 (t + 29) 1).toInt.toNat (-1), qmo I1 t) := by
        rw [stPair_two, p3]
        show @ite _ (false = true ∧ WD T (qmo I1 t).1 (qmo I1 t).2.1 (qmo I1 t).2.2 2) (Classical.propDecidable _) _ _ = _
        rw [if_neg (fun q => by cases q.1)]
        rfl
      refine pX12_knows ht hW1 hR1 p4 p5 (fun I5 hW5 hF5 hR5 => ⟨narrow_b (Or.inr p1), ?_⟩)
      obtain ⟨g1, g2⟩ := SM_fr p2 hF5 (by omega) (by intro k h1 h2; omega) (by intro k; omega)
      refine hK v I5 hW5 (Fr.tr hF hF5 (by intro a k h; omega)) (Or.inl ⟨p1, g1, _, ?_, hR5⟩)
      rw [eN, g2]
      rfl
    · omega
theorem pX12_seats {G : jdG} {n : Nat} {Z : jdL} {J : jdJ} {K : Int32 → jdI → jdJ → Prop} {I : jdI} {t : Nat} {T : Nat → Int32} {m : Int} {w : Tw} (ht : zModel Z t) (hW : WM 7 t I) (hS : SM T m I t) (hw : RM I t w) (hK : ∀ (v : Int32) (I2 : jdI), WM 7 t I2 → Fr (fun a k => (a = t ∧ (k = 10 ∨ k = 14 ∨ k = 15 ∨ (22 ≤ k ∧ k ≤ 26))) ∨ a = t + 18 ∨ a = t + 19 ∨ (t + 21 ≤ a ∧ a ≤ t + 29)) I I2 → OM T m (stSeats T m w (qmo I t)) t v I2 → K v I2 J) : Cl G mX12_tells (n + 3) 0 0 [.ref (gb G + t), .int 2, .int 4] Z I J (qi Z (fun v20 I19 J19 => ((v20 = 0 → (narrow .boolean (.int v20) = .int v20 ∧ K v20 (uI I19 t 14 (I19 t 14)) J19)) ∧ (¬ v20 = 0 → (narrow .boolean (.int v20) = .int v20 ∧ K v20 (uI I19 t 14 (I19 (t + 29) 0)) J19))))) := by
  refine pX12_tells ht hW hS.1 hS.2.1 (tkp_f hS.2.2.1).1 (by decide) (fun v I1 hW1 hF1 hp1 => ⟨fun hv => ?_, fun hv => ?_⟩)
  · have hv := i0 hv
    rcases hp1 with ⟨p1, p2, p3, p4, p5, p6⟩ | ⟨p1, p2⟩
    · omega
    · rw [uI_id]
      refine ⟨narrow_b (Or.inl p1), hK v I1 hW1 (Fr.tr Fr.rf hF1 (by intro a k h; omega)) (Or.inr ⟨p1, ?_⟩)⟩
      unfold stSeats
      rw [show nm T m (adv T m (qmo I t).2.2) 2 4 (fun _ => true) = .inl (I1 t 26).toInt from p2]
  · have hv := i1 hv
    rcases hp1 with ⟨p1, p2, p3, p4, p5, p6⟩ | ⟨p1, p2⟩
    · have p4 : 2 ≤ (I1 (t + 29) 0).toInt := p4
      have p5 : (I1 (t + 29) 0).toInt ≤ 4 := p5
      have hp := WM_f hW
      have hw1 := hw.1
      have hR1 := RM_fr hw (by omega) hF1 (by omega) (by omega) (by omega) (by intro a k h1 h2 h3; omega)
      have hF : Fr (fun a k => (a = t ∧ (k = 10 ∨ k = 14 ∨ k = 15 ∨ (22 ≤ k ∧ k ≤ 26))) ∨ a = t + 18 ∨ a = t + 19 ∨ (t + 21 ≤ a ∧ a ≤ t + 29)) I I1 := Fr.tr Fr.rf hF1 (by intro a k h; omega)
      have f0 : Fr (fun a k => a = t ∧ k = 14) I1 (uI I1 t 14 (I1 (t + 29) 0)) := Fr_uI Fr.rf ⟨rfl, rfl⟩
      obtain ⟨g1, g2⟩ := SM_fr p2 f0 (by omega) (by intro k h1 h2; omega) (by intro k; omega)
      refine ⟨narrow_b (Or.inr p1), hK v _ (WM_uI hW1 (by first | exact okMo (by decide) (by decide) (by decide) (by decide) (by decide) | exact okMf (by decide) (by decide) (by decide) (by decide) (by decide) (by decide) (by decide) (by decide) | exact okM30 (by omega) | exact okM42 (by omega) | exact okM33 (by omega) | exact okM10 (by omega) | exact okM8 (by omega) | exact okM22 (by omega) | exact okM24 (by omega) | exact okM14 (by omega) | exact okMa31 (by omega) | exact okMa35 (by omega) | exact okMa36 (by omega) | exact okMa3 (by omega) | exact okMr (by omega) | (unfold okM; refine ⟨?_, ?_, ?_, ?_, ?_, ?_, ?_, ?_, ?_, ?_, ?_, ?_⟩ <;> intro h <;> omega))) (Fr.tr hF f0 (by intro a k h; omega)) (Or.inl ⟨p1, g1, seatT w (I1 (t + 29) 0).toInt, ?_, ?_⟩)⟩
      · unfold stSeats
        rw [show nm T m (adv T m (qmo I t).2.2) 2 4 (fun _ => true) = .inr ((I1 (t + 29) 0).toInt, qmo I1 t) from p3, g2]
      · obtain ⟨r1, r2, r3, r4, r5⟩ := hR1
        exact ⟨by rw [f0 t 10 (by omega)]; exact r1, fun i hi => by rw [f0 (t + 18) i (by omega), f0 (t + 19) i (by omega)]; exact r2 i hi, by rw [uI_ap, if_pos ⟨rfl, rfl⟩]; rfl, by rw [f0 t 15 (by omega)]; exact r4, fun i j hi hj hne => by rw [f0 (t + 21 + i) _ (by omega)]; exact r5 i j hi hj hne⟩
    · omega
theorem pX12_memory {G : jdG} {n : Nat} {Z : jdL} {J : jdJ} {K : Int32 → jdI → jdJ → Prop} {I : jdI} {t : Nat} {T : Nat → Int32} {m : Int} {w : Tw} (ht : zModel Z t) (hW : WM 7 t I) (hS : SM T m I t) (hw : RM I t w) (hK : ∀ (v : Int32) (I2 : jdI), WM 7 t I2 → Fr (fun a k => (a = t ∧ (k = 10 ∨ k = 14 ∨ k = 15 ∨ (22 ≤ k ∧ k ≤ 26))) ∨ a = t + 18 ∨ a = t + 19 ∨ (t + 21 ≤ a ∧ a ≤ t + 29)) I I2 → OM T m (stMemory T m w (qmo I t)) t v I2 → K v I2 J) : Cl G mX12_tells (n + 3) 0 0 [.ref (gb G + t), .int 0, .int 99] Z I J (qi Z (fun v20 I19 J19 => ((v20 = 0 → (narrow .boolean (.int v20) = .int v20 ∧ K v20 (uI I19 t 15 (I19 t 15)) J19)) ∧ (¬ v20 = 0 → (narrow .boolean (.int v20) = .int v20 ∧ K v20 (uI I19 t 15 (I19 (t + 29) 0)) J19))))) := by
  refine pX12_tells ht hW hS.1 hS.2.1 (tkp_f hS.2.2.1).1 (by decide) (fun v I1 hW1 hF1 hp1 => ⟨fun hv => ?_, fun hv => ?_⟩)
  · have hv := i0 hv
    rcases hp1 with ⟨p1, p2, p3, p4, p5, p6⟩ | ⟨p1, p2⟩
    · omega
    · rw [uI_id]
      refine ⟨narrow_b (Or.inl p1), hK v I1 hW1 (Fr.tr Fr.rf hF1 (by intro a k h; omega)) (Or.inr ⟨p1, ?_⟩)⟩
      unfold stMemory
      rw [show nm T m (adv T m (qmo I t).2.2) 0 99 (fun _ => true) = .inl (I1 t 26).toInt from p2]
  · have hv := i1 hv
    rcases hp1 with ⟨p1, p2, p3, p4, p5, p6⟩ | ⟨p1, p2⟩
    · have p4 : 0 ≤ (I1 (t + 29) 0).toInt := p4
      have p5 : (I1 (t + 29) 0).toInt ≤ 99 := p5
      have hp := WM_f hW
      have hw1 := hw.1
      have hR1 := RM_fr hw (by omega) hF1 (by omega) (by omega) (by omega) (by intro a k h1 h2 h3; omega)
      have hF : Fr (fun a k => (a = t ∧ (k = 10 ∨ k = 14 ∨ k = 15 ∨ (22 ≤ k ∧ k ≤ 26))) ∨ a = t + 18 ∨ a = t + 19 ∨ (t + 21 ≤ a ∧ a ≤ t + 29)) I I1 := Fr.tr Fr.rf hF1 (by intro a k h; omega)
      have f0 : Fr (fun a k => a = t ∧ k = 15) I1 (uI I1 t 15 (I1 (t + 29) 0)) := Fr_uI Fr.rf ⟨rfl, rfl⟩
      obtain ⟨g1, g2⟩ := SM_fr p2 f0 (by omega) (by intro k h1 h2; omega) (by intro k; omega)
      refine ⟨narrow_b (Or.inr p1), hK v _ (WM_uI hW1 (by first | exact okMo (by decide) (by decide) (by decide) (by decide) (by decide) | exact okMf (by decide) (by decide) (by decide) (by decide) (by decide) (by decide) (by decide) (by decide) | exact okM30 (by omega) | exact okM42 (by omega) | exact okM33 (by omega) | exact okM10 (by omega) | exact okM8 (by omega) | exact okM22 (by omega) | exact okM24 (by omega) | exact okM14 (by omega) | exact okMa31 (by omega) | exact okMa35 (by omega) | exact okMa36 (by omega) | exact okMa3 (by omega) | exact okMr (by omega) | (unfold okM; refine ⟨?_, ?_, ?_, ?_, ?_, ?_, ?_, ?_, ?_, ?_, ?_, ?_⟩ <;> intro h <;> omega))) (Fr.tr hF f0 (by intro a k h; omega)) (Or.inl ⟨p1, g1, memT w (I1 (t + 29) 0).toInt, ?_, ?_⟩)⟩
      · unfold stMemory
        rw [show nm T m (adv T m (qmo I t).2.2) 0 99 (fun _ => true) = .inr ((I1 (t + 29) 0).toInt, qmo I1 t) from p3, g2]
      · obtain ⟨r1, r2, r3, r4, r5⟩ := hR1
        exact ⟨by rw [f0 t 10 (by omega)]; exact r1, fun i hi => by rw [f0 (t + 18) i (by omega), f0 (t + 19) i (by omega)]; exact r2 i hi, by rw [f0 t 14 (by omega)]; exact r3, by rw [uI_ap, if_pos ⟨rfl, rfl⟩]; rfl, fun i j hi hj hne => by rw [f0 (t + 21 + i) _ (by omega)]; exact r5 i j hi hj hne⟩
    · omega
theorem pX12_statement {G : jdG} {n : Nat} {Z : jdL} {J : jdJ} {K : Int32 → jdI → jdJ → Prop} {I : jdI} {t : Nat} {T : Nat → Int32} {m : Int} {w : Tw} {sA sV : Nat → Nat} (hG : gOK G sA sV) (ht : zModel Z t) (hW : WM 7 t I) (hS : SM T m I t) (hw : RM I t w) (hK : ∀ (v : Int32) (I2 : jdI), WM 7 t I2 → Fr (fun a k => (a = t ∧ (k = 10 ∨ k = 14 ∨ k = 15 ∨ (22 ≤ k ∧ k ≤ 26))) ∨ a = t + 18 ∨ a = t + 19 ∨ (t + 21 ≤ a ∧ a ≤ t + 29)) I I2 → OM T m (st T m w (qmo I t)) t v I2 → K v I2 J) : Cl G mX12_statement (n + 6) 0 0 [.ref (gb G + t)] Z I J (qi Z K) := by
  have hp := WM_f hW
  have hw1 := hw.1
  have q7 : (7 : Int32).toInt = 7 := rfl
  refine eX12_statement hG ht ?_
  refine wM hG ht (by decide) hW hS (fun n0 _ => ?_) (fun y _ => ?_)
  · have n0 : ¬ WD T (qmo I t).1 (qmo I t).2.1 (qmo I t).2.2 0 := n0
    refine wM hG ht (by decide) hW hS (fun n1 _ => ?_) (fun y _ => ?_)
    · have n1 : ¬ WD T (qmo I t).1 (qmo I t).2.1 (qmo I t).2.2 1 := n1
      refine wM hG ht (by decide) hW hS (fun n3 _ => ?_) (fun y _ => ?_)
      · have n3 : ¬ WD T (qmo I t).1 (qmo I t).2.1 (qmo I t).2.2 3 := n3
        refine wM hG ht (by decide) hW hS (fun n4 _ => ?_) (fun y _ => ?_)
        · have n4 : ¬ WD T (qmo I t).1 (qmo I t).2.1 (qmo I t).2.2 4 := n4
          refine wM hG ht (by decide) hW hS (fun n5 _ => ?_) (fun y _ => ?_)
          · have n5 : ¬ WD T (qmo I t).1 (qmo I t).2.1 (qmo I t).2.2 5 := n5
            refine wM hG ht (by decide) hW hS (fun n6 _ => ?_) (fun y _ => ?_)
            · have n6 : ¬ WD T (qmo I t).1 (qmo I t).2.1 (qmo I t).2.2 6 := n6
              refine fsfX12_wrong ht hW (fun v I9 hW9 hF9 hp9 => ⟨narrow_b (Or.inl hp9.1), ?_⟩)
              refine hK v I9 hW9 (Fr.tr Fr.rf hF9 (by intro a k h; omega)) (Or.inr ⟨hp9.1, ?_⟩)
              rw [st_6 n0 n1 n3 n4 n5 n6, hp9.2]
              rfl
            · have y : WD T (qmo I t).1 (qmo I t).2.1 (qmo I t).2.2 6 := y
              exact pX12_metTold ht hW hS hw (fun v I2 hW2 hF2 h => ⟨OM_b h, hK v I2 hW2 hF2 (by rw [st_5 n0 n1 n3 n4 n5 y]; exact h)⟩)
          · have y : WD T (qmo I t).1 (qmo I t).2.1 (qmo I t).2.2 5 := y
            exact pX12_memory ht hW hS hw (fun v I2 hW2 hF2 h => hK v I2 hW2 hF2 (by rw [st_4 n0 n1 n3 n4 y]; exact h))
        · have y : WD T (qmo I t).1 (qmo I t).2.1 (qmo I t).2.2 4 := y
          exact pX12_seats ht hW hS hw (fun v I2 hW2 hF2 h => hK v I2 hW2 hF2 (by rw [st_3 n0 n1 n3 y]; exact h))
      · have y : WD T (qmo I t).1 (qmo I t).2.1 (qmo I t).2.2 3 := y
        exact pX12_strange ht hW hS hw (fun v I2 hW2 hF2 h => hK v I2 hW2 hF2 (by rw [st_2 n0 n1 y]; exact h))
    · have y : WD T (qmo I t).1 (qmo I t).2.1 (qmo I t).2.2 1 := y
      exact pX12_knowTold hG ht hW hS hw (fun v I2 hW2 hF2 h => ⟨OM_b h, hK v I2 hW2 hF2 (by rw [st_1 n0 y]; exact h)⟩)
  · have y : WD T (qmo I t).1 (qmo I t).2.1 (qmo I t).2.2 0 := y
    obtain ⟨z1, z3, z4, z5, z6⟩ := WD_0 y
    refine ⟨fun hc => ?_, fun hc => ?_⟩
    · have hc := Int32.le_iff_toInt_le.mp hc
      refine wM hG ht (by decide) hW hS (fun _ _ => ?_) (fun y _ => absurd y z1)
      refine wM hG ht (by decide) hW hS (fun _ _ => ?_) (fun y _ => absurd y z3)
      refine wM hG ht (by decide) hW hS (fun _ _ => ?_) (fun y _ => absurd y z4)
      refine wM hG ht (by decide) hW hS (fun _ _ => ?_) (fun y _ => absurd y z5)
      refine wM hG ht (by decide) hW hS (fun _ _ => ?_) (fun y _ => absurd y z6)
      refine fsfX12_wrong ht hW (fun v I9 hW9 hF9 hp9 => ⟨narrow_b (Or.inl hp9.1), ?_⟩)
      refine hK v I9 hW9 (Fr.tr Fr.rf hF9 (by intro a k h; omega)) (Or.inr ⟨hp9.1, ?_⟩)
      rw [st_0 y, hp9.2]
      unfold stPerson
      rw [if_pos (by omega)]
      rfl
    · have hc := mt Int32.le_iff_toInt_le.mpr hc
      exact pX12_person ht hW hS hw (by omega) (fun v I2 hW2 hF2 h => hK v I2 hW2 hF2 (by rw [st_0 y]; exact h))
theorem run_ex (T : Nat → Int32) (n s : Int) (tk : Int) : ∀ (k : Nat) (f : Int), f + (k : Int) = n → s < f → 0 ≤ s → (∀ i : Nat, s ≤ i → (i : Int) < f → tokOf (T i) = tk) → ∃ g : Int, f ≤ g ∧ g ≤ n ∧ (∀ i : Nat, s ≤ i → (i : Int) < g → tokOf (T i) = tk) ∧ (g < n → ¬ tokOf (T g.toNat) = tk)
  | 0, f, h1, h2, h0, h3 => ⟨f, by omega, by omega, h3, fun q => by omega⟩
  | k + 1, f, h1, h2, h0, h3 => by
    by_cases c : tokOf (T f.toNat) = tk
    · obtain ⟨g, a, b, d, e⟩ := run_ex T n s tk k (f + 1) (by omega) (by omega) h0 (fun i q1 q2 => by
        by_cases z : (i : Int) < f
        · exact h3 i q1 z
        · have : i = f.toNat := by omega
          rw [this]
          exact c)
      exact ⟨g, by omega, b, d, e⟩
    · exact ⟨f, by omega, by omega, h3, fun _ => c⟩
theorem tk_ex (T : Nat → Int32) (n : Int) : ∀ (k : Nat) (e : Int), e + (k : Int) = n → 0 ≤ e → ∃ q : Q3, TK T n e q.1 q.2.1 q.2.2
  | 0, e, h, h0 => ⟨(0, n, n), ⟨by show e ≤ n; omega, by show n ≤ n; omega⟩, spx_0 (by show n ≤ e; omega), Or.inl ⟨rfl, rfl, rfl⟩, fun q => by have q : (0 : Int) = 1 ∨ (0 : Int) = 2 := q; omega, fun _ => Or.inl rfl⟩
  | k + 1, e, h, h0 => by
    by_cases c : (T e.toNat).toInt = 32
    · obtain ⟨q, ⟨a1, a2⟩, a3, a4⟩ := tk_ex T n k (e + 1) (by omega) (by omega)
      refine ⟨q, ⟨by omega, a2⟩, fun i q1 q2 => ?_, a4⟩
      by_cases z : e + 1 ≤ (i : Int)
      · exact a3 i z q2
      · have : i = e.toNat := by omega
        rw [this]
        exact c
    · by_cases d : tokOf (T e.toNat) = 1 ∨ tokOf (T e.toNat) = 2
      · obtain ⟨g, b1, b2, b3, b4⟩ := run_ex T n e (tokOf (T e.toNat)) k (e + 1) (by omega) (by omega) h0 (fun i q1 q2 => by
          have : i = e.toNat := by omega
          rw [this])
        exact ⟨(tokOf (T e.toNat), e, g), ⟨Int.le_refl _, by show e ≤ n; omega⟩, spx_0 (Int.le_refl _), Or.inr ⟨⟨h0, by show e < n; omega⟩, c, rfl, ⟨by show e < g; omega, b2⟩, b3⟩, fun _ => b4, fun q => absurd d q⟩
      · exact ⟨(tokOf (T e.toNat), e, e + 1), ⟨Int.le_refl _, by show e ≤ n; omega⟩, spx_0 (Int.le_refl _), Or.inr ⟨⟨h0, by show e < n; omega⟩, c, rfl, ⟨by show e < e + 1; omega, by show e + 1 ≤ n; omega⟩, fun i q1 q2 => by
          have q1 : e ≤ (i : Int) := q1
          have q2 : (i : Int) < e + 1 := q2
          have : i = e.toNat := by omega
          rw [this]⟩, fun q => absurd q d, fun _ => Or.inr rfl⟩
theorem adv_ok {T : Nat → Int32} {n e : Int} (h0 : 0 ≤ e) (h1 : e ≤ n) : TK T n e (adv T n e).1 (adv T n e).2.1 (adv T n e).2.2 :=
  Classical.epsilon_spec (p := fun q : Q3 => TK T n e q.1 q.2.1 q.2.2) (tk_ex T n (n - e).toNat e (by omega) h0)
/-- q2 is the token behind q, or a later one -/
def Mo (n : Int) (q q2 : Q3) : Prop := q.2.2 ≤ q2.2.2 ∧ q2.2.2 ≤ n ∧ (¬ q2.1 = 0 → q.2.2 < q2.2.2)
theorem adv_m {T : Nat → Int32} {n : Int} {q : Q3} (h0 : 0 ≤ q.2.2) (h1 : q.2.2 ≤ n) : Mo n q (adv T n q.2.2) := by
  have h := adv_ok (T := T) h0 h1
  obtain ⟨⟨a1, a2⟩, a3, a4, a5⟩ := h
  have := tkp_f a4
  unfold Mo
  rcases a4 with a4 | a4
  · omega
  · obtain ⟨c1, c2, c3, c4, c5⟩ := a4
    omega
theorem Mo_t {n : Int} {a b c : Q3} (h : Mo n a b) (g : Mo n b c) : Mo n a c := by
  unfold Mo at *
  omega
theorem nm_m {T : Nat → Int32} {n : Int} {q : Q3} {lo hi g : Int} {q2 : Q3} {ok : Int → Bool} (h : nm T n q lo hi ok = .inr (g, q2)) (h0 : 0 ≤ q.2.2) (h1 : q.2.2 ≤ n) : Mo n q q2 := by
  unfold nm at h
  by_cases c : q.1 = 2 ∧ lo ≤ vl T q.2.1 q.2.2 ∧ vl T q.2.1 q.2.2 ≤ hi ∧ ok (vl T q.2.1 q.2.2) = true
  · rw [if_pos c] at h
    injection h with h
    injection h with h2 h3
    rw [← h3]
    exact adv_m h0 h1
  · rw [if_neg c] at h
    cases h
theorem metR_m {T : Nat → Int32} {n p : Int} : ∀ (f : Nat) (s : Int32) (q : Q3) (b : Int32 × Q3), 0 ≤ q.2.2 → q.2.2 ≤ n → metR T n p f s q = .inr b → b.2 = q ∨ Mo n q b.2
  | 0, s, q, b, h0, h1, h => by
    injection h with h
    rw [← h]
    exact Or.inl rfl
  | f + 1, s, q, b, h0, h1, h => by
    by_cases c : q.1 = 2
    · cases e : nm T n q 0 (p - 1) (fun x => !(bt s x.toNat)) with
      | inl z =>
        rw [metR_e c e] at h
        cases h
      | inr a =>
        have k := nm_m (g := a.1) (q2 := a.2) e h0 h1
        have h2 : metR T n p f (s ||| ((1 : Int32) <<< (Int32.ofInt a.1 &&& 31))) a.2 = .inr b := by
          rw [← h]
          show _ = (if q.1 = 2 then (match nm T n q 0 (p - 1) (fun x => !(bt s x.toNat)) with
            | .inl e => (Sum.inl e : Sum Int (Int32 × Q3))
            | .inr a => metR T n p f (s ||| ((1 : Int32) <<< (Int32.ofInt a.1 &&& 31))) a.2) else .inr (s, q))
          rw [if_pos c, e]
        have h3 := metR_m f _ a.2 b (by have := k.1; omega) k.2.1 h2
        rcases h3 with h3 | h3
        · rw [h3]
          exact Or.inr k
        · exact Or.inr (Mo_t k h3)
    · rw [metR_n c] at h
      injection h with h
      rw [← h]
      exact Or.inl rfl
theorem st_m {T : Nat → Int32} {n : Int} {w w2 : Tw} {q q2 : Q3} (h : st T n w q = .inr (w2, q2)) (h0 : 0 ≤ q.2.2) (h1 : q.2.2 ≤ n) : Mo n q q2 ∧ q.2.1 + 3 ≤ q.2.2 := by
  have M1 := adv_m (T := T) h0 h1
  have k0 : 0 ≤ (adv T n q.2.2).2.2 := by have := M1.1; omega
  have k1 := M1.2.1
  have W : ∀ u, WD T q.1 q.2.1 q.2.2 u → q.2.1 + 3 ≤ q.2.2 := fun u g => by
    have a := g.2.1
    have b := sl_r u
    omega
  have pair : ∀ kn, stPair T n w q kn = .inr (w2, q2) → Mo n q q2 := fun kn g => by
    rw [stPair_two] at g
    unfold two at g
    cases e1 : nm T n (adv T n q.2.2) 0 (w.1 - 1) (fun _ => true) with
    | inl z =>
      rw [e1] at g
      cases g
    | inr a =>
      rw [e1] at g
      dsimp only at g
      have m1 := Mo_t M1 (nm_m (g := a.1) (q2 := a.2) e1 k0 k1)
      have j0 : 0 ≤ a.2.2.2 := by have := m1.1; omega
      cases e2 : nm T n a.2 0 (w.1 - 1) (fun x => decide (¬ x = a.1)) with
      | inl z =>
        rw [e2] at g
        cases g
      | inr b =>
        rw [e2] at g
        dsimp only at g
        have m2 := Mo_t m1 (nm_m (g := b.1) (q2 := b.2) e2 j0 m1.2.1)
        by_cases c : kn = true ∧ WD T b.2.1 b.2.2.1 b.2.2.2 2
        · rw [if_pos c] at g
          unfold stSince at g
          have l0 : 0 ≤ b.2.2.2 := by have := m2.1; omega
          have m3 := Mo_t m2 (adv_m (T := T) l0 m2.2.1)
          cases e3 : nm T n (adv T n b.2.2.2) 0 99 (fun _ => true) with
          | inl z =>
            rw [e3] at g
            cases g
          | inr d =>
            rw [e3] at g
            injection g with g
            injection g with g1 g2
            rw [← g2]
            exact Mo_t m3 (nm_m (g := d.1) (q2 := d.2) e3 (by have := m3.1; omega) m3.2.1)
        · rw [if_neg c] at g
          injection g with g
          injection g with g1 g2
          rw [← g2]
          exact m2
  have one : ∀ lo hi (F : Int → Tw), (match nm T n (adv T n q.2.2) lo hi (fun _ => true) with | .inl p => Sum.inl p | .inr h => Sum.inr (F h.1, h.2)) = (Sum.inr (w2, q2) : Sum Int (Tw × Q3)) → Mo n q q2 := fun lo hi F g => by
    cases e1 : nm T n (adv T n q.2.2) lo hi (fun _ => true) with
    | inl z =>
      rw [e1] at g
      cases g
    | inr a =>
      rw [e1] at g
      injection g with g
      injection g with g1 g2
      rw [← g2]
      exact Mo_t M1 (nm_m (g := a.1) (q2 := a.2) e1 k0 k1)
  unfold st at h
  by_cases c0 : WD T q.1 q.2.1 q.2.2 0
  · rw [if_pos c0] at h
    refine ⟨?_, W _ c0⟩
    unfold stPerson at h
    by_cases d : 7 ≤ w.1
    · rw [if_pos d] at h
      cases h
    · rw [if_neg d] at h
      cases e1 : nm T n (adv T n q.2.2) 0 23 (fun _ => true) with
      | inl z =>
        rw [e1] at h
        cases h
      | inr a =>
        rw [e1] at h
        dsimp only at h
        have m1 := Mo_t M1 (nm_m (g := a.1) (q2 := a.2) e1 k0 k1)
        cases e2 : nm T n a.2 0 9 (fun _ => true) with
        | inl z =>
          rw [e2] at h
          cases h
        | inr b =>
          rw [e2] at h
          injection h with h
          injection h with g1 g2
          rw [← g2]
          exact Mo_t m1 (nm_m (g := b.1) (q2 := b.2) e2 (by have := m1.1; omega) m1.2.1)
  · rw [if_neg c0] at h
    by_cases c1 : WD T q.1 q.2.1 q.2.2 1
    · rw [if_pos c1] at h
      exact ⟨pair _ h, W _ c1⟩
    · rw [if_neg c1] at h
      by_cases c3 : WD T q.1 q.2.1 q.2.2 3
      · rw [if_pos c3] at h
        exact ⟨pair _ h, W _ c3⟩
      · rw [if_neg c3] at h
        by_cases c4 : WD T q.1 q.2.1 q.2.2 4
        · rw [if_pos c4] at h
          exact ⟨one 2 4 (seatT w) h, W _ c4⟩
        · rw [if_neg c4] at h
          by_cases c5 : WD T q.1 q.2.1 q.2.2 5
          · rw [if_pos c5] at h
            exact ⟨one 0 99 (memT w) h, W _ c5⟩
          · rw [if_neg c5] at h
            by_cases c6 : WD T q.1 q.2.1 q.2.2 6
            · rw [if_pos c6] at h
              refine ⟨?_, W _ c6⟩
              unfold stMet at h
              cases e1 : nm T n (adv T n q.2.2) 0 (w.1 - 1) (fun _ => true) with
              | inl z =>
                rw [e1] at h
                cases h
              | inr a =>
                rw [e1] at h
                dsimp only at h
                have m1 := Mo_t M1 (nm_m (g := a.1) (q2 := a.2) e1 k0 k1)
                cases e2 : metR T n w.1 7 ((1 : Int32) <<< (Int32.ofInt a.1 &&& 31)) a.2 with
                | inl z =>
                  rw [e2] at h
                  cases h
                | inr b =>
                  rw [e2] at h
                  injection h with h
                  injection h with g1 g2
                  rw [← g2]
                  rcases metR_m 7 _ a.2 b (by have := m1.1; omega) m1.2.1 e2 with g | g
                  · rw [g]
                    exact m1
                  · exact Mo_t m1 g
            · rw [if_neg c6] at h
              cases h

