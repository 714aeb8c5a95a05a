def OM (T : Nat → Int32) (m : Int) (r : Sum Int (Tw × Q3)) (t : Nat) (v : Int32) (I2 : jdI) : Prop := (v.toInt = 1 ∧ SM T m I2 t ∧ ∃ w2 : Tw, r = .inr (w2, qmo I2 t) ∧ RM I2 t w2) ∨ (v.toInt = 0 ∧ r = .inl (I2 t 26).toInt)
theorem RM_fr {I I2 : jdI} {t : Nat} {w : Tw} {p : Nat → Nat → Prop} (h : RM I t w) (hP : w.1 ≤ 8) (hF : Fr p I I2) (h1 : ¬ p t 10) (h2 : ¬ p t 14) (h3 : ¬ p t 15) (hp : ∀ a k, t + 18 ≤ a → a ≤ t + 28 → ¬ a = t + 20 → ¬ p a k) : RM I2 t w := by
  obtain ⟨w1, w2, w3, w4, w5⟩ := h
  refine ⟨by rw [hF t 10 h1]; exact w1, fun i hi => ?_, by rw [hF t 14 h2]; exact w3, by rw [hF t 15 h3]; exact w4, fun i j hi hj hne => ?_⟩
  · rw [hF (t + 18) i (hp _ _ (by omega) (by omega) (by omega)), hF (t + 19) i (hp _ _ (by omega) (by omega) (by omega))]
    exact w2 i hi
  · rw [hF (t + 21 + i) _ (hp _ _ (by omega) (by omega) (by omega))]
    exact w5 i j hi hj hne
theorem SM_fr {I I2 : jdI} {T : Nat → Int32} {m : Int} {t : Nat} {p : Nat → Nat → Prop} (h : SM T m I t) (hF : Fr p I I2) (h8 : ¬ p t 8) (hk : ∀ k, 22 ≤ k → k ≤ 25 → ¬ p t k) (h16 : ∀ k, ¬ p (t + 16) k) : SM T m I2 t ∧ qmo I2 t = qmo I t := by
  have e2 : I2 (t + 16) = I (t + 16) := funext (fun k => hF (t + 16) k (h16 k))
  unfold SM qmo
  rw [e2, hF t 8 h8, hF t 22 (hk _ (by omega) (by omega)), hF t 23 (hk _ (by omega) (by omega)), hF t 24 (hk _ (by omega) (by omega)), hF t 25 (hk _ (by omega) (by omega))]
  exact ⟨h, rfl⟩
/-- two different people -/
noncomputable def two (T : Nat → Int32) (n p : Int) (q : Q3) : Sum Int (Int × Int × Q3) := match nm T n (adv T n q.2.2) 0 (p - 1) (fun _ => true) with
  | .inl e => .inl e
  | .inr a => match nm T n a.2 0 (p - 1) (fun x => decide (¬ x = a.1)) with
    | .inl e => .inl e
    | .inr b => .inr (a.1, b.1, b.2)
theorem two_e {T : Nat → Int32} {n p e : Int} {q : Q3} (h : nm T n (adv T n q.2.2) 0 (p - 1) (fun _ => true) = .inl e) : two T n p q = .inl e := by
  unfold two
  rw [h]
theorem two_f {T : Nat → Int32} {n p e a : Int} {q q2 : Q3} (h : nm T n (adv T n q.2.2) 0 (p - 1) (fun _ => true) = .inr (a, q2)) (g : nm T n q2 0 (p - 1) (fun x => decide (¬ x = a)) = .inl e) : two T n p q = .inl e := by
  unfold two
  rw [h]
  show (match nm T n q2 0 (p - 1) (fun x => decide (¬ x = a)) with | .inl e => Sum.inl e | .inr b => Sum.inr (a, b.1, b.2)) = _
  rw [g]
theorem two_y {T : Nat → Int32} {n p a b : Int} {q q2 q3 : Q3} (h : nm T n (adv T n q.2.2) 0 (p - 1) (fun _ => true) = .inr (a, q2)) (g : nm T n q2 0 (p - 1) (fun x => decide (¬ x = a)) = .inr (b, q3)) : two T n p q = .inr (a, b, q3) := by
  unfold two
  rw [h]
  show (match nm T n q2 0 (p - 1) (fun x => decide (¬ x = a)) with | .inl e => Sum.inl e | .inr b => Sum.inr (a, b.1, b.2)) = _
  rw [g]
theorem stPair_two (T : Nat → Int32) (n : Int) (w : Tw) (q : Q3) (kn : Bool) : stPair T n w q kn = match two T n w.1 q with
    | .inl p => .inl p
    | .inr c => @ite _ (kn = true ∧ WD T c.2.2.1 c.2.2.2.1 c.2.2.2.2 2) (Classical.propDecidable _) (stSince T n w c.1 c.2.1 c.2.2) (.inr (tieT w c.1.toNat c.2.1.toNat (if kn = true then 0 else -1), c.2.2)) := by
  unfold stPair two
  cases nm T n (adv T n q.2.2) 0 (w.1 - 1) (fun _ => true) with
  | inl e => rfl
  | inr a =>
    dsimp only
    cases nm T n a.2 0 (w.1 - 1) (fun x => decide (¬ x = a.1)) with
    | inl e => rfl
    | inr b => rfl
theorem pX12_twoTold {G : jdG} {n : Nat} {Z : jdL} {J : jdJ} {K : Int32 → jdI → jdJ → Prop} {I : jdI} {t : Nat} {T : Nat → Int32} {m : Int} {w : Tw} (ht : zModel Z t) (hW : WM 7 t I) (hS : SM T m I t) (hw : RM I t w) (hK : ∀ (v : Int32) (I2 : jdI), WM 7 t I2 → Fr (fun a k => (a = t ∧ 22 ≤ k ∧ k ≤ 26) ∨ a = t + 29) I I2 → ((v.toInt = 1 ∧ SM T m I2 t ∧ two T m w.1 (qmo I t) = .inr ((I2 (t + 29) 0).toInt, (I2 (t + 29) 1).toInt, qmo I2 t) ∧ (0 ≤ (I2 (t + 29) 0).toInt ∧ (I2 (t + 29) 0).toInt < w.1) ∧ (0 ≤ (I2 (t + 29) 1).toInt ∧ (I2 (t + 29) 1).toInt < w.1)) ∨ (v.toInt = 0 ∧ two T m w.1 (qmo I t) = .inl (I2 t 26).toInt)) → K v I2 J) : Cl G mX12_twoTold (n + 4) 0 0 [.ref (gb G + t)] Z I J (qi Z K) := by
  have hp := WM_f hW
  have hw1 := hw.1
  have q1 : (1 : Int32).toInt = 1 := rfl
  have q0 : (0 : Int32).toInt = 0 := rfl
  have q2 : (2 : Int32).toInt = 2 := rfl
  have s1 := i32_sub (I t 10) 1 (by omega) (by omega)
  have e1 : ((I t 10) - 1).toInt = w.1 - 1 := by omega
  refine eX12_twoTold ht ?_
  refine pX12_tells ht hW hS.1 hS.2.1 (tkp_f hS.2.2.1).1 ⟨by decide, by omega⟩ (fun v I1 hW1 hF1 hp1 => ⟨fun hv => ?_, fun hv => ?_⟩)
  · have hv := i1 hv
    rw [e1] at hp1
    rcases hp1 with ⟨p1, p2, p3, p4, p5, p6⟩ | ⟨p1, p2⟩
    · have hR1 := RM_fr hw (by omega) hF1 (by omega) (by omega) (by omega) (by intro a k h1 h2 h3; omega)
      have r1 := hR1.1
      have s3 := i32_sub (I1 t 10) 1 (by omega) (by omega)
      have e3 : ((I1 t 10) - 1).toInt = w.1 - 1 := by omega
      have eA : nm T m (adv T m (qmo I t).2.2) 0 (w.1 - 1) (fun _ => true) = .inr ((I1 (t + 29) 0).toInt, qmo I1 t) := p3
      have p4 : 0 ≤ (I1 (t + 29) 0).toInt := p4
      have num : (¬ ((I1 t 23).toInt = 2 ∧ (I1 t 25).toInt = (I1 (t + 29) 0).toInt)) → Cl G mX12_number (n + 3) 0 0 [.ref (gb G + t), .int 1, .int 0, .int ((I1 t 10) - 1)] Z I1 J (qi Z (fun v4 I3 J3 => (narrow .boolean (.int v4) = .int v4 ∧ K v4 I3 J3))) := fun hne => by
        refine pX12_number ht hW1 p2 (Or.inr rfl) ⟨by decide, by omega⟩ (fun v4 I3 hW3 hF3 hp3 => ?_)
        have hF' : Fr (fun a k => (a = t ∧ 22 ≤ k ∧ k ≤ 26) ∨ a = t + 29) I I3 := Fr.tr hF1 hF3 (by intro a k h; omega)
        have eq : nm T m (qmo I1 t) 0 (w.1 - 1) (fun x => decide (¬ x = (I1 (t + 29) 0).toInt)) = nm T m (qmo I1 t) 0 (w.1 - 1) (fun _ => true) := nm_ok (fun c1 _ _ => decide_eq_true (fun z => hne ⟨c1, (p2.2.2.2 c1).trans z⟩))
        rw [e3] at hp3
        rcases hp3 with ⟨r1, r2, g, r3, r4, r5, r6, _, r7⟩ | ⟨r1, r2⟩
        · have r4 : 0 ≤ g := r4
          obtain ⟨t1, t2⟩ := r7 rfl
          refine ⟨narrow_b (Or.inr r1), hK v4 I3 hW3 hF' (Or.inl ⟨r1, r2, ?_, by omega, by omega⟩)⟩
          rw [two_y eA (eq.trans r3), t1, t2]
        · exact ⟨narrow_b (Or.inl r1), hK v4 I3 hW3 hF' (Or.inr ⟨r1, two_f eA (eq.trans r2)⟩)⟩
      refine ⟨fun hc => num (fun z => hc (Int32.toInt_inj.mp (z.1.trans q2.symm))), fun hc => ⟨fun hd => num (fun z => hd (Int32.toInt_inj.mp z.2)), fun hd => ?_⟩⟩
      refine fsfX12_wrong ht hW1 (fun v8 I7 hW7 hF7 hp7 => ⟨narrow_b (Or.inl hp7.1), hK v8 I7 hW7 (Fr.tr hF1 hF7 (by intro a k h; omega)) (Or.inr ⟨hp7.1, two_f eA ?_⟩)⟩)
      refine nm_n (Or.inr (fun z => ?_)) hp7.2
      have z := of_decide_eq_true z
      refine z ((p2.2.2.2 (by rw [hc]; rfl)).symm.trans (by rw [hd]))
    · omega
  · have hv := i0 hv
    rw [e1] at hp1
    rcases hp1 with ⟨p1, p2, p3, p4, p5, p6⟩ | ⟨p1, p2⟩
    · omega
    · exact hK 0 I1 hW1 hF1 (Or.inr ⟨rfl, two_e p2⟩)
theorem pX12_knowTold {G : jdG} {n : Nat} {Z : jdL} {J : jdJ} {K : Int32 → jdI → jdJ → Prop} {I : jdI} {t : Nat} {T : Nat → Int32} {m : Int} {w : Tw} {sA sV : Nat → Nat} (hG : gOK G sA sV) (ht : zModel Z t) (hW : WM 7 t I) (hS : SM T m I t) (hw : RM I t w) (hK : ∀ (v : Int32) (I2 : jdI), WM 7 t I2 → Fr (fun a k => (a = t ∧ (k = 10 ∨ k = 14 ∨ k = 15 ∨ (22 ≤ k ∧ k ≤ 26))) ∨ a = t + 18 ∨ a = t + 19 ∨ (t + 21 ≤ a ∧ a ≤ t + 29)) I I2 → OM T m (stPair T m w (qmo I t) true) t v I2 → K v I2 J) : Cl G mX12_knowTold (n + 5) 0 0 [.ref (gb G + t)] Z I J (qi Z K) := by
  have hp := WM_f hW
  have hw1 := hw.1
  refine eX12_knowTold hG ht ?_
  refine pX12_twoTold ht hW hS hw (fun v I1 hW1 hF1 hp1 => ⟨fun hv => ?_, fun hv => ?_⟩)
  · have hv := i1 hv
    rcases hp1 with ⟨p1, p2, p3, p4, p5⟩ | ⟨p1, p2⟩
    · have hR1 := RM_fr hw (by omega) hF1 (by omega) (by omega) (by omega) (by intro a k h1 h2 h3; omega)
      have hF : Fr (fun a k => (a = t ∧ (k = 10 ∨ k = 14 ∨ k = 15 ∨ (22 ≤ k ∧ k ≤ 26))) ∨ a = t + 18 ∨ a = t + 19 ∨ (t + 21 ≤ a ∧ a ≤ t + 29)) I I1 := Fr.tr Fr.rf hF1 (by intro a k h; omega)
      refine fsfX12_isWord hG ht (by decide) hW1 (by rw [p2.1, p2.2.1]; exact p2.2.2.1) (fun v4 hwd => ⟨fun h0 => ?_, fun h0 => ?_⟩)
      · have h0 := i0 h0
        have nw : ¬ WD T (qmo I1 t).1 (qmo I1 t).2.1 (qmo I1 t).2.2 2 := by
          rw [p2.1] at hwd
          rcases hwd with hwd | hwd
          · omega
          · exact hwd.2
        have eN : stPair T m w (qmo I t) true = .inr (tieT w (I1 (t + 29) 0).toInt.toNat (I1 (t + 29) 1).toInt.toNat 0, qmo I1 t) := by
          rw [stPair_two, p3]
          show @ite _ (true = true ∧ WD T (qmo I1 t).1 (qmo I1 t).2.1 (qmo I1 t).2.2 2) (Classical.propDecidable _) _ _ = _
          rw [if_neg (fun q => nw q.2)]
          rfl
        refine pX12_knows ht hW1 hR1 p4 p5 (fun I5 hW5 hF5 hR5 => ?_)
        obtain ⟨g1, g2⟩ := SM_fr p2 hF5 (by omega) (by intro k h1 h2; omega) (by intro k; omega)
        refine hK 1 I5 hW5 (Fr.tr hF hF5 (by intro a k h; omega)) (Or.inl ⟨rfl, g1, _, ?_, hR5⟩)
        rw [eN, g2]
        rfl
      · have h0 := i1 h0
        have yw : WD T (qmo I1 t).1 (qmo I1 t).2.1 (qmo I1 t).2.2 2 := by
          rw [p2.1] at hwd
          rcases hwd with hwd | hwd
          · exact hwd.2
          · omega
        have eS : stPair T m w (qmo I t) true = stSince T m w (I1 (t + 29) 0).toInt (I1 (t + 29) 1).toInt (qmo I1 t) := by
          rw [stPair_two, p3]
          show @ite _ (true = true ∧ WD T (qmo I1 t).1 (qmo I1 t).2.1 (qmo I1 t).2.2 2) (Classical.propDecidable _) _ _ = _
          rw [if_pos ⟨rfl, yw⟩]
        refine pX12_tells ht hW1 p2.1 p2.2.1 (tkp_f p2.2.2.1).1 (by decide) (fun v8 I7 hW7 hF7 hp7 => ⟨fun hv => ?_, fun hv => ?_⟩)
        · have hv := i1 hv
          rcases hp7 with ⟨r1, r2, r3, r4, r5, r6⟩ | ⟨r1, r2⟩
          · have hR7 := RM_fr hR1 (by omega) hF7 (by omega) (by omega) (by omega) (by intro a k h1 h2 h3; omega)
            have hF7' : Fr (fun a k => (a = t ∧ (k = 10 ∨ k = 14 ∨ k = 15 ∨ (22 ≤ k ∧ k ≤ 26))) ∨ a = t + 18 ∨ a = t + 19 ∨ (t + 21 ≤ a ∧ a ≤ t + 29)) I I7 := Fr.tr hF hF7 (by intro a k h; omega)
            refine pX12_knows ht hW7 hR7 p4 p5 (fun I9 hW9 hF9 hR9 => ?_)
            obtain ⟨g1, g2⟩ := SM_fr r2 hF9 (by omega) (by intro k h1 h2; omega) (by intro k; omega)
            refine hK 1 I9 hW9 (Fr.tr hF7' hF9 (by intro a k h; omega)) (Or.inl ⟨rfl, g1, _, ?_, hR9⟩)
            rw [eS]
            unfold stSince
            rw [show nm T m (adv T m (qmo I1 t).2.2) 0 99 (fun _ => true) = .inr ((I7 (t + 29) 0).toInt, qmo I7 t) from r3, g2]
            show Sum.inr (tieT w (I1 (t + 29) 0).toInt.toNat (I1 (t + 29) 1).toInt.toNat (Int32.ofInt (I7 (t + 29) 0).toInt), qmo I7 t) = _
            rw [ofI]
            rfl
          · omega
        · have hv := i0 hv
          rcases hp7 with ⟨r1, r2, r3, r4, r5, r6⟩ | ⟨r1, r2⟩
          · omega
          · refine hK 0 I7 hW7 (Fr.tr hF hF7 (by intro a k h; omega)) (Or.inr ⟨rfl, ?_⟩)
            rw [eS]
            unfold stSince
            rw [show nm T m (adv T m (qmo I1 t).2.2) 0 99 (fun _ => true) = .inl (I7 t 26).toInt from r2]
    · omega
  · have hv := i0 hv
    rcases hp1 with ⟨p1, p2, p3, p4, p5⟩ | ⟨p1, p2⟩
    · omega
    · refine hK 0 I1 hW1 (Fr.tr Fr.rf hF1 (by intro a k h; omega)) (Or.inr ⟨rfl, ?_⟩)
      rw [stPair_two, p2]
theorem pX12_metTold_25 {G : jdG} {n rc rs : Nat} {Z : jdL} {J : jdJ} {K : Int32 → jdI → jdJ → Prop} {I0 : jdI} {t : Nat} {T : Nat → Int32} {m : Int} {w : Tw} {R : Sum Int (Tw × Q3)} (ht : zModel Z t) (hK : ∀ (v : Int32) (I2 : jdI), WM 7 t I2 → Fr (fun a k => (a = t ∧ (k = 10 ∨ k = 14 ∨ k = 15 ∨ (22 ≤ k ∧ k ≤ 26))) ∨ a = t + 18 ∨ a = t + 19 ∨ (t + 21 ≤ a ∧ a ≤ t + 29)) I0 I2 → OM T m R t v I2 → K v I2 J) : ∀ f : Nat, ∀ (I : jdI) (x1 : Int32), WM 7 t I → Fr (fun a k => (a = t ∧ (k = 10 ∨ k = 14 ∨ k = 15 ∨ (22 ≤ k ∧ k ≤ 26))) ∨ a = t + 18 ∨ a = t + 19 ∨ (t + 21 ≤ a ∧ a ≤ t + 29)) I0 I → SM T m I t → RM I t w → fr7 x1 < f → 0 ≤ x1.toInt ∧ x1.toInt ≤ 127 → fin w (metR T m w.1 f x1 (qmo I t)) = R → Jd G mX12_metTold (jdFm G (qi Z K)) (n + 4) rc rs 25 [(0, .ref (gb G + t)), (1, .int x1)] [] Z I J := by
  intro f
  induction f with
  | zero =>
    intro I x1 hW hF hS hR hf hx hr
    omega
  | succ f ih =>
    intro I x1 hW hF hS hR hf hx hr
    have hp := WM_f hW
    have hw1 := hR.1
    have q0 : (0 : Int32).toInt = 0 := rfl
    have q1 : (1 : Int32).toInt = 1 := rfl
    have q2 : (2 : Int32).toInt = 2 := rfl
    have s1 := i32_sub (I t 10) 1 (by omega) (by omega)
    have e1 : ((I t 10) - 1).toInt = w.1 - 1 := by omega
    refine rX12_metTold_25 ht ⟨fun hc => ?_, fun hc => ?_⟩
    · have hn : ¬ (qmo I t).1 = 2 := fun z => hc (Int32.toInt_inj.mp (show (I t 23).toInt = _ from z))
      rw [metR_n hn] at hr
      refine pX12_meets ht hW hR (fun v2 I1 hW1 hF1 hR1 _ => ?_)
      obtain ⟨g1, g2⟩ := SM_fr hS hF1 (by omega) (by intro k h1 h2; omega) (by intro k; omega)
      refine hK 1 I1 hW1 (Fr.tr hF hF1 (by intro a k h; omega)) (Or.inl ⟨rfl, g1, _, ?_, hR1⟩)
      rw [← hr, g2]
      rfl
    · have hn : (qmo I t).1 = 2 := by
        show (I t 23).toInt = 2
        rw [hc]
        rfl
      have hfg : (I t 25).toInt = vl T (qmo I t).2.1 (qmo I t).2.2 := hS.2.2.2 hn
      have num : (0 ≤ vl T (qmo I t).2.1 (qmo I t).2.2 → vl T (qmo I t).2.1 (qmo I t).2.2 ≤ w.1 - 1 → (!(bt x1 (vl T (qmo I t).2.1 (qmo I t).2.2).toNat)) = true) → Cl G mX12_number (n + 3) 0 0 [.ref (gb G + t), .int 0, .int 0, .int ((I t 10) - 1)] Z I J (qi Z (fun v4 I3 J3 => ((¬ v4 = 0 → Jd G mX12_metTold (jdFm G (qi Z K)) (n + 4) rc rs 25 [(0, .ref (gb G + t)), (1, .int (x1 ||| (1 <<< ((I3 (t + 29) 0) &&& 31))))] [] Z I3 J3) ∧ (v4 = 0 → K 0 I3 J3)))) := fun hne => by
        have eq : nm T m (qmo I t) 0 (w.1 - 1) (fun x => !(bt x1 x.toNat)) = nm T m (qmo I t) 0 (w.1 - 1) (fun _ => true) := nm_ok (fun _ c2 c3 => hne c2 c3)
        refine pX12_number ht hW hS (Or.inl rfl) ⟨by decide, by omega⟩ (fun v I3 hW3 hF3 hp3 => ?_)
        have hF' : Fr (fun a k => (a = t ∧ (k = 10 ∨ k = 14 ∨ k = 15 ∨ (22 ≤ k ∧ k ≤ 26))) ∨ a = t + 18 ∨ a = t + 19 ∨ (t + 21 ≤ a ∧ a ≤ t + 29)) I0 I3 := Fr.tr hF hF3 (by intro a k h; omega)
        have hR3 := RM_fr hR (by omega) hF3 (by omega) (by omega) (by omega) (by intro a k h1 h2 h3; omega)
        rw [e1] at hp3
        rcases hp3 with ⟨p1, p2, g, p3, p4, p5, p6, p7, _⟩ | ⟨p1, p2⟩
        · have p4 : 0 ≤ g := p4
          obtain ⟨t1, t2⟩ := p7 rfl
          rw [← t1] at p3
          refine ⟨fun _ => ?_, fun hv => by have := i0 hv; omega⟩
          have p3 : nm T m (qmo I t) 0 (w.1 - 1) (fun x => !(bt x1 x.toNat)) = .inr ((I3 (t + 29) 0).toInt, qmo I3 t) := eq.trans p3
          have hb : bt x1 (I3 (t + 29) 0).toInt.toNat = false := by
            have := nm_fst p3
            rw [Bool.not_eq_true'] at this
            exact this
          obtain ⟨b1, b2, b3⟩ := fr_or hx ⟨show 0 ≤ (I3 (t + 29) 0).toInt by omega, show (I3 (t + 29) 0).toInt ≤ 6 by omega⟩
          have b1 := b1 hb
          refine ih I3 _ hW3 hF' p2 hR3 (by omega) ⟨b2, b3⟩ ?_
          rw [← hr, metR_y hn p3]
        · refine ⟨fun hv => by have := i1 hv; omega, fun _ => hK 0 I3 hW3 hF' (Or.inr ⟨rfl, ?_⟩)⟩
          rw [← hr, metR_e hn (eq.trans p2)]
          rfl
      refine ⟨fun hd => ?_, fun hd => ?_⟩
      · have hd := Int32.le_iff_toInt_le.mp hd
        exact num (fun _ _ => by omega)
      · have hd := mt Int32.le_iff_toInt_le.mpr hd
        have q99 := (tkp_f hS.2.2.1).2 (by have : (I t 23).toInt = 2 := hn; omega)
        have hv0 : 0 ≤ (I t 25).toInt := by
          rw [hfg]
          have d := tkp_d hS.2.2.1 hn
          show 0 ≤ vl T (I t 24).toInt (I t 22).toInt
          have d1 := d (I t 24).toInt.toNat (by omega) (by omega)
          unfold vl
          split
          · omega
          · split
            · have d2 := d ((I t 24).toInt.toNat + 1) (by omega) (by omega)
              omega
            · omega
        have b := bt_iff x1 hv0
        refine sfX12_has trivial (fun v6 p6 => ⟨fun hz => num (fun _ _ => ?_), fun hz => ?_⟩)
        · have hz := i0 hz
          rw [← hfg, Bool.not_eq_true']
          cases e : bt x1 (I t 25).toInt.toNat with
          | false => rfl
          | true => exact absurd (Int32.toInt_inj.mp (show _ = (0 : Int32).toInt by omega)) (b.mp e)
        · have hz := i1 hz
          refine fsfX12_wrong ht hW (fun v8 I7 hW7 hF7 hp7 => ⟨narrow_b (Or.inl hp7.1), hK v8 I7 hW7 (Fr.tr hF hF7 (by intro a k h; omega)) (Or.inr ⟨hp7.1, ?_⟩)⟩)
          have hb : bt x1 (I t 25).toInt.toNat = true := b.mpr (fun z => by rw [z] at p6; omega)
          rw [← hr, metR_e hn (nm_n (p := (I7 t 26).toInt) (Or.inr (fun z => by rw [← hfg, hb] at z; cases z)) hp7.2)]
          rfl
theorem pX12_metTold {G : jdG} {n : Nat} {Z : jdL} {J : jdJ} {K : Int32 → jdI → jdJ → Prop} {I : jdI} {t : Nat} {T : Nat → Int32} {m : Int} {w : Tw} (ht : zModel Z t) (hW : WM 7 t I) (hS : SM T m I t) (hw : RM I t w) (hK : ∀ (v : Int32) (I2 : jdI), WM 7 t I2 → Fr (fun a k => (a = t ∧ (k = 10 ∨ k = 14 ∨ k = 15 ∨ (22 ≤ k ∧ k ≤ 26))) ∨ a = t + 18 ∨ a = t + 19 ∨ (t + 21 ≤ a ∧ a ≤ t + 29)) I I2 → OM T m (stMet T m w (qmo I t)) t v I2 → K v I2 J) : Cl G mX12_metTold (n + 4) 0 0 [.ref (gb G + t)] Z I J (qi Z K) := by
  have hp := WM_f hW
  have hw1 := hw.1
  have q1 : (1 : Int32).toInt = 1 := rfl
  have s1 := i32_sub (I t 10) 1 (by omega) (by omega)
  have e1 : ((I t 10) - 1).toInt = w.1 - 1 := by omega
  refine eX12_metTold ht ?_
  refine pX12_tells ht hW hS.1 hS.2.1 (tkp_f hS.2.2.1).1 ⟨by decide, by omega⟩ (fun v I1 hW1 hF1 hp1 => ⟨fun hv => ?_, fun hv => ?_⟩)
  · have hv := i1 hv
    rw [e1] at hp1
    rcases hp1 with ⟨p1, p2, p3, p4, p5, p6⟩ | ⟨p1, p2⟩
    · have hR1 := RM_fr hw (by omega) hF1 (by omega) (by omega) (by omega) (by intro a k h1 h2 h3; omega)
      have hF : Fr (fun a k => (a = t ∧ (k = 10 ∨ k = 14 ∨ k = 15 ∨ (22 ≤ k ∧ k ≤ 26))) ∨ a = t + 18 ∨ a = t + 19 ∨ (t + 21 ≤ a ∧ a ≤ t + 29)) I I1 := Fr.tr Fr.rf hF1 (by intro a k h; omega)
      have p4 : 0 ≤ (I1 (t + 29) 0).toInt := p4
      obtain ⟨b1, b2, b3⟩ := fr_1 (a := I1 (t + 29) 0) ⟨p4, by omega⟩
      refine pX12_metTold_25 ht hK 7 I1 _ hW1 hF p2 hR1 (by omega) ⟨b2, b3⟩ ?_
      unfold stMet
      rw [show nm T m (adv T m (qmo I t).2.2) 0 (w.1 - 1) (fun _ => true) = .inr ((I1 (t + 29) 0).toInt, qmo I1 t) from p3]
      show _ = fin w (metR T m w.1 7 ((1 : Int32) <<< (Int32.ofInt (I1 (t + 29) 0).toInt &&& 31)) (qmo I1 t))
      rw [ofI]
    · omega
  · have hv := i0 hv
    rw [e1] at hp1
    rcases hp1 with ⟨p1, p2, p3, p4, p5, p6⟩ | ⟨p1, p2⟩
    · omega
    · refine hK 0 I1 hW1 (Fr.tr Fr.rf hF1 (by intro a k h; omega)) (Or.inr ⟨rfl, ?_⟩)
      unfold stMet
      rw [show nm T m (adv T m (qmo I t).2.2) 0 (w.1 - 1) (fun _ => true) = .inl (I1 t 26).toInt from p2]
/-- a statement -/
noncomputable def st (T : Nat → Int32) (n : Int) (w : Tw) (q : Q3) : Sum Int (Tw × Q3) := @ite _ (WD T q.1 q.2.1 q.2.2 0) (Classical.propDecidable _) (stPerson T n w q) (@ite _ (WD T q.1 q.2.1 q.2.2 1) (Classical.propDecidable _) (stPair T n w q true) (@ite _ (WD T q.1 q.2.1 q.2.2 3) (Classical.propDecidable _) (stPair T n w q false) (@ite _ (WD T q.1 q.2.1 q.2.2 4) (Classical.propDecidable _) (stSeats T n w q) (@ite _ (WD T q.1 q.2.1 q.2.2 5) (Classical.propDecidable _) (stMemory T n w q) (@ite _ (WD T q.1 q.2.1 q.2.2 6) (Classical.propDecidable _) (stMet T n w q) (Sum.inl q.2.1))))))
theorem st_0 {T : Nat → Int32} {n : Int} {w : Tw} {q : Q3}  (h : WD T q.1 q.2.1 q.2.2 0) : st T n w q = stPerson T n w q := by
  unfold st
  rw [if_pos h]
theorem st_1 {T : Nat → Int32} {n : Int} {w : Tw} {q : Q3} (h0 : ¬ WD T q.1 q.2.1 q.2.2 0) (h : WD T q.1 q.2.1 q.2.2 1) : st T n w q = stPair T n w q true := by
  unfold st
  rw [if_neg h0, if_pos h]
theorem st_2 {T : Nat → Int32} {n : Int} {w : Tw} {q : Q3} (h0 : ¬ WD T q.1 q.2.1 q.2.2 0) (h1 : ¬ WD T q.1 q.2.1 q.2.2 1) (h : WD T q.1 q.2.1 q.2.2 3) : st T n w q = stPair T n w q false := by
  unfold st
  rw [if_neg h0, if_neg h1, if_pos h]
theorem st_3 {T : Nat → Int32} {n : Int} {w : Tw} {q : Q3} (h0 : ¬ WD T q.1 q.2.1 q.2.2 0) (h1 : ¬ WD T q.1 q.2.1 q.2.2 1) (h3 : ¬ WD T q.1 q.2.1 q.2.2 3) (h : WD T q.1 q.2.1 q.2.2 4) : st T n w q = stSeats T n w q := by
  unfold st
  rw [if_neg h0, if_neg h1, if_neg h3, if_pos h]
theorem st_4 {T : Nat → Int32} {n : Int} {w : Tw} {q : Q3} (h0 : ¬ WD T q.1 q.2.1 q.2.2 0) (h1 : ¬ WD T q.1 q.2.1 q.2.2 1) (h3 : ¬ WD T q.1 q.2.1 q.2.2 3) (h4 : ¬ WD T q.1 q.2.1 q.2.2 4) (h : WD T q.1 q.2.1 q.2.2 5) : st T n w q = stMemory T n w q := by
  unfold st
  rw [if_neg h0, if_neg h1, if_neg h3, if_neg h4, if_pos h]
theorem st_5 {T : Nat → Int32} {n : Int} {w : Tw} {q : Q3} (h0 : ¬ WD T q.1 q.2.1 q.2.2 0) (h1 : ¬ WD T q.1 q.2.1 q.2.2 1) (h3 : ¬ WD T q.1 q.2.1 q.2.2 3) (h4 : ¬ WD T q.1 q.2.1 q.2.2 4) (h5 : ¬ WD T q.1 q.2.1 q.2.2 5) (h : WD T q.1 q.2.1 q.2.2 6) : st T n w q = stMet T n w q := by
  unfold st
  rw [if_neg h0, if_neg h1, if_neg h3, if_neg h4, if_neg h5, if_pos h]
theorem st_6 {T : Nat → Int32} {n : Int} {w : Tw} {q : Q3} (h0 : ¬ WD T q.1 q.2.1 q.2.2 0) (h1 : ¬ WD T q.1 q.2.1 q.2.2 1) (h3 : ¬ WD T q.1 q.2.1 q.2.2 3) (h4 : ¬ WD T q.1 q.2.1 q.2.2 4) (h5 : ¬ WD T q.1 q.2.1 q.2.2 5) (h6 : ¬ WD T q.1 q.2.1 q.2.2 6) : st T n w q = Sum.inl q.2.1 := by
  unfold st
  rw [if_neg h0, if_neg h1, if_neg h3, if_neg h4, if_neg h5, if_neg h6]
theorem OX_b {T : Nat → Int32} {m : Int} {r : Sum Int (Tw × Q3)} {u1 : Nat} {v : Int32} {I2 : jdI} (h : OX T m r u1 v I2) : narrow .boolean (.int v) = .int v := h.elim (fun g => narrow_b (Or.inr g.1)) (fun g => narrow_b (Or.inl g.1))
theorem OM_b {T : Nat → Int32} {m : Int} {r : Sum Int (Tw × Q3)} {t : Nat} {v : Int32} {I2 : jdI} (h : OM T m r t v I2) : narrow .boolean (.int v) = .int v := h.elim (fun g => narrow_b (Or.inr g.1)) (fun g => narrow_b (Or.inl g.1))
theorem wX {G : jdG} {n : Nat} {Z : jdL} {J : jdJ} {I : jdI} {T : Nat → Int32} {m : Int} {u : Nat} {sA sV : Nat → Nat} {A B : Int32 → jdI → jdJ → Prop} (hG : gOK G sA sV) (ht : zScribe Z 25) (hu : u < 14) (hW : WX I) (hS : SX T m I) (h0 : ¬ WD T (qx I).1 (qx I).2.1 (qx I).2.2 u → ∀ v, A v I J) (h1 : WD T (qx I).1 (qx I).2.1 (qx I).2.2 u → ∀ v, B v I J) : Cl G mX5_isWord (n + 4) 0 0 [.ref (gb G + 25), .ref (sA u)] Z I J (qi Z (fun v I J => (v = 0 → A v I J) ∧ (¬ v = 0 → B v I J))) := by
  refine fsfX5_isWord hG ht hu hW (by rw [hS.1, hS.2.1]; exact hS.2.2) (fun v hwd => ?_)
  rw [hS.1] at hwd
  rcases hwd with hwd | hwd
  · exact ⟨fun h => by have := i0 h; omega, fun _ => h1 hwd.2 v⟩
  · exact ⟨fun _ => h0 hwd.2 v, fun h => by have := i1 h; omega⟩
theorem wM {G : jdG} {n : Nat} {Z : jdL} {J : jdJ} {I : jdI} {t : Nat} {T : Nat → Int32} {m : Int} {u : Nat} {sA sV : Nat → Nat} {A B : Int32 → jdI → jdJ → Prop} (hG : gOK G sA sV) (ht : zModel Z t) (hu : u < 14) (hW : WM 7 t I) (hS : SM T m I t) (h0 : ¬ WD T (qmo I t).1 (qmo I t).2.1 (qmo I t).2.2 u → ∀ v, A v I J) (h1 : WD T (qmo I t).1 (qmo I t).2.1 (qmo I t).2.2 u → ∀ v, B v I J) : Cl G mX12_isWord (n + 4) 0 0 [.ref (gb G + t), .ref (sA u)] Z I J (qi Z (fun v I J => (v = 0 → A v I J) ∧ (¬ v = 0 → B v I J))) := by
  refine fsfX12_isWord hG ht hu hW (by rw [hS.1, hS.2.1]; exact hS.2.2.1) (fun v hwd => ?_)
  rw [hS.1] at hwd
  rcases hwd with hwd | hwd
  · exact ⟨fun h => by have := i0 h; omega, fun _ => h1 hwd.2 v⟩
  · exact ⟨fun _ => h0 hwd.2 v, fun h => by have := i1 h; omega⟩
theorem pX5_readStatement {G : jdG} {n : Nat} {Z : jdL} {J : jdJ} {K : Int32 → jdI → jdJ → Prop} {I : jdI} {u1 : Nat} {T : Nat → Int32} {m : Int} {w : Tw} {sA sV : Nat → Nat} (hG : gOK G sA sV) (ht : zScribe Z 25) (hu1 : zTown Z u1) (hus : u1 = 1 ∨ u1 = 5 ∨ u1 = 9) (hW : WX I) (hS : SX T m I) (hw : RX I u1 w) (hK : ∀ (v : Int32) (I2 : jdI), WX I2 → Fr (fun a k => a = 25 ∨ (a = u1 ∧ 3 ≤ k ∧ k ≤ 5) ∨ (u1 + 1 ≤ a ∧ a ≤ u1 + 3)) I I2 → (I2 25 1).toInt = m → OX T m (st T m w (qx I)) u1 v I2 → K v I2 J) : Cl G mX5_readStatement (n + 6) 0 0 [.ref (gb G + 25), .ref (gb G + u1)] Z I J (qi Z K) := by
  refine eX5_readStatement hG ht hu1 ?_
  refine wX hG ht (by decide) hW hS (fun n0 _ => ?_) (fun y _ => ?_)
  · refine wX hG ht (by decide) hW hS (fun n1 _ => ?_) (fun y _ => ?_)
    · refine wX hG ht (by decide) hW hS (fun n3 _ => ?_) (fun y _ => ?_)
      · refine wX hG ht (by decide) hW hS (fun n4 _ => ?_) (fun y _ => ?_)
        · refine wX hG ht (by decide) hW hS (fun n5 _ => ?_) (fun y _ => ?_)
          · refine wX hG ht (by decide) hW hS (fun n6 _ => ?_) (fun y _ => ?_)
            · refine fsfX5_fail ht hW (fun v I9 hW9 hF9 hp => ⟨narrow_b (Or.inl hp.1), ?_⟩)
              refine hK v I9 hW9 (Fr.tr Fr.rf hF9 (by intro a k h; omega)) (by rw [hp.2.2]; exact hS.2.1) (Or.inr ⟨hp.1, ?_⟩)
              rw [st_6 n0 n1 n3 n4 n5 n6, hp.2.1]
              rfl
            · exact pX5_readMet ht hu1 hus hW hS hw (fun v I2 hW2 hF2 hm h => ⟨OX_b h, hK v I2 hW2 hF2 hm (by rw [st_5 n0 n1 n3 n4 n5 y]; exact h)⟩)
          · exact pX5_readMemory ht hu1 hus hW hS hw (fun v I2 hW2 hF2 hm h => ⟨OX_b h, hK v I2 hW2 hF2 hm (by rw [st_4 n0 n1 n3 n4 y]; exact h)⟩)
        · exact pX5_readSeats ht hu1 hus hW hS hw (fun v I2 hW2 hF2 hm h => ⟨OX_b h, hK v I2 hW2 hF2 hm (by rw [st_3 n0 n1 n3 y]; exact h)⟩)
      · exact pX5_readPair hG ht hu1 hus hW hS hw false (Or.inl ⟨rfl, rfl⟩) (fun v I2 hW2 hF2 hm h => ⟨OX_b h, hK v I2 hW2 hF2 hm (by rw [st_2 n0 n1 y]; exact h)⟩)
    · exact pX5_readPair hG ht hu1 hus hW hS hw true (Or.inr ⟨by decide, rfl⟩) (fun v I2 hW2 hF2 hm h => ⟨OX_b h, hK v I2 hW2 hF2 hm (by rw [st_1 n0 y]; exact h)⟩)
  · exact pX5_readPerson ht hu1 hus hW hS hw (fun v I2 hW2 hF2 hm h => ⟨OX_b h, hK v I2 hW2 hF2 hm (by rw [st_0 y]; exact h)⟩)
