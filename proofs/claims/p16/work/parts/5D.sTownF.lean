/-! whole texts -/
abbrev Rd : Type := Sum Int (Tw × Int)
noncomputable def rdB (g : Tw → Q3 → Int → Rd) (T : Nat → Int32) (n : Int) (w : Tw) (q : Q3) (c : Int) : Rd := if q.1 = 0 then .inr (w, c) else if q.1 = 3 then g w (adv T n q.2.2) (c + 1) else .inl q.2.1
/-- statements one after the other, c: which one -/
noncomputable def rd (T : Nat → Int32) (n : Int) : Nat → Tw → Q3 → Int → Rd
  | 0, _, _, _ => .inl 0
  | f + 1, w, q, c => match st T n w q with
    | .inl p => .inl p
    | .inr b => rdB (rd T n f) T n b.1 b.2 c
theorem rd_e {T : Nat → Int32} {n p c : Int} {f : Nat} {w : Tw} {q : Q3} (h : st T n w q = .inl p) : rd T n (f + 1) w q c = .inl p := by
  show (match st T n w q with | .inl p => Sum.inl p | .inr b => rdB (rd T n f) T n b.1 b.2 c) = _
  rw [h]
theorem rd_y {T : Nat → Int32} {n c : Int} {f : Nat} {w w2 : Tw} {q q2 : Q3} (h : st T n w q = .inr (w2, q2)) : rd T n (f + 1) w q c = rdB (rd T n f) T n w2 q2 c := by
  show (match st T n w q with | .inl p => Sum.inl p | .inr b => rdB (rd T n f) T n b.1 b.2 c) = _
  rw [h]
theorem rdB_0 {g : Tw → Q3 → Int → Rd} {T : Nat → Int32} {n c : Int} {w : Tw} {q : Q3} (h : q.1 = 0) : rdB g T n w q c = .inr (w, c) := if_pos h
theorem rdB_3 {g : Tw → Q3 → Int → Rd} {T : Nat → Int32} {n c : Int} {w : Tw} {q : Q3} (h : q.1 = 3) : rdB g T n w q c = g w (adv T n q.2.2) (c + 1) := by
  unfold rdB
  rw [if_neg (by omega), if_pos h]
theorem rdB_x {g : Tw → Q3 → Int → Rd} {T : Nat → Int32} {n c : Int} {w : Tw} {q : Q3} (h : ¬ q.1 = 0) (h3 : ¬ q.1 = 3) : rdB g T n w q c = .inl q.2.1 := by
  unfold rdB
  rw [if_neg h, if_neg h3]
theorem tkp_s {T : Nat → Int32} {n tk s f : Int} (h : TKp T n tk s f) (hn : 0 ≤ n) : 0 ≤ s ∧ s ≤ n := by
  rcases h with h | h
  · omega
  · have := h.1
    omega
theorem adv_s {T : Nat → Int32} {n e : Int} (h0 : 0 ≤ e) (h1 : e ≤ n) : e ≤ (adv T n e).2.1 := (adv_ok (T := T) h0 h1).1.1
/-- what the reading of a text has come to -/
def XRd (R : Rd) (u1 : Nat) (v : Int32) (I2 : jdI) : Prop := (∃ w2 : Tw, R = .inr (w2, v.toInt) ∧ RX I2 u1 w2 ∧ 1 ≤ v.toInt) ∨ (v.toInt = -1 ∧ R = .inl (I2 25 5).toInt)
def MRd (R : Rd) (t : Nat) (v : Int32) (I2 : jdI) : Prop := (v.toInt = 1 ∧ ∃ w2 : Tw, R = .inr (w2, (I2 t 28).toInt) ∧ RM I2 t w2) ∨ (v.toInt = 0 ∧ R = .inl (I2 t 26).toInt)
theorem pX5_read_11 {G : jdG} {n rc rs : Nat} {Z : jdL} {J : jdJ} {K : Int32 → jdI → jdJ → Prop} {I0 : jdI} {u1 : Nat} {T : Nat → Int32} {m : Int} {R : Rd} {sA sV : Nat → Nat} (hG : gOK G sA sV) (ht : zScribe Z 25) (hu1 : zTown Z u1) (hus : u1 = 1 ∨ u1 = 5 ∨ u1 = 9) (hK : ∀ (v : Int32) (I2 : jdI), WX I2 → Fr (fun a k => a = 25 ∨ (a = u1 ∧ 3 ≤ k ∧ k ≤ 5) ∨ (u1 + 1 ≤ a ∧ a ≤ u1 + 3)) I0 I2 → XRd R u1 v I2 → K v I2 J) : ∀ f : Nat, ∀ (I : jdI) (x2 : Int32) (w : Tw), WX I → Fr (fun a k => a = 25 ∨ (a = u1 ∧ 3 ≤ k ∧ k ≤ 5) ∨ (u1 + 1 ≤ a ∧ a ≤ u1 + 3)) I0 I → SX T m I → RX I u1 w → 1 ≤ x2.toInt → 4 * (x2.toInt - 1) ≤ (qx I).2.1 → m - (qx I).2.1 < 4 * (f : Int) → rd T m f w (qx I) x2.toInt = R → Jd G mX5_read (jdFm G (qi Z K)) (n + 7) rc rs 11 [(0, .ref (gb G + 25)), (1, .ref (gb G + u1)), (2, .int x2)] [] Z I J := by
  intro f
  induction f with
  | zero =>
    intro I x2 w hW hF hS hR h1 h2 h3 hr
    have hw := WX_f hW
    have hs := tkp_s hS.2.2 (by have := hS.2.1; omega)
    have h3 : m - (I 25 3).toInt < 4 * ((0 : Nat) : Int) := h3
    omega
  | succ f ih =>
    intro I x2 w hW hF hS hR h1 h2 h3 hr
    have hw := WX_f hW
    have hm := hS.2.1
    have hs := tkp_s hS.2.2 (by omega)
    have hf := tkp_f hS.2.2
    have q250 : (250 : Int32).toInt = 250 := rfl
    have q1 : (1 : Int32).toInt = 1 := rfl
    have q3 : (3 : Int32).toInt = 3 := rfl
    have q0 : (0 : Int32).toInt = 0 := rfl
    have h2 : 4 * (x2.toInt - 1) ≤ (I 25 3).toInt := h2
    have h3 : m - (I 25 3).toInt < 4 * ((f + 1 : Nat) : Int) := h3
    refine rX5_read_11 ht hu1 ⟨fun hc => by have := Int32.lt_iff_toInt_lt.mp hc; omega, fun _ => ?_⟩
    refine pX5_readStatement hG ht hu1 hus hW hS hR (fun v I1 hW1 hF1 hm1 ho => ?_)
    have hF' := Fr.tr hF hF1 (fun a k h => h)
    refine ⟨fun hv => ?_, fun hv => ?_⟩
    · have hv := i1 hv
      rcases ho with ⟨o1, o2, w2, o3, o4⟩ | ⟨o1, o2⟩
      · have mm := st_m o3 (by show 0 ≤ (I 25 4).toInt; omega) (by show (I 25 4).toInt ≤ m; omega)
        have mA : (I 25 3).toInt + 3 ≤ (I 25 4).toInt := mm.2
        have mB : (I 25 4).toInt ≤ (I1 25 4).toInt := mm.1.1
        have mC : (I1 25 4).toInt ≤ m := mm.1.2.1
        have mD : ¬ (I1 25 2).toInt = 0 → (I 25 4).toInt < (I1 25 4).toInt := mm.1.2.2
        rw [rd_y o3] at hr
        refine ⟨fun hz => ⟨fun hz3 => ?_, fun hz3 => ?_⟩, fun hz => ?_⟩
        · have e3 : (qx I1).1 = 3 := by
            show (I1 25 2).toInt = 3
            rw [hz3]
            rfl
          have mD := mD (by have : (I1 25 2).toInt = 3 := e3; omega)
          rw [rdB_3 e3] at hr
          refine pX5_advance ht hW1 o2 (fun I3 hW3 hF3 hS3 hq3 h53 => ?_)
          have e1 := i32_add x2 1 (by omega) (by omega)
          have hsA : (I1 25 4).toInt ≤ (qx I3).2.1 := by
            rw [hq3]
            exact adv_s (by show 0 ≤ (I1 25 4).toInt; omega) mC
          refine ih I3 (x2 + 1) w2 hW3 (Fr.tr hF' hF3 (by intro a k h; omega)) hS3 (RX_fr o4 hF3 (by intro a k h1 h2; omega)) (by omega) (by omega) (by omega) ?_
          rw [hq3, e1]
          exact hr
        · have e0 : ¬ (qx I1).1 = 0 := fun e => hz (Int32.toInt_inj.mp (show (I1 25 2).toInt = _ from e))
          have e3 : ¬ (qx I1).1 = 3 := fun e => hz3 (Int32.toInt_inj.mp (show (I1 25 2).toInt = _ from e))
          rw [rdB_x e0 e3] at hr
          refine fsfX5_fail ht hW1 (fun v9 I9 hW9 hF9 hp => ?_)
          refine hK (-1) I9 hW9 (Fr.tr hF' hF9 (by intro a k h; omega)) (Or.inr ⟨rfl, ?_⟩)
          rw [← hr, hp.2.1]
          rfl
        · have e0 : (qx I1).1 = 0 := by
            show (I1 25 2).toInt = 0
            rw [hz]
            rfl
          rw [rdB_0 e0] at hr
          exact hK x2 I1 hW1 hF' (Or.inl ⟨w2, hr.symm, o4, h1⟩)
      · omega
    · have hv := i0 hv
      rcases ho with ⟨o1, o2, w2, o3, o4⟩ | ⟨o1, o2⟩
      · omega
      · rw [rd_e o2] at hr
        exact hK (-1) I1 hW1 hF' (Or.inr ⟨rfl, hr.symm⟩)
theorem pX5_read {G : jdG} {n : Nat} {Z : jdL} {J : jdJ} {K : Int32 → jdI → jdJ → Prop} {I : jdI} {u1 : Nat} {T : Nat → Int32} {m : Int} {w : Tw} {sA sV : Nat → Nat} (hG : gOK G sA sV) (ht : zScribe Z 25) (hu1 : zTown Z u1) (hus : u1 = 1 ∨ u1 = 5 ∨ u1 = 9) (hW : WX I) (h1 : I (25 + 1) = T) (h2 : (I 25 1).toInt = m) (hw : RX I u1 w) (hK : ∀ (v : Int32) (I2 : jdI), WX I2 → Fr (fun a k => a = 25 ∨ (a = u1 ∧ 3 ≤ k ∧ k ≤ 5) ∨ (u1 + 1 ≤ a ∧ a ≤ u1 + 3)) I I2 → XRd (rd T m 63 w (adv T m 0) 1) u1 v I2 → K v I2 J) : Cl G mX5_read (n + 7) 0 0 [.ref (gb G + 25), .ref (gb G + u1)] Z I J (qi Z K) := by
  have hf := WX_f hW
  have q0 : (0 : Int32).toInt = 0 := rfl
  refine eX5_read ht hu1 ?_
  have w0 : WX (uI I 25 4 0) := WX_uI hW (by first | exact okXo (by decide) | (unfold okX; refine ⟨?_, ?_, ?_, ?_, ?_, ?_, ?_, ?_, ?_, ?_⟩ <;> intro h <;> omega))
  have f0 : Fr (fun a k => a = 25) I (uI I 25 4 0) := Fr_uI Fr.rf rfl
  have e1 : (uI I 25 4 0) (25 + 1) = T := by rw [uI_n _ _ _ (by omega)]; exact h1
  have e2 : ((uI I 25 4 0) 25 1).toInt = m := by rw [uI_ap, if_neg (by omega)]; exact h2
  have e4 : ((uI I 25 4 0) 25 4).toInt = 0 := by rw [uI_ap, if_pos ⟨rfl, rfl⟩]; rfl
  have r0 := RX_fr hw f0 (by intro a k h1 h2; omega)
  generalize (uI I 25 4 0) = I0 at w0 f0 e1 e2 e4 r0 ⊢
  refine fsfX5_advance ht w0 (by omega) (fun I2 hW2 hF2 hp => ?_)
  obtain ⟨p1, p2, p3⟩ := hp
  rw [e1, e2, e4] at p1
  have e5 : I2 (25 + 1) = T := by
    rw [← e1]
    funext k
    exact hF2 (25 + 1) k (by omega)
  have ea : qx I2 = adv T m 0 := (adv_eq (Int.le_refl _) p1).symm
  have hs : 0 ≤ (adv T m 0).2.1 := adv_s (Int.le_refl _) (by omega)
  refine pX5_read_11 hG ht hu1 hus hK 63 I2 1 w hW2 (Fr.tr (Fr.tr Fr.rf f0 (by intro a k h; omega)) hF2 (by intro a k h; omega)) ⟨e5, by omega, p1.2.2.1⟩ (RX_fr r0 hF2 (by intro a k h1 h2; omega)) (by decide) (by rw [ea]; exact hs) (by rw [ea]; omega) ?_
  rw [ea]
  rfl
theorem pX12_readAll_23 {G : jdG} {n rc rs : Nat} {Z : jdL} {J : jdJ} {K : Int32 → jdI → jdJ → Prop} {I0 : jdI} {t : Nat} {T : Nat → Int32} {m : Int} {R : Rd} {sA sV : Nat → Nat} (hG : gOK G sA sV) (ht : zModel Z t) (hK : ∀ (v : Int32) (I2 : jdI), WM 7 t I2 → Fr (fun a k => (a = t ∧ (k = 10 ∨ k = 14 ∨ k = 15 ∨ (22 ≤ k ∧ k ≤ 28))) ∨ a = t + 18 ∨ a = t + 19 ∨ (t + 21 ≤ a ∧ a ≤ t + 29)) I0 I2 → MRd R t v I2 → K v I2 J) : ∀ f : Nat, ∀ (I : jdI) (w : Tw) (c : Int), WM 7 t I → Fr (fun a k => (a = t ∧ (k = 10 ∨ k = 14 ∨ k = 15 ∨ (22 ≤ k ∧ k ≤ 28))) ∨ a = t + 18 ∨ a = t + 19 ∨ (t + 21 ≤ a ∧ a ≤ t + 29)) I0 I → SM T m I t → RM I t w → (I t 28).toInt = c → 0 ≤ c → c + f ≤ 1000 → (¬ (I t 23).toInt = 0 → m - (I t 22).toInt < 4 * (f : Int)) → rdB (rd T m f) T m w (qmo I t) c = R → Jd G mX12_readAll (jdFm G (qi Z K)) (n + 7) rc rs 23 [(0, .ref (gb G + t))] [] Z I J := by
  intro f
  induction f with
  | zero =>
    intro I w c hW hF hS hR h1 hc0 h2 h3 hr
    have hw := WM_f hW
    have hm := hS.2.1
    have hf := tkp_f hS.2.2.1
    refine rX12_readAll_23 ht ⟨fun hz => ?_, fun hz => ?_⟩
    · have e0 : (qmo I t).1 = 0 := by
        show (I t 23).toInt = 0
        rw [hz]
        rfl
      rw [rdB_0 e0, ← h1] at hr
      exact hK 1 I hW hF (Or.inl ⟨rfl, w, hr.symm, hR⟩)
    · have h3 := h3 (i1 hz)
      omega
  | succ f ih =>
    intro I w c hW hF hS hR h1 hc0 h2 h3 hr
    have hw := WM_f hW
    have hm := hS.2.1
    have hs := tkp_s hS.2.2.1 (by omega)
    have hf := tkp_f hS.2.2.1
    have hw1 := hR.1
    have q1 : (1 : Int32).toInt = 1 := rfl
    have q3 : (3 : Int32).toInt = 3 := rfl
    have q0 : (0 : Int32).toInt = 0 := rfl
    refine rX12_readAll_23 ht ⟨fun hz => ?_, fun hz => ⟨fun hz3 => ?_, fun hz3 => ?_⟩⟩
    · have e0 : (qmo I t).1 = 0 := by
        show (I t 23).toInt = 0
        rw [hz]
        rfl
      rw [rdB_0 e0, ← h1] at hr
      exact hK 1 I hW hF (Or.inl ⟨rfl, w, hr.symm, hR⟩)
    · have e3 : (qmo I t).1 = 3 := by
        show (I t 23).toInt = 3
        rw [hz3]
        rfl
      have h3 := h3 (i1 hz)
      rw [rdB_3 e3] at hr
      refine pX12_look ht hW hS.1 hm hf.1 (fun I1 hW1 hF1 hS1 hq1 => ?_)
      have hR1 := RM_fr hR (by omega) hF1 (by omega) (by omega) (by omega) (by intro a k h1 h2 h3; omega)
      have hF1' : Fr (fun a k => (a = t ∧ (k = 10 ∨ k = 14 ∨ k = 15 ∨ (22 ≤ k ∧ k ≤ 28))) ∨ a = t + 18 ∨ a = t + 19 ∨ (t + 21 ≤ a ∧ a ≤ t + 29)) I0 I1 := Fr.tr hF hF1 (by intro a k h; omega)
      have hsA : (I t 22).toInt ≤ (qmo I1 t).2.1 := by
        rw [hq1]
        exact adv_s (by omega) hf.1
      have hsA : (I t 22).toInt ≤ (I1 t 24).toInt := hsA
      have hw2 := WM_f hW1
      have hf1 := tkp_f hS1.2.2.1
      have e28 := congrArg Int32.toInt (hF1 t 28 (by omega))
      have hr : rd T m (f + 1) w (qmo I1 t) (c + 1) = R := by rw [hq1]; exact hr
      refine pX12_statement hG ht hW1 hS1 hR1 (fun v I3 hW3 hF3 ho => ?_)
      have hF3' : Fr (fun a k => (a = t ∧ (k = 10 ∨ k = 14 ∨ k = 15 ∨ (22 ≤ k ∧ k ≤ 28))) ∨ a = t + 18 ∨ a = t + 19 ∨ (t + 21 ≤ a ∧ a ≤ t + 29)) I0 I3 := Fr.tr hF1' hF3 (by intro a k h; omega)
      have e28b := congrArg Int32.toInt (hF3 t 28 (by omega))
      refine ⟨fun hv => ?_, fun hv => ?_⟩
      · have hv := i1 hv
        rcases ho with ⟨o1, o2, w2, o3, o4⟩ | ⟨o1, o2⟩
        · have mm := st_m o3 (by show 0 ≤ (I1 t 22).toInt; omega) (by show (I1 t 22).toInt ≤ m; omega)
          have mA : (I1 t 24).toInt + 3 ≤ (I1 t 22).toInt := mm.2
          have mC : (I3 t 22).toInt ≤ m := mm.1.2.1
          have mD : ¬ (I3 t 23).toInt = 0 → (I1 t 22).toInt < (I3 t 22).toInt := mm.1.2.2
          rw [rd_y o3] at hr
          have f0 : Fr (fun a k => a = t ∧ k = 28) I3 (uI I3 t 28 ((I3 t 28) + 1)) := Fr_uI Fr.rf ⟨rfl, rfl⟩
          have ad := i32_add (I3 t 28) 1 (by omega) (by omega)
          have w3 := o4.1
          have hw4 := WM_f hW3
          obtain ⟨g1, g2⟩ := SM_fr o2 f0 (by omega) (by intro k h1 h2; omega) (by intro k; omega)
          refine ih _ w2 (c + 1) (WM_uI hW3 (by first | exact okMo (by decide) (by decide) (by decide) (by decide) (by decide) | exact okMf (by decide) (by decide) (by decide) (by decide) (by decide) (by decide) (by decide) (by decide) | exact okM30 (by omega) | exact okM42 (by omega) | exact okM33 (by omega) | exact okM10 (by omega) | exact okM8 (by omega) | exact okM22 (by omega) | exact okM24 (by omega) | exact okM14 (by omega) | exact okMa31 (by omega) | exact okMa35 (by omega) | exact okMa36 (by omega) | exact okMa3 (by omega) | exact okMr (by omega) | (unfold okM; refine ⟨?_, ?_, ?_, ?_, ?_, ?_, ?_, ?_, ?_, ?_, ?_, ?_⟩ <;> intro h <;> omega))) (Fr.tr hF3' f0 (by intro a k h; omega)) g1 (RM_fr o4 (by omega) f0 (by omega) (by omega) (by omega) (by intro a k h1 h2 h3; omega)) (by rw [uI_ap, if_pos ⟨rfl, rfl⟩]; omega) (by omega) (by omega) (fun hn => ?_) ?_
          · rw [f0 t 23 (by omega)] at hn
            rw [f0 t 22 (by omega)]
            have mD := mD hn
            omega
          · rw [g2]
            exact hr
        · omega
      · have hv := i0 hv
        rcases ho with ⟨o1, o2, w2, o3, o4⟩ | ⟨o1, o2⟩
        · omega
        · rw [rd_e o2] at hr
          exact hK 0 I3 hW3 hF3' (Or.inr ⟨rfl, hr.symm⟩)
    · have e0 : ¬ (qmo I t).1 = 0 := i1 hz
      have e3 : ¬ (qmo I t).1 = 3 := fun e => hz3 (Int32.toInt_inj.mp (show (I t 23).toInt = _ from e))
      rw [rdB_x e0 e3] at hr
      refine fsfX12_wrong ht hW (fun v9 I9 hW9 hF9 hp => ⟨narrow_b (Or.inl hp.1), ?_⟩)
      refine hK v9 I9 hW9 (Fr.tr hF hF9 (by intro a k h; omega)) (Or.inr ⟨hp.1, ?_⟩)
      rw [← hr, hp.2]
      rfl
theorem pX12_readAll {G : jdG} {n : Nat} {Z : jdL} {J : jdJ} {K : Int32 → jdI → jdJ → Prop} {I : jdI} {t : Nat} {T : Nat → Int32} {m : Int} {w : Tw} {sA sV : Nat → Nat} (hG : gOK G sA sV) (ht : zModel Z t) (hW : WM 7 t I) (h1 : I (t + 16) = T) (h2 : (I t 8).toInt = m) (hw : RM I t w) (hK : ∀ (v : Int32) (I2 : jdI), WM 7 t I2 → Fr (fun a k => (a = t ∧ (k = 10 ∨ k = 14 ∨ k = 15 ∨ (22 ≤ k ∧ k ≤ 28))) ∨ a = t + 18 ∨ a = t + 19 ∨ (t + 21 ≤ a ∧ a ≤ t + 29)) I I2 → MRd (rd T m 63 w (adv T m 0) 1) t v I2 → K v I2 J) : Cl G mX12_readAll (n + 7) 0 0 [.ref (gb G + t)] Z I J (qi Z K) := by
  have hf := WM_f hW
  have hw1 := hw.1
  have q0 : (0 : Int32).toInt = 0 := rfl
  have q1 : (1 : Int32).toInt = 1 := rfl
  refine eX12_readAll ht ?_
  have w0 : WM 7 t (uI I t 28 1) := WM_uI hW (by first | exact okMo (by decide) (by decide) (by decide) (by decide) (by decide) | exact okMf (by decide) (by decide) (by decide) (by decide) (by decide) (by decide) (by decide) (by decide) | exact okM30 (by omega) | exact okM42 (by omega) | exact okM33 (by omega) | exact okM10 (by omega) | exact okM8 (by omega) | exact okM22 (by omega) | exact okM24 (by omega) | exact okM14 (by omega) | exact okMa31 (by omega) | exact okMa35 (by omega) | exact okMa36 (by omega) | exact okMa3 (by omega) | exact okMr (by omega) | (unfold okM; refine ⟨?_, ?_, ?_, ?_, ?_, ?_, ?_, ?_, ?_, ?_, ?_, ?_⟩ <;> intro h <;> omega))
  have w1 : WM 7 t (uI (uI I t 28 1) t 22 0) := WM_uI w0 (by first | exact okMo (by decide) (by decide) (by decide) (by decide) (by decide) | exact okMf (by decide) (by decide) (by decide) (by decide) (by decide) (by decide) (by decide) (by decide) | exact okM30 (by omega) | exact okM42 (by omega) | exact okM33 (by omega) | exact okM10 (by omega) | exact okM8 (by omega) | exact okM22 (by omega) | exact okM24 (by omega) | exact okM14 (by omega) | exact okMa31 (by omega) | exact okMa35 (by omega) | exact okMa36 (by omega) | exact okMa3 (by omega) | exact okMr (by omega) | (unfold okM; refine ⟨?_, ?_, ?_, ?_, ?_, ?_, ?_, ?_, ?_, ?_, ?_, ?_⟩ <;> intro h <;> omega))
  have f0 : Fr (fun a k => a = t ∧ (k = 28 ∨ k = 22)) I (uI (uI I t 28 1) t 22 0) := Fr_uI (Fr_uI Fr.rf (by omega)) (by omega)
  have e1 : (uI (uI I t 28 1) t 22 0) (t + 16) = T := by rw [uI_n _ _ _ (by omega), uI_n _ _ _ (by omega)]; exact h1
  have e2 : ((uI (uI I t 28 1) t 22 0) t 8).toInt = m := by rw [f0 t 8 (by omega)]; exact h2
  have e4 : ((uI (uI I t 28 1) t 22 0) t 22).toInt = 0 := by rw [uI_ap, if_pos ⟨rfl, rfl⟩]; rfl
  have e8 : ((uI (uI I t 28 1) t 22 0) t 28).toInt = 1 := by rw [uI_ap, if_neg (by omega), uI_ap, if_pos ⟨rfl, rfl⟩]; rfl
  have r0 := RM_fr hw (by omega) f0 (by omega) (by omega) (by omega) (by intro a k h1 h2 h3; omega)
  generalize (uI (uI I t 28 1) t 22 0) = I0 at w1 f0 e1 e2 e4 e8 r0 ⊢
  refine pX12_look ht w1 e1 e2 (by omega) (fun I1 hW1 hF1 hS1 hq1 => ?_)
  rw [e4] at hq1
  have r1 := RM_fr r0 (by omega) hF1 (by omega) (by omega) (by omega) (by intro a k h1 h2 h3; omega)
  have hF1' : Fr (fun a k => (a = t ∧ (k = 10 ∨ k = 14 ∨ k = 15 ∨ (22 ≤ k ∧ k ≤ 28))) ∨ a = t + 18 ∨ a = t + 19 ∨ (t + 21 ≤ a ∧ a ≤ t + 29)) I I1 := Fr.tr (Fr.tr Fr.rf f0 (by intro a k h; omega)) hF1 (by intro a k h; omega)
  have hs := tkp_s hS1.2.2.1 (by omega)
  have hf1 := tkp_f hS1.2.2.1
  have hw2 := WM_f hW1
  refine pX12_statement hG ht hW1 hS1 r1 (fun v I3 hW3 hF3 ho => ?_)
  have hF3' : Fr (fun a k => (a = t ∧ (k = 10 ∨ k = 14 ∨ k = 15 ∨ (22 ≤ k ∧ k ≤ 28))) ∨ a = t + 18 ∨ a = t + 19 ∨ (t + 21 ≤ a ∧ a ≤ t + 29)) I I3 := Fr.tr hF1' hF3 (by intro a k h; omega)
  rw [hq1] at ho
  have e28 := congrArg Int32.toInt (hF1 t 28 (by omega))
  have e28b := congrArg Int32.toInt (hF3 t 28 (by omega))
  refine ⟨fun hv => ?_, fun hv => ?_⟩
  · have hv := i1 hv
    rcases ho with ⟨o1, o2, w2, o3, o4⟩ | ⟨o1, o2⟩
    · have mm := st_m o3 (by rw [← hq1]; show 0 ≤ (I1 t 22).toInt; omega) (by rw [← hq1]; show (I1 t 22).toInt ≤ m; omega)
      rw [← hq1] at mm
      have mA : (I1 t 24).toInt + 3 ≤ (I1 t 22).toInt := mm.2
      have mD : ¬ (I3 t 23).toInt = 0 → (I1 t 22).toInt < (I3 t 22).toInt := mm.1.2.2
      refine pX12_readAll_23 hG ht hK 62 I3 w2 1 hW3 hF3' o2 o4 (by omega) (by omega) (by omega) (fun hn => ?_) (rd_y o3).symm
      have mD := mD hn
      omega
    · omega
  · have hv := i0 hv
    rcases ho with ⟨o1, o2, w2, o3, o4⟩ | ⟨o1, o2⟩
    · omega
    · exact hK 0 I3 hW3 hF3' (Or.inr ⟨rfl, rd_e o2⟩)
theorem cI_ap (I : jdI) (a b sp dp k c j : Nat) : cI I a b sp dp k c j = if c = b then va_cpy (I a) (I b) sp dp k j else I c j := by
  show (if c = b then va_cpy (I a) (I b) sp dp k else I c) j = _
  by_cases h : c = b
  · rw [if_pos h, if_pos h]
  · rw [if_neg h, if_neg h]
theorem cpy_0 (f g : Nat → Int32) (k j : Nat) (h : j < k) : va_cpy f g 0 0 k j = f j := by
  unfold va_cpy
  rw [if_pos ⟨Nat.zero_le _, by omega⟩, Nat.zero_add, Nat.sub_zero]
/-- the town at t has become that at u1, its fields below k -/
def CT (I0 I : jdI) (t u1 k : Nat) : Prop := (∀ j, 3 ≤ j → j < k → I t j = I0 u1 j) ∧ (∀ i, i < 7 → I (t + 1) i = I0 (u1 + 1) i ∧ I (t + 2) i = I0 (u1 + 2) i) ∧ ∀ i, i < 49 → I (t + 3) i = I0 (u1 + 3) i
theorem CT_s {I0 I : jdI} {t u1 k : Nat} (h : CT I0 I t u1 k) (e : I u1 k = I0 u1 k) : CT I0 (uI I t k (I u1 k)) t u1 (k + 1) := by
  refine ⟨fun j h1 h2 => ?_, fun i hi => ?_, fun i hi => ?_⟩
  · rw [uI_ap]
    by_cases c : j = k
    · subst c
      rw [if_pos ⟨rfl, rfl⟩]
      exact e
    · rw [if_neg (fun q => c q.2)]
      exact h.1 j h1 (by omega)
  · rw [uI_n _ _ _ (by omega), uI_n _ _ _ (by omega)]
    exact h.2.1 i hi
  · rw [uI_n _ _ _ (by omega)]
    exact h.2.2 i hi
theorem CT_0 (I : jdI) {t u1 : Nat} (hd : t + 3 < u1 ∨ u1 + 3 < t) : CT I (cI (cI (cI I (u1 + 1) (t + 1) 0 0 7) (u1 + 2) (t + 2) 0 0 7) (u1 + 3) (t + 3) 0 0 49) t u1 3 := by
  refine ⟨fun j h1 h2 => by omega, fun i hi => ⟨?_, ?_⟩, fun i hi => ?_⟩
  · rw [cI_ap, if_neg (by omega), cI_ap, if_neg (by omega), cI_ap, if_pos rfl, cpy_0 _ _ _ _ hi]
  · rw [cI_ap, if_neg (by omega), cI_ap, if_pos rfl, cpy_0 _ _ _ _ hi, cI_ap, if_neg (by omega)]
  · rw [cI_ap, if_pos rfl, cpy_0 _ _ _ _ hi, cI_ap, if_neg (by omega), cI_ap, if_neg (by omega)]
theorem RX_ct {I0 I : jdI} {t u1 : Nat} {w : Tw} (h : RX I0 u1 w) (hp : w.1 ≤ 7) (c : CT I0 I t u1 10) : RX I t w := by
  obtain ⟨w1, w2, w3, w4, w5⟩ := h
  refine ⟨by rw [c.1 3 (by omega) (by omega)]; exact w1, fun i hi => ?_, by rw [c.1 4 (by omega) (by omega)]; exact w3, by rw [c.1 5 (by omega) (by omega)]; exact w4, fun i j hi hj hne => ?_⟩
  · rw [(c.2.1 i (by omega)).1, (c.2.1 i (by omega)).2]
    exact w2 i hi
  · rw [c.2.2 _ (by omega)]
    exact w5 i j hi hj hne
theorem pX9_become {G : jdG} {n : Nat} {Z : jdL} {J : jdJ} {K : jdI → jdJ → Prop} {I : jdI} {t u1 : Nat} (ht : zTown Z t) (hu1 : zTown Z u1) (hts : (t = 1 ∨ t = 5 ∨ t = 9)) (hu1s : (u1 = 1 ∨ u1 = 5 ∨ u1 = 9)) (hne : ¬ t = u1) (hW : WX I) (hK : ∀ (I2 : jdI), WX I2 → Fr (fun a _ => t ≤ a ∧ a ≤ t + 3) I I2 → CT I I2 t u1 10 → K I2 J) : Cl G mX9_become (n + 1) 0 0 [.ref (gb G + t), .ref (gb G + u1)] Z I J (qv Z K) := by
  refine eX9_become ht hu1 ?_
  have hd : t + 3 < u1 ∨ u1 + 3 < t := by omega
  have hC := CT_0 I hd
  have hW0 : WX (cI I (u1 + 1) (t + 1) 0 0 7) := WX_cI hW (by omega)
  have hF0 : Fr (fun a _ => t ≤ a ∧ a ≤ t + 3) I (cI I (u1 + 1) (t + 1) 0 0 7) := Fr_cI Fr.rf (by intro k; omega)
  have hW1 : WX (cI (cI I (u1 + 1) (t + 1) 0 0 7) (u1 + 2) (t + 2) 0 0 7) := WX_cI hW0 (by omega)
  have hF1 : Fr (fun a _ => t ≤ a ∧ a ≤ t + 3) I (cI (cI I (u1 + 1) (t + 1) 0 0 7) (u1 + 2) (t + 2) 0 0 7) := Fr_cI hF0 (by intro k; omega)
  have hW2 : WX (cI (cI (cI I (u1 + 1) (t + 1) 0 0 7) (u1 + 2) (t + 2) 0 0 7) (u1 + 3) (t + 3) 0 0 49) := WX_cI hW1 (by omega)
  have hF2 : Fr (fun a _ => t ≤ a ∧ a ≤ t + 3) I (cI (cI (cI I (u1 + 1) (t + 1) 0 0 7) (u1 + 2) (t + 2) 0 0 7) (u1 + 3) (t + 3) 0 0 49) := Fr_cI hF1 (by intro k; omega)
  generalize (cI (cI (cI I (u1 + 1) (t + 1) 0 0 7) (u1 + 2) (t + 2) 0 0 7) (u1 + 3) (t + 3) 0 0 49) = I2 at hW2 hF2 hC ⊢
  have hp3 := WX_town hW2 hu1s
  have hW3 : WX (uI I2 t 3 (I2 u1 3)) := WX_uI hW2 (by first | exact okXo (by decide) | (unfold okX; refine ⟨?_, ?_, ?_, ?_, ?_, ?_, ?_, ?_, ?_, ?_⟩ <;> intro h <;> omega))
  have hC := CT_s hC (hF2 u1 3 (by omega))
  have hF3 : Fr (fun a _ => t ≤ a ∧ a ≤ t + 3) I (uI I2 t 3 (I2 u1 3)) := Fr_uI hF2 (by omega)
  generalize (uI I2 t 3 (I2 u1 3)) = I3 at hW3 hF3 hC ⊢
  have hp4 := WX_town hW3 hu1s
  have hW4 : WX (uI I3 t 4 (I3 u1 4)) := WX_uI hW3 (by first | exact okXo (by decide) | (unfold okX; refine ⟨?_, ?_, ?_, ?_, ?_, ?_, ?_, ?_, ?_, ?_⟩ <;> intro h <;> omega))
  have hC := CT_s hC (hF3 u1 4 (by omega))
  have hF4 : Fr (fun a _ => t ≤ a ∧ a ≤ t + 3) I (uI I3 t 4 (I3 u1 4)) := Fr_uI hF3 (by omega)
  generalize (uI I3 t 4 (I3 u1 4)) = I4 at hW4 hF4 hC ⊢
  have hp5 := WX_town hW4 hu1s
  have hW5 : WX (uI I4 t 5 (I4 u1 5)) := WX_uI hW4 (by first | exact okXo (by decide) | (unfold okX; refine ⟨?_, ?_, ?_, ?_, ?_, ?_, ?_, ?_, ?_, ?_⟩ <;> intro h <;> omega))
  have hC := CT_s hC (hF4 u1 5 (by omega))
  have hF5 : Fr (fun a _ => t ≤ a ∧ a ≤ t + 3) I (uI I4 t 5 (I4 u1 5)) := Fr_uI hF4 (by omega)
  generalize (uI I4 t 5 (I4 u1 5)) = I5 at hW5 hF5 hC ⊢
  have hp6 := WX_town hW5 hu1s
  have hW6 : WX (uI I5 t 6 (I5 u1 6)) := WX_uI hW5 (by first | exact okXo (by decide) | (unfold okX; refine ⟨?_, ?_, ?_, ?_, ?_, ?_, ?_, ?_, ?_, ?_⟩ <;> intro h <;> omega))
  have hC := CT_s hC (hF5 u1 6 (by omega))
  have hF6 : Fr (fun a _ => t ≤ a ∧ a ≤ t + 3) I (uI I5 t 6 (I5 u1 6)) := Fr_uI hF5 (by omega)
  generalize (uI I5 t 6 (I5 u1 6)) = I6 at hW6 hF6 hC ⊢
  have hp7 := WX_town hW6 hu1s
  have hW7 : WX (uI I6 t 7 (I6 u1 7)) := WX_uI hW6 (by first | exact okXo (by decide) | (unfold okX; refine ⟨?_, ?_, ?_, ?_, ?_, ?_, ?_, ?_, ?_, ?_⟩ <;> intro h <;> omega))
  have hC := CT_s hC (hF6 u1 7 (by omega))
  have hF7 : Fr (fun a _ => t ≤ a ∧ a ≤ t + 3) I (uI I6 t 7 (I6 u1 7)) := Fr_uI hF6 (by omega)
  generalize (uI I6 t 7 (I6 u1 7)) = I7 at hW7 hF7 hC ⊢
  have hp8 := WX_town hW7 hu1s
  have hW8 : WX (uI I7 t 8 (I7 u1 8)) := WX_uI hW7 (by first | exact okXo (by decide) | (unfold okX; refine ⟨?_, ?_, ?_, ?_, ?_, ?_, ?_, ?_, ?_, ?_⟩ <;> intro h <;> omega))
  have hC := CT_s hC (hF7 u1 8 (by omega))
  have hF8 : Fr (fun a _ => t ≤ a ∧ a ≤ t + 3) I (uI I7 t 8 (I7 u1 8)) := Fr_uI hF7 (by omega)
  generalize (uI I7 t 8 (I7 u1 8)) = I8 at hW8 hF8 hC ⊢
  have hp9 := WX_town hW8 hu1s
  have hW9 : WX (uI I8 t 9 (I8 u1 9)) := WX_uI hW8 (by first | exact okXo (by decide) | (unfold okX; refine ⟨?_, ?_, ?_, ?_, ?_, ?_, ?_, ?_, ?_, ?_⟩ <;> intro h <;> omega))
  have hC := CT_s hC (hF8 u1 9 (by omega))
  have hF9 : Fr (fun a _ => t ≤ a ∧ a ≤ t + 3) I (uI I8 t 9 (I8 u1 9)) := Fr_uI hF8 (by omega)
  generalize (uI I8 t 9 (I8 u1 9)) = I9 at hW9 hF9 hC ⊢
  exact hK _ hW9 hF9 hC
theorem pX12_over_2 {G : jdG} {n rc rs : Nat} {Z : jdL} {J : jdJ} {K : jdI → jdJ → Prop} {I0 : jdI} {u0 n0 u1 n1 : Nat} (hu0 : Z.1 u0 = some (0, n0)) (hu1 : Z.1 u1 = some (0, n1)) (hn : n0 ≤ n1 ∧ n0 ≤ 1000) (hne : ¬ u0 = u1) (hK : ∀ (I2 : jdI), Fr (fun a _ => a = u1) I0 I2 → (∀ k, k < n0 → I2 u1 k = I0 u0 k) → K I2 J) : ∀ m : Nat, ∀ (I : jdI) (x2 : Int32), Fr (fun a _ => a = u1) I0 I → (∀ k : Nat, (k : Int) < x2.toInt → I u1 k = I0 u0 k) → (0 ≤ x2.toInt ∧ x2.toInt ≤ (n0 : Int)) → ((n0 : Int)) - x2.toInt < (m : Int) → Jd G mX12_over (jdFm G (qv Z K)) n rc rs 2 [(0, .ref (gb G + u0)), (1, .ref (gb G + u1)), (2, .int x2)] [] Z I J := by
  intro m
  induction m with
  | zero =>
    intro I x2 hF hc hx hm
    omega
  | succ m ih =>
    intro I x2 hF hc hx hm
    have q1 : (1 : Int32).toInt = 1 := rfl
    have qn : (Int32.ofNat n0).toInt = (n0 : Int) := nI_toInt (by omega)
    have e1 := i32_add x2 1 (by omega) (by omega)
    have n2 := tn_eq x2
    refine rX12_over_2 hu0 hu1 ⟨fun h => ?_, fun h => ?_⟩
    · have h := Int32.le_iff_toInt_le.mp h
      exact hK I hF (fun k hk => hc k (by omega))
    · have h := mt Int32.le_iff_toInt_le.mpr h
      refine ⟨vp_of (by omega) (by omega), vp_of (by omega) (by omega), ih _ (x2 + 1) (Fr_uI hF rfl) (fun k hk => ?_) (by omega) (by omega)⟩
      rw [uI_ap]
      by_cases c : k = Int32.toNatClampNeg x2
      · rw [if_pos ⟨rfl, c⟩, c]
        exact hF u0 _ hne
      · rw [if_neg (fun q => c q.2)]
        exact hc k (by omega)
theorem pX12_over {G : jdG} {n : Nat} {Z : jdL} {J : jdJ} {K : jdI → jdJ → Prop} {I : jdI} {u0 n0 u1 n1 : Nat} (hu0 : Z.1 u0 = some (0, n0)) (hu1 : Z.1 u1 = some (0, n1)) (hn : n0 ≤ n1 ∧ n0 ≤ 1000) (hne : ¬ u0 = u1) (hK : ∀ (I2 : jdI), Fr (fun a _ => a = u1) I I2 → (∀ k, k < n0 → I2 u1 k = I u0 k) → K I2 J) : Cl G mX12_over n 0 0 [.ref (gb G + u0), .ref (gb G + u1)] Z I J (qv Z K) :=
  eX12_over hu0 hu1 (pX12_over_2 hu0 hu1 hn hne hK (n0 + 1) I 0 Fr.rf (fun k hk => by have z : (0 : Int32).toInt = 0 := rfl; omega) ⟨by decide, by show (0 : Int) ≤ _; omega⟩ (by show (n0 : Int) - 0 < _; omega))
/-- the model at t has taken what is at u1: its fields below k, its first p rows -/
def CM (I0 I : jdI) (t u1 k p : Nat) : Prop := I t 10 = I0 u1 10 ∧ (∀ i, i < 8 → I (t + 18) i = I0 (u1 + 18) i ∧ I (t + 19) i = I0 (u1 + 19) i) ∧ (∀ q, q < p → ∀ i, i < 8 → I (t + 21 + q) i = I0 (u1 + 21 + q) i) ∧ ∀ j, 14 ≤ j → j < k → I t j = I0 u1 j
theorem CM_s {I0 I : jdI} {t u1 k : Nat} (h : CM I0 I t u1 k 8) (hk : 14 ≤ k) (e : I u1 k = I0 u1 k) : CM I0 (uI I t k (I u1 k)) t u1 (k + 1) 8 := by
  refine ⟨?_, fun i hi => ?_, fun q hq i hi => ?_, fun j h1 h2 => ?_⟩
  · rw [uI_ap, if_neg (by omega)]
    exact h.1
  · rw [uI_n _ _ _ (by omega), uI_n _ _ _ (by omega)]
    exact h.2.1 i hi
  · rw [uI_n _ _ _ (by omega)]
    exact h.2.2.1 q hq i hi
  · rw [uI_ap]
    by_cases c : j = k
    · subst c
      rw [if_pos ⟨rfl, rfl⟩]
      exact e
    · rw [if_neg (fun q => c q.2)]
      exact h.2.2.2 j h1 (by omega)
theorem RM_cm {I0 I : jdI} {t u1 : Nat} {w : Tw} (h : RM I0 u1 w) (hp : w.1 ≤ 8) (c : CM I0 I t u1 20 8) : RM I t w := by
  obtain ⟨w1, w2, w3, w4, w5⟩ := h
  refine ⟨by rw [c.1]; exact w1, fun i hi => ?_, by rw [c.2.2.2 14 (by omega) (by omega)]; exact w3, by rw [c.2.2.2 15 (by omega) (by omega)]; exact w4, fun i j hi hj hne => ?_⟩
  · rw [(c.2.1 i (by omega)).1, (c.2.1 i (by omega)).2]
    exact w2 i hi
  · rw [c.2.2.1 i (by omega) j (by omega)]
    exact w5 i j hi hj hne
theorem pX12_takeFrom_32 {G : jdG} {n rc rs : Nat} {Z : jdL} {J : jdJ} {K : jdI → jdJ → Prop} {I0 : jdI} {t u1 : Nat} (ht : zModel Z t) (hu1 : zModel Z u1) (hd : t + 37 < u1 ∨ u1 + 37 < t) (hK : ∀ I2 : jdI, WM 7 t I2 → Fr (fun a k => (a = t ∧ 10 ≤ k ∧ k ≤ 19) ∨ a = t + 18 ∨ a = t + 19 ∨ (t + 21 ≤ a ∧ a ≤ t + 28)) I0 I2 → CM I0 I2 t u1 20 8 → K I2 J) : ∀ m : Nat, ∀ (I : jdI) (x2 : Int32), WM 7 t I → WM 7 u1 I → Fr (fun a k => (a = t ∧ 10 ≤ k ∧ k ≤ 19) ∨ a = t + 18 ∨ a = t + 19 ∨ (t + 21 ≤ a ∧ a ≤ t + 28)) I0 I → CM I0 I t u1 14 x2.toInt.toNat → 0 ≤ x2.toInt ∧ x2.toInt ≤ 8 → 8 - x2.toInt < (m : Int) → Jd G mX12_takeFrom (jdFm G (qv Z K)) (n + 1) rc rs 32 [(0, .ref (gb G + t)), (1, .ref (gb G + u1)), (2, .int x2)] [] Z I J := by
  intro m
  induction m with
  | zero =>
    intro I x2 hW hU hF hC hx hm
    omega
  | succ m ih =>
    intro I x2 hW hU hF hC hx hm
    have q7 : (7 : Int32).toInt = 7 := rfl
    have q1 : (1 : Int32).toInt = 1 := rfl
    refine rX12_takeFrom_32 ht hu1 ?_
    refine ⟨fun hc => ?_, fun hc => ?_⟩
    · have hc := Int32.lt_iff_toInt_lt.mp hc
      have hC : CM I0 I t u1 14 8 := by
        rw [show x2.toInt.toNat = 8 by omega] at hC
        exact hC
      have hf14 := WM_f hU
      have hW14 : WM 7 t (uI I t 14 (I u1 14)) := WM_uI hW (by first | exact okMo (by decide) (by decide) (by decide) (by decide) (by decide) | exact okMf (by decide) (by decide) (by decide) (by decide) (by decide) (by decide) (by decide) (by decide) | exact okM30 (by omega) | exact okM42 (by omega) | exact okM33 (by omega) | exact okM10 (by omega) | exact okM8 (by omega) | exact okM22 (by omega) | exact okM24 (by omega) | exact okM14 (by omega) | exact okMa31 (by omega) | exact okMa35 (by omega) | exact okMa36 (by omega) | exact okMa3 (by omega) | exact okMr (by omega) | (unfold okM; refine ⟨?_, ?_, ?_, ?_, ?_, ?_, ?_, ?_, ?_, ?_, ?_, ?_⟩ <;> intro h <;> omega))
      have hU14 : WM 7 u1 (uI I t 14 (I u1 14)) := WM_uI hU (by first | exact okMo (by decide) (by decide) (by decide) (by decide) (by decide) | exact okMf (by decide) (by decide) (by decide) (by decide) (by decide) (by decide) (by decide) (by decide) | exact okM30 (by omega) | exact okM42 (by omega) | exact okM33 (by omega) | exact okM10 (by omega) | exact okM8 (by omega) | exact okM22 (by omega) | exact okM24 (by omega) | exact okM14 (by omega) | exact okMa31 (by omega) | exact okMa35 (by omega) | exact okMa36 (by omega) | exact okMa3 (by omega) | exact okMr (by omega) | (unfold okM; refine ⟨?_, ?_, ?_, ?_, ?_, ?_, ?_, ?_, ?_, ?_, ?_, ?_⟩ <;> intro h <;> omega))
      have hC := CM_s hC (by decide) (hF u1 14 (by omega))
      have hF14 : Fr (fun a k => (a = t ∧ 10 ≤ k ∧ k ≤ 19) ∨ a = t + 18 ∨ a = t + 19 ∨ (t + 21 ≤ a ∧ a ≤ t + 28)) I0 (uI I t 14 (I u1 14)) := Fr_uI hF (by omega)
      generalize (uI I t 14 (I u1 14)) = I14 at hW14 hU14 hF14 hC ⊢
      have hf15 := WM_f hU14
      have hW15 : WM 7 t (uI I14 t 15 (I14 u1 15)) := WM_uI hW14 (by first | exact okMo (by decide) (by decide) (by decide) (by decide) (by decide) | exact okMf (by decide) (by decide) (by decide) (by decide) (by decide) (by decide) (by decide) (by decide) | exact okM30 (by omega) | exact okM42 (by omega) | exact okM33 (by omega) | exact okM10 (by omega) | exact okM8 (by omega) | exact okM22 (by omega) | exact okM24 (by omega) | exact okM14 (by omega) | exact okMa31 (by omega) | exact okMa35 (by omega) | exact okMa36 (by omega) | exact okMa3 (by omega) | exact okMr (by omega) | (unfold okM; refine ⟨?_, ?_, ?_, ?_, ?_, ?_, ?_, ?_, ?_, ?_, ?_, ?_⟩ <;> intro h <;> omega))
      have hU15 : WM 7 u1 (uI I14 t 15 (I14 u1 15)) := WM_uI hU14 (by first | exact okMo (by decide) (by decide) (by decide) (by decide) (by decide) | exact okMf (by decide) (by decide) (by decide) (by decide) (by decide) (by decide) (by decide) (by decide) | exact okM30 (by omega) | exact okM42 (by omega) | exact okM33 (by omega) | exact okM10 (by omega) | exact okM8 (by omega) | exact okM22 (by omega) | exact okM24 (by omega) | exact okM14 (by omega) | exact okMa31 (by omega) | exact okMa35 (by omega) | exact okMa36 (by omega) | exact okMa3 (by omega) | exact okMr (by omega) | (unfold okM; refine ⟨?_, ?_, ?_, ?_, ?_, ?_, ?_, ?_, ?_, ?_, ?_, ?_⟩ <;> intro h <;> omega))
      have hC := CM_s hC (by decide) (hF14 u1 15 (by omega))
      have hF15 : Fr (fun a k => (a = t ∧ 10 ≤ k ∧ k ≤ 19) ∨ a = t + 18 ∨ a = t + 19 ∨ (t + 21 ≤ a ∧ a ≤ t + 28)) I0 (uI I14 t 15 (I14 u1 15)) := Fr_uI hF14 (by omega)
      generalize (uI I14 t 15 (I14 u1 15)) = I15 at hW15 hU15 hF15 hC ⊢
      have hf16 := WM_f hU15
      have hW16 : WM 7 t (uI I15 t 16 (I15 u1 16)) := WM_uI hW15 (by first | exact okMo (by decide) (by decide) (by decide) (by decide) (by decide) | exact okMf (by decide) (by decide) (by decide) (by decide) (by decide) (by decide) (by decide) (by decide) | exact okM30 (by omega) | exact okM42 (by omega) | exact okM33 (by omega) | exact okM10 (by omega) | exact okM8 (by omega) | exact okM22 (by omega) | exact okM24 (by omega) | exact okM14 (by omega) | exact okMa31 (by omega) | exact okMa35 (by omega) | exact okMa36 (by omega) | exact okMa3 (by omega) | exact okMr (by omega) | (unfold okM; refine ⟨?_, ?_, ?_, ?_, ?_, ?_, ?_, ?_, ?_, ?_, ?_, ?_⟩ <;> intro h <;> omega))
      have hU16 : WM 7 u1 (uI I15 t 16 (I15 u1 16)) := WM_uI hU15 (by first | exact okMo (by decide) (by decide) (by decide) (by decide) (by decide) | exact okMf (by decide) (by decide) (by decide) (by decide) (by decide) (by decide) (by decide) (by decide) | exact okM30 (by omega) | exact okM42 (by omega) | exact okM33 (by omega) | exact okM10 (by omega) | exact okM8 (by omega) | exact okM22 (by omega) | exact okM24 (by omega) | exact okM14 (by omega) | exact okMa31 (by omega) | exact okMa35 (by omega) | exact okMa36 (by omega) | exact okMa3 (by omega) | exact okMr (by omega) | (unfold okM; refine ⟨?_, ?_, ?_, ?_, ?_, ?_, ?_, ?_, ?_, ?_, ?_, ?_⟩ <;> intro h <;> omega))
      have hC := CM_s hC (by decide) (hF15 u1 16 (by omega))
      have hF16 : Fr (fun a k => (a = t ∧ 10 ≤ k ∧ k ≤ 19) ∨ a = t + 18 ∨ a = t + 19 ∨ (t + 21 ≤ a ∧ a ≤ t + 28)) I0 (uI I15 t 16 (I15 u1 16)) := Fr_uI hF15 (by omega)
      generalize (uI I15 t 16 (I15 u1 16)) = I16 at hW16 hU16 hF16 hC ⊢
      have hf17 := WM_f hU16
      have hW17 : WM 7 t (uI I16 t 17 (I16 u1 17)) := WM_uI hW16 (by first | exact okMo (by decide) (by decide) (by decide) (by decide) (by decide) | exact okMf (by decide) (by decide) (by decide) (by decide) (by decide) (by decide) (by decide) (by decide) | exact okM30 (by omega) | exact okM42 (by omega) | exact okM33 (by omega) | exact okM10 (by omega) | exact okM8 (by omega) | exact okM22 (by omega) | exact okM24 (by omega) | exact okM14 (by omega) | exact okMa31 (by omega) | exact okMa35 (by omega) | exact okMa36 (by omega) | exact okMa3 (by omega) | exact okMr (by omega) | (unfold okM; refine ⟨?_, ?_, ?_, ?_, ?_, ?_, ?_, ?_, ?_, ?_, ?_, ?_⟩ <;> intro h <;> omega))
      have hU17 : WM 7 u1 (uI I16 t 17 (I16 u1 17)) := WM_uI hU16 (by first | exact okMo (by decide) (by decide) (by decide) (by decide) (by decide) | exact okMf (by decide) (by decide) (by decide) (by decide) (by decide) (by decide) (by decide) (by decide) | exact okM30 (by omega) | exact okM42 (by omega) | exact okM33 (by omega) | exact okM10 (by omega) | exact okM8 (by omega) | exact okM22 (by omega) | exact okM24 (by omega) | exact okM14 (by omega) | exact okMa31 (by omega) | exact okMa35 (by omega) | exact okMa36 (by omega) | exact okMa3 (by omega) | exact okMr (by omega) | (unfold okM; refine ⟨?_, ?_, ?_, ?_, ?_, ?_, ?_, ?_, ?_, ?_, ?_, ?_⟩ <;> intro h <;> omega))
      have hC := CM_s hC (by decide) (hF16 u1 17 (by omega))
      have hF17 : Fr (fun a k => (a = t ∧ 10 ≤ k ∧ k ≤ 19) ∨ a = t + 18 ∨ a = t + 19 ∨ (t + 21 ≤ a ∧ a ≤ t + 28)) I0 (uI I16 t 17 (I16 u1 17)) := Fr_uI hF16 (by omega)
      generalize (uI I16 t 17 (I16 u1 17)) = I17 at hW17 hU17 hF17 hC ⊢
      have hf18 := WM_f hU17
      have hW18 : WM 7 t (uI I17 t 18 (I17 u1 18)) := WM_uI hW17 (by first | exact okMo (by decide) (by decide) (by decide) (by decide) (by decide) | exact okMf (by decide) (by decide) (by decide) (by decide) (by decide) (by decide) (by decide) (by decide) | exact okM30 (by omega) | exact okM42 (by omega) | exact okM33 (by omega) | exact okM10 (by omega) | exact okM8 (by omega) | exact okM22 (by omega) | exact okM24 (by omega) | exact okM14 (by omega) | exact okMa31 (by omega) | exact okMa35 (by omega) | exact okMa36 (by omega) | exact okMa3 (by omega) | exact okMr (by omega) | (unfold okM; refine ⟨?_, ?_, ?_, ?_, ?_, ?_, ?_, ?_, ?_, ?_, ?_, ?_⟩ <;> intro h <;> omega))
      have hU18 : WM 7 u1 (uI I17 t 18 (I17 u1 18)) := WM_uI hU17 (by first | exact okMo (by decide) (by decide) (by decide) (by decide) (by decide) | exact okMf (by decide) (by decide) (by decide) (by decide) (by decide) (by decide) (by decide) (by decide) | exact okM30 (by omega) | exact okM42 (by omega) | exact okM33 (by omega) | exact okM10 (by omega) | exact okM8 (by omega) | exact okM22 (by omega) | exact okM24 (by omega) | exact okM14 (by omega) | exact okMa31 (by omega) | exact okMa35 (by omega) | exact okMa36 (by omega) | exact okMa3 (by omega) | exact okMr (by omega) | (unfold okM; refine ⟨?_, ?_, ?_, ?_, ?_, ?_, ?_, ?_, ?_, ?_, ?_, ?_⟩ <;> intro h <;> omega))
      have hC := CM_s hC (by decide) (hF17 u1 18 (by omega))
      have hF18 : Fr (fun a k => (a = t ∧ 10 ≤ k ∧ k ≤ 19) ∨ a = t + 18 ∨ a = t + 19 ∨ (t + 21 ≤ a ∧ a ≤ t + 28)) I0 (uI I17 t 18 (I17 u1 18)) := Fr_uI hF17 (by omega)
      generalize (uI I17 t 18 (I17 u1 18)) = I18 at hW18 hU18 hF18 hC ⊢
      have hf19 := WM_f hU18
      have hW19 : WM 7 t (uI I18 t 19 (I18 u1 19)) := WM_uI hW18 (by first | exact okMo (by decide) (by decide) (by decide) (by decide) (by decide) | exact okMf (by decide) (by decide) (by decide) (by decide) (by decide) (by decide) (by decide) (by decide) | exact okM30 (by omega) | exact okM42 (by omega) | exact okM33 (by omega) | exact okM10 (by omega) | exact okM8 (by omega) | exact okM22 (by omega) | exact okM24 (by omega) | exact okM14 (by omega) | exact okMa31 (by omega) | exact okMa35 (by omega) | exact okMa36 (by omega) | exact okMa3 (by omega) | exact okMr (by omega) | (unfold okM; refine ⟨?_, ?_, ?_, ?_, ?_, ?_, ?_, ?_, ?_, ?_, ?_, ?_⟩ <;> intro h <;> omega))
      have hU19 : WM 7 u1 (uI I18 t 19 (I18 u1 19)) := WM_uI hU18 (by first | exact okMo (by decide) (by decide) (by decide) (by decide) (by decide) | exact okMf (by decide) (by decide) (by decide) (by decide) (by decide) (by decide) (by decide) (by decide) | exact okM30 (by omega) | exact okM42 (by omega) | exact okM33 (by omega) | exact okM10 (by omega) | exact okM8 (by omega) | exact okM22 (by omega) | exact okM24 (by omega) | exact okM14 (by omega) | exact okMa31 (by omega) | exact okMa35 (by omega) | exact okMa36 (by omega) | exact okMa3 (by omega) | exact okMr (by omega) | (unfold okM; refine ⟨?_, ?_, ?_, ?_, ?_, ?_, ?_, ?_, ?_, ?_, ?_, ?_⟩ <;> intro h <;> omega))
      have hC := CM_s hC (by decide) (hF18 u1 19 (by omega))
      have hF19 : Fr (fun a k => (a = t ∧ 10 ≤ k ∧ k ≤ 19) ∨ a = t + 18 ∨ a = t + 19 ∨ (t + 21 ≤ a ∧ a ≤ t + 28)) I0 (uI I18 t 19 (I18 u1 19)) := Fr_uI hF18 (by omega)
      generalize (uI I18 t 19 (I18 u1 19)) = I19 at hW19 hU19 hF19 hC ⊢
      exact hK _ hW19 hF19 hC
    · have hc := mt Int32.lt_iff_toInt_lt.mpr hc
      have hn := tn_eq x2
      have e1 := i32_add x2 1 (by omega) (by omega)
      refine ⟨vp_of (by omega) (by omega), vp_of (by omega) (by omega), ?_⟩
      refine pX12_over (zModel_knownA hu1 (by omega)) (zModel_knownA ht (by omega)) (by decide) (by omega) (fun I3 hF3 hc3 => ?_)
      refine ih I3 (x2 + 1) (WM_fr5 hW hF3 (by intro k; omega) (by intro k; omega) (by intro k; omega) (by intro k; omega) (by intro k; omega)) (WM_fr hU hF3 (by intro a k h1 h2; omega)) (Fr.tr hF hF3 (by intro a k h; omega)) ⟨?_, fun i hi => ?_, fun q hq i hi => ?_, fun j h1 h2 => by omega⟩ (by omega) (by omega)
      · rw [hF3 t 10 (by omega)]
        exact hC.1
      · rw [hF3 (t + 18) i (by omega), hF3 (t + 19) i (by omega)]
        exact hC.2.1 i hi
      · by_cases c : q = Int32.toNatClampNeg x2
        · rw [c, hc3 i hi]
          exact hF _ _ (by omega)
        · rw [hF3 (t + 21 + q) i (by omega)]
          exact hC.2.2.1 q (by omega) i hi
theorem pX12_takeFrom {G : jdG} {n : Nat} {Z : jdL} {J : jdJ} {K : jdI → jdJ → Prop} {I : jdI} {t u1 : Nat} (ht : zModel Z t) (hu1 : zModel Z u1) (hd : t + 37 < u1 ∨ u1 + 37 < t) (hW : WM 8 t I) (hU : WM 7 u1 I) (hK : ∀ I2 : jdI, WM 7 t I2 → Fr (fun a k => (a = t ∧ 10 ≤ k ∧ k ≤ 19) ∨ a = t + 18 ∨ a = t + 19 ∨ (t + 21 ≤ a ∧ a ≤ t + 28)) I I2 → CM I I2 t u1 20 8 → K I2 J) : Cl G mX12_takeFrom (n + 1) 0 0 [.ref (gb G + t), .ref (gb G + u1)] Z I J (qv Z K) := by
  have hf := WM_f hU
  refine eX12_takeFrom ht hu1 ?_
  have h1 : WM 8 t (uI I t 10 (I u1 10)) := WM_uI hW (by first | exact okMo (by decide) (by decide) (by decide) (by decide) (by decide) | exact okMf (by decide) (by decide) (by decide) (by decide) (by decide) (by decide) (by decide) (by decide) | exact okM30 (by omega) | exact okM42 (by omega) | exact okM33 (by omega) | exact okM10 (by omega) | exact okM8 (by omega) | exact okM22 (by omega) | exact okM24 (by omega) | exact okM14 (by omega) | exact okMa31 (by omega) | exact okMa35 (by omega) | exact okMa36 (by omega) | exact okMa3 (by omega) | exact okMr (by omega) | (unfold okM; refine ⟨?_, ?_, ?_, ?_, ?_, ?_, ?_, ?_, ?_, ?_, ?_, ?_⟩ <;> intro h <;> omega))
  have h2 : WM 7 t (uI I t 10 (I u1 10)) := WM_cut h1 (by rw [uI_ap, if_pos ⟨rfl, rfl⟩]; exact hf.1.2)
  have h3 : WM 7 u1 (uI I t 10 (I u1 10)) := WM_uI hU (by first | exact okMo (by decide) (by decide) (by decide) (by decide) (by decide) | exact okMf (by decide) (by decide) (by decide) (by decide) (by decide) (by decide) (by decide) (by decide) | exact okM30 (by omega) | exact okM42 (by omega) | exact okM33 (by omega) | exact okM10 (by omega) | exact okM8 (by omega) | exact okM22 (by omega) | exact okM24 (by omega) | exact okM14 (by omega) | exact okMa31 (by omega) | exact okMa35 (by omega) | exact okMa36 (by omega) | exact okMa3 (by omega) | exact okMr (by omega) | (unfold okM; refine ⟨?_, ?_, ?_, ?_, ?_, ?_, ?_, ?_, ?_, ?_, ?_, ?_⟩ <;> intro h <;> omega))
  have h4 : Fr (fun a k => (a = t ∧ 10 ≤ k ∧ k ≤ 19) ∨ a = t + 18 ∨ a = t + 19 ∨ (t + 21 ≤ a ∧ a ≤ t + 28)) I (uI I t 10 (I u1 10)) := Fr_uI Fr.rf (by omega)
  have hA : (uI I t 10 (I u1 10)) t 10 = I u1 10 := by rw [uI_ap, if_pos ⟨rfl, rfl⟩]
  generalize (uI I t 10 (I u1 10)) = I0 at h2 h3 h4 hA ⊢
  refine pX12_over (zModel_a11 hu1) (zModel_a11 ht) (by decide) (by omega) (fun I1 hF1 hc1 => ?_)
  have w1 := WM_fr5 h2 hF1 (by intro k; omega) (by intro k; omega) (by intro k; omega) (by intro k; omega) (by intro k; omega)
  have u1' := WM_fr h3 hF1 (by intro a k h1 h2; omega)
  have f1 : Fr (fun a k => (a = t ∧ 10 ≤ k ∧ k ≤ 19) ∨ a = t + 18 ∨ a = t + 19 ∨ (t + 21 ≤ a ∧ a ≤ t + 28)) I I1 := Fr.tr h4 hF1 (by intro a k h; omega)
  refine pX12_over (zModel_a12 hu1) (zModel_a12 ht) (by decide) (by omega) (fun I3 hF3 hc3 => ?_)
  have w3 := WM_fr5 w1 hF3 (by intro k; omega) (by intro k; omega) (by intro k; omega) (by intro k; omega) (by intro k; omega)
  have u3 := WM_fr u1' hF3 (by intro a k h1 h2; omega)
  have f3 : Fr (fun a k => (a = t ∧ 10 ≤ k ∧ k ≤ 19) ∨ a = t + 18 ∨ a = t + 19 ∨ (t + 21 ≤ a ∧ a ≤ t + 28)) I I3 := Fr.tr f1 hF3 (by intro a k h; omega)
  refine pX12_takeFrom_32 ht hu1 hd hK 9 I3 0 w3 u3 f3 ⟨?_, fun i hi => ⟨?_, ?_⟩, fun q hq i hi => ?_, fun j h1 h2 => by omega⟩ (by decide) (by decide)
  · rw [hF3 t 10 (by omega), hF1 t 10 (by omega)]
    exact hA
  · rw [hF3 (t + 18) i (by omega), hc1 i hi]
    exact h4 _ _ (by omega)
  · rw [hc3 i hi]
    exact f1 _ _ (by omega)
  · have : q < 0 := hq
    omega
theorem CM_b {I I4 I2 : jdI} {w t k p : Nat} (h : CM I4 I2 w t k p) (e : ∀ a j, t ≤ a → a ≤ t + 37 → I4 a j = I a j) (hp : p ≤ 8) : CM I I2 w t k p := by
  obtain ⟨a, b, c, d⟩ := h
  refine ⟨by rw [a]; exact e _ _ (by omega) (by omega), fun i hi => ?_, fun q hq i hi => ?_, fun j h1 h2 => by rw [d j h1 h2]; exact e _ _ (by omega) (by omega)⟩
  · rw [(b i hi).1, (b i hi).2]
    exact ⟨e _ _ (by omega) (by omega), e _ _ (by omega) (by omega)⟩
  · rw [c q hq i hi]
    exact e _ _ (by omega) (by omega)
/-- what a text has made of the town w: the answer v -/
def MTn (R : Rd) (w : Tw) (v : Int32) (I2 : jdI) (t : Nat) : Prop := (∃ w2 : Tw, R = .inr (w2, v.toInt) ∧ RM I2 t w2) ∨ (∃ p : Int, R = .inl p ∧ v = (-20) - Int32.ofInt p ∧ RM I2 t w)
def XTn (R : Rd) (w : Tw) (v : Int32) (I2 : jdI) (b : Nat) : Prop := (∃ w2 : Tw, R = .inr (w2, v.toInt) ∧ RX I2 b w2) ∨ (∃ p : Int, R = .inl p ∧ v = (-20) - Int32.ofInt p ∧ RX I2 b w)
