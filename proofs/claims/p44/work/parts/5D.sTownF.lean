/-! whole texts -/
abbrev Rd : Type := Sum Int (Tw × Int)
noncomputable def rdB (g : Tw → Q3 → Int → Rd) (T : Nat → Int32) (n : Int) (w : Tw) (q : Q3) (c : Int) : Rd := if q.1 = 0 then .inr (w, c) else if q.1 = 3 then g w (adv T n q.2.2) (c + 1) else .inl q.2.1
/-- statements one after the other, c: which one -/
noncomputable def rd (T : Nat → Int32) (n : Int) : Nat → Tw → Q3 → Int → Rd
  | 0, _, _, _ => .inl 0
  | f + 1, w, q, c => match st T n w q with
    | .inl p => .inl p
    | .inr b => rdB (rd T n f) T n b.1 b.2 c
theorem rd_e {T : Nat → Int32} {n p c : Int} {f : Nat} {w : Tw} {q : Q3} (h : st T n w q = .inl p) : rd T n (f + 1) w q c = .inl p := by
  show (match st T n w q with | .inl p => Sum.inl p | .inr b => rdB (rd T n f) T n b.1 b.2 c) = _
  rw [h]
theorem rd_y {T : Nat → Int32} {n c : Int} {f : Nat} {w w2 : Tw} {q q2 : Q3} (h : st T n w q = .inr (w2, q2)) : rd T n (f + 1) w q c = rdB (rd T n f) T n w2 q2 c := by
  show (match st T n w q with | .inl p => Sum.inl p | .inr b => rdB (rd T n f) T n b.1 b.2 c) = _
  rw [h]
theorem rdB_0 {g : Tw → Q3 → Int → Rd} {T : Nat → Int32} {n c : Int} {w : Tw} {q : Q3} (h : q.1 = 0) : rdB g T n w q c = .inr (w, c) := if_pos h
theorem rdB_3 {g : Tw → Q3 → Int → Rd} {T : Nat → Int32} {n c : Int} {w : Tw} {q : Q3} (h : q.1 = 3) : rdB g T n w q c = g w (adv T n q.2.2) (c + 1) := by
  unfold rdB
  rw [if_neg (by omega), if_pos h]
theorem rdB_x {g : Tw → Q3 → Int → Rd} {T : Nat → Int32} {n c : Int} {w : Tw} {q : Q3} (h : ¬ q.1 = 0) (h3 : ¬ q.1 = 3) : rdB g T n w q c = .inl q.2.1 := by
  unfold rdB
  rw [if_neg h, if_neg h3]
theorem tkp_s {T : Nat → Int32} {n tk s f : Int} (h : TKp T n tk s f) (hn : 0 ≤ n) : 0 ≤ s ∧ s ≤ n := by
  rcases h with h | h
  · omega
  · have := h.1
    omega
theorem adv_s {T : Nat → Int32} {n e : Int} (h0 : 0 ≤ e) (h1 : e ≤ n) : e ≤ (adv T n e).2.1 := (adv_ok (T := T) h0 h1).1.1
/-- what the reading of a text has come to -/
def XRd (R : Rd) (u1 : Nat) (v : Int32) (I2 : jdI) : Prop := (∃ w2 : Tw, R = .inr (w2, v.toInt) ∧ RX I2 u1 w2 ∧ 1 ≤ v.toInt) ∨ (v.toInt = -1 ∧ R = .inl (I2 25 5).toInt)
def MRd (R : Rd) (t : Nat) (v : Int32) (I2 : jdI) : Prop := (v.toInt = 1 ∧ ∃ w2 : Tw, R = .inr (w2, (I2 t 28).toInt) ∧ RM I2 t w2) ∨ (v.toInt = 0 ∧ R = .inl (I2 t 26).toInt)
theorem pX5_read_11 {G : jdG} {n rc rs : Nat} {Z : jdL} {J : jdJ} {K : Int32 → jdI → jdJ → Prop} {I0 : jdI} {u1 : Nat} {T : Nat → Int32} {m : Int} {R : Rd} {sA sV : Nat → Nat} (hG : gOK G sA sV) (ht : zScribe Z 25) (hu1 : zTown Z u1) (hus : u1 = 1 ∨ u1 = 5 ∨ u1 = 9) (hK : ∀ (v : Int32) (I2 : jdI), WX I2 → Fr (fun a k => a = 25 ∨ (a = u1 ∧ 3 ≤ k ∧ k ≤ 5) ∨ (u1 + 1 ≤ a ∧ a ≤ u1 + 3)) I0 I2 → XRd R u1 v I2 → K v I2 J) : ∀ f : Nat, ∀ (I : jdI) (x2 : Int32) (w : Tw), WX I → Fr (fun a k => a = 25 ∨ (a = u1 ∧ 3 ≤ k ∧ k ≤ 5) ∨ (u1 + 1 ≤ a ∧ a ≤ u1 + 3)) I0 I → SX T m I → RX I u1 w → 1 ≤ x2.toInt → 4 * (x2.toInt - 1) ≤ (qx I).2.1 → m - (qx I).2.1 < 4 * (f : Int) → rd T m f w (qx I) x2.toInt = R → Jd G mX5_read (jdFm G (qi Z K)) (n + 7) rc rs 11 [(0, .ref (gb G + 25)), (1, .ref (gb G + u1)), (2, .int x2)] [] Z I J := by
  intro f
  induction f with
  | zero =>
    intro I x2 w hW hF hS hR h1 h2 h3 hr
    have hw := WX_f hW
    have hs := tkp_s hS.2.2 (by have := hS.2.1; omega)
    have h3 : m - (I 25 3).toInt < 4 * ((0 : Nat) : Int) := h3
    omega
  | succ f ih =>
    intro I x2 w hW hF hS hR h1 h2 h3 hr
    have hw := WX_f hW
    have hm := hS.2.1
    have hs := tkp_s hS.2.2 (by omega)
    have hf := tkp_f hS.2.2
    have q250 : (250 : Int32).toInt = 250 := rfl
    have q1 : (1 : Int32).toInt = 1 := rfl
    have q3 : (3 : Int32).toInt = 3 := rfl
    have q0 : (0 : Int32).toInt = 0 := rfl
    have h2 : 4 * (x2.toInt - 1) ≤ (I 25 3).toInt := h2
    have h3 : m - (I 25 3).toInt < 4 * ((f + 1 : Nat) : Int) := h3
    refine rX5_read_11 ht hu1 ⟨fun hc => by have := Int32.lt_iff_toInt_lt.mp hc; omega, fun _ => ?_⟩
    refine pX5_readStatement hG ht hu1 hus hW hS hR (fun v I1 hW1 hF1 hm1 ho => ?_)
    have hF' := Fr.tr hF hF1 (fun a k h => h)
    refine ⟨fun hv => ?_, fun hv => ?_⟩
    · have hv := i1 hv
      rcases ho with ⟨o1, o2, w2, o3, o4⟩ | ⟨o1, o2⟩
      · have mm := st_m o3 (by show 0 ≤ (I 25 4).toInt; omega) (by show (I 25 4).toInt ≤ m; omega)
        have mA : (I 25 3).toInt + 3 ≤ (I 25 4).toInt := mm.2
        have mB : (I 25 4).toInt ≤ (I1 25 4).toInt := mm.1.1
        have mC : (I1 25 4).toInt ≤ m := mm.1.2.1
        have mD : ¬ (I1 25 2).toInt = 0 → (I 25 4).toInt < (I1 25 4).toInt := mm.1.2.2
        rw [rd_y o3] at hr
        refine ⟨fun hz => ⟨fun hz3 => ?_, fun hz3 => ?_⟩, fun hz => ?_⟩
        · have e3 : (qx I1).1 = 3 := by
            show (I1 25 2).toInt = 3
            rw [hz3]
            rfl
          have mD := mD (by have : (I1 25 2).toInt = 3 := e3; omega)
          rw [rdB_3 e3] at hr
          refine pX5_advance ht hW1 o2 (fun I3 hW3 hF3 hS3 hq3 h53 => ?_)
          have e1 := i32_add x2 1 (by omega) (by omega)
          have hsA : (I1 25 4).toInt ≤ (qx I3).2.1 := by
            rw [hq3]
            exact adv_s (by show 0 ≤ (I1 25 4).toInt; omega) mC
          refine ih I3 (x2 + 1) w2 hW3 (Fr.tr hF' hF3 (by intro a k h; omega)) hS3 (RX_fr o4 hF3 (by intro a k h1 h2; omega)) (by omega) (by omega) (by omega) ?_
          rw [hq3, e1]
          exact hr
        · have e0 : ¬ (qx I1).1 = 0 := fun e => hz (Int32.toInt_inj.mp (show (I1 25 2).toInt = _ from e))
          have e3 : ¬ (qx I1).1 = 3 := fun e => hz3 (Int32.toInt_inj.mp (show (I1 25 2).toInt = _ from e))
          rw [rdB_x e0 e3] at hr
          refine fsfX5_fail ht hW1 (fun v9 I9 hW9 hF9 hp => ?_)
          refine hK (-1) I9 hW9 (Fr.tr hF' hF9 (by intro a k h; omega)) (Or.inr ⟨rfl, ?_⟩)
          rw [← hr, hp.2.1]
          rfl
        · have e0 : (qx I1).1 = 0 := by
            show (I1 25 2).toInt = 0
            rw [hz]
            rfl
          rw [rdB_0 e0] at hr
          exact hK x2 I1 hW1 hF' (Or.inl ⟨w2, hr.symm, o4, h1⟩)
      · omega
    · have hv := i0 hv
      rcases ho with ⟨o1, o2, w2, o3, o4⟩ | ⟨o1, o2⟩
      · omega
      · rw [rd_e o2] at hr
        exact hK (-1) I1 hW1 hF' (Or.inr ⟨rfl, hr.symm⟩)
theorem pX5_read {G : jdG} {n : Nat} {Z : jdL} {J : jdJ} {K : Int32 → jdI → jdJ → Prop} {I : jdI} {u1 : Nat} {T : Nat → Int32} {m : Int} {w : Tw} {sA sV : Nat → Nat} (hG : gOK G sA sV) (ht : zScribe Z 25) (hu1 : zTown Z u1) (hus : u1 = 1 ∨ u1 = 5 ∨ u1 = 9) (hW : WX I) (h1 : I (25 + 1) = T) (h2 : (I 25 1).toInt = m) (hw : RX I u1 w) (hK : ∀ (v : Int32) (I2 : jdI), WX I2 → Fr (fun a k => a = 25 ∨ (a = u1 ∧ 3 ≤ k ∧ k ≤ 5) ∨ (u1 + 1 ≤ a ∧ a ≤ u1 + 3)) I I2 → XRd (rd T m 63 w (adv T m 0) 1) u1 v I2 → K v I2 J) : Cl G mX5_read (n + 7) 0 0 [.ref (gb G + 25), .ref (gb G + u1)] Z I J (qi Z K) := by
  have hf := WX_f hW
  have q0 : (0 : Int32).toInt = 0 := rfl
  refine eX5_read ht hu1 ?_
  have w0 : WX (uI I 25 4 0) := WX_uI hW (by first | exact okXo (by decide) | (unfold okX; refine ⟨?_, ?_, ?_, ?_, ?_, ?_, ?_, ?_, ?_, ?_⟩ <;> intro h <;> omega))
  have f0 : Fr (fun a k => a = 25) I (uI I 25 4 0) := Fr_uI Fr.rf rfl
  have e1 : (uI I 25 4 0) (25 + 1) = T := by rw [uI_n _ _ _ (by omega)]; exact h1
  have e2 : ((uI I 25 4 0) 25 1).toInt = m := by rw [uI_ap, if_neg (by omega)]; exact h2
  have e4 : ((uI I 25 4 0) 25 4).toInt = 0 := by rw [uI_ap, if_pos ⟨rfl, rfl⟩]; rfl
  have r0 := RX_fr hw f0 (by intro a k h1 h2; omega)
  generalize (uI I 25 4 0) = I0 at w0 f0 e1 e2 e4 r0 ⊢
  refine fsfX5_advance ht w0 (by omega) (fun I2 hW2 hF2 hp => ?_)
  obtain ⟨p1, p2, p3⟩ := hp
  rw [e1, e2, e4] at p1
  have e5 : I2 (25 + 1) = T := by
    rw [← e1]
    funext k
    exact hF2 (25 + 1) k (by omega)
  have ea : qx I2 = adv T m 0 := (adv_eq (Int.le_refl _) p1).symm
  have hs : 0 ≤ (adv T m 0).2.1 := adv_s (Int.le_refl _) (by omega)
  refine pX5_read_11 hG ht hu1 hus hK 63 I2 1 w hW2 (Fr.tr (Fr.tr Fr.rf f0 (by intro a k h; omega)) hF2 (by intro a k h; omega)) ⟨e5, by omega, p1.2.2.1⟩ (RX_fr r0 hF2 (by intro a k h1 h2; omega)) (by decide) (by rw [ea]; exact hs) (by rw [ea]; omega) ?_
  rw [ea]
  rfl
theorem pX12_readAll_23 {G : jdG} {n rc rs : Nat} {Z : jdL} {J : jdJ} {K : Int32 → jdI → jdJ → Prop} {I0 : jdI} {t : Nat} {T : Nat → Int32} {m : Int} {R : Rd} {sA sV : Nat → Nat} (hG : gOK G sA sV) (ht : zModel Z t) (hK : ∀ (v : Int32) (I2 : jdI), WM 7 t I2 → Fr (fun a k => (a = t ∧ (k = 10 ∨ k = 14 ∨ k = 15 ∨ (22 ≤ k ∧ k ≤ 28))) ∨ a = t + 18 ∨ a = t + 19 ∨ (t + 21 ≤ a ∧ a ≤ t + 29)) I0 I2 → MRd R t v I2 → K v I2 J) : ∀ f : Nat, ∀ (I : jdI) (w : Tw) (c : Int), WM 7 t I → Fr (fun a k => (a = t ∧ (k = 10 ∨ k = 14 ∨ k = 15 ∨ (22 ≤ k ∧ k ≤ 28))) ∨ a = t + 18 ∨ a = t + 19 ∨ (t + 21 ≤ a ∧ a ≤ t + 29)) I0 I → SM T m I t → RM I t w → (I t 28).toInt = c → 0 ≤ c → c + f ≤ 1000 → (¬ (I t 23).toInt = 0 → m - (I t 22).toInt < 4 * (f : Int)) → rdB (rd T m f) T m w (qmo I t) c = R → Jd G mX12_readAll (jdFm G (qi Z K)) (n + 7) rc rs 23 [(0, .ref (gb G + t))] [] Z I J := by
  intro f
  induction f with
  | zero =>
    intro I w c hW hF hS hR h1 hc0 h2 h3 hr
    have hw := WM_f hW
    have hm := hS.2.1
    have hf := tkp_f hS.2.2.1
    refine rX12_readAll_23 ht ⟨fun hz => ?_, fun hz => ?_⟩
    · have e0 : (qmo I t).1 = 0 := by
        show (I t 23).toInt = 0
        rw [hz]
        rfl
      rw [rdB_0 e0, ← h1] at hr
      exact hK 1 I hW hF (Or.inl ⟨rfl, w, hr.symm, hR⟩)
    · have h3 := h3 (i1 hz)
      omega
  | succ f ih =>
    intro I w c hW hF hS hR h1 hc0 h2 h3 hr
    have hw := WM_f hW
    have hm := hS.2.1
    have hs := tkp_s hS.2.2.1 (by omega)
    have hf := tkp_f hS.2.2.1
    have hw1 := hR.1
    have q1 : (1 : Int32).toInt = 1 := rfl
    have q3 : (3 : Int32).toInt = 3 := rfl
    have q0 : (0 : Int32).toInt = 0 := rfl
    refine rX12_readAll_23 ht ⟨fun hz => ?_, fun hz => ⟨fun hz3 => ?_, fun hz3 => ?_⟩⟩
    · have e0 : (qmo I t).1 = 0 := by
        show (I t 23).toInt = 0
        rw [hz]
        rfl
      rw [rdB_0 e0, ← h1] at hr
      exact hK 1 I hW hF (Or.inl ⟨rfl, w, hr.symm, hR⟩)
    · have e3 : (qmo I t).1 = 3 := by
        show (I t 23).toInt = 3
        rw [hz3]
        rfl
      have h3 := h3 (i1 hz)
      rw [rdB_3 e3] at hr
      refine pX12_look ht hW hS.1 hm hf.1 (fun I1 hW1 hF1 hS1 hq1 => ?_)
      have hR1 := RM_fr hR (by omega) hF1 (by omega) (by omega) (by omega) (by intro a k h1 h2 h3; omega)
      have hF1' : Fr (fun a k => (a = t ∧ (k = 10 ∨ k = 14 ∨ k = 15 ∨ (22 ≤ k ∧ k ≤ 28))) ∨ a = t + 18 ∨ a = t + 19 ∨ (t + 21 ≤ a ∧ a ≤ t + 29)) I0 I1 := Fr.tr hF hF1 (by intro a k h; omega)
      have hsA : (I t 22).toInt ≤ (qmo I1 t).2.1 := by
        rw [hq1]
        exact adv_s (by omega) hf.1
      have hsA : (I t 22).toInt ≤ (I1 t 24).toInt := hsA
      have hw2 := WM_f hW1
      have hf1 := tkp_f hS1.2.2.1
      have e28 := congrArg Int32.toInt (hF1 t 28 (by omega))
      have hr : rd T m (f + 1) w (qmo I1 t) (c + 1) = R := by rw [hq1]; exact hr
      refine pX12_statement hG ht hW1 hS1 hR1 (fun v I3 hW3 hF3 ho => ?_)
      have hF3' : Fr (fun a k => (a = t ∧ (k = 10 ∨ k = 14 ∨ k = 15 ∨ (22 ≤ k ∧ k ≤ 28))) ∨ a = t + 18 ∨ a = t + 19 ∨ (t + 21 ≤ a ∧ a ≤ t + 29)) I0 I3 := Fr.tr hF1' hF3 (by intro a k h; omega)
      have e28b := congrArg Int32.toInt (hF3 t 28 (by omega))
      refine ⟨fun hv => ?_, fun hv => ?_⟩
      · have hv := i1 hv
        rcases ho with ⟨o1, o2, w2, o3, o4⟩ | ⟨o1, o2⟩
        · have mm := st_m o3 (by show 0 ≤ (I1 t 22).toInt; omega) (by show (I1 t 22).toInt ≤ m; omega)
          have mA : (I1 t 24).toInt + 3 ≤ (I1 t 22).toInt := mm.2
          have mC : (I3 t 22).toInt ≤ m := mm.1.2.1
          have mD : ¬ (I3 t 23).toInt = 0 → (I1 t 22).toInt < (I3 t 22).toInt := mm.1.2.2
          rw [rd_y o3] at hr
          have f0 : Fr (fun a k => a = t ∧ k = 28) I3 (uI I3 t 28 ((I3 t 28) + 1)) := Fr_uI Fr.rf ⟨rfl, rfl⟩
          have ad := i32_add (I3 t 28) 1 (by omega) (by omega)
          have w3 := o4.1
          have hw4 := WM_f hW3
          obtain ⟨g1, g2⟩ := SM_fr o2 f0 (by omega) (by intro k h1 h2; omega) (by intro k; omega)
          refine ih _ w2 (c + 1) (WM_uI hW3 (by first | exact okMo (by decide) (by decide) (by decide) (by decide) (by decide) | exact okMf (by decide) (by decide) (by decide) (by decide) (by decide) (by decide) (by decide) (by decide) | exact okM30 (by omega) | exact okM42 (by omega) | exact okM33 (by omega) | exact okM10 (by omega) | exact okM8 (by omega) | exact okM22 (by omega) | exact okM24 (by omega) | exact okM14 (by omega) | exact okMa31 (by omega) | exact okMa35 (by omega) | exact okMa36 (by omega) | exact okMa3 (by omega) | exact okMr (by omega) | (unfold okM; refine ⟨?_, ?_, ?_, ?_, ?_, ?_, ?_, ?_, ?_, ?_, ?_, ?_⟩ <;> intro h <;> omega))) (Fr.tr hF3' f0 (by intro a k h; omega)) g1 (RM_fr o4 (by omega) f0 (by omega) (by omega) (by omega) (by intro a k h1 h2 h3; omega)) (by rw [uI_ap, if_pos ⟨rfl, rfl⟩]; omega) (by omega) (by omega) (fun hn => ?_) ?_
          · rw [f0 t 23 (by omega)] at hn
            rw [f0 t 22 (by omega)]
            have mD := mD hn
            omega
          · rw [g2]
            exact hr
        · omega
      · have hv := i0 hv
        rcases ho with ⟨o1, o2, w2, o3, o4⟩ | ⟨o1, o2⟩
        · omega
        · rw [rd_e o2] at hr
          exact hK 0 I3 hW3 hF3' (Or.inr ⟨rfl, hr.symm⟩)
    · have e0 : ¬ (qmo I t).1 = 0 := i1 hz
      have e3 : ¬ (qmo I t).1 = 3 := fun e => hz3 (Int32.toInt_inj.mp (show (I t 23).toInt = _ from e))
      rw [rdB_x e0 e3] at hr
      refine fsfX12_wrong ht hW (fun v9 I9 hW9 hF9 hp => ⟨narrow_b (Or.inl hp.1), ?_⟩)
      refine hK v9 I9 hW9 (Fr.tr hF hF9 (by intro a k h; omega)) (Or.inr ⟨hp.1, ?_⟩)
      rw [← hr, hp.2]
      rfl
theorem pX12_readAll {G : jdG} {n : Nat} {Z : jdL} {J : jdJ} {K : Int32 → jdI → jdJ → Prop} {I : jdI} {t : Nat} {T : Nat → Int32} {m : Int} {w : Tw} {sA sV : Nat → Nat} (hG : gOK G sA sV) (ht : zModel Z t) (hW : WM 7 t I) (h1 : I (t + 16) = T) (h2 : (I t 8).toInt = m) (hw : RM I t w) (hK : ∀ (v : Int32) (I2 : jdI), WM 7 t I2 → Fr (fun a k => (a = t ∧ (k = 10 ∨ k = 14 ∨ k = 15 ∨ (22 ≤ k ∧ k ≤ 28))) ∨ a = t + 18 ∨ a = t + 19 ∨ (t + 21 ≤ a ∧ a ≤ t + 29)) I I2 → MRd (rd T m 63 w (adv T m 0) 1) t v I2 → K v I2 J) : Cl G mX12_readAll (n + 7) 0 0 [.ref (gb G + t)] Z I J (qi Z K) := by
  have hf := WM_f hW
  have hw1 := hw.1
  have q0 : (0 : Int32).toInt = 0 := rfl
  have q1 : (1 : Int32).toInt = 1 := rfl
  refine eX12_readAll ht ?_
  have w0 : WM 7 t (uI I t 28 1) := WM_uI hW (by first | exact okMo (by decide) (by decide) (by decide) (by decide) (by decide) | exact okMf (by decide) (by decide) (by decide) (by decide) (by decide) (by decide) (by decide) (by decide) | exact okM30 (by omega) | exact okM42 (by omega) | exact okM33 (by omega) | exact okM10 (by omega) | exact okM8 (by omega) | exact okM22 (by omega) | exact okM24 (by omega) | exact okM14 (by omega) | exact okMa31 (by omega) | exact okMa35 (by omega) | exact okMa36 (by omega) | exact okMa3 (by omega) | exact okMr (by omega) | (unfold okM; refine ⟨?_, ?_, ?_, ?_, ?_, ?_, ?_, ?_, ?_, ?_, ?_, ?_⟩ <;> intro h <;> omega))
  have w1 : WM 7 t (uI (uI I t 28 1) t 22 0) := WM_uI w0 (by first | exact okMo (by decide) (by decide) (by decide) (by decide) (by decide) | exact okMf (by decide) (by decide) (by decide) (by decide) (by decide) (by decide) (by decide) (by decide) | exact okM30 (by omega) | exact okM42 (by omega) | exact okM33 (by omega) | exact okM10 (by omega) | exact okM8 (by omega) | exact okM22 (by omega) | exact okM24 (by omega) | exact okM14 (by omega) | exact okMa31 (by omega) | exact okMa35 (by omega) | exact okMa36 (by omega) | exact okMa3 (by omega) | exact okMr (by omega) | (unfold okM; refine ⟨?_, ?_, ?_, ?_, ?_, ?_, ?_, ?_, ?_, ?_, ?_, ?_⟩ <;> intro h <;> omega))
  have f0 : Fr (fun a k => a = t ∧ (k = 28 ∨ k = 22)) I (uI (uI I t 28 1) t 22 0) := Fr_uI (Fr_uI Fr.rf (by omega)) (by omega)
  have e1 : (uI (uI I t 28 1) t 22 0) (t + 16) = T := by rw [uI_n _ _ _ (by omega), uI_n _ _ _ (by omega)]; exact h1
  have e2 : ((uI (uI I t 28 1) t 22 0) t 8).toInt = m := by rw [f0 t 8 (by omega)]; exact h2
  have e4 : ((uI (uI I t 28 1) t 22 0) t 22).toInt = 0 := by rw [uI_ap, if_pos ⟨rfl, rfl⟩]; rfl
  have e8 : ((uI (uI I t 28 1) t 22 0) t 28).toInt = 1 := by rw [uI_ap, if_neg (by omega), uI_ap, if_pos ⟨rfl, rfl⟩]; rfl
  have r0 := RM_fr hw (by omega) f0 (by omega) (by omega) (by omega) (by intro a k h1 h2 h3; omega)
  generalize (uI (uI I t 28 1) t 22 0) = I0 at w1 f0 e1 e2 e4 e8 r0 ⊢
  refine pX12_look ht w1 e1 e2 (by omega) (fun I1 hW1 hF1 hS1 hq1 => ?_)
  rw [e4] at hq1
  have r1 := RM_fr r0 (by omega) hF1 (by omega) (by omega) (by omega) (by intro a k h1 h2 h3; omega)
  have hF1' : Fr (fun a k => (a = t ∧ (k = 10 ∨ k = 14 ∨ k = 15 ∨ (22 ≤ k ∧ k ≤ 28))) ∨ a = t + 18 ∨ a = t + 19 ∨ (t + 21 ≤ a ∧ a ≤ t + 29)) I I1 := Fr.tr (Fr.tr Fr.rf f0 (by intro a k h; omega)) hF1 (by intro a k h; omega)
  have hs := tkp_s hS1.2.2.1 (by omega)
  have hf1 := tkp_f hS1.2.2.1
  have hw2 := WM_f hW1
  refine pX12_statement hG ht hW1 hS1 r1 (fun v I3 hW3 hF3 ho => ?_)
  have hF3' : Fr (fun a k => (a = t ∧ (k = 10 ∨ k = 14 ∨ k = 15 ∨ (22 ≤ k ∧ k ≤ 28))) ∨ a = t + 18 ∨ a = t + 19 ∨ (t + 21 ≤ a ∧ a ≤ t + 29)) I I3 := Fr.tr hF1' hF3 (by intro a k h; omega)
  rw [hq1] at ho
  have e28 := congrArg Int32.toInt (hF1 t 28 (by omega))
  have e28b := congrArg Int32.toInt (hF3 t 28 (by omega))
  refine ⟨fun hv => ?_, fun hv => ?_⟩
  · have hv := i1 hv
    rcases ho with ⟨o1, o2, w2, o3, o4⟩ | ⟨o1, o2⟩
    · have mm := st_m o3 (by rw [← hq1]; show 0 ≤ (I1 t 22).toInt; omega) (by rw [← hq1]; show (I1 t 22).toInt ≤ m; omega)
      rw [← hq1] at mm
      have mA : (I1 t 24).toInt + 3 ≤ (I1 t 22).toInt := mm.2
      have mD : ¬ (I3 t 23).toInt = 0 → (I1 t 22).toInt < (I3 t 22).toInt := mm.1.2.2
      refine pX12_readAll_23 hG ht hK 62 I3 w2 1 hW3 hF3' o2 o4 (by omega) (by omega) (by omega) (fun hn => ?_) (rd_y o3).symm
      have mD := mD hn
      omega
    · omega
  · have hv := i0 hv
    rcases ho with ⟨o1, o2, w2, o3, o4⟩ | ⟨o1, o2⟩
    · omega
    · exact hK 0 I3 hW3 hF3' (Or.inr ⟨rfl, rd_e o2⟩)
theorem cI_ap (I : jdI) (a b sp dp k c j : Nat) : cI I a b sp dp k c j = if c = b then va_cpy (I a) (I b) sp dp k j else I c j := by
  show (if c = b then va_cpy (I a) (I b) sp dp k else I c) j = _
  by_cases h : c = b
  · rw [if_pos h, if_pos h]
  · rw [if_neg h, if_neg h]
theorem cpy_0 (f g : Nat → Int32) (k j : Nat) (h : j < k) : va_cpy f g 0 0 k j = f j := by
  unfold va_cpy
  rw [if_pos ⟨Nat.zero_le _, by omega⟩, Nat.zero_add, Nat.sub_zero]
/-- the town at t has become that at u1, its fields below k -/
def CT (I0 I : jdI) (t u1 k : Nat) : Prop := (∀ j, 3 ≤ j → j < k → I t j = I0 u1 j) ∧ (∀ i, i < 7 → I (t + 1) i = I0 (u1 + 1) i ∧ I (t + 2) i = I0 (u1 + 2) i) ∧ ∀ i, i < 49 → I (t + 3) i = I0 (u1 + 3) i
theorem CT_s {I0 I : jdI} {t u1 k : Nat} (h : CT I0 I t u1 k) (e : I u1 k = I0 u1 k) : CT I0 (uI I t k (I u1 k)) t u1 (k + 1) := by
  refine ⟨fun j h1 h2 => ?_, fun i hi => ?_, fun i hi => ?_⟩
  · rw [uI_ap]
    by_cases c : j = k
    · subst c
      rw [if_pos ⟨rfl, rfl⟩]
      exact e
    · rw [if_neg (fun q => c q.2)]
      exact h.1 j h1 (by omega)
  · rw [uI_n _ _ _ (by omega), uI_n _ _ _ (by omega)]
    exact h.2.1 i hi
  · rw [uI_n _ _ _ (by omega)]
    exact h.2.2 i hi
theorem CT_0 (I : jdI) {t u1 : Nat} (hd : t + 3 < u1 ∨ u1 + 3 < t) : CT I (cI (cI (cI I (u1 + 1) (t + 1) 0 0 7) (u1 + 2) (t + 2) 0 0 7) (u1 + 3) (t + 3) 0 0 49) t u1 3 := by
  refine ⟨fun j h1 h2 => by omega, fun i hi => ⟨?_, ?_⟩, fun i hi => ?_⟩
  · rw [cI_ap, if_neg (by omega), cI_ap, if_neg (by omega), cI_ap, if_pos rfl, cpy_0 _ _ _ _ hi]
  · rw [cI_ap, if_neg (by omega), cI_ap, if_pos rfl, cpy_0 _ _ _ _ hi, cI_ap, if_neg (by omega)]
  · rw [cI_ap, if_pos rfl, cpy_0 _ _ _ _ hi, cI_ap, if_neg (by omega), cI_ap, if_neg (by omega)]
theorem RX_ct {I0 I : jdI} {t u1 : Nat} {w : Tw} (h : RX I0 u1 w) (hp : w.1 ≤ 7) (c : CT I0 I t u1 10) : RX I t w := by
  obtain ⟨w1, w2, w3, w4, w5⟩ := h
  refine ⟨by rw [c.1 3 (by omega) (by omega)]; exact w1, fun i hi => ?_, by rw [c.1 4 (by omega) (by omega)]; exact w3, by rw [c.1 5 (by omega) (by omega)]; exact w4, fun i j hi hj hne => ?_⟩
  · rw [(c.2.1 i (by omega)).1, (c.2.1 i (by omega)).2]
    exact w2 i hi
  · rw [c.2.2 _ (by omega)]
    exact w5 i j hi hj hne
theorem pX9_become {G : jdG} {n : Nat} {Z : jdL} {J : jdJ} {K : jdI → jdJ → Prop} {I : jdI} {t u1 : Nat} (ht : zTown Z t) (hu1 : zTown Z u1) (hts : (t = 1 ∨ t = 5 ∨ t = 9)) (hu1s : (u1 = 1 ∨ u1 = 5 ∨ u1 = 9)) (hne : ¬ t = u1) (hW : WX I) (hK : ∀ (I2 : jdI), WX I2 → Fr (fun a _ => t ≤ a ∧ a ≤ t + 3) I I2 → CT I I2 t u1 10 → K I2 J) : Cl G mX9_become (n + 1) 0 0 [.ref (gb G + t), .ref (gb G + u1)] Z I J (qv Z K) := by
  refine eX9_become ht hu1 ?_
  have hd : t + 3 < u1 ∨ u1 + 3 < t := by omega
  have hC := CT_0 I hd
  have hW0 : WX (cI I (u1 + 1) (t + 1) 0 0 7) := WX_cI hW (by omega)
  have hF0 : Fr (fun a _ => t ≤ a ∧ a ≤ t + 3) I (cI I (u1 + 1) (t + 1) 0 0 7) := Fr_cI Fr.rf (by intro k; omega)
  have hW1 : WX (cI (cI I (u1 + 1) (t + 1) 0 0 7) (u1 + 2) (t + 2) 0 0 7) := WX_cI hW0 (by omega)
  have hF1 : Fr (fun a _ => t ≤ a ∧ a ≤ t + 3) I (cI (cI I (u1 + 1) (t + 1) 0 0 7) (u1 + 2) (t + 2) 0 0 7) := Fr_cI hF0 (by intro k; omega)
  have hW2 : WX (cI (cI (cI I (u1 + 1) (t + 1) 0 0 7) (u1 + 2) (t + 2) 0 0 7) (u1 + 3) (t + 3) 0 0 49) := WX_cI hW1 (by omega)
  have hF2 : Fr (fun a _ => t ≤ a ∧ a ≤ t + 3) I (cI (cI (cI I (u1 + 1) (t + 1) 0 0 7) (u1 + 2) (t + 2) 0 0 7) (u1 + 3) (t + 3) 0 0 49) := Fr_cI hF1 (by intro k; omega)
  generalize (cI (cI (cI I (u1 + 1) (t + 1) 0 0 7) (u1 + 2) (t + 2) 0 0 7) (u1 + 3) (t + 3) 0 0 49) = I2 at hW2 hF2 hC ⊢
  have hp3 := WX_town hW2 hu1s
  have hW3 : WX (uI I2 t 3 (I2 u1 3)) := WX_uI hW2 (by first | exact okXo (by decide) | (unfold okX; refine ⟨?_, ?_, ?_, ?_, ?_, ?_, ?_, ?_, ?_, ?_⟩ <;> intro h <;> omega))
  have hC := CT_s hC (hF2 u1 3 (by omega))
  have hF3 : Fr (fun a _ => t ≤ a ∧ a ≤ t + 3) I (uI I2 t 3 (I2 u1 3)) := Fr_uI hF2 (by omega)
  generalize (uI I2 t 3 (I2 u1 3)) = I3 at hW3 hF3 hC ⊢
  have hp4 := WX_town hW3 hu1s
  have hW4 : WX (uI I3 t 4 (I3 u1 4)) := WX_uI hW3 (by first | exact okXo (by decide) | (unfold okX; refine ⟨?_, ?_, ?_, ?_, ?_, ?_, ?_, ?_, ?_, ?_⟩ <;> intro h <;> omega))
  have hC := CT_s hC (hF3 u1 4 (by omega))
  have hF4 : Fr (fun a _ => t ≤ a ∧ a ≤ t + 3) I (uI I3 t 4 (I3 u1 4)) := Fr_uI hF3 (by omega)
  generalize (uI I3 t 4 (I3 u1 4)) = I4 at hW4 hF4 hC ⊢
  have hp5 := WX_town hW4 hu1s
  have hW5 : WX (uI I4 t 5 (I4 u1 5)) := WX_uI hW4 (by first | exact okXo (by decide) | (unfold okX; refine ⟨?_, ?_, ?_, ?_, ?_, ?_, ?_, ?_, ?_, ?_⟩ <;> intro h <;> omega))
  have hC := CT_s hC (hF4 u1 5 (by omega))
  have hF5 : Fr (fun a _ => t ≤ a ∧ a ≤ t + 3) I (uI I4 t 5 (I4 u1 5)) := Fr_uI hF4 (by omega)
  generalize (uI I4 t 5 (I4 u1 5)) = I5 at hW5 hF5 hC ⊢
  have hp6 := WX_town hW5 hu1s
  have hW6 : WX (uI I5 t 6 (I5 u1 6)) := WX_uI hW5 (by first | exact okXo (by decide) | (unfold okX; refine ⟨?_, ?_, ?_, ?_, ?_, ?_, ?_, ?_, ?_, ?_⟩ <;> intro h <;> omega))
  have hC := CT_s hC (hF5 u1 6 (by omega))
  have hF6 : Fr (fun a _ => t ≤ a ∧ a ≤ t + 3) I (uI I5 t 6 (I5 u1 6)) := Fr_uI hF5 (by omega)
  generalize (uI I5 t 6 (I5 u1 6)) = I6 at hW6 hF6 hC ⊢
  have hp7 := WX_town hW6 hu1s
  have hW7 : WX (uI I6 t 7 (I6 u1 7)) := WX_uI hW6 (by first | exact okXo (by decide) | (unfold okX; refine ⟨?_, ?_, ?_, ?_, ?_, ?_, ?_, ?_, ?_, ?_⟩ <;> intro h <;> omega))
  have hC := CT_s hC (hF6 u1 7 (by omega))
  have hF7 : Fr (fun a _ => t ≤ a ∧ a ≤ t + 3) I (uI I6 t 7 (I6 u1 7)) := Fr_uI hF6 (by omega)
  generalize (uI I6 t 7 (I6 u1 7)) = I7 at hW7 hF7 hC ⊢
  have hp8 := WX_town hW7 hu1s
  have hW8 : WX (uI I7 t 8 (I7 u1 8)) := WX_uI hW7 (by first | exact okXo (by decide) | (unfold okX; refine ⟨?_, ?_, ?_, ?_, ?_, ?_, ?_, ?_, ?_, ?_⟩ <;> intro h <;> omega))
  have hC := CT_s hC (hF7 u1 8 (by omega))
  have hF8 : Fr (fun a _ => t ≤ a ∧ a ≤ t + 3) I (uI I7 t 8 (I7 u1 8)) := Fr_uI hF7 (by omega)
  generalize (uI I7 t 8 (I7 u1 8)) = I8 at hW8 hF8 hC ⊢
  have hp9 := WX_town hW8 hu1s
  have hW9 : WX (uI I8 t 9 (I8 u1 9)) := WX_uI hW8 (by first | exact okXo (by decide) | (unfold okX; refine ⟨?_, ?_, ?_, ?_, ?_, ?_, ?_, ?_, ?_, ?_⟩ <;> intro h <;> omega))
  have hC := CT_s hC (hF8 u1 9 (by omega))
  have hF9 : Fr (fun a _ => t ≤ a ∧ a ≤ t + 3) I (uI I8 t 9 (I8 u1 9)) := Fr_uI hF8 (by omega)
  generalize (uI I8 t 9 (I8 u1 9)) = I9 at hW9 hF9 hC ⊢
  exact hK _ hW9 hF9 hC
theorem pX12_over_2 {G : jdG} {n rc rs : Nat} {Z : jdL} {J : jdJ} {K : jdI → jdJ → Prop} {I0 : jdI} {u0 n0 u1 n1 : Nat} (hu0 : Z.1 u0 = some (0, n0)) (hu1 : Z.1 u1 = some (0, n1)) (hn : n0 ≤ n1 ∧ n0 ≤ 1000) (hne : ¬ u0 = u1) (hK : ∀ (I2 : jdI), Fr (fun a _ => a = u1) I0 I2 → (∀ k, k < n0 → I2 u1 k = I0 u0 k) → K I2 J) : ∀ m : Nat, ∀ (I : jdI) (x2 : Int32), Fr (fun a _ => a = u1) I0 I → (∀ k : Nat, (k : Int) < x2.toInt → I u1 k = I0 u0 k) → (0 ≤ x2.toInt ∧ x2.toInt ≤ (n0 : Int)) → ((n0 : Int)) - x2.toInt < (m : Int) → Jd G mX12_over (jdFm G (qv Z K)) n rc rs 2 [(0, .ref (gb G + u0)), (1, .ref (gb G + u1)), (2, .int x2)] [] Z I J := by
  intro m
  induction m with
  | zero =>
    intro I x2 hF hc hx hm
    omega
  | succ m ih =>
    intro I x2 hF hc hx hm
    have q1 : (1 : Int32).toInt = 1 := rfl
    have qn : (Int32.ofNat n0).toInt = (n0 : Int) := nI_toInt (by omega)
    have e1 := i32_add x2 1 (by omega) (by omega)
    have n2 := tn_eq x2
    refine rX12_over_2 hu0 hu1 ⟨fun h => ?_, fun h => ?_⟩
    · have h := Int32.le_iff_toInt_le.mp h
      exact hK I hF (fun k hk => hc k (by omega))
    · have h := mt Int32.le_iff_toInt_le.mpr h
      refine ⟨vp_of (by omega) (by omega), vp_of (by omega) (by omega), ih _ (x2 + 1) (Fr_uI hF rfl) (fun k hk => ?_) (by omega) (by omega)⟩
      rw [uI_ap]
      by_cases c : k = Int32.toNatClampNeg x2
      · rw [if_pos ⟨rfl, c⟩, c]
        exact hF u0 _ hne
      · rw [if_neg (fun q => c q.2)]
        exact hc k (by omega)
theorem pX12_over {G : jdG} {n : Nat} {Z : jdL} {J : jdJ} {K : jdI → jdJ → Prop} {I : jdI} {u0 n0 u1 n1 : Nat} (hu0 : Z.1 u0 = some (0, n0)) (hu1 : Z.1 u1 = some (0, n1)) (hn : n0 ≤ n1 ∧ n0 ≤ 1000) (hne : ¬ u0 = u1) (hK : ∀ (I2 : jdI), Fr (fun a _ => a = u1) I I2 → (∀ k, k < n0 → I2 u1 k = I u0 k) → K I2 J) : Cl G mX12_over n 0 0 [.ref (gb G + u0), .ref (gb G + u1)] Z I J (qv Z K) :=
  eX12_over hu0 hu1 (pX12_over_2 hu0 hu1 hn hne hK (n0 + 1) I 0 Fr.rf (fun k hk => by have z : (0 : Int32).toInt = 0 := rfl; omega) ⟨by decide, by show (0 : Int) ≤ _; omega⟩ (by show (n0 : Int) - 0 < _; omega))
/-- the model at t has taken what is at u1: its fields below k, its first p rows -/
def CM (I0 I : jdI) (t u1 k p : Nat) : Prop := I t 10 = I0 u1 10 ∧ (∀ i, i < 8 → I (t + 18) i = I0 (u1 + 18) i ∧ I (t + 19) i = I0 (u1 + 19) i) ∧ (∀ q, q < p → ∀ i, i < 8 → I (t + 21 + q) i = I0 (u1 + 21 + q) i) ∧ ∀ j, 14 ≤ j → j < k → I t j = I0 u1 j
theorem CM_s {I0 I : jdI} {t u1 k : Nat} (h : CM I0 I t u1 k 8) (hk : 14 ≤ k) (e : I u1 k = I0 u1 k) : CM I0 (uI I t k (I u1 k)) t u1 (k + 1) 8 := by
  refine ⟨?_, fun i hi => ?_, fun q hq i hi => ?_, fun j h1 h2 => ?_⟩
  · rw [uI_ap, if_neg (by omega)]
    exact h.1
  · rw [uI_n _ _ _ (by omega), uI_n _ _ _ (by omega)]
    exact h.2.1 i hi
  · rw [uI_n _ _ _ (by omega)]
    exact h.2.2.1 q hq i hi
  · rw [uI_ap]
    by_cases c : j = k
    · subst c
      rw [if_pos ⟨rfl, rfl⟩]
      exact e
    · rw [if_neg (fun q => c q.2)]
      exact h.2.2.2 j h1 (by omega)
theorem RM_cm {I0 I : jdI} {t u1 : Nat} {w : Tw} (h : RM I0 u1 w) (hp : w.1 ≤ 8) (c : CM I0 I t u1 20 8) : RM I t w := by
  obtain ⟨w1, w2, w3, w4, w5⟩ := h
  refine ⟨by rw [c.1]; exact w1, fun i hi => ?_, by rw [c.2.2.2 14 (by omega) (by omega)]; exact w3, by rw [c.2.2.2 15 (by omega) (by omega)]; exact w4, fun i j hi hj hne => ?_⟩
  · rw [(c.2.1 i (by omega)).1, (c.2.1 i (by omega)).2]
    exact w2 i hi
  · rw [c.2.2.1 i (by omega) j (by omega)]
    exact w5 i j hi hj hne
theorem pX12_takeFrom_32 {G : jdG} {n rc rs : Nat} {Z : jdL} {J : jdJ} {K : jdI → jdJ → Prop} {I0 : jdI} {t u1 : Nat} (ht : zModel Z t) (hu1 : zModel Z u1) (hd : t + 37 < u1 ∨ u1 + 37 < t) (hK : ∀ I2 : jdI, WM 7 t I2 → Fr (fun a k => (a = t ∧ 10 ≤ k ∧ k ≤ 19) ∨ a = t + 18 ∨ a = t + 19 ∨ (t + 21 ≤ a ∧ a ≤ t + 28)) I0 I2 → CM I0 I2 t u1 20 8 → K I2 J) : ∀ m : Nat, ∀ (I : jdI) (x2 : Int32), WM 7 t I → WM 7 u1 I → Fr (fun a k => (a = t ∧ 10 ≤ k ∧ k ≤ 19) ∨ a = t + 18 ∨ a = t + 19 ∨ (t + 21 ≤ a ∧ a ≤ t + 28)) I0 I → CM I0 I t u1 14 x2.toInt.toNat → 0 ≤ x2.toInt ∧ x2.toInt ≤ 8 → 8 - x2.toInt < (m : Int) → Jd G mX12_takeFrom (jdFm G (qv Z K)) (n + 1) rc rs 32 [(0, .ref (gb G + t)), (1, .ref (gb G + u1)), (2, .int x2)] [] Z I J := by
  intro m
  induction m with
  | zero =>
    intro I x2 hW hU hF hC hx hm
    omega
  | succ m ih =>
    intro I x2 hW hU hF hC hx hm
    have q7 : (7 : Int32).toInt = 7 := rfl
    have q1 : (1 : Int32).toInt = 1 := rfl
    refine rX12_takeFrom_32 ht hu1 ?_
    refine ⟨fun hc => ?_, fun hc => ?_⟩
    · have hc := Int32.lt_iff_toInt_lt.mp hc
      have hC : CM I0 I t u1 14 8 := by
        rw [show x2.toInt.toNat = 8 by omega] at hC
        exact hC
      have hf14 := WM_f hU
      have hW14 : WM 7 t (uI I t 14 (I u1 14)) := WM_uI hW (by first | exact okMo (by decide) (by decide) (by decide) (by decide) (by decide) | exact okMf (by decide) (by decide) (by decide) (by decide) (by decide) (by decide) (by decide) (by decide) | exact okM30 (by omega) | exact okM42 (by omega) | exact okM33 (by omega) | exact okM10 (by omega) | exact okM8 (by omega) | exact okM22 (by omega) | exact okM24 (by omega) | exact okM14 (by omega) | exact okMa31 (by omega) | exact okMa35 (by omega) | exact okMa36 (by omega) | exact okMa3 (by omega) | exact okMr (by omega) | (unfold okM; refine ⟨?_, ?_, ?_, ?_, ?_, ?_, ?_, ?_, ?_, ?_, ?_, ?_⟩ <;> intro h <;> omega))
      have hU14 : WM 7 u1 (uI I t 14 (I u1 14)) := WM_uI hU (by first | exact okMo (by decide) (by decide) (by decide) (by decide) (by decide) | exact okMf (by decide) (by decide) (by decide) (by decide) (by decide) (by decide) (by decide) (by decide) | exact okM30 (by omega) | exact okM42 (by omega) | exact okM33 (by omega) | exact okM10 (by omega) | exact okM8 (by omega) | exact okM22 (by omega) | exact okM24 (by omega) | exact okM14 (by omega) | exact okMa31 (by omega) | exact okMa35 (by omega) | exact okMa36 (by omega) | exact okMa3 (by omega) | exact okMr (by omega) | (unfold okM; refine ⟨?_, ?_, ?_, ?_, ?_, ?_, ?_, ?_, ?_, ?_, ?_, ?_⟩ <;> intro h <;> omega))
      have hC := CM_s hC (by decide) (hF u1 14 (by omega))
      have hF14 : Fr (fun a k => (a = t ∧ 10 ≤ k ∧ k ≤ 19) ∨ a = t + 18 ∨ a = t + 19 ∨ (t + 21 ≤ a ∧ a ≤ t + 28)) I0 (uI I t 14 (I u1 14)) := Fr_uI hF (by omega)
      generalize (uI I t 14 (I u1 14)) = I14 at hW14 hU14 hF14 hC ⊢
      have hf15 := WM_f hU14
      have hW15 : WM 7 t (uI I14 t 15 (I14 u1 15)) := WM_uI hW14 (by first | exact okMo (by decide) (by decide) (by decide) (by decide) (by decide) | exact okMf (by decide) (by decide) (by decide) (by decide) (by decide) (by decide) (by decide) (by decide) | exact okM30 (by omega) | exact okM42 (by omega) | exact okM33 (by omega) | exact okM10 (by omega) | exact okM8 (by omega) | exact okM22 (by omega) | exact okM24 (by omega) | exact okM14 (by omega) | exact okMa31 (by omega) | exact okMa35 (by omega) | exact okMa36 (by omega) | exact okMa3 (by omega) | exact okMr (by omega) | (unfold okM; refine ⟨?_, ?_, ?_, ?_, ?_, ?_, ?_, ?_, ?_, ?_, ?_, ?_⟩ <;> intro h <;> omega))
      have hU15 : WM 7 u1 (uI I14 t 15 (I14 u1 15)) := WM_uI hU14 (by first | exact okMo (by decide) (by decide) (by decide) (by decide) (by decide) | exact okMf (by decide) (by decide) (by decide) (by decide) (by decide) (by decide) (by decide) (by decide) | exact okM30 (by omega) | exact okM42 (by omega) | exact okM33 (by omega) | exact okM10 (by omega) | exact okM8 (by omega) | exact okM22 (by omega) | exact okM24 (by omega) | exact okM14 (by omega) | exact okMa31 (by omega) | exact okMa35 (by omega) | exact okMa36 (by omega) | exact okMa3 (by omega) | exact okMr (by omega) | (unfold okM; refine ⟨?_, ?_, ?_, ?_, ?_, ?_, ?_, ?_, ?_, ?_, ?_, ?_⟩ <;> intro h <;> omega))
      have hC := CM_s hC (by decide) (hF14 u1 15 (by omega))
      have hF15 : Fr (fun a k => (a = t ∧ 10 ≤ k ∧ k ≤ 19) ∨ a = t + 18 ∨ a = t + 19 ∨ (t + 21 ≤ a ∧ a ≤ t + 28)) I0 (uI I14 t 15 (I14 u1 15)) := Fr_uI hF14 (by omega)
      generalize (uI I14 t 15 (I14 u1 15)) = I15 at hW15 hU15 hF15 hC ⊢
      have hf16 := WM_f hU15
      have hW16 : WM 7 t (uI I15 t 16 (I15 u1 16)) := WM_uI hW15 (by first | exact okMo (by decide) (by decide) (by decide) (by decide) (by decide) | exact okMf (by decide) (by decide) (by decide) (by decide) (by decide) (by decide) (by decide) (by decide) | exact okM30 (by omega) | exact okM42 (by omega) | exact okM33 (by omega) | exact okM10 (by omega) | exact okM8 (by omega) | exact okM22 (by omega) | exact okM24 (by omega) | exact okM14 (by omega) | exact okMa31 (by omega) | exact okMa35 (by omega) | exact okMa36 (by omega) | exact okMa3 (by omega) | exact okMr (by omega) | (unfold okM; refine ⟨?_, ?_, ?_, ?_, ?_, ?_, ?_, ?_, ?_, ?_, ?_, ?_⟩ <;> intro h <;> omega))
      have hU16 : WM 7 u1 (uI I15 t 16 (I15 u1 16)) := WM_uI hU15 (by first | exact okMo (by decide) (by decide) (by decide) (by decide) (by decide) | exact okMf (by decide) (by decide) (by decide) (by decide) (by decide) (by decide) (by decide) (by decide) | exact okM30 (by omega) | exact okM42 (by omega) | exact okM33 (by omega) | exact okM10 (by omega) | exact okM8 (by omega) | exact okM22 (by omega) | exact okM24 (by omega) | exact okM14 (by omega) | exact okMa31 (by omega) | exact okMa35 (by omega) | exact okMa36 (by omega) | exact okMa3 (by omega) | exact okMr (by omega) | (unfold okM; refine ⟨?_, ?_, ?_, ?_, ?_, ?_, ?_, ?_, ?_, ?_, ?_, ?_⟩ <;> intro h <;> omega))
      have hC := CM_s hC (by decide) (hF15 u1 16 (by omega))
      have hF16 : Fr (fun a k => (a = t ∧ 10 ≤ k ∧ k ≤ 19) ∨ a = t + 18 ∨ a = t + 19 ∨ (t + 21 ≤ a ∧ a ≤ t + 28)) I0 (uI I15 t 16 (I15 u1 16)) := Fr_uI hF15 (by omega)
      generalize (uI I15 t 16 (I15 u1 16)) = I16 at hW16 hU16 hF16 hC ⊢
      have hf17 := WM_f hU16
      have hW17 : WM 7 t (uI I16 t 17 (I16 u1 17)) := WM_uI hW16 (by first | exact okMo (by decide) (by decide) (by decide) (by decide) (by decide) | exact okMf (by decide) (by decide) (by decide) (by decide) (by decide) (by decide) (by decide) (by decide) | exact okM30 (by omega) | exact okM42 (by omega) | exact okM33 (by omega) | exact okM10 (by omega) | exact okM8 (by omega) | exact okM22 (by omega) | exact okM24 (by omega) | exact okM14 (by omega) | exact okMa31 (by omega) | exact okMa35 (by omega) | exact okMa36 (by omega) | exact okMa3 (by omega) | exact okMr (by omega) | (unfold okM; refine ⟨?_, ?_, ?_, ?_, ?_, ?_, ?_, ?_, ?_, ?_, ?_, ?_⟩ <;> intro h <;> omega))
      have hU17 : WM 7 u1 (uI I16 t 17 (I16 u1 17)) := WM_uI hU16 (by first | exact okMo (by decide) (by decide) (by decide) (by decide) (by decide) | exact okMf (by decide) (by decide) (by decide) (by decide) (by decide) (by decide) (by decide) (by decide) | exact okM30 (by omega) | exact okM42 (by omega) | exact okM33 (by omega) | exact okM10 (by omega) | exact okM8 (by omega) | exact okM22 (by omega) | exact okM24 (by omega) | exact okM14 (by omega) | exact okMa31 (by omega) | exact okMa35 (by omega) | exact okMa36 (by omega) | exact okMa3 (by omega) | exact okMr (by omega) | (unfold okM; refine ⟨?_, ?_, ?_, ?_, ?_, ?_, ?_, ?_, ?_, ?_, ?_, ?_⟩ <;> intro h <;> omega))
      have hC := CM_s hC (by decide) (hF16 u1 17 (by omega))
      have hF17 : Fr (fun a k => (a = t ∧ 10 ≤ k ∧ k ≤ 19) ∨ a = t + 18 ∨ a = t + 19 ∨ (t + 21 ≤ a ∧ a ≤ t + 28)) I0 (uI I16 t 17 (I16 u1 17)) := Fr_uI hF16 (by omega)
      generalize (uI I16 t 17 (I16 u1 17)) = I17 at hW17 hU17 hF17 hC ⊢
      have hf18 := WM_f hU17
      have hW18 : WM 7 t (uI I17 t 18 (I17 u1 18)) := WM_uI hW17 (by first | exact okMo (by decide) (by decide) (by decide) (by decide) (by decide) | exact okMf (by decide) (by decide) (by decide) (by decide) (by decide) (by decide) (by decide) (by decide) | exact okM30 (by omega) | exact okM42 (by omega) | exact okM33 (by omega) | exact okM10 (by omega) | exact okM8 (by omega) | exact okM22 (by omega) | exact okM24 (by omega) | exact okM14 (by omega) | exact okMa31 (by omega) | exact okMa35 (by omega) | exact okMa36 (by omega) | exact okMa3 (by omega) | exact okMr (by omega) | (unfold okM; refine ⟨?_, ?_, ?_, ?_, ?_, ?_, ?_, ?_, ?_, ?_, ?_, ?_⟩ <;> intro h <;> omega))
      have hU18 : WM 7 u1 (uI I17 t 18 (I17 u1 18)) := WM_uI hU17 (by first | exact okMo (by decide) (by decide) (by decide) (by decide) (by decide) | exact okMf (by decide) (by decide) (by decide) (by decide) (by decide) (by decide) (by decide) (by decide) | exact okM30 (by omega) | exact okM42 (by omega) | exact okM33 (by omega) | exact okM10 (by omega) | exact okM8 (by omega) | exact okM22 (by omega) | exact okM24 (by omega) | exact okM14 (by omega) | exact okMa31 (by omega) | exact okMa35 (by omega) | exact okMa36 (by omega) | exact okMa3 (by omega) | exact okMr (by omega) | (unfold okM; refine ⟨?_, ?_, ?_, ?_, ?_, ?_, ?_, ?_, ?_, ?_, ?_, ?_⟩ <;> intro h <;> omega))
      have hC := CM_s hC (by decide) (hF17 u1 18 (by omega))
      have hF18 : Fr (fun a k => (a = t ∧ 10 ≤ k ∧ k ≤ 19) ∨ a = t + 18 ∨ a = t + 19 ∨ (t + 21 ≤ a ∧ a ≤ t + 28)) I0 (uI I17 t 18 (I17 u1 18)) := Fr_uI hF17 (by omega)
      generalize (uI I17 t 18 (I17 u1 18)) = I18 at hW18 hU18 hF18 hC ⊢
      have hf19 := WM_f hU18
      have hW19 : WM 7 t (uI I18 t 19 (I18 u1 19)) := WM_uI hW18 (by first | exact okMo (by decide) (by decide) (by decide) (by decide) (by decide) | exact okMf (by decide) (by decide) (by decide) (by decide) (by decide) (by decide) (by decide) (by decide) | exact okM30 (by omega) | exact okM42 (by omega) | exact okM33 (by omega) | exact okM10 (by omega) | exact okM8 (by omega) | exact okM22 (by omega) | exact okM24 (by omega) | exact okM14 (by omega) | exact okMa31 (by omega) | exact okMa35 (by omega) | exact okMa36 (by omega) | exact okMa3 (by omega) | exact okMr (by omega) | (unfold okM; refine ⟨?_, ?_, ?_, ?_, ?_, ?_, ?_, ?_, ?_, ?_, ?_, ?_⟩ <;> intro h <;> omega))
      have hU19 : WM 7 u1 (uI I18 t 19 (I18 u1 19)) := WM_uI hU18 (by first | exact okMo (by decide) (by decide) (by decide) (by decide) (by decide) | exact okMf (by decide) (by decide) (by decide) (by decide) (by decide) (by decide) (by decide) (by decide) | exact okM30 (by omega) | exact okM42 (by omega) | exact okM33 (by omega) | exact okM10 (by omega) | exact okM8 (by omega) | exact okM22 (by omega) | exact okM24 (by omega) | exact okM14 (by omega) | exact okMa31 (by omega) | exact okMa35 (by omega) | exact okMa36 (by omega) | exact okMa3 (by omega) | exact okMr (by omega) | (unfold okM; refine ⟨?_, ?_, ?_, ?_, ?_, ?_, ?_, ?_, ?_, ?_, ?_, ?_⟩ <;> intro h <;> omega))
      have hC := CM_s hC (by decide) (hF18 u1 19 (by omega))
      have hF19 : Fr (fun a k => (a = t ∧ 10 ≤ k ∧ k ≤ 19) ∨ a = t + 18 ∨ a = t + 19 ∨ (t + 21 ≤ a ∧ a ≤ t + 28)) I0 (uI I18 t 19 (I18 u1 19)) := Fr_uI hF18 (by omega)
      generalize (uI I18 t 19 (I18 u1 19)) = I19 at hW19 hU19 hF19 hC ⊢
      exact hK _ hW19 hF19 hC
    · have hc := mt Int32.lt_iff_toInt_lt.mpr hc
      have hn := tn_eq x2
      have e1 := i32_add x2 1 (by omega) (by omega)
      refine ⟨vp_of (by omega) (by omega), vp_of (by omega) (by omega), ?_⟩
      refine pX12_over (zModel_knownA hu1 (by omega)) (zModel_knownA ht (by omega)) (by decide) (by omega) (fun I3 hF3 hc3 => ?_)
      refine ih I3 (x2 + 1) (WM_fr5 hW hF3 (by intro k; omega) (by intro k; omega) (by intro k; omega) (by intro k; omega) (by intro k; omega)) (WM_fr hU hF3 (by intro a k h1 h2; omega)) (Fr.tr hF hF3 (by intro a k h; omega)) ⟨?_, fun i hi => ?_, fun q hq i hi => ?_, fun j h1 h2 => by omega⟩ (by omega) (by omega)
      · rw [hF3 t 10 (by omega)]
        exact hC.1
      · rw [hF3 (t + 18) i (by omega), hF3 (t + 19) i (by omega)]
        exact hC.2.1 i hi
      · by_cases c : q = Int32.toNatClampNeg x2
        · rw [c, hc3 i hi]
          exact hF _ _ (by omega)
        · rw [hF3 (t + 21 + q) i (by omega)]
          exact hC.2.2.1 q (by omega) i hi
theorem pX12_takeFrom {G : jdG} {n : Nat} {Z : jdL} {J : jdJ} {K : jdI → jdJ → Prop} {I : jdI} {t u1 : Nat} (ht : zModel Z t) (hu1 : zModel Z u1) (hd : t + 37 < u1 ∨ u1 + 37 < t) (hW : WM 8 t I) (hU : WM 7 u1 I) (hK : ∀ I2 : jdI, WM 7 t I2 → Fr (fun a k => (a = t ∧ 10 ≤ k ∧ k ≤ 19) ∨ a = t + 18 ∨ a = t + 19 ∨ (t + 21 ≤ a ∧ a ≤ t + 28)) I I2 → CM I I2 t u1 20 8 → K I2 J) : Cl G mX12_takeFrom (n + 1) 0 0 [.ref (gb G + t), .ref (gb G + u1)] Z I J (qv Z K) := by
  have hf := WM_f hU
  refine eX12_takeFrom ht hu1 ?_
  have h1 : WM 8 t (uI I t 10 (I u1 10)) := WM_uI hW (by first | exact okMo (by decide) (by decide) (by decide) (by decide) (by decide) | exact okMf (by decide) (by decide) (by decide) (by decide) (by decide) (by decide) (by decide) (by decide) | exact okM30 (by omega) | exact okM42 (by omega) | exact okM33 (by omega) | exact okM10 (by omega) | exact okM8 (by omega) | exact okM22 (by omega) | exact okM24 (by omega) | exact okM14 (by omega) | exact okMa31 (by omega) | exact okMa35 (by omega) | exact okMa36 (by omega) | exact okMa3 (by omega) | exact okMr (by omega) | (unfold okM; refine ⟨?_, ?_, ?_, ?_, ?_, ?_, ?_, ?_, ?_, ?_, ?_, ?_⟩ <;> intro h <;> omega))
  have h2 : WM 7 t (uI I t 10 (I u1 10)) := WM_cut h1 (by rw [uI_ap, if_pos ⟨rfl, rfl⟩]; exact hf.1.2)
  have h3 : WM 7 u1 (uI I t 10 (I u1 10)) := WM_uI hU (by first | exact okMo (by decide) (by decide) (by decide) (by decide) (by decide) | exact okMf (by decide) (by decide) (by decide) (by decide) (by decide) (by decide) (by decide) (by decide) | exact okM30 (by omega) | exact okM42 (by omega) | exact okM33 (by omega) | exact okM10 (by omega) | exact okM8 (by omega) | exact okM22 (by omega) | exact okM24 (by omega) | exact okM14 (by omega) | exact okMa31 (by omega) | exact okMa35 (by omega) | exact okMa36 (by omega) | exact okMa3 (by omega) | exact okMr (by omega) | (unfold okM; refine ⟨?_, ?_, ?_, ?_, ?_, ?_, ?_, ?_, ?_, ?_, ?_, ?_⟩ <;> intro h <;> omega))
  have h4 : Fr (fun a k => (a = t ∧ 10 ≤ k ∧ k ≤ 19) ∨ a = t + 18 ∨ a = t + 19 ∨ (t + 21 ≤ a ∧ a ≤ t + 28)) I (uI I t 10 (I u1 10)) := Fr_uI Fr.rf (by omega)
  have hA : (uI I t 10 (I u1 10)) t 10 = I u1 10 := by rw [uI_ap, if_pos ⟨rfl, rfl⟩]
  generalize (uI I t 10 (I u1 10)) = I0 at h2 h3 h4 hA ⊢
  refine pX12_over (zModel_a11 hu1) (zModel_a11 ht) (by decide) (by omega) (fun I1 hF1 hc1 => ?_)
  have w1 := WM_fr5 h2 hF1 (by intro k; omega) (by intro k; omega) (by intro k; omega) (by intro k; omega) (by intro k; omega)
  have u1' := WM_fr h3 hF1 (by intro a k h1 h2; omega)
  have f1 : Fr (fun a k => (a = t ∧ 10 ≤ k ∧ k ≤ 19) ∨ a = t + 18 ∨ a = t + 19 ∨ (t + 21 ≤ a ∧ a ≤ t + 28)) I I1 := Fr.tr h4 hF1 (by intro a k h; omega)
  refine pX12_over (zModel_a12 hu1) (zModel_a12 ht) (by decide) (by omega) (fun I3 hF3 hc3 => ?_)
  have w3 := WM_fr5 w1 hF3 (by intro k; omega) (by intro k; omega) (by intro k; omega) (by intro k; omega) (by intro k; omega)
  have u3 := WM_fr u1' hF3 (by intro a k h1 h2; omega)
  have f3 : Fr (fun a k => (a = t ∧ 10 ≤ k ∧ k ≤ 19) ∨ a = t + 18 ∨ a = t + 19 ∨ (t + 21 ≤ a ∧ a ≤ t + 28)) I I3 := Fr.tr f1 hF3 (by intro a k h; omega)
  refine pX12_takeFrom_32 ht hu1 hd hK 9 I3 0 w3 u3 f3 ⟨?_, fun i hi => ⟨?_, ?_⟩, fun q hq i hi => ?_, fun j h1 h2 => by omega⟩ (by decide) (by decide)
  · rw [hF3 t 10 (by omega), hF1 t 10 (by omega)]
    exact hA
  · rw [hF3 (t + 18) i (by omega), hc1 i hi]
    exact h4 _ _ (by omega)
  · rw [hc3 i hi]
    exact f1 _ _ (by omega)
  · have : q < 0 := hq
    omega
theorem CM_b {I I4 I2 : jdI} {w t k p : Nat} (h : CM I4 I2 w t k p) (e : ∀ a j, t ≤ a → a ≤ t + 37 → I4 a j = I a j) (hp : p ≤ 8) : CM I I2 w t k p := by
  obtain ⟨a, b, c, d⟩ := h
  refine ⟨by rw [a]; exact e _ _ (by omega) (by omega), fun i hi => ?_, fun q hq i hi => ?_, fun j h1 h2 => by rw [d j h1 h2]; exact e _ _ (by omega) (by omega)⟩
  · rw [(b i hi).1, (b i hi).2]
    exact ⟨e _ _ (by omega) (by omega), e _ _ (by omega) (by omega)⟩
  · rw [c q hq i hi]
    exact e _ _ (by omega) (by omega)
/-- what a text has made of the town w: the answer v -/
def MTn (R : Rd) (w : Tw) (v : Int32) (I2 : jdI) (t : Nat) : Prop := (∃ w2 : Tw, R = .inr (w2, v.toInt) ∧ RM I2 t w2) ∨ (∃ p : Int, R = .inl p ∧ v = (-20) - Int32.ofInt p ∧ RM I2 t w)
def XTn (R : Rd) (w : Tw) (v : Int32) (I2 : jdI) (b : Nat) : Prop := (∃ w2 : Tw, R = .inr (w2, v.toInt) ∧ RX I2 b w2) ∨ (∃ p : Int, R = .inl p ∧ v = (-20) - Int32.ofInt p ∧ RX I2 b w)
def ST (t x y : Nat) (Z0 : jdL) (I0 : jdI) (J0 : jdJ) (Z : jdL) (I : jdI) (J : jdJ) : Prop := MI Z I t ∧ RF t x y Z0 I0 J0 Z I J
theorem ST.rf {Z : jdL} {I : jdI} {J : jdJ} {t x y : Nat} (h : MI Z I t) : ST t x y Z I J Z I J := ⟨h, RF.rf⟩
theorem ST.tr {Z Z1 Z2 : jdL} {I I1 I2 : jdI} {J J1 J2 : jdJ} {t x y : Nat} (h : ST t x y Z I J Z1 I1 J1) (h2 : ST t x y Z1 I1 J1 Z2 I2 J2) : ST t x y Z I J Z2 I2 J2 := ⟨h2.1, RF.tr h.2 h2.2⟩
theorem ST_t {Z0 Z : jdL} {I0 I I2 : jdI} {J0 J : jdJ} {t x y : Nat} {p : Nat → Nat → Prop} (h : ST t x y Z0 I0 J0 Z I J) (hW : WM 7 t I2) (hF : Fr p I I2) (hp : ∀ a k, p a k → (a = t ∧ y ≤ k) ∨ (t + 17 ≤ a ∧ a ≤ t + 37 ∧ ¬ (20 ≤ y ∧ t + 18 ≤ a ∧ a ≤ t + 28)) ∨ Z.2.2 ≤ a) : ST t x y Z0 I0 J0 Z I2 J :=
  ⟨MI_t h.1 hW hF (fun a k q => by have := hp a k q; omega), RF_fr h.2 hF (fun a k q => by have := hp a k q; have := h.1.2.2.1; omega) (fun _ w hw a k h1 h2 q => by have := hp a k q; have := (h.1.2.2.2.2.1 w hw).2.2; omega) (fun a c ha ht hz hc k q => by have := hp a k q; omega)⟩
theorem ST_u {Z0 Z : jdL} {I0 I I2 : jdI} {J0 J : jdJ} {t x y u : Nat} {p : Nat → Nat → Prop} (h : ST t x y Z0 I0 J0 Z I J) (hu : Z.2.1 t 21 = some u) (hW : WM 8 u I2) (hF : Fr p I I2) (hp : ∀ a k, p a k → (u ≤ a ∧ a ≤ u + 37) ∨ Z.2.2 ≤ a) : ST t x y Z0 I0 J0 Z I2 J :=
  ⟨MI_u h.1 hu hW hF hp, RF_fr h.2 hF (fun a k q => by have := hp a k q; have := h.1.2.2.1; have := (h.1.2.2.2.2.2.1 u hu).2.2; omega) (fun _ w hw a k h1 h2 q => by have := hp a k q; have := (h.1.2.2.2.2.1 w hw).2.2; have := h.1.2.2.2.2.2.2 w u hw hu; omega) (fun a c ha ht hz hc k q => by have hu2 := h.1.2.2.2.2.2.1 u hu; rcases hp a k q with z | z <;> first | omega | (have := zModel_ty hu2.1 z.1 z.2 hz; omega))⟩
theorem ST_nZ {Z0 Z : jdL} {I0 I : jdI} {J0 J : jdJ} {t x y : Nat} {ty : Nat × Nat} (h : ST t x y Z0 I0 J0 Z I J) : ST t x y Z0 I0 J0 (nZ Z ty) I J := ⟨MI_nZ h.1, RF_nZ h.2⟩
theorem RF_y {t x : Nat} {Z Z2 : jdL} {I I2 : jdI} {J J2 : jdJ} (h : RF t x 20 Z I J Z2 I2 J2) : RF t x 8 Z I J Z2 I2 J2 := ⟨h.1, h.2.1, h.2.2.1, fun a k q => h.2.2.2.1 a k (by omega), h.2.2.2.2⟩
def fC (Z : jdL) (t : Nat) : Nat := if Z.2.1 t 21 = none then 38 else 0
def fS (Z : jdL) (t : Nat) : Nat := if Z.2.1 t 21 = none then 1946 else 0
theorem fC_none {Z : jdL} {t : Nat} (h : Z.2.1 t 21 = none) : fC Z t = 38 ∧ fS Z t = 1946 := ⟨if_pos h, if_pos h⟩
theorem fC_some {Z : jdL} {t u : Nat} (h : Z.2.1 t 21 = some u) : fC Z t = 0 ∧ fS Z t = 0 := ⟨if_neg (by rw [h]; exact fun e => by cases e), if_neg (by rw [h]; exact fun e => by cases e)⟩
theorem fC_le (Z : jdL) (t : Nat) : fC Z t ≤ 38 ∧ fS Z t ≤ 1946 := by
  by_cases h : Z.2.1 t 21 = none
  · have := fC_none h
    omega
  · have h1 : fC Z t = 0 := if_neg h
    have h2 : fS Z t = 0 := if_neg h
    omega
theorem qX12_fresh {G : jdG} {n : Nat} {Z : jdL} {I : jdI} {J : jdJ} {Q : jdQ} {t : Nat} {sA sV : Nat → Nat} (hG : gOK G sA sV) (hM : MI Z I t) (hQ : ∀ (u : Nat) (Z2 : jdL) (I2 : jdI) (J2 : jdJ), ST t 21 20 Z I J Z2 I2 J2 → Z2.2.1 t 21 = some u → zModel Z2 u → t + 38 ≤ u → u + 38 ≤ Z2.2.2 → WM 7 u I2 → Fr (fun a _ => t + 38 ≤ a) I I2 → CM I I2 u t 20 8 → Q (some (.ref (gb G + u))) Z2 I2 J2) : Cl G mX12_fresh (n + 2) (fC Z t) (fS Z t) [.ref (gb G + t)] Z I J Q := by
  have hb := hM.2.2.1
  refine eX12_fresh hM.1 ⟨fun hn => ?_, fun w hw => ?_⟩
  · have hfc := fC_none hn
    refine ⟨37, 1901, by omega, by omega, (MI_nZ hM).1, 37, 1901, 0, 0, Nat.le_refl _, Nat.le_refl _, ?_⟩
    refine w_X12_init hG rfl (by rw [nZ_ap, if_pos rfl]) ?_
    have hK := MI_make hM (Or.inr rfl) hn
    have hR := RF_make (y := 20) (I := I) (J := J) (k := 21) hb (Or.inr rfl) (fun w e => (hM.2.2.2.2.1 w e).2.2.2)
    have hf1 : (uP (kModelZ (nZ Z (11 + 10, 0)) Z.2.2) t 21 (some Z.2.2)).2.1 t 21 = some Z.2.2 := by rw [uP_ap, if_pos ⟨rfl, rfl⟩]
    have hFm := Fr_model I Z.2.2
    refine ⟨rfl, zModel_tr hK.1 (fun _ _ _ => rfl) (fun a k h1 h2 h3 => by rw [uP_ap, if_neg (by omega)]), hK.1, fun e => (by rw [hf1] at e; cases e), fun w6 e6 => ?_⟩
    rw [hf1] at e6
    cases e6
    obtain ⟨d0, d1, d2, d3⟩ := hK.2.2.2.2.2.1 Z.2.2 hf1
    refine ⟨d0, ?_⟩
    refine pX12_takeFrom d0 hK.1 (Or.inr (by omega)) d1 hK.2.1 (fun I7 hW7 hF7 hC7 => ?_)
    refine ⟨fun e => (by rw [hf1] at e; cases e), fun w10 e10 => ?_⟩
    rw [hf1] at e10
    cases e10
    refine ⟨d0, hQ _ _ _ _ (ST_u ⟨hK, hR⟩ hf1 (WM_mono hW7 (by decide)) hF7 (by intro a k h; omega)) hf1 d0 d2 d3 hW7 ?_ (CM_b hC7 (fun a k h1 h2 => hFm a k (by omega)) (by decide))⟩
    exact Fr.tr (Fr.tr (p := fun a _ => t + 38 ≤ a) Fr.rf hFm (by intro a k h; omega)) hF7 (by intro a k h; omega)
  · obtain ⟨c0, c1, c2, c3⟩ := hM.2.2.2.2.2.1 w hw
    refine ⟨c0, fun e => (by rw [hw] at e; cases e), fun w12 e12 => ?_⟩
    rw [hw] at e12
    cases e12
    refine ⟨c0, pX12_takeFrom c0 hM.1 (Or.inr (by omega)) c1 hM.2.1 (fun I13 hW13 hF13 hC13 => ?_)⟩
    refine ⟨fun e => (by rw [hw] at e; cases e), fun w16 e16 => ?_⟩
    rw [hw] at e16
    cases e16
    exact ⟨c0, hQ _ _ _ _ (ST_u (ST.rf hM) hw (WM_mono hW13 (by decide)) hF13 (by intro a k h; omega)) hw c0 c2 c3 hW13 (Fr.tr Fr.rf hF13 (by intro a k h; omega)) hC13⟩
theorem qX12_town {G : jdG} {n : Nat} {Z : jdL} {I : jdI} {J : jdJ} {Q : jdQ} {t : Nat} {sA sV : Nat → Nat} (hG : gOK G sA sV) {w : Tw} (hM : MI Z I t) (hw : RM I t w) (hQ : ∀ (v : Int32) (Z2 : jdL) (I2 : jdI) (J2 : jdJ), ST t 21 8 Z I J Z2 I2 J2 → (I2 t 8).toInt = 0 → MTn (rd (I (t + 16)) (I t 8).toInt 63 w (adv (I (t + 16)) (I t 8).toInt 0) 1) w v I2 t → I2 t 19 = I t 19 → Q (some (.int v)) Z2 I2 J2) : Cl G mX12_town (n + 8) (fC Z t) (fS Z t) [.ref (gb G + t)] Z I J Q := by
  have hwm := WM_f hM.2.1
  have hw1 := hw.1
  refine eX12_town hM.1 ⟨fC Z t, fS Z t, 0, 0, Nat.le_refl _, Nat.le_refl _, ?_⟩
  refine qX12_fresh hG hM (fun u Z1 I1 J1 hS hu c0 c2 c3 hU hF1 hC1 => ⟨u, rfl, hS.1.1, c0, ?_⟩)
  have r1 := RM_fr hw (by omega) hF1 (by omega) (by omega) (by omega) (by intro a k h1 h2 h3; omega)
  have ru := RM_cm hw (by omega) hC1
  have e16 : I1 (t + 16) = I (t + 16) := funext (fun k => hF1 (t + 16) k (by omega))
  have e8 : (I1 t 8).toInt = (I t 8).toInt := congrArg Int32.toInt (hF1 t 8 (by omega))
  refine pX12_readAll hG hS.1.1 hS.1.2.1 e16 e8 r1 (fun v I2 hW2 hF2 hp => ?_)
  have hS : ST t 21 8 Z I J Z1 I1 J1 := ⟨hS.1, RF_y hS.2⟩
  have hS2 := ST_t hS hW2 hF2 (by intro a k h; omega)
  have hU2 : WM 7 u I2 := WM_fr hU hF2 (by intro a k h1 h2 h3; omega)
  have hf := WM_f hW2
  have q0 : (0 : Int32).toInt = 0 := rfl
  have hW3 : WM 7 t (uI I2 t 8 0) := WM_uI hW2 (by first | exact okMo (by decide) (by decide) (by decide) (by decide) (by decide) | exact okMf (by decide) (by decide) (by decide) (by decide) (by decide) (by decide) (by decide) (by decide) | exact okM30 (by omega) | exact okM42 (by omega) | exact okM33 (by omega) | exact okM10 (by omega) | exact okM8 (by omega) | exact okM22 (by omega) | exact okM24 (by omega) | exact okM14 (by omega) | exact okMa31 (by omega) | exact okMa35 (by omega) | exact okMa36 (by omega) | exact okMa3 (by omega) | exact okMr (by omega) | (unfold okM; refine ⟨?_, ?_, ?_, ?_, ?_, ?_, ?_, ?_, ?_, ?_, ?_, ?_⟩ <;> intro h <;> omega))
  have hF3 : Fr (fun a k => a = t ∧ k = 8) I2 (uI I2 t 8 0) := Fr_uI Fr.rf ⟨rfl, rfl⟩
  have hz8 : ((uI I2 t 8 0) t 8).toInt = 0 := by rw [uI_ap, if_pos ⟨rfl, rfl⟩]; rfl
  have hS3 := ST_t hS2 hW3 hF3 (by intro a k h; omega)
  have hU3 : WM 7 u (uI I2 t 8 0) := WM_fr hU2 hF3 (by intro a k h1 h2 h3; omega)
  refine ⟨fun hc => ?_, fun hc => ?_⟩
  · have hc := i1 hc
    rcases hp with ⟨p1, w2, p2, p3⟩ | ⟨p1, p2⟩
    · have p4 := p3.1
      exact hQ _ _ _ _ hS3 hz8 (Or.inl ⟨w2, p2, RM_fr p3 (by omega) hF3 (by omega) (by omega) (by omega) (by intro a k h1 h2 h3; omega)⟩) (by rw [hF3 t 19 (by omega), hF2 t 19 (by omega), hF1 t 19 (by omega)])
    · omega
  · have hc := i0 hc
    rcases hp with ⟨p1, w2, p2, p3⟩ | ⟨p1, p2⟩
    · omega
    · refine pX12_takeFrom hS3.1.1 c0 (Or.inl (by omega)) (WM_mono hW3 (by decide)) hU3 (fun I4 hW4 hF4 hC4 => ?_)
      have hS4 := ST_t hS3 hW4 hF4 (by intro a k h; omega)
      have ru2 := RM_fr (RM_fr ru (by omega) hF2 (by omega) (by omega) (by omega) (by intro a k h1 h2 h3; omega)) (by omega) hF3 (by omega) (by omega) (by omega) (by intro a k h1 h2 h3; omega)
      have r4 := RM_cm ru2 (by omega) hC4
      have e19 : I4 t 19 = I t 19 := by rw [hC4.2.2.2 19 (by decide) (by decide), hF3 u 19 (by omega), hF2 u 19 (by omega), hC1.2.2.2 19 (by decide) (by decide)]
      refine sfX12_refuse hS4.1.1 (by decide) hW4 (by decide) (fun v7 I6 hW6 hF6 hp6 => ?_)
      refine hQ _ _ _ _ (ST_t hS4 hW6 hF6 (by intro a k h; omega)) (by rw [hF6 t 8 (by omega), hF4 t 8 (by omega)]; exact hz8) (Or.inr ⟨_, p2, ?_, RM_fr r4 (by omega) hF6 (by omega) (by omega) (by omega) (by intro a k h1 h2 h3; omega)⟩) (by rw [hF6 t 19 (by omega)]; exact e19)
      rw [ofI, hF6 t 26 (by omega), hF4 t 26 (by omega), hF3 t 26 (by omega)]
theorem lX12_days_20 {G : jdG} {n rc rs : Nat} {Z0 Z : jdL} {I0 : jdI} {J0 J : jdJ} {Q : jdQ} {t u3 : Nat} {x1 x2 : Int32} (hx1 : 0 ≤ x1.toInt ∧ x1.toInt ≤ 7) (hu : Z.2.1 t 21 = some u3) (hQ : ∀ (v : Int32) (Z2 : jdL) (I2 : jdI) (J2 : jdJ), ST t 21 20 Z0 I0 J0 Z2 I2 J2 → Q (some (.int v)) Z2 I2 J2) : ∀ m : Nat, ∀ (I : jdI) (x4 : Int32), ST t 21 20 Z0 I0 J0 Z I J → WM 7 u3 I → 0 ≤ x4.toInt ∧ x4.toInt ≤ 30 → 30 - x4.toInt < (m : Int) → Jd G mX12_days (jdFm G Q) (n + 261) rc rs 20 [(0, .ref (gb G + t)), (1, .int x1), (2, .int x2), (3, .ref (gb G + u3)), (4, .int x4)] [] Z I J := by
  intro m
  induction m with
  | zero =>
    intro I x4 hS hU hx hm
    omega
  | succ m ih =>
    intro I x4 hS hU hx hm
    obtain ⟨c0, c1, c2, c3⟩ := hS.1.2.2.2.2.2.1 u3 hu
    refine rX12_days_20 hS.1.1 c0 ?_
    refine ⟨fun hc => hQ _ _ _ _ hS, fun hc => ?_⟩
    have hc := mt Int32.le_iff_toInt_le.mpr hc
    have q30 : (30 : Int32).toInt = 30 := rfl
    have q1 : (1 : Int32).toInt = 1 := rfl
    have e1 := i32_add x4 1 (by omega) (by omega)
    refine ⟨vp_of (by omega) (by omega), vp_of (by omega) (by omega), ?_⟩
    refine sfX12_dayOf c0 hU (fun v I3 hW3 hF3 => ?_)
    have hS3 := ST_u hS hu (WM_mono hW3 (by decide)) hF3 (by intro a k h; omega)
    exact ⟨fun _ => hQ _ _ _ _ hS3, fun _ => ih I3 (x4 + 1) hS3 hW3 (by omega) (by omega)⟩
theorem qX12_days {G : jdG} {n : Nat} {Z : jdL} {I : jdI} {J : jdJ} {Q : jdQ} {t : Nat} {x1 : Int32} {sA sV : Nat → Nat} (hG : gOK G sA sV) (hM : MI Z I t) (hQ : ∀ (v : Int32) (Z2 : jdL) (I2 : jdI) (J2 : jdJ), ST t 21 20 Z I J Z2 I2 J2 → Q (some (.int v)) Z2 I2 J2) : Cl G mX12_days (n + 261) (fC Z t) (fS Z t) [.ref (gb G + t), .int x1] Z I J Q := by
  refine eX12_days hM.1 ?_
  refine sfX12_noMan hM.1 hM.2.1 (fun v I1 hW1 hF1 hp => ?_)
  have hS1 := ST_t (ST.rf (x := 21) (y := 20) (J := J) hM) hW1 hF1 (by intro a k h; omega)
  refine ⟨fun hc => ?_, fun hc => hQ _ _ _ _ hS1⟩
  have hc := i0 hc
  refine ⟨fC Z t, fS Z t, 0, 0, Nat.le_refl _, Nat.le_refl _, ?_⟩
  refine qX12_fresh hG hS1.1 (fun u Z3 I3 J3 hS hu c0 c2 c3 hU hF3 _ => ⟨u, rfl, hS.1.1, c0, ?_⟩)
  exact lX12_days_20 (by omega) hu hQ 31 I3 0 (ST.tr hS1 hS) hU (by decide) (by decide)
theorem qX12_findEver {G : jdG} {n : Nat} {Z : jdL} {I : jdI} {J : jdJ} {Q : jdQ} {x : Nat} (hx : zModel Z x) (hW : WM 7 x I) (hl : x + 38 ≤ Z.2.2) (hQ : ∀ (Z2 : jdL) (I2 : jdI), (Z2 = Z ∨ Z2 = nZ Z (0, 40)) → WM 7 x I2 → Fr (fun a k => (a = x ∧ 20 ≤ k) ∨ a = x + 17 ∨ (x + 29 ≤ a ∧ a ≤ x + 37) ∨ Z.2.2 ≤ a) I I2 → Q none Z2 I2 J) : Cl G mX12_findEver (n + 38) 1 40 [.ref (gb G + x)] Z I J Q := by
  have hf := WM_f hW
  have w1 : WM 7 x (uI I x 37 0) := WM_uI hW (by first | exact okMo (by decide) (by decide) (by decide) (by decide) (by decide) | exact okMf (by decide) (by decide) (by decide) (by decide) (by decide) (by decide) (by decide) (by decide) | exact okM30 (by omega) | exact okM42 (by omega) | exact okM33 (by omega) | exact okM10 (by omega) | exact okM8 (by omega) | exact okM22 (by omega) | exact okM24 (by omega) | exact okM14 (by omega) | exact okMa31 (by omega) | exact okMa35 (by omega) | exact okMa36 (by omega) | exact okMa3 (by omega) | exact okMr (by omega) | (unfold okM; refine ⟨?_, ?_, ?_, ?_, ?_, ?_, ?_, ?_, ?_, ?_, ?_, ?_⟩ <;> intro h <;> omega))
  have w2 : WM 7 x (uI (uI I x 37 0) x 38 (-1)) := WM_uI w1 (by first | exact okMo (by decide) (by decide) (by decide) (by decide) (by decide) | exact okMf (by decide) (by decide) (by decide) (by decide) (by decide) (by decide) (by decide) (by decide) | exact okM30 (by omega) | exact okM42 (by omega) | exact okM33 (by omega) | exact okM10 (by omega) | exact okM8 (by omega) | exact okM22 (by omega) | exact okM24 (by omega) | exact okM14 (by omega) | exact okMa31 (by omega) | exact okMa35 (by omega) | exact okMa36 (by omega) | exact okMa3 (by omega) | exact okMr (by omega) | (unfold okM; refine ⟨?_, ?_, ?_, ?_, ?_, ?_, ?_, ?_, ?_, ?_, ?_, ?_⟩ <;> intro h <;> omega))
  have f2 : Fr (fun a k => (a = x ∧ 20 ≤ k) ∨ a = x + 17 ∨ (x + 29 ≤ a ∧ a ≤ x + 37) ∨ Z.2.2 ≤ a) I (uI (uI I x 37 0) x 38 (-1)) := Fr_uI (Fr_uI Fr.rf (by omega)) (by omega)
  refine eX12_findEver hx ?_
  generalize (uI (uI I x 37 0) x 38 (-1)) = I0 at w2 f2 ⊢
  refine ⟨fun hc => ?_, fun hc => ?_⟩
  · refine sfX12_listAll hx (by decide) w2 (fun I1 hW1 hF1 hp => ?_)
    have hz : zModel (nZ Z (0, 40)) x := zModel_tr hx (fun a h1 h2 => by rw [nZ_ap, if_neg (by omega)]) (fun a k h1 h2 _ => by rw [nZ_ap2, if_neg (by omega)])
    have w3 : WM 7 x (zI I1 Z.2.2) := WM_fr hW1 (p := fun a _ => a = Z.2.2) (Fr_zI Fr.rf (fun _ => rfl)) (by intro a k h1 h2 h3; omega)
    have hq : (zI I1 Z.2.2) x 30 = I1 x 30 := by rw [zI_ap, if_neg (by omega)]
    have hf1 := WM_f hW1
    have hp2 := hp.2 (by decide)
    have q0 : (0 : Int32).toInt = 0 := rfl
    refine ⟨0, 0, Nat.le_refl _, Nat.le_refl _, hz, ?_⟩
    refine sfX12_seekEver hz (by rw [nZ_ap, if_pos rfl]) w3 (by rw [hq]; omega) (by omega) rfl (by rw [hq]; omega) (fun I4 hW4 hF4 => ?_)
    refine hQ _ _ (Or.inr rfl) hW4 ?_
    exact Fr.tr (Fr_zI (Fr.tr f2 hF1 (by intro a k h; omega)) (fun k => by omega)) hF4 (by intro a k h; omega)
  · refine sfX12_all hx (by decide) w2 (fun v hp => ?_)
    refine sfX12_pairsOf hx w2 (fun v9 => ?_)
    have w8 : WM 7 x (uI I0 x 37 v9) := WM_uI w2 (by first | exact okMo (by decide) (by decide) (by decide) (by decide) (by decide) | exact okMf (by decide) (by decide) (by decide) (by decide) (by decide) (by decide) (by decide) (by decide) | exact okM30 (by omega) | exact okM42 (by omega) | exact okM33 (by omega) | exact okM10 (by omega) | exact okM8 (by omega) | exact okM22 (by omega) | exact okM24 (by omega) | exact okM14 (by omega) | exact okMa31 (by omega) | exact okMa35 (by omega) | exact okMa36 (by omega) | exact okMa3 (by omega) | exact okMr (by omega) | (unfold okM; refine ⟨?_, ?_, ?_, ?_, ?_, ?_, ?_, ?_, ?_, ?_, ?_, ?_⟩ <;> intro h <;> omega))
    have w9 : WM 7 x (uI (uI I0 x 37 v9) x 38 v9) := WM_uI w8 (by first | exact okMo (by decide) (by decide) (by decide) (by decide) (by decide) | exact okMf (by decide) (by decide) (by decide) (by decide) (by decide) (by decide) (by decide) (by decide) | exact okM30 (by omega) | exact okM42 (by omega) | exact okM33 (by omega) | exact okM10 (by omega) | exact okM8 (by omega) | exact okM22 (by omega) | exact okM24 (by omega) | exact okM14 (by omega) | exact okMa31 (by omega) | exact okMa35 (by omega) | exact okMa36 (by omega) | exact okMa3 (by omega) | exact okMr (by omega) | (unfold okM; refine ⟨?_, ?_, ?_, ?_, ?_, ?_, ?_, ?_, ?_, ?_, ?_, ?_⟩ <;> intro h <;> omega))
    exact hQ _ _ (Or.inl rfl) w9 (Fr_uI (Fr_uI f2 (by omega)) (by omega))
theorem ST_ev {Z0 Z Z2 : jdL} {I0 I I2 : jdI} {J0 J : jdJ} {t : Nat} (h : ST t 21 20 Z0 I0 J0 Z I J) (hz : Z2 = Z ∨ Z2 = nZ Z (0, 40)) (hW : WM 7 t I2) (hF : Fr (fun a k => (a = t ∧ 20 ≤ k) ∨ a = t + 17 ∨ (t + 29 ≤ a ∧ a ≤ t + 37) ∨ Z.2.2 ≤ a) I I2) : ST t 21 20 Z0 I0 J0 Z2 I2 J := by
  have h2 := ST_t h hW hF (by intro a k h; omega)
  rcases hz with rfl | rfl
  · exact h2
  · exact ST_nZ h2
theorem ST_evu {Z0 Z Z2 : jdL} {I0 I I2 : jdI} {J0 J : jdJ} {t u : Nat} (h : ST t 21 20 Z0 I0 J0 Z I J) (hu : Z.2.1 t 21 = some u) (hz : Z2 = Z ∨ Z2 = nZ Z (0, 40)) (hW : WM 7 u I2) (hF : Fr (fun a k => (a = u ∧ 20 ≤ k) ∨ a = u + 17 ∨ (u + 29 ≤ a ∧ a ≤ u + 37) ∨ Z.2.2 ≤ a) I I2) : ST t 21 20 Z0 I0 J0 Z2 I2 J := by
  have h2 := ST_u h hu (WM_mono hW (by decide)) hF (by intro a k h; omega)
  rcases hz with rfl | rfl
  · exact h2
  · exact ST_nZ h2
theorem qX12_ever {G : jdG} {n : Nat} {Z : jdL} {I : jdI} {J : jdJ} {Q : jdQ} {t : Nat} {x1 : Int32} (hM : MI Z I t) (hQ : ∀ (v : Int32) (Z2 : jdL) (I2 : jdI) (J2 : jdJ), ST t 21 20 Z I J Z2 I2 J2 → Q (some (.int v)) Z2 I2 J2) : Cl G mX12_ever (n + 39) 1 40 [.ref (gb G + t), .int x1] Z I J Q := by
  refine eX12_ever hM.1 ?_
  refine sfX12_in trivial (fun v hp => ?_)
  refine ⟨fun hc => ?_, fun hc => ?_⟩
  · refine ⟨1, 40, 0, 0, Nat.le_refl _, Nat.le_refl _, ?_⟩
    refine qX12_findEver hM.1 hM.2.1 hM.2.2.1 (fun Z3 I3 hz hW3 hF3 => ?_)
    have hS3 := ST_ev (ST.rf (x := 21) (y := 20) (J := J) hM) hz hW3 hF3
    exact ⟨rfl, hS3.1.1, fun _ => hQ _ _ _ _ hS3, fun _ => hQ _ _ _ _ hS3⟩
  · refine sfX12_refuse hM.1 (by decide) hM.2.1 (by decide) (fun v5 I4 hW4 hF4 _ => ?_)
    exact hQ _ _ _ _ (ST_t (ST.rf hM) hW4 hF4 (by intro a k h; omega))
theorem qX12_hire {G : jdG} {n : Nat} {Z : jdL} {I : jdI} {J : jdJ} {Q : jdQ} {t : Nat} {sA sV : Nat → Nat} (hG : gOK G sA sV) (hM : MI Z I t) (hQ : ∀ (v : Int32) (Z2 : jdL) (I2 : jdI) (J2 : jdJ), ST t 21 20 Z I J Z2 I2 J2 → Q (some (.int v)) Z2 I2 J2) : Cl G mX12_hire (n + 257) (fC Z t) (fS Z t) [.ref (gb G + t)] Z I J Q := by
  refine eX12_hire hM.1 ?_
  refine sfX12_listAll hM.1 (by decide) hM.2.1 (fun I1 hW1 hF1 hp1 => ?_)
  have hS1 := ST_t (ST.rf (x := 21) (y := 20) (J := J) hM) hW1 hF1 (by intro a k h; omega)
  refine sfX12_all hM.1 (by decide) hW1 (fun v4 hp4 => ?_)
  refine sfX12_mostIn hM.1 (by decide) hW1 hp1.1 hp4.2.1 (fun v6 => ?_)
  refine ⟨fC Z t, fS Z t, 0, 0, Nat.le_refl _, Nat.le_refl _, ?_⟩
  refine qX12_fresh hG hS1.1 (fun u Z7 I7 J7 hS hu c0 c2 c3 hU hF7 _ => ⟨u, rfl, hS.1.1, c0, ?_⟩)
  have hS7 := ST.tr hS1 hS
  have hfu := WM_f hU
  refine sfX12_addOne (c := 8) c0 (by decide) (WM_mono hU (by decide)) (by omega) (fun I8 hW8 hF8 => ?_)
  have hS8 := ST_u hS7 hu hW8 hF8 (by intro a k h; omega)
  refine sfX12_listAll c0 (by decide) hW8 (fun I10 hW10 hF10 hp10 => ?_)
  have hS10 := ST_u hS8 hu hW10 hF10 (by intro a k h; omega)
  refine sfX12_all c0 (by decide) hW10 (fun v13 hp13 => ?_)
  refine sfX12_mostIn c0 (by decide) hW10 hp10.1 hp13.2.1 (fun v15 => ?_)
  exact hQ _ _ _ _ hS10
theorem qX12_feast {G : jdG} {n : Nat} {Z : jdL} {I : jdI} {J : jdJ} {Q : jdQ} {t : Nat} {x1 : Int32} {sA sV : Nat → Nat} (hG : gOK G sA sV) (hM : MI Z I t) (hQ : ∀ (v : Int32) (Z2 : jdL) (I2 : jdI) (J2 : jdJ), ST t 21 20 Z I J Z2 I2 J2 → Q (some (.int v)) Z2 I2 J2) : Cl G mX12_feast (n + 39) 40 2026 [.ref (gb G + t), .int x1] Z I J Q := by
  refine eX12_feast hM.1 ?_
  refine sfX12_isSet hM.1 hM.2.1 (fun v hp => ?_)
  refine ⟨fun hc => ?_, fun hc => ?_⟩
  · refine ⟨1, 40, 39, 1986, Nat.le_refl _, Nat.le_refl _, ?_⟩
    refine qX12_findEver hM.1 hM.2.1 hM.2.2.1 (fun Z3 I3 hz hW3 hF3 => ?_)
    have hS3 := ST_ev (ST.rf (x := 21) (y := 20) (J := J) hM) hz hW3 hF3
    have hfc := fC_le Z3 t
    refine ⟨rfl, hS3.1.1, fC Z3 t, fS Z3 t, 1, 40, by omega, by omega, ?_⟩
    refine qX12_fresh hG hS3.1 (fun u Z4 I4 J4 hS hu c0 c2 c3 hU hF4 _ => ⟨u, rfl, hS.1.1, c0, ?_⟩)
    have hS4 := ST.tr hS3 hS
    refine sfX12_meets c0 hU (fun v6 I5 hW5 hF5 => ?_)
    have hS5 := ST_u hS4 hu (WM_mono hW5 (by decide)) hF5 (by intro a k h; omega)
    refine ⟨1, 40, 0, 0, Nat.le_refl _, Nat.le_refl _, ?_⟩
    refine qX12_findEver c0 hW5 c3 (fun Z7 I7 hz7 hW7 hF7 => ?_)
    have hS7 := ST_evu hS5 hu hz7 hW7 hF7
    have hu7 : zModel Z7 u := by
      rcases hz7 with rfl | rfl
      · exact c0
      · exact ((MI_nZ hS5.1).2.2.2.2.2.1 u (by rw [nZ_ap2, if_neg (by have := hS5.1.2.2.1; omega)]; exact hu)).1
    exact ⟨rfl, hS7.1.1, hu7, hQ _ _ _ _ hS7⟩
  · refine sfX12_refuse hM.1 (by decide) hM.2.1 (by decide) (fun v5 I4 hW4 hF4 _ => ?_)
    exact hQ _ _ _ _ (ST_t (ST.rf hM) hW4 hF4 (by intro a k h; omega))
theorem qX12_closesOf {G : jdG} {n : Nat} {Z : jdL} {I : jdI} {J : jdJ} {Q : jdQ} {t : Nat} {x1 x2 : Int32} {sA sV : Nat → Nat} (hG : gOK G sA sV) (hM : MI Z I t) (hx1 : 0 ≤ x1.toInt ∧ x1.toInt ≤ 7) (hx2 : 0 ≤ x2.toInt ∧ x2.toInt ≤ 7) (hQ : ∀ (v : Int32) (Z2 : jdL) (I2 : jdI) (J2 : jdJ), ST t 21 20 Z I J Z2 I2 J2 → (∃ u, Z2.2.1 t 21 = some u) → Q (some (.int v)) Z2 I2 J2) : Cl G mX12_closesOf (n + 12) (fC Z t) (fS Z t) [.ref (gb G + t), .int x1, .int x2] Z I J Q := by
  refine eX12_closesOf hM.1 ⟨fC Z t, fS Z t, 0, 0, Nat.le_refl _, Nat.le_refl _, ?_⟩
  refine qX12_fresh hG hM (fun u Z1 I1 J1 hS hu c0 c2 c3 hU hF1 _ => ⟨u, rfl, hS.1.1, c0, ?_⟩)
  refine sfX12_knows c0 (by decide) hU hx1 hx2 (fun I2 hW2 hF2 => ?_)
  have hS2 := ST_u hS hu (WM_mono hW2 (by decide)) hF2 (by intro a k h; omega)
  refine sfX12_all hS2.1.1 (by decide) hS2.1.2.1 (fun v5 _ => ?_)
  refine sfX12_groupsOf hS2.1.1 hS2.1.2.1 (fun v7 I6 hW6 hF6 => ?_)
  have hS6 := ST_t hS2 hW6 hF6 (by intro a k h; omega)
  have hU6 : WM 7 u I6 := WM_fr hW2 hF6 (by intro a k h1 h2 h3; omega)
  refine sfX12_all hS6.1.1 (by decide) hW6 (fun v9 _ => ?_)
  refine sfX12_groupsOf c0 hU6 (fun v11 I10 hW10 hF10 => ?_)
  exact hQ _ _ _ _ (ST_u hS6 hu (WM_mono hW10 (by decide)) hF10 (by intro a k h; omega)) ⟨u, hu⟩
theorem qX12_closes {G : jdG} {n : Nat} {Z : jdL} {I : jdI} {J : jdJ} {Q : jdQ} {t : Nat} {x1 x2 : Int32} {sA sV : Nat → Nat} (hG : gOK G sA sV) (hM : MI Z I t) (hQ : ∀ (v : Int32) (Z2 : jdL) (I2 : jdI) (J2 : jdJ), ST t 21 20 Z I J Z2 I2 J2 → Q (some (.int v)) Z2 I2 J2) : Cl G mX12_closes (n + 13) (fC Z t) (fS Z t) [.ref (gb G + t), .int x1, .int x2] Z I J Q := by
  have hf := WM_f hM.2.1
  refine eX12_closes hM.1 ?_
  refine sfX12_areTwo hM.1 hM.2.1 (fun v hp => ?_)
  refine ⟨fun hc => ?_, fun hc => ?_⟩
  · refine sfX12_refuse hM.1 (by decide) hM.2.1 (by decide) (fun v5 I4 hW4 hF4 _ => ?_)
    exact hQ _ _ _ _ (ST_t (ST.rf hM) hW4 hF4 (by intro a k h; omega))
  · have hc := i1 hc
    refine ⟨fC Z t, fS Z t, 0, 0, Nat.le_refl _, Nat.le_refl _, ?_⟩
    exact qX12_closesOf hG hM (by omega) (by omega) (fun v Z2 I2 J2 hS _ => ⟨v, rfl, hS.1.1, hQ _ _ _ _ hS⟩)
theorem lX12_worst {G : jdG} {n : Nat} {Z0 : jdL} {I0 : jdI} {J0 : jdJ} {Q : jdQ} {t : Nat} {sA sV : Nat → Nat} (hG : gOK G sA sV) (hQ : ∀ (v : Int32) (Z2 : jdL) (I2 : jdI) (J2 : jdJ), ST t 21 20 Z0 I0 J0 Z2 I2 J2 → Q (some (.int v)) Z2 I2 J2) : ∀ m : Nat,
    (∀ (Z : jdL) (I : jdI) (J : jdJ) (rc rs : Nat) (x1 x2 x3 : Int32), ST t 21 20 Z0 I0 J0 Z I J → fC Z t ≤ rc → fS Z t ≤ rs → 0 ≤ x3.toInt ∧ x3.toInt ≤ 7 → (7 - x3.toInt) * 10 < (m : Int) → Jd G mX12_worst (jdFm G Q) (n + 13) rc rs 6 [(0, .ref (gb G + t)), (1, .int x1), (2, .int x2), (3, .int x3)] [] Z I J) ∧
    (∀ (Z : jdL) (I : jdI) (J : jdJ) (rc rs : Nat) (x1 x2 x3 x4 : Int32), ST t 21 20 Z0 I0 J0 Z I J → fC Z t ≤ rc → fS Z t ≤ rs → 0 ≤ x3.toInt ∧ x3.toInt ≤ 6 → 0 ≤ x4.toInt ∧ x4.toInt ≤ 8 → (7 - x3.toInt) * 10 - x4.toInt < (m : Int) → Jd G mX12_worst (jdFm G Q) (n + 13) rc rs 19 [(0, .ref (gb G + t)), (1, .int x1), (2, .int x2), (3, .int x3), (4, .int x4)] [] Z I J) := by
  intro m
  induction m with
  | zero =>
    refine ⟨fun Z I J rc rs x1 x2 x3 hS h1 h2 h3 hm => ?_, fun Z I J rc rs x1 x2 x3 x4 hS h1 h2 h3 h4 hm => ?_⟩ <;> omega
  | succ m ih =>
    have q1 : (1 : Int32).toInt = 1 := rfl
    refine ⟨fun Z I J rc rs x1 x2 x3 hS h1 h2 h3 hm => ?_, fun Z I J rc rs x1 x2 x3 x4 hS h1 h2 h3 h4 hm => ?_⟩
    · have hf := WM_f hS.1.2.1
      have e1 := i32_add x3 1 (by omega) (by omega)
      refine rX12_worst_6 hS.1.1 ⟨fun hc => ⟨fun _ => hQ _ _ _ _ hS, fun _ => ?_⟩, fun hc => ?_⟩
      · refine sfX12_refuse hS.1.1 (by decide) hS.1.2.1 (by decide) (fun v5 I4 hW4 hF4 _ => ?_)
        exact hQ _ _ _ _ (ST_t hS hW4 hF4 (by intro a k h; omega))
      · have hc := mt Int32.le_iff_toInt_le.mpr hc
        exact ih.2 Z I J rc rs x1 x2 x3 (x3 + 1) hS h1 h2 (by omega) (by omega) (by omega)
    · have hf := WM_f hS.1.2.1
      have e1 := i32_add x3 1 (by omega) (by omega)
      have e2 := i32_add x4 1 (by omega) (by omega)
      refine rX12_worst_19 hS.1.1 ⟨fun hc => ?_, fun hc => ?_⟩
      · exact ih.1 Z I J rc rs x1 x2 (x3 + 1) hS h1 h2 (by omega) (by omega)
      · have hc := mt Int32.le_iff_toInt_le.mpr hc
        refine ⟨vp_of (by omega) (by omega), vp_of (by omega) (by omega), fun _ => ?_, fun _ => ?_⟩
        · exact ih.2 Z I J rc rs x1 x2 x3 (x4 + 1) hS h1 h2 (by omega) (by omega) (by omega)
        · refine ⟨fC Z t, fS Z t, 0, 0, h1, h2, ?_⟩
          refine qX12_closesOf hG hS.1 (by omega) (by omega) (fun v Z2 I2 J2 hS2 hu => ⟨v, rfl, hS2.1.1, ?_⟩)
          have hS3 := ST.tr hS hS2
          obtain ⟨u, hu⟩ := hu
          have hfc := fC_some hu
          exact ⟨fun _ => ih.2 Z2 I2 J2 0 0 x1 x2 x3 (x4 + 1) hS3 (by omega) (by omega) (by omega) (by omega) (by omega), fun _ => ih.2 Z2 I2 J2 0 0 _ v x3 (x4 + 1) hS3 (by omega) (by omega) (by omega) (by omega) (by omega)⟩
theorem qX12_worst {G : jdG} {n : Nat} {Z : jdL} {I : jdI} {J : jdJ} {Q : jdQ} {t : Nat} {sA sV : Nat → Nat} (hG : gOK G sA sV) (hM : MI Z I t) (hQ : ∀ (v : Int32) (Z2 : jdL) (I2 : jdI) (J2 : jdJ), ST t 21 20 Z I J Z2 I2 J2 → Q (some (.int v)) Z2 I2 J2) : Cl G mX12_worst (n + 13) (fC Z t) (fS Z t) [.ref (gb G + t)] Z I J Q := by
  refine eX12_worst hM.1 ?_
  exact (lX12_worst hG hQ 71).1 Z I J _ _ _ _ 0 (ST.rf hM) (Nat.le_refl _) (Nat.le_refl _) (by decide) (by decide)
def ck (f : Nat → Bool) (lo : Nat) : Nat → Nat
  | 0 => 0
  | n + 1 => ck f lo n + (if f n = true ∧ lo ≤ n then 1 else 0)
theorem ck_mono (f : Nat → Bool) (lo lo2 : Nat) (h : lo ≤ lo2) : ∀ n, ck f lo2 n ≤ ck f lo n
  | 0 => Nat.le_refl _
  | n + 1 => by
    have h1 := ck_mono f lo lo2 h n
    show ck f lo2 n + _ ≤ ck f lo n + _
    split
    · rename_i hc
      rw [if_pos ⟨hc.1, by omega⟩]
      omega
    · omega
theorem ck_hit (f : Nat → Bool) (lo : Nat) (hf : f lo = true) : ∀ n, lo < n → ck f (lo + 1) n + 1 ≤ ck f lo n
  | 0, hn => by omega
  | n + 1, hn => by
    by_cases e : lo = n
    · subst e
      have h1 := ck_mono f lo (lo + 1) (by omega) lo
      show ck f (lo + 1) lo + (if f lo = true ∧ lo + 1 ≤ lo then 1 else 0) + 1 ≤ ck f lo lo + (if f lo = true ∧ lo ≤ lo then 1 else 0)
      rw [if_neg (by omega), if_pos ⟨hf, Nat.le_refl _⟩]
      omega
    · have h1 := ck_hit f lo hf n (by omega)
      show ck f (lo + 1) n + _ + 1 ≤ ck f lo n + _
      split
      · rename_i hc
        rw [if_pos ⟨hc.1, by omega⟩]
        omega
      · omega
def wf (s : Int32) (e : Nat) : Bool := decide (e / 8 < e % 8 ∧ ¬ ((s >>> (Int32.ofNat (e / 8) &&& 31)) &&& 1).toInt = 0 ∧ ¬ ((s >>> (Int32.ofNat (e % 8) &&& 31)) &&& 1).toInt = 0)
theorem wf_all : ∀ s : Fin 128, (bs (Int32.ofNat s.val) 8).toInt ≤ 5 → ck (wf (Int32.ofNat s.val)) 0 64 ≤ 10 := by decide +kernel
theorem wf_10 {s : Int32} (h0 : 0 ≤ s.toInt) (h1 : s.toInt ≤ 127) (h : (bs s 8).toInt ≤ 5) : ck (wf s) 0 64 ≤ 10 := by
  have e := wf_all ⟨s.toInt.toNat, by omega⟩
  rw [← i32_ofNat h0] at e
  exact e h
/-- pairs of s from the pair p q on -/
def ph (s : Int32) (p q : Int) : Int := (ck (wf s) (8 * p + q).toNat 64 : Nat)
theorem ph_nn (s : Int32) (p q : Int) : 0 ≤ ph s p q := by
  unfold ph
  omega
theorem ph_le (s : Int32) (p q p2 q2 : Int) (h : 8 * p + q ≤ 8 * p2 + q2) : ph s p2 q2 ≤ ph s p q := by
  have h1 := ck_mono (wf s) (8 * p + q).toNat (8 * p2 + q2).toNat (by omega) 64
  unfold ph
  omega
theorem ph_hit {s x2 x3 : Int32} (h0 : 0 ≤ x2.toInt) (h1 : x2.toInt < x3.toInt) (h2 : x3.toInt ≤ 7) (ha : ¬ ((s >>> (x2 &&& 31)) &&& 1).toInt = 0) (hb : ¬ ((s >>> (x3 &&& 31)) &&& 1).toInt = 0) : ph s x2.toInt (x3.toInt + 1) + 1 ≤ ph s x2.toInt x3.toInt := by
  have hw : wf s (8 * x2.toInt + x3.toInt).toNat = true := by
    have e1 : (8 * x2.toInt + x3.toInt).toNat / 8 = x2.toInt.toNat := by omega
    have e2 : (8 * x2.toInt + x3.toInt).toNat % 8 = x3.toInt.toNat := by omega
    refine decide_eq_true ⟨by omega, ?_, ?_⟩
    · rw [e1, ← i32_ofNat h0]
      exact ha
    · rw [e2, ← i32_ofNat (by omega)]
      exact hb
  have h3 := ck_hit (wf s) _ hw 64 (by omega)
  unfold ph
  rw [show (8 * x2.toInt + (x3.toInt + 1)).toNat = (8 * x2.toInt + x3.toInt).toNat + 1 by omega]
  omega
theorem sh_1024 : ∀ p : Fin 11, ((1 : Int32) <<< (Int32.ofNat p.val &&& 31)).toInt ≤ 1024 := by decide +kernel
theorem sh_10 {x : Int32} (h0 : 0 ≤ x.toInt) (h1 : x.toInt ≤ 10) : ((1 : Int32) <<< (x &&& 31)).toInt ≤ 1024 := by
  have h := sh_1024 ⟨x.toInt.toNat, by omega⟩
  rw [← i32_ofNat h0] at h
  exact h
theorem lX12_findWays_b {G : jdG} {n : Nat} {Z0 : jdL} {I0 : jdI} {J0 : jdJ} {Q : jdQ} {t : Nat} {x1 : Int32} {sA sV : Nat → Nat} (hG : gOK G sA sV) (hQ : ∀ (Z2 : jdL) (I2 : jdI) (J2 : jdJ), ST t 21 20 Z0 I0 J0 Z2 I2 J2 → Q none Z2 I2 J2) : ∀ m : Nat,
    (∀ (Z : jdL) (I : jdI) (J : jdJ) (rc rs : Nat) (x2 : Int32), ST t 21 20 Z0 I0 J0 Z I J → fC Z t ≤ rc → fS Z t ≤ rs → 0 ≤ x2.toInt ∧ x2.toInt ≤ 1024 → (1024 - x2.toInt) * 40 + 35 < (m : Int) → Jd G mX12_findWays (jdFm G Q) (n + 12) rc rs 114 [(0, .ref (gb G + t)), (1, .int x1), (2, .int x2)] [] Z I J) ∧
    (∀ (Z : jdL) (I : jdI) (J : jdJ) (rc rs : Nat) (x2 x4 : Int32) (u3 : Nat), ST t 21 20 Z0 I0 J0 Z I J → Z.2.1 t 21 = some u3 → WM 7 u3 I → 0 ≤ x2.toInt ∧ x2.toInt ≤ 1023 → 0 ≤ x4.toInt ∧ x4.toInt ≤ 10 → (1024 - x2.toInt) * 40 + 30 - x4.toInt < (m : Int) → Jd G mX12_findWays (jdFm G Q) (n + 12) rc rs 132 [(0, .ref (gb G + t)), (1, .int x1), (2, .int x2), (3, .ref (gb G + u3)), (4, .int x4)] [] Z I J) ∧
    (∀ (Z : jdL) (I : jdI) (J : jdJ) (rc rs : Nat) (x2 x4 : Int32) (u3 : Nat), ST t 21 20 Z0 I0 J0 Z I J → Z.2.1 t 21 = some u3 → 0 ≤ x2.toInt ∧ x2.toInt ≤ 1023 → 0 ≤ x4.toInt ∧ x4.toInt ≤ 10 → (1024 - x2.toInt) * 40 + 15 - x4.toInt < (m : Int) → Jd G mX12_findWays (jdFm G Q) (n + 12) rc rs 196 [(0, .ref (gb G + t)), (1, .int x1), (2, .int x2), (3, .ref (gb G + u3)), (4, .int x4)] [] Z I J) := by
  intro m
  induction m with
  | zero =>
    refine ⟨fun Z I J rc rs x2 hS h1 h2 h3 hm => ?_, fun Z I J rc rs x2 x4 u3 hS hu hU h3 h4 hm => ?_, fun Z I J rc rs x2 x4 u3 hS hu h3 h4 hm => ?_⟩ <;> omega
  | succ m ih =>
    have q1 : (1 : Int32).toInt = 1 := rfl
    have q0 : (0 : Int32).toInt = 0 := rfl
    refine ⟨fun Z I J rc rs x2 hS h1 h2 h3 hm => ?_, fun Z I J rc rs x2 x4 u3 hS hu hU h3 h4 hm => ?_, fun Z I J rc rs x2 x4 u3 hS hu h3 h4 hm => ?_⟩
    · have hf := WM_f hS.1.2.1
      have hsh := sh_10 (x := I t 42) (by omega) (by omega)
      refine rX12_findWays_114 hS.1.1 ⟨fun hc => hQ _ _ _ hS, fun hc => ?_⟩
      have hc := mt Int32.le_iff_toInt_le.mpr hc
      refine ⟨fC Z t, fS Z t, 0, 0, h1, h2, ?_⟩
      refine qX12_fresh hG hS.1 (fun u Z1 I1 J1 hS1 hu c0 c2 c3 hU hF1 _ => ⟨u, rfl, hS1.1.1, c0, ?_⟩)
      exact ih.2.1 Z1 I1 J1 0 0 x2 0 u (ST.tr hS hS1) hu hU (by omega) (by decide) (by omega)
    · have hf := WM_f hS.1.2.1
      obtain ⟨c0, c1, c2, c3⟩ := hS.1.2.2.2.2.2.1 u3 hu
      have hfc := fC_some hu
      have e2 := i32_add x2 1 (by omega) (by omega)
      have e4 := i32_add x4 1 (by omega) (by omega)
      refine rX12_findWays_132 hS.1.1 c0 ⟨fun hc => ?_, fun hc => ?_⟩
      · refine sfX12_groupsOf c0 hU (fun v I1 hW1 hF1 => ?_)
        have hS1 := ST_u hS hu (WM_mono hW1 (by decide)) hF1 (by intro a k h; omega)
        refine ⟨fun _ => ih.1 Z I1 J rc rs (x2 + 1) hS1 (by omega) (by omega) (by omega) (by omega), fun _ => ?_⟩
        have hW2 : WM 7 t (uI I1 t 43 ((I1 t 43) + 1)) := WM_uI hS1.1.2.1 (by first | exact okMo (by decide) (by decide) (by decide) (by decide) (by decide) | exact okMf (by decide) (by decide) (by decide) (by decide) (by decide) (by decide) (by decide) (by decide) | exact okM30 (by omega) | exact okM42 (by omega) | exact okM33 (by omega) | exact okM10 (by omega) | exact okM8 (by omega) | exact okM22 (by omega) | exact okM24 (by omega) | exact okM14 (by omega) | exact okMa31 (by omega) | exact okMa35 (by omega) | exact okMa36 (by omega) | exact okMa3 (by omega) | exact okMr (by omega) | (unfold okM; refine ⟨?_, ?_, ?_, ?_, ?_, ?_, ?_, ?_, ?_, ?_, ?_, ?_⟩ <;> intro h <;> omega))
        have hS2 := ST_t hS1 hW2 (p := fun a k => a = t ∧ 20 ≤ k) (Fr_uI Fr.rf (by omega)) (by intro a k h; omega)
        exact ih.2.2 Z _ J rc rs x2 0 u3 hS2 hu h3 (by decide) (by omega)
      · have hc := mt Int32.le_iff_toInt_le.mpr hc
        refine ⟨fun _ => ih.2.1 Z I J rc rs x2 (x4 + 1) u3 hS hu hU h3 (by omega) (by omega), fun _ => ?_⟩
        have hp := WM_pairP hS.1.2.1 (k := Int32.toNatClampNeg x4) (by rw [tn_eq]; omega)
        have hq := WM_pairQ hS.1.2.1 (k := Int32.toNatClampNeg x4) (by rw [tn_eq]; omega)
        refine ⟨vp_of (by omega) (by omega), vp_of (by omega) (by omega), ?_⟩
        refine sfX12_knows c0 (by decide) hU (by omega) (by omega) (fun I5 hW5 hF5 => ?_)
        exact ih.2.1 Z I5 J rc rs x2 (x4 + 1) u3 (ST_u hS hu (WM_mono hW5 (by decide)) hF5 (by intro a k h; omega)) hu hW5 h3 (by omega) (by omega)
    · have hf := WM_f hS.1.2.1
      have hfc := fC_some hu
      have e2 := i32_add x2 1 (by omega) (by omega)
      have e4 := i32_add x4 1 (by omega) (by omega)
      refine rX12_findWays_196 hS.1.1 ⟨fun hc => ih.1 Z I J rc rs (x2 + 1) hS (by omega) (by omega) (by omega) (by omega), fun hc => ?_⟩
      have hc := mt Int32.le_iff_toInt_le.mpr hc
      refine ⟨vp_of (by omega) (by omega), vp_of (by omega) (by omega), ?_⟩
      refine ih.2.2 Z _ J rc rs x2 (x4 + 1) u3 (ST_t hS (p := fun a _ => a = t + 37) (WM_uI hS.1.2.1 (by first | exact okMo (by decide) (by decide) (by decide) (by decide) (by decide) | exact okMf (by decide) (by decide) (by decide) (by decide) (by decide) (by decide) (by decide) (by decide) | exact okM30 (by omega) | exact okM42 (by omega) | exact okM33 (by omega) | exact okM10 (by omega) | exact okM8 (by omega) | exact okM22 (by omega) | exact okM24 (by omega) | exact okM14 (by omega) | exact okMa31 (by omega) | exact okMa35 (by omega) | exact okMa36 (by omega) | exact okMa3 (by omega) | exact okMr (by omega) | (unfold okM; refine ⟨?_, ?_, ?_, ?_, ?_, ?_, ?_, ?_, ?_, ?_, ?_, ?_⟩ <;> intro h <;> omega))) (Fr_uI Fr.rf rfl) (by intro a k h; omega)) hu h3 (by omega) (by omega)
theorem lX12_findWays_a {G : jdG} {n rc rs : Nat} {Z0 Z : jdL} {I0 : jdI} {J0 J : jdJ} {Q : jdQ} {t : Nat} {x1 : Int32} (hrc : fC Z t ≤ rc) (hrs : fS Z t ≤ rs) {sA sV : Nat → Nat} (hG : gOK G sA sV) (hQ : ∀ (Z2 : jdL) (I2 : jdI) (J2 : jdJ), ST t 21 20 Z0 I0 J0 Z2 I2 J2 → Q none Z2 I2 J2) : ∀ m : Nat,
    (∀ (I : jdI) (x2 : Int32), ST t 21 20 Z0 I0 J0 Z I J → 0 ≤ x2.toInt ∧ x2.toInt ≤ 7 → (I t 42).toInt + ph x1 x2.toInt (x2.toInt + 1) ≤ 10 → (7 - x2.toInt) * 10 < (m : Int) → Jd G mX12_findWays (jdFm G Q) (n + 12) rc rs 7 [(0, .ref (gb G + t)), (1, .int x1), (2, .int x2)] [] Z I J) ∧
    (∀ (I : jdI) (x2 x3 : Int32), ST t 21 20 Z0 I0 J0 Z I J → 0 ≤ x2.toInt ∧ x2.toInt ≤ 6 → x2.toInt < x3.toInt ∧ x3.toInt ≤ 7 → (I t 42).toInt + ph x1 x2.toInt x3.toInt ≤ 10 → (7 - x2.toInt) * 10 - x3.toInt < (m : Int) → Jd G mX12_findWays (jdFm G Q) (n + 12) rc rs 19 [(0, .ref (gb G + t)), (1, .int x1), (2, .int x2), (3, .int x3)] [] Z I J) := by
  intro m
  induction m with
  | zero =>
    refine ⟨fun I x2 hS h2 h3 hm => ?_, fun I x2 x3 hS h2 h3 h4 hm => ?_⟩ <;> omega
  | succ m ih =>
    have q1 : (1 : Int32).toInt = 1 := rfl
    refine ⟨fun I x2 hS h2 h3 hm => ?_, fun I x2 x3 hS h2 h3 h4 hm => ?_⟩
    · have hf := WM_f hS.1.2.1
      have e1 := i32_add x2 1 (by omega) (by omega)
      have e1' : (x2 + 1).toInt = x2.toInt + 1 := by omega
      refine rX12_findWays_7 hS.1.1 ⟨fun hc => ?_, fun hc => ?_⟩
      · have hW2 : WM 7 t (uI I t 43 0) := WM_uI hS.1.2.1 (by first | exact okMo (by decide) (by decide) (by decide) (by decide) (by decide) | exact okMf (by decide) (by decide) (by decide) (by decide) (by decide) (by decide) (by decide) (by decide) | exact okM30 (by omega) | exact okM42 (by omega) | exact okM33 (by omega) | exact okM10 (by omega) | exact okM8 (by omega) | exact okM22 (by omega) | exact okM24 (by omega) | exact okM14 (by omega) | exact okMa31 (by omega) | exact okMa35 (by omega) | exact okMa36 (by omega) | exact okMa3 (by omega) | exact okMr (by omega) | (unfold okM; refine ⟨?_, ?_, ?_, ?_, ?_, ?_, ?_, ?_, ?_, ?_, ?_, ?_⟩ <;> intro h <;> omega))
        exact (lX12_findWays_b hG hQ (1024 * 40 + 36)).1 Z _ J rc rs 0 (ST_t hS hW2 (p := fun a k => a = t ∧ 20 ≤ k) (Fr_uI Fr.rf (by omega)) (by intro a k h; omega)) hrc hrs (by decide) (by decide)
      · have hc := mt Int32.le_iff_toInt_le.mpr hc
        exact ih.2 I x2 (x2 + 1) hS (by omega) (by omega) (by rw [e1']; exact h3) (by omega)
    · have hf := WM_f hS.1.2.1
      have e1 := i32_add x2 1 (by omega) (by omega)
      have e1' : (x2 + 1).toInt = x2.toInt + 1 := by omega
      have e2 := i32_add x3 1 (by omega) (by omega)
      have e2' : (x3 + 1).toInt = x3.toInt + 1 := by omega
      have hl1 := ph_le x1 x2.toInt x3.toInt (x2.toInt + 1) (x2.toInt + 1 + 1) (by omega)
      have hl2 := ph_le x1 x2.toInt x3.toInt x2.toInt (x3.toInt + 1) (by omega)
      have hl3 := ph_nn x1 x2.toInt (x3.toInt + 1)
      refine rX12_findWays_19 hS.1.1 ⟨fun hc => ih.1 I (x2 + 1) hS (by omega) (by rw [e1']; omega) (by omega), fun hc => ?_⟩
      have hc := mt Int32.le_iff_toInt_le.mpr hc
      have nx : Jd G mX12_findWays (jdFm G Q) (n + 12) rc rs 19 [(0, .ref (gb G + t)), (1, .int x1), (2, .int x2), (3, .int (x3 + 1))] [] Z I J := ih.2 I x2 (x3 + 1) hS h2 (by omega) (by rw [e2']; omega) (by omega)
      refine sfX12_has trivial (fun v2 hp2 => ⟨fun _ => nx, fun hc2 => ?_⟩)
      have hc2 := i1 hc2
      refine sfX12_has trivial (fun v4 hp4 => ⟨fun _ => nx, fun hc4 => ?_⟩)
      have hc4 := i1 hc4
      refine ⟨vp_of (by omega) (by omega), vp_of (by omega) (by omega), fun _ => nx, fun _ => ?_⟩
      have hh := ph_hit (s := x1) h2.1 h3.1 h3.2 (by omega) (by omega)
      have q0 : (0 : Int32).toInt = 0 := rfl
      refine ⟨vp_of (by omega) (by omega), vp_of (by omega) (by omega), vp_of (by omega) (by omega), ?_⟩
      have w1 : WM 7 t (uI I (t + 35) (Int32.toNatClampNeg (I t 42)) x2) := WM_uI hS.1.2.1 (by first | exact okMo (by decide) (by decide) (by decide) (by decide) (by decide) | exact okMf (by decide) (by decide) (by decide) (by decide) (by decide) (by decide) (by decide) (by decide) | exact okM30 (by omega) | exact okM42 (by omega) | exact okM33 (by omega) | exact okM10 (by omega) | exact okM8 (by omega) | exact okM22 (by omega) | exact okM24 (by omega) | exact okM14 (by omega) | exact okMa31 (by omega) | exact okMa35 (by omega) | exact okMa36 (by omega) | exact okMa3 (by omega) | exact okMr (by omega) | (unfold okM; refine ⟨?_, ?_, ?_, ?_, ?_, ?_, ?_, ?_, ?_, ?_, ?_, ?_⟩ <;> intro h <;> omega))
      have f1 : Fr (fun a k => (a = t ∧ 20 ≤ k) ∨ (t + 29 ≤ a ∧ a ≤ t + 37)) I (uI I (t + 35) (Int32.toNatClampNeg (I t 42)) x2) := Fr_uI Fr.rf (by omega)
      have w2 := WM_uI (id := t + 36) (k := Int32.toNatClampNeg (I t 42)) (v := x3) w1 (by first | exact okMo (by decide) (by decide) (by decide) (by decide) (by decide) | exact okMf (by decide) (by decide) (by decide) (by decide) (by decide) (by decide) (by decide) (by decide) | exact okM30 (by omega) | exact okM42 (by omega) | exact okM33 (by omega) | exact okM10 (by omega) | exact okM8 (by omega) | exact okM22 (by omega) | exact okM24 (by omega) | exact okM14 (by omega) | exact okMa31 (by omega) | exact okMa35 (by omega) | exact okMa36 (by omega) | exact okMa3 (by omega) | exact okMr (by omega) | (unfold okM; refine ⟨?_, ?_, ?_, ?_, ?_, ?_, ?_, ?_, ?_, ?_, ?_, ?_⟩ <;> intro h <;> omega))
      have f2 := Fr_uI (id := t + 36) (k := Int32.toNatClampNeg (I t 42)) (v := x3) f1 (by omega)
      have w3 := WM_uI (id := t + 37) (k := Int32.toNatClampNeg (I t 42)) (v := 0) w2 (by first | exact okMo (by decide) (by decide) (by decide) (by decide) (by decide) | exact okMf (by decide) (by decide) (by decide) (by decide) (by decide) (by decide) (by decide) (by decide) | exact okM30 (by omega) | exact okM42 (by omega) | exact okM33 (by omega) | exact okM10 (by omega) | exact okM8 (by omega) | exact okM22 (by omega) | exact okM24 (by omega) | exact okM14 (by omega) | exact okMa31 (by omega) | exact okMa35 (by omega) | exact okMa36 (by omega) | exact okMa3 (by omega) | exact okMr (by omega) | (unfold okM; refine ⟨?_, ?_, ?_, ?_, ?_, ?_, ?_, ?_, ?_, ?_, ?_, ?_⟩ <;> intro h <;> omega))
      have f3 := Fr_uI (id := t + 37) (k := Int32.toNatClampNeg (I t 42)) (v := 0) f2 (by omega)
      have e5 := i32_add (I t 42) 1 (by omega) (by omega)
      have w4 := WM_uI (id := t) (k := 42) (v := (I t 42) + 1) w3 (by first | exact okMo (by decide) (by decide) (by decide) (by decide) (by decide) | exact okMf (by decide) (by decide) (by decide) (by decide) (by decide) (by decide) (by decide) (by decide) | exact okM30 (by omega) | exact okM42 (by omega) | exact okM33 (by omega) | exact okM10 (by omega) | exact okM8 (by omega) | exact okM22 (by omega) | exact okM24 (by omega) | exact okM14 (by omega) | exact okMa31 (by omega) | exact okMa35 (by omega) | exact okMa36 (by omega) | exact okMa3 (by omega) | exact okMr (by omega) | (unfold okM; refine ⟨?_, ?_, ?_, ?_, ?_, ?_, ?_, ?_, ?_, ?_, ?_, ?_⟩ <;> intro h <;> omega))
      have f4 := Fr_uI (id := t) (k := 42) (v := (I t 42) + 1) f3 (by omega)
      exact ih.2 _ x2 (x3 + 1) (ST_t hS w4 f4 (by intro a k h; omega)) h2 (by omega) (by rw [uI_ap, if_pos ⟨rfl, rfl⟩, e2']; omega) (by omega)
theorem qX12_findWays {G : jdG} {n : Nat} {Z : jdL} {I : jdI} {J : jdJ} {Q : jdQ} {t : Nat} {x1 : Int32} {sA sV : Nat → Nat} (hG : gOK G sA sV) (hM : MI Z I t) (h0 : 0 ≤ x1.toInt) (h1 : x1.toInt ≤ 127) (h5 : (bs x1 8).toInt ≤ 5) (hQ : ∀ (Z2 : jdL) (I2 : jdI) (J2 : jdJ), ST t 21 20 Z I J Z2 I2 J2 → Q none Z2 I2 J2) : Cl G mX12_findWays (n + 12) (fC Z t) (fS Z t) [.ref (gb G + t), .int x1] Z I J Q := by
  have hf := WM_f hM.2.1
  have q0 : (0 : Int32).toInt = 0 := rfl
  have w1 : WM 7 t (uI I t 42 0) := WM_uI hM.2.1 (by first | exact okMo (by decide) (by decide) (by decide) (by decide) (by decide) | exact okMf (by decide) (by decide) (by decide) (by decide) (by decide) (by decide) (by decide) (by decide) | exact okM30 (by omega) | exact okM42 (by omega) | exact okM33 (by omega) | exact okM10 (by omega) | exact okM8 (by omega) | exact okM22 (by omega) | exact okM24 (by omega) | exact okM14 (by omega) | exact okMa31 (by omega) | exact okMa35 (by omega) | exact okMa36 (by omega) | exact okMa3 (by omega) | exact okMr (by omega) | (unfold okM; refine ⟨?_, ?_, ?_, ?_, ?_, ?_, ?_, ?_, ?_, ?_, ?_, ?_⟩ <;> intro h <;> omega))
  have hS := ST_t (ST.rf (x := 21) (y := 20) (J := J) hM) w1 (p := fun a k => a = t ∧ 20 ≤ k) (Fr_uI Fr.rf (by omega)) (by intro a k h; omega)
  refine eX12_findWays hM.1 ?_
  have hw := wf_10 h0 h1 h5
  have hl := ph_le x1 0 0 0 1 (by omega)
  have h9 : ph x1 0 0 ≤ 10 := by
    unfold ph
    exact Int.ofNat_le.mpr hw
  exact (lX12_findWays_a (Nat.le_refl _) (Nat.le_refl _) hG hQ 71).1 _ 0 hS (by decide) (by rw [uI_ap, if_pos ⟨rfl, rfl⟩, q0]; show 0 + ph x1 0 1 ≤ 10; omega) (by decide)
theorem qX12_fits {G : jdG} {n : Nat} {Z : jdL} {I : jdI} {J : jdJ} {Q : jdQ} {t : Nat} {x1 : Int32} {sA sV : Nat → Nat} (hG : gOK G sA sV) (hM : MI Z I t) (hQ : ∀ (v : Int32) (Z2 : jdL) (I2 : jdI) (J2 : jdJ), ST t 21 20 Z I J Z2 I2 J2 → Q (some (.int v)) Z2 I2 J2) : Cl G mX12_fits (n + 13) (fC Z t) (fS Z t) [.ref (gb G + t), .int x1] Z I J Q := by
  have q5 : (5 : Int32).toInt = 5 := rfl
  refine eX12_fits hM.1 ?_
  refine sfX12_isSet hM.1 hM.2.1 (fun v hp => ⟨fun hc => ?_, fun hc => ?_⟩)
  · refine sfX12_refuse hM.1 (by decide) hM.2.1 (by decide) (fun v5 I4 hW4 hF4 _ => ?_)
    exact hQ _ _ _ _ (ST_t (ST.rf hM) hW4 hF4 (by intro a k h; omega))
  · have hc := i1 hc
    refine sfX12_bits trivial (fun v6 hb => ⟨fun hc6 => ?_, fun hc6 => ?_⟩)
    · have hc6 := Int32.le_iff_toInt_le.mp hc6
      rw [hb] at hc6
      refine ⟨fC Z t, fS Z t, 0, 0, Nat.le_refl _, Nat.le_refl _, ?_⟩
      exact qX12_findWays hG hM (by omega) (by omega) (by omega) (fun Z2 I2 J2 hS => ⟨rfl, hS.1.1, hQ _ _ _ _ hS⟩)
    · refine sfX12_refuse hM.1 (by decide) hM.2.1 (by decide) (fun v5 I4 hW4 hF4 _ => ?_)
      exact hQ _ _ _ _ (ST_t (ST.rf hM) hW4 hF4 (by intro a k h; omega))
theorem lX12_sure_46 {G : jdG} {n rc rs : Nat} {Z : jdL} {I : jdI} {J : jdJ} {Q : jdQ} {t : Nat} {x1 : Int32} (hM : MI Z I t) (hQ : ∀ v : Int32, Q (some (.int v)) Z I J) : ∀ m : Nat, ∀ x2 x3 : Int32, 0 ≤ x2.toInt ∧ x2.toInt ≤ 9 → 0 ≤ x3.toInt ∧ x3.toInt ≤ 10 → 10 - x3.toInt < (m : Int) → Jd G mX12_sure (jdFm G Q) (n + 13) rc rs 46 [(0, .ref (gb G + t)), (1, .int x1), (2, .int x2), (3, .int x3)] [] Z I J := by
  intro m
  induction m with
  | zero =>
    intro x2 x3 h2 h3 hm
    omega
  | succ m ih =>
    intro x2 x3 h2 h3 hm
    have hf := WM_f hM.2.1
    have q1 : (1 : Int32).toInt = 1 := rfl
    have e1 := i32_add x3 1 (by omega) (by omega)
    refine rX12_sure_46 hM.1 ⟨fun hc => ⟨vp_of (by omega) (by omega), vp_of (by omega) (by omega), hQ _⟩, fun hc => ?_⟩
    have hc := mt Int32.le_iff_toInt_le.mpr hc
    exact ⟨vp_of (by omega) (by omega), vp_of (by omega) (by omega), fun _ => ih x2 (x3 + 1) h2 (by omega) (by omega), fun _ => ih x3 (x3 + 1) (by omega) (by omega) (by omega)⟩
theorem qX12_sure {G : jdG} {n : Nat} {Z : jdL} {I : jdI} {J : jdJ} {Q : jdQ} {t : Nat} {x1 : Int32} {sA sV : Nat → Nat} (hG : gOK G sA sV) (hM : MI Z I t) (hQ : ∀ (v : Int32) (Z2 : jdL) (I2 : jdI) (J2 : jdJ), ST t 21 20 Z I J Z2 I2 J2 → Q (some (.int v)) Z2 I2 J2) : Cl G mX12_sure (n + 13) (fC Z t) (fS Z t) [.ref (gb G + t), .int x1] Z I J Q := by
  have q5 : (5 : Int32).toInt = 5 := rfl
  refine eX12_sure hM.1 ?_
  refine sfX12_isSet hM.1 hM.2.1 (fun v hp => ⟨fun hc => ?_, fun hc => ?_⟩)
  · refine sfX12_refuse hM.1 (by decide) hM.2.1 (by decide) (fun v5 I4 hW4 hF4 _ => ?_)
    exact hQ _ _ _ _ (ST_t (ST.rf hM) hW4 hF4 (by intro a k h; omega))
  · have hc := i1 hc
    refine sfX12_bits trivial (fun v6 hb => ⟨fun hc6 => ?_, fun hc6 => ?_⟩)
    · have hc6 := Int32.le_iff_toInt_le.mp hc6
      rw [hb] at hc6
      refine ⟨fC Z t, fS Z t, 0, 0, Nat.le_refl _, Nat.le_refl _, ?_⟩
      refine qX12_findWays hG hM (by omega) (by omega) (by omega) (fun Z2 I2 J2 hS => ⟨rfl, hS.1.1, fun _ => ?_, fun _ => ?_⟩)
      · exact lX12_sure_46 hS.1 (fun v => hQ v _ _ _ hS) 12 0 1 (by decide) (by decide) (by decide)
      · refine sfX12_refuse hS.1.1 (by decide) hS.1.2.1 (by decide) (fun v5 I4 hW4 hF4 _ => ?_)
        exact hQ _ _ _ _ (ST_t hS hW4 hF4 (by intro a k h; omega))
    · refine sfX12_refuse hM.1 (by decide) hM.2.1 (by decide) (fun v5 I4 hW4 hF4 _ => ?_)
      exact hQ _ _ _ _ (ST_t (ST.rf hM) hW4 hF4 (by intro a k h; omega))
theorem lX12_behind_80 {G : jdG} {n rc rs : Nat} {Z0 Z : jdL} {I0 : jdI} {J0 J : jdJ} {Q : jdQ} {t u5 : Nat} {x1 x2 x3 x4 : Int32} (hx1 : 0 ≤ x1.toInt ∧ x1.toInt ≤ 7) (hx2 : 0 ≤ x2.toInt ∧ x2.toInt ≤ 7) (hu : Z.2.1 t 21 = some u5) (hQ : ∀ (v : Int32) (Z2 : jdL) (I2 : jdI) (J2 : jdJ), ST t 21 20 Z0 I0 J0 Z2 I2 J2 → Q (some (.int v)) Z2 I2 J2) : ∀ m : Nat, ∀ (I : jdI) (x6 : Int32), ST t 21 20 Z0 I0 J0 Z I J → WM 7 u5 I → 0 ≤ x6.toInt ∧ x6.toInt ≤ x2.toInt → x2.toInt - x6.toInt < (m : Int) → Jd G mX12_behind (jdFm G Q) (n + 12) rc rs 80 [(0, .ref (gb G + t)), (1, .int x1), (2, .int x2), (3, .int x3), (4, .int x4), (5, .ref (gb G + u5)), (6, .int x6)] [] Z I J := by
  intro m
  induction m with
  | zero =>
    intro I x6 hS hU hx hm
    omega
  | succ m ih =>
    intro I x6 hS hU hx hm
    obtain ⟨c0, c1, c2, c3⟩ := hS.1.2.2.2.2.2.1 u5 hu
    have q1 : (1 : Int32).toInt = 1 := rfl
    have e1 := i32_add x6 1 (by omega) (by omega)
    refine rX12_behind_80 hS.1.1 c0 ⟨fun hc => ?_, fun hc => ?_⟩
    · refine sfX12_all hS.1.1 (by decide) hS.1.2.1 (fun v2 _ => ?_)
      refine sfX12_groupsOf c0 hU (fun v4 I3 hW3 hF3 => ?_)
      exact hQ _ _ _ _ (ST_u hS hu (WM_mono hW3 (by decide)) hF3 (by intro a k h; omega))
    · have hc := mt Int32.le_iff_toInt_le.mpr hc
      refine ⟨vp_of (by omega) (by omega), vp_of (by omega) (by omega), ?_⟩
      refine sfX12_meets c0 hU (fun v8 I7 hW7 hF7 => ?_)
      exact ih I7 (x6 + 1) (ST_u hS hu (WM_mono hW7 (by decide)) hF7 (by intro a k h; omega)) hW7 (by omega) (by omega)
theorem qX12_behind {G : jdG} {n : Nat} {Z : jdL} {I : jdI} {J : jdJ} {Q : jdQ} {t : Nat} {x1 x2 x3 : Int32} {sA sV : Nat → Nat} (hG : gOK G sA sV) (hM : MI Z I t) (hQ : ∀ (v : Int32) (Z2 : jdL) (I2 : jdI) (J2 : jdJ), ST t 21 20 Z I J Z2 I2 J2 → Q (some (.int v)) Z2 I2 J2) : Cl G mX12_behind (n + 12) (fC Z t) (fS Z t) [.ref (gb G + t), .int x1, .int x2, .int x3] Z I J Q := by
  refine eX12_behind hM.1 ?_
  refine sfX12_in trivial (fun v2 _ => ⟨fun _ => ?_, fun _ => ?_⟩)
  · refine sfX12_noDay hM.1 hM.2.1 (fun v4 I3 hW3 hF3 hp4 => ?_)
    have hS3 := ST_t (ST.rf (x := 21) (y := 20) (J := J) hM) hW3 hF3 (by intro a k h; omega)
    refine ⟨fun hc4 => ?_, fun _ => hQ _ _ _ _ hS3⟩
    have hc4 := i0 hc4
    refine ⟨vp_of (by omega) (by omega), ?_⟩
    refine sfX12_wrongCoach hM.1 (zModel_rowsA hM.1 (by rw [tn_eq]; omega)) hW3 (by omega) rfl (fun v7 I6 hW6 hF6 => ?_)
    have hS6 := ST_t hS3 hW6 hF6 (by intro a k h; omega)
    refine ⟨fun _ => ⟨fun _ => ?_, fun _ => ?_⟩, fun _ => ?_⟩
    · refine ⟨fC Z t, fS Z t, 0, 0, Nat.le_refl _, Nat.le_refl _, ?_⟩
      refine qX12_fresh hG hS6.1 (fun u Z8 I8 J8 hS hu c0 c2 c3 hU hF8 _ => ⟨u, rfl, hS.1.1, c0, ?_⟩)
      exact lX12_behind_80 (by omega) (by omega) hu hQ 8 I8 0 (ST.tr hS6 hS) hU ⟨by decide, by show (0 : Int) ≤ _; omega⟩ (by show x2.toInt - 0 < 8; omega)
    · refine sfX12_all hS6.1.1 (by decide) hS6.1.2.1 (fun v10 _ => ?_)
      exact hQ _ _ _ _ hS6
    · refine sfX12_refuse hS6.1.1 (by decide) hS6.1.2.1 (by decide) (fun v5 I4 hW4 hF4 _ => ?_)
      exact hQ _ _ _ _ (ST_t hS6 hW4 hF4 (by intro a k h; omega))
  · refine sfX12_refuse hM.1 (by decide) hM.2.1 (by decide) (fun v5 I4 hW4 hF4 _ => ?_)
    exact hQ _ _ _ _ (ST_t (ST.rf hM) hW4 hF4 (by intro a k h; omega))
theorem ST_w {Z0 Z : jdL} {I0 I I2 : jdI} {J0 J : jdJ} {t x y w : Nat} {p : Nat → Nat → Prop} (h : ST t x y Z0 I0 J0 Z I J) (hx : ¬ x = 21) (hw : Z.2.1 t 20 = some w) (hW : WM 7 w I2) (hF : Fr p I I2) (hp : ∀ a k, p a k → (w ≤ a ∧ a ≤ w + 37) ∨ Z.2.2 ≤ a) : ST t x y Z0 I0 J0 Z I2 J :=
  ⟨MI_w h.1 hw hW hF hp, RF_fr h.2 hF (fun a k q => by have := hp a k q; have := h.1.2.2.1; have := (h.1.2.2.2.2.1 w hw).2.2; omega) (fun e => absurd e hx) (fun a c ha ht hz hc k q => by have hw2 := h.1.2.2.2.2.1 w hw; rcases hp a k q with z | z <;> first | omega | (have := zModel_ty hw2.1 z.1 z.2 hz; omega))⟩
theorem qX12_image {G : jdG} {n : Nat} {Z : jdL} {I : jdI} {J : jdJ} {Q : jdQ} {t : Nat} {sA sV : Nat → Nat} (hG : gOK G sA sV) (hM : MI Z I t) (hQ : ∀ (Z2 : jdL) (I2 : jdI) (J2 : jdJ), ST t 20 10 Z I J Z2 I2 J2 → (∃ w, Z2.2.1 t 20 = some w ∧ t + 38 ≤ w ∧ w + 38 ≤ Z2.2.2 ∧ CM I I2 w t 20 8) → Fr (fun a _ => t + 38 ≤ a) I I2 → Q (some (.int 1)) Z2 I2 J2) : Cl G mX12_image (n + 2) 38 1946 [.ref (gb G + t)] Z I J Q := by
  have hb := hM.2.2.1
  refine eX12_image hM.1 ⟨fun hn => ?_, fun w hw => ?_⟩
  · refine ⟨37, 1901, by omega, by omega, (MI_nZ hM).1, 37, 1901, 0, 0, Nat.le_refl _, Nat.le_refl _, ?_⟩
    refine w_X12_init hG rfl (by rw [nZ_ap, if_pos rfl]) ?_
    have hK := MI_make hM (Or.inl rfl) hn
    have hR := RF_make (y := 10) (I := I) (J := J) (k := 20) hb (Or.inl rfl) (fun w e => by rw [hn] at e; cases e)
    have hf1 : (uP (kModelZ (nZ Z (11 + 10, 0)) Z.2.2) t 20 (some Z.2.2)).2.1 t 20 = some Z.2.2 := by rw [uP_ap, if_pos ⟨rfl, rfl⟩]
    refine ⟨rfl, zModel_tr hK.1 (fun _ _ _ => rfl) (fun a k h1 h2 h3 => by rw [uP_ap, if_neg (by omega)]), hK.1, fun e => (by rw [hf1] at e; cases e), fun w6 e6 => ?_⟩
    rw [hf1] at e6
    cases e6
    obtain ⟨d0, d1, d2, d3⟩ := hK.2.2.2.2.1 Z.2.2 hf1
    refine ⟨d0, ?_⟩
    have hFm := Fr_model I Z.2.2
    refine pX12_takeFrom d0 hK.1 (Or.inr (by omega)) (WM_mono d1 (by decide)) hK.2.1 (fun I7 hW7 hF7 hC7 => ?_)
    exact hQ _ _ _ (ST_w ⟨hK, hR⟩ (by decide) hf1 hW7 hF7 (by intro a k h; omega)) ⟨_, hf1, d2, d3, CM_b hC7 (fun a k h1 h2 => hFm a k (by omega)) (by decide)⟩ (Fr.tr (Fr.tr (p := fun a _ => t + 38 ≤ a) Fr.rf hFm (by intro a k h; omega)) hF7 (by intro a k h; omega))
  · obtain ⟨c0, c1, c2, c3⟩ := hM.2.2.2.2.1 w hw
    refine ⟨c0, fun e => (by rw [hw] at e; cases e), fun w10 e10 => ?_⟩
    rw [hw] at e10
    cases e10
    refine ⟨c0, pX12_takeFrom c0 hM.1 (Or.inr (by omega)) (WM_mono c1 (by decide)) hM.2.1 (fun I11 hW11 hF11 hC11 => ?_)⟩
    exact hQ _ _ _ (ST_w (ST.rf hM) (by decide) hw hW11 hF11 (by intro a k h; omega)) ⟨_, hw, c2, c3, hC11⟩ (Fr.tr Fr.rf hF11 (by intro a k h; omega))
theorem qX12_back {G : jdG} {n : Nat} {Z : jdL} {I : jdI} {J : jdJ} {t : Nat} {K : Int32 → jdI → jdJ → Prop} (hM : MI Z I t) (hK : ∀ (v : Int32) (I2 : jdI), ST t 21 10 Z I J Z I2 J → ((Z.2.1 t 20 = none → v.toInt = -5 ∧ Fr (fun a _ => a = t + 17) I I2) ∧ (¬ Z.2.1 t 20 = none → v.toInt = 1 ∧ ∀ w, Z.2.1 t 20 = some w → CM I I2 t w 20 8)) → K v I2 J) : Cl G mX12_back (n + 2) 0 0 [.ref (gb G + t)] Z I J (qi Z K) := by
  refine eX12_back hM.1 ⟨fun hn => ?_, fun w hw => ?_⟩
  · refine sfX12_refuse hM.1 (by decide) hM.2.1 (by decide) (fun v5 I4 hW4 hF4 hv => ?_)
    exact hK _ _ (ST_t (ST.rf hM) hW4 hF4 (by intro a k h; omega)) ⟨fun _ => ⟨hv, hF4⟩, fun h => absurd hn h⟩
  · obtain ⟨c0, c1, c2, c3⟩ := hM.2.2.2.2.1 w hw
    refine ⟨c0, fun e => (by rw [hw] at e; cases e), fun w6 e6 => ?_⟩
    rw [hw] at e6
    cases e6
    refine ⟨c0, pX12_takeFrom hM.1 c0 (Or.inl (by omega)) (WM_mono hM.2.1 (by decide)) c1 (fun I9 hW9 hF9 hC9 => ?_)⟩
    exact hK _ _ (ST_t (ST.rf hM) hW9 hF9 (by intro a k h; omega)) ⟨fun h => (by rw [hw] at h; cases h), fun _ => ⟨rfl, fun w9 e9 => by rw [hw] at e9; cases e9; exact hC9⟩⟩
