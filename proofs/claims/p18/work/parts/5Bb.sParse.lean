def bt (s : Int32) (i : Nat) : Bool := decide (¬ ((s >>> (Int32.ofNat i &&& 31)) &&& 1) = 0)
theorem bt_iff (s : Int32) {x : Int32} (h : 0 ≤ x.toInt) : bt s x.toInt.toNat = true ↔ ¬ ((s >>> (x &&& 31)) &&& 1) = 0 := by
  unfold bt
  rw [← i32_ofNat h]
  exact decide_eq_true_iff
theorem bt_and (a b : Int32) : ((a &&& b) &&& 1) = 0 ↔ (a &&& 1) = 0 ∨ (b &&& 1) = 0 := by
  have e : (a &&& b) &&& 1 = (a &&& 1) &&& (b &&& 1) := by
    rw [Int32.and_assoc, Int32.and_assoc, ← Int32.and_assoc 1 b 1, Int32.and_comm 1 b, Int32.and_assoc b 1 1, Int32.and_self]
  have ra := i32_and a 1 (by decide)
  have rb := i32_and b 1 (by decide)
  have q1 : (1 : Int32).toInt = 1 := rfl
  have q0 : (0 : Int32).toInt = 0 := rfl
  rw [e]
  refine ⟨fun h => ?_, fun h => ?_⟩
  · by_cases c : (a &&& 1) = 0
    · exact Or.inl c
    · by_cases d : (b &&& 1) = 0
      · exact Or.inr d
      · have ea : (a &&& 1) = 1 := Int32.toInt_inj.mp (by have : ¬ (a &&& 1).toInt = 0 := fun z => c (Int32.toInt_inj.mp (z.trans q0.symm)); omega)
        have eb : (b &&& 1) = 1 := Int32.toInt_inj.mp (by have : ¬ (b &&& 1).toInt = 0 := fun z => d (Int32.toInt_inj.mp (z.trans q0.symm)); omega)
        rw [ea, eb] at h
        exact absurd h (by decide)
  · rcases h with h | h
    · rw [h, Int32.zero_and]
    · rw [h, Int32.and_zero]
def acqT (w : Tw) (s : Int32) : Tw := (w.1, w.2.1, w.2.2.1, w.2.2.2.1, w.2.2.2.2.1, fun i j => if bt s i = true ∧ bt s j = true then 0 else w.2.2.2.2.2 i j)
/-- the pair i, j was looked at ahead of x3, x4 -/
def dn (i j : Nat) (x3 x4 : Int) : Prop := ((i : Int) < x3 ∧ (j : Int) < x3) ∨ ((i : Int) = x3 ∧ (j : Int) < x4) ∨ ((j : Int) = x3 ∧ (i : Int) < x4)
def rowc (k : Nat → Nat → Int32) (s : Int32) (i : Nat) : Nat → Int
  | 0 => 0
  | j + 1 => rowc k s i j + (if bt s i = true ∧ bt s j = true ∧ k i j = -1 then 1 else 0)
def totc (k : Nat → Nat → Int32) (s : Int32) : Nat → Int
  | 0 => 0
  | i + 1 => totc k s i + rowc k s i i
theorem rowc_b (k : Nat → Nat → Int32) (s : Int32) (i : Nat) : ∀ j, 0 ≤ rowc k s i j ∧ rowc k s i j ≤ j
  | 0 => ⟨Int.le_refl _, Int.le_refl _⟩
  | j + 1 => by
    have h := rowc_b k s i j
    show 0 ≤ rowc k s i j + _ ∧ rowc k s i j + _ ≤ _
    split <;> omega
theorem totc_b (k : Nat → Nat → Int32) (s : Int32) : ∀ i, i ≤ 7 → 0 ≤ totc k s i ∧ totc k s i ≤ 7 * i
  | 0, _ => ⟨Int.le_refl _, Int.le_refl _⟩
  | i + 1, hi => by
    have h := totc_b k s i (by omega)
    have g := rowc_b k s i i
    show 0 ≤ totc k s i + _ ∧ totc k s i + _ ≤ _
    omega
theorem pX9_acquaint_l {G : jdG} {n rc rs : Nat} {Z : jdL} {J : jdJ} {K : Int32 → jdI → jdJ → Prop} {I0 : jdI} {t : Nat} {w : Tw} {x1 : Int32} (ht : zTown Z t) (hts : t = 1 ∨ t = 5 ∨ t = 9) (hP : 0 ≤ w.1 ∧ w.1 ≤ 7) (hK : ∀ (v : Int32) (I2 : jdI), WX I2 → Fr (fun a k => a = t + 3) I0 I2 → RX I2 t (acqT w x1) → v.toInt = totc w.2.2.2.2.2 x1 w.1.toNat → K v I2 J) : ∀ m : Nat,
    (∀ (I : jdI) (x2 x3 : Int32), WX I → Fr (fun a k => a = t + 3) I0 I → (∃ w2 : Tw, RX I t w2 ∧ w2.1 = w.1 ∧ w2.2.1 = w.2.1 ∧ w2.2.2.1 = w.2.2.1 ∧ w2.2.2.2.1 = w.2.2.2.1 ∧ w2.2.2.2.2.1 = w.2.2.2.2.1) → (∀ i j : Nat, (i : Int) < w.1 → (j : Int) < w.1 → i ≠ j → ((bt x1 i = true → bt x1 j = true → dn i j x3.toInt 0 → I (t + 3) (i * 7 + j) = 0) ∧ (¬ (bt x1 i = true ∧ bt x1 j = true ∧ dn i j x3.toInt 0) → I (t + 3) (i * 7 + j) = w.2.2.2.2.2 i j))) → x2.toInt = totc w.2.2.2.2.2 x1 x3.toInt.toNat → 0 ≤ x3.toInt ∧ x3.toInt ≤ w.1 → (8 - x3.toInt) * 10 < (m : Int) → Jd G mX9_acquaint (jdFm G (qi Z K)) (n + 1) rc rs 4 [(0, .ref (gb G + t)), (1, .int x1), (2, .int x2), (3, .int x3)] [] Z I J) ∧
    (∀ (I : jdI) (x2 x3 x4 : Int32), WX I → Fr (fun a k => a = t + 3) I0 I → (∃ w2 : Tw, RX I t w2 ∧ w2.1 = w.1 ∧ w2.2.1 = w.2.1 ∧ w2.2.2.1 = w.2.2.1 ∧ w2.2.2.2.1 = w.2.2.2.1 ∧ w2.2.2.2.2.1 = w.2.2.2.2.1) → (∀ i j : Nat, (i : Int) < w.1 → (j : Int) < w.1 → i ≠ j → ((bt x1 i = true → bt x1 j = true → dn i j x3.toInt x4.toInt → I (t + 3) (i * 7 + j) = 0) ∧ (¬ (bt x1 i = true ∧ bt x1 j = true ∧ dn i j x3.toInt x4.toInt) → I (t + 3) (i * 7 + j) = w.2.2.2.2.2 i j))) → x2.toInt = totc w.2.2.2.2.2 x1 x3.toInt.toNat + rowc w.2.2.2.2.2 x1 x3.toInt.toNat x4.toInt.toNat → 0 ≤ x3.toInt ∧ x3.toInt < w.1 → 0 ≤ x4.toInt ∧ x4.toInt ≤ x3.toInt → (8 - x3.toInt) * 10 - 1 - x4.toInt < (m : Int) → Jd G mX9_acquaint (jdFm G (qi Z K)) (n + 1) rc rs 15 [(0, .ref (gb G + t)), (1, .int x1), (2, .int x2), (3, .int x3), (4, .int x4)] [] Z I J) := by
  intro m
  induction m with
  | zero =>
    refine ⟨fun I x2 x3 hW hF b0 b1 b2 h3 hm => ?_, fun I x2 x3 x4 hW hF b0 b1 b2 h3 h4 hm => ?_⟩ <;> omega
  | succ m ih =>
    have q1 : (1 : Int32).toInt = 1 := rfl
    have q0 : (0 : Int32).toInt = 0 := rfl
    refine ⟨fun I x2 x3 hW hF b0 b1 b2 h3 hm => ?_, fun I x2 x3 x4 hW hF b0 b1 b2 h3 h4 hm => ?_⟩
    · obtain ⟨w2, r, e1, e2, e3, e4, e5⟩ := b0
      obtain ⟨r1, r2, r3, r4, r5⟩ := r
      refine rX9_acquaint_4 ht ⟨fun hc => ?_, fun hc => ?_⟩
      · have hc := Int32.le_iff_toInt_le.mp hc
        have ex : x3.toInt = w.1 := by omega
        refine hK x2 I hW hF ⟨by rw [r1, e1]; rfl, fun i hi => ?_, by rw [r3, e4]; rfl, by rw [r4, e5]; rfl, fun i j hi hj hne => ?_⟩ (by rw [b2, ex])
        · have hi : (i : Int) < w.1 := hi
          have h := r2 i (by omega)
          rw [e2, e3] at h
          exact h
        · have hi : (i : Int) < w.1 := hi
          have hj : (j : Int) < w.1 := hj
          obtain ⟨c1, c2⟩ := b1 i j hi hj hne
          show _ = if bt x1 i = true ∧ bt x1 j = true then 0 else w.2.2.2.2.2 i j
          by_cases c : bt x1 i = true ∧ bt x1 j = true
          · rw [if_pos c]
            exact c1 c.1 c.2 (by unfold dn; omega)
          · rw [if_neg c]
            exact c2 (fun q => c ⟨q.1, q.2.1⟩)
      · have hc := mt Int32.le_iff_toInt_le.mpr hc
        refine ih.2 I x2 x3 0 hW hF ⟨w2, ⟨r1, r2, r3, r4, r5⟩, e1, e2, e3, e4, e5⟩ b1 (by rw [b2]; show _ = _ + (0 : Int); omega) (by omega) (by omega) (by omega)
    · have s4 := i32_add x4 1 (by omega) (by omega)
      have s3 := i32_add x3 1 (by omega) (by omega)
      have n3 := tn_eq x3
      have n4 := tn_eq x4
      refine rX9_acquaint_15 ht ⟨fun hc => ?_, fun hc => ?_⟩
      · have hc := Int32.le_iff_toInt_le.mp hc
        refine ih.1 I x2 (x3 + 1) hW hF b0 (fun i j hi hj hne => ?_) ?_ (by omega) (by omega)
        · obtain ⟨c1, c2⟩ := b1 i j hi hj hne
          exact ⟨fun g1 g2 g3 => c1 g1 g2 (by unfold dn at g3 ⊢; omega), fun g => c2 (fun q => g ⟨q.1, q.2.1, by have := q.2.2; unfold dn at this ⊢; omega⟩)⟩
        · rw [b2, show (x3 + 1).toInt.toNat = x3.toInt.toNat + 1 by omega, show x4.toInt.toNat = x3.toInt.toNat by omega]
          rfl
      · have hc := mt Int32.le_iff_toInt_le.mpr hc
        have cb := rowc_b w.2.2.2.2.2 x1 x3.toInt.toNat x4.toInt.toNat
        have ct := totc_b w.2.2.2.2.2 x1 x3.toInt.toNat (by omega)
        have er : rowc w.2.2.2.2.2 x1 x3.toInt.toNat (x4 + 1).toInt.toNat = rowc w.2.2.2.2.2 x1 x3.toInt.toNat x4.toInt.toNat + (if bt x1 x3.toInt.toNat = true ∧ bt x1 x4.toInt.toNat = true ∧ w.2.2.2.2.2 x3.toInt.toNat x4.toInt.toNat = -1 then 1 else 0) := by
          rw [show (x4 + 1).toInt.toNat = x4.toInt.toNat + 1 by omega]
          rfl
        have b3 := bt_iff x1 (x := x3) h3.1
        have b4 := bt_iff x1 (x := x4) h4.1
        have cur := (b1 x3.toInt.toNat x4.toInt.toNat (by omega) (by omega) (by omega)).2 (fun q => by have := q.2.2; unfold dn at this; omega)
        have skip : ¬ (bt x1 x3.toInt.toNat = true ∧ bt x1 x4.toInt.toNat = true) → Jd G mX9_acquaint (jdFm G (qi Z K)) (n + 1) rc rs 15 [(0, .ref (gb G + t)), (1, .int x1), (2, .int x2), (3, .int x3), (4, .int (x4 + 1))] [] Z I J := fun hb => by
          refine ih.2 I x2 x3 (x4 + 1) hW hF b0 (fun i j hi hj hne => ?_) ?_ h3 (by omega) (by omega)
          · obtain ⟨c1, c2⟩ := b1 i j hi hj hne
            refine ⟨fun g1 g2 g3 => c1 g1 g2 ?_, fun g => c2 (fun q => g ⟨q.1, q.2.1, by have := q.2.2; unfold dn at this ⊢; omega⟩)⟩
            unfold dn at g3 ⊢
            by_cases d1 : (i : Int) = x3.toInt ∧ (j : Int) = x4.toInt
            · exact absurd ⟨by rw [show x3.toInt.toNat = i by omega]; exact g1, by rw [show x4.toInt.toNat = j by omega]; exact g2⟩ hb
            · by_cases d2 : (j : Int) = x3.toInt ∧ (i : Int) = x4.toInt
              · exact absurd ⟨by rw [show x3.toInt.toNat = j by omega]; exact g2, by rw [show x4.toInt.toNat = i by omega]; exact g1⟩ hb
              · omega
          · rw [er, if_neg (fun q => hb ⟨q.1, q.2.1⟩), b2]
            omega
        have next : (bt x1 x3.toInt.toNat = true ∧ bt x1 x4.toInt.toNat = true) → ∀ (I3 : jdI) (x5 : Int32), WX I3 → Fr (fun a k => a = t + 3) I I3 → RX I3 t (tieT (w.1, w.2.1, w.2.2.1, w.2.2.2.1, w.2.2.2.2.1, fun i j => I (t + 3) (i * 7 + j)) (Int32.toNatClampNeg x3) (Int32.toNatClampNeg x4) 0) → x5.toInt = totc w.2.2.2.2.2 x1 x3.toInt.toNat + rowc w.2.2.2.2.2 x1 x3.toInt.toNat (x4 + 1).toInt.toNat → Jd G mX9_acquaint (jdFm G (qi Z K)) (n + 1) rc rs 15 [(0, .ref (gb G + t)), (1, .int x1), (2, .int x5), (3, .int x3), (4, .int (x4 + 1))] [] Z I3 J := fun hb I3 x5 hW3 hF3 hR3 hx5 => by
          refine ih.2 I3 x5 x3 (x4 + 1) hW3 (Fr.tr hF hF3 (fun _ _ h => h)) ⟨_, hR3, rfl, rfl, rfl, rfl, rfl⟩ (fun i j hi hj hne => ?_) hx5 h3 (by omega) (by omega)
          obtain ⟨c1, c2⟩ := b1 i j hi hj hne
          have e9 := hR3.2.2.2.2 i j hi hj hne
          have e9 : I3 (t + 3) (i * 7 + j) = if (i = Int32.toNatClampNeg x3 ∧ j = Int32.toNatClampNeg x4) ∨ (i = Int32.toNatClampNeg x4 ∧ j = Int32.toNatClampNeg x3) then 0 else I (t + 3) (i * 7 + j) := e9
          by_cases d : (i = Int32.toNatClampNeg x3 ∧ j = Int32.toNatClampNeg x4) ∨ (i = Int32.toNatClampNeg x4 ∧ j = Int32.toNatClampNeg x3)
          · rw [if_pos d] at e9
            refine ⟨fun _ _ _ => e9, fun g => absurd ?_ g⟩
            rcases d with d | d
            · rw [d.1, d.2]
              exact ⟨hb.1, hb.2, by unfold dn; omega⟩
            · rw [d.1, d.2]
              exact ⟨hb.2, hb.1, by unfold dn; omega⟩
          · rw [if_neg d] at e9
            rw [e9]
            exact ⟨fun g1 g2 g3 => c1 g1 g2 (by unfold dn at g3 ⊢; omega), fun g => c2 (fun q => g ⟨q.1, q.2.1, by have := q.2.2; unfold dn at this ⊢; omega⟩)⟩
        obtain ⟨w2, r, e1, e2, e3, e4, e5⟩ := b0
        have rt : RX I t (w.1, w.2.1, w.2.2.1, w.2.2.2.1, w.2.2.2.2.1, fun i j => I (t + 3) (i * 7 + j)) := ⟨r.1.trans e1, fun i hi => by have h := r.2.1 i (by have : (i : Int) < w.1 := hi; omega); rw [e2, e3] at h; exact h, r.2.2.1.trans e4, r.2.2.2.1.trans e5, fun i j _ _ _ => rfl⟩
        refine ⟨fun hz => skip (fun hb => ?_), fun hz => ?_⟩
        · rcases (bt_and _ _).mp hz with q | q
          · exact b3.mp hb.1 q
          · exact b4.mp hb.2 q
        · have hb : bt x1 x3.toInt.toNat = true ∧ bt x1 x4.toInt.toNat = true := ⟨b3.mpr (fun q => hz ((bt_and _ _).mpr (Or.inl q))), b4.mpr (fun q => hz ((bt_and _ _).mpr (Or.inr q)))⟩
          have m1 := i32_mulc x3 7 7 rfl (by omega) (by omega)
          have a1 := i32_add (x3 * 7) x4 (by omega) (by omega)
          have k1 := tn_eq ((x3 * 7) + x4)
          refine eX9_since ht ⟨vp_of (by omega) (by omega), ?_⟩
          rw [show Int32.toNatClampNeg ((x3 * 7) + x4) = x3.toInt.toNat * 7 + x4.toInt.toNat by omega, cur]
          refine ⟨fun hv => ?_, fun hv => ?_⟩
          · refine pX9_tie ht hts hW rt ⟨h3.1, h3.2⟩ ⟨h4.1, by show _ < w.1; omega⟩ (fun I3 hW3 hF3 hR3 => next hb I3 (x2 + 0) hW3 hF3 hR3 ?_)
            have z := i32_add x2 0 (by omega) (by omega)
            rw [er, if_neg (fun q => hv q.2.2), z, b2]
            omega
          · refine pX9_tie ht hts hW rt ⟨h3.1, h3.2⟩ ⟨h4.1, by show _ < w.1; omega⟩ (fun I3 hW3 hF3 hR3 => next hb I3 (x2 + 1) hW3 hF3 hR3 ?_)
            have z := i32_add x2 1 (by omega) (by omega)
            rw [er, if_pos ⟨hb.1, hb.2, hv⟩, z, b2]
            omega
theorem pX9_acquaint {G : jdG} {n : Nat} {Z : jdL} {J : jdJ} {K : Int32 → jdI → jdJ → Prop} {I : jdI} {t : Nat} {w : Tw} {x1 : Int32} (ht : zTown Z t) (hts : t = 1 ∨ t = 5 ∨ t = 9) (hW : WX I) (hw : RX I t w) (hK : ∀ (v : Int32) (I2 : jdI), WX I2 → Fr (fun a k => a = t + 3) I I2 → RX I2 t (acqT w x1) → v.toInt = totc w.2.2.2.2.2 x1 w.1.toNat → K v I2 J) : Cl G mX9_acquaint (n + 1) 0 0 [.ref (gb G + t), .int x1] Z I J (qi Z K) := by
  have hp := WX_town hW hts
  have h1 := hw.1
  have q0 : (0 : Int32).toInt = 0 := rfl
  refine eX9_acquaint ht ?_
  exact (pX9_acquaint_l ht hts ⟨by omega, by omega⟩ hK 81).1 I 0 0 hW Fr.rf ⟨w, hw, rfl, rfl, rfl, rfl, rfl⟩ (fun i j hi hj hne => ⟨fun _ _ q => by unfold dn at q; omega, fun _ => hw.2.2.2.2 i j hi hj hne⟩) rfl ⟨by decide, by show (0 : Int) ≤ _; omega⟩ (by decide)
theorem pX12_meets_l {G : jdG} {n rc rs : Nat} {Z : jdL} {J : jdJ} {K : Int32 → jdI → jdJ → Prop} {I0 : jdI} {t : Nat} {w : Tw} {x1 : Int32} (ht : zModel Z t) (hP : 0 ≤ w.1 ∧ w.1 ≤ 7) (hK : ∀ (v : Int32) (I2 : jdI), WM 7 t I2 → Fr (fun a k => t + 21 ≤ a ∧ a ≤ t + 28) I0 I2 → RM I2 t (acqT w x1) → v.toInt = totc w.2.2.2.2.2 x1 w.1.toNat → K v I2 J) : ∀ m : Nat,
    (∀ (I : jdI) (x2 x3 : Int32), WM 7 t I → Fr (fun a k => t + 21 ≤ a ∧ a ≤ t + 28) I0 I → (∃ w2 : Tw, RM I t w2 ∧ w2.1 = w.1 ∧ w2.2.1 = w.2.1 ∧ w2.2.2.1 = w.2.2.1 ∧ w2.2.2.2.1 = w.2.2.2.1 ∧ w2.2.2.2.2.1 = w.2.2.2.2.1) → (∀ i j : Nat, (i : Int) < w.1 → (j : Int) < w.1 → i ≠ j → ((bt x1 i = true → bt x1 j = true → dn i j x3.toInt 0 → I (t + 21 + i) j = 0) ∧ (¬ (bt x1 i = true ∧ bt x1 j = true ∧ dn i j x3.toInt 0) → I (t + 21 + i) j = w.2.2.2.2.2 i j))) → x2.toInt = totc w.2.2.2.2.2 x1 x3.toInt.toNat → 0 ≤ x3.toInt ∧ x3.toInt ≤ w.1 → (8 - x3.toInt) * 10 < (m : Int) → Jd G mX12_meets (jdFm G (qi Z K)) (n + 1) rc rs 4 [(0, .ref (gb G + t)), (1, .int x1), (2, .int x2), (3, .int x3)] [] Z I J) ∧
    (∀ (I : jdI) (x2 x3 x4 : Int32), WM 7 t I → Fr (fun a k => t + 21 ≤ a ∧ a ≤ t + 28) I0 I → (∃ w2 : Tw, RM I t w2 ∧ w2.1 = w.1 ∧ w2.2.1 = w.2.1 ∧ w2.2.2.1 = w.2.2.1 ∧ w2.2.2.2.1 = w.2.2.2.1 ∧ w2.2.2.2.2.1 = w.2.2.2.2.1) → (∀ i j : Nat, (i : Int) < w.1 → (j : Int) < w.1 → i ≠ j → ((bt x1 i = true → bt x1 j = true → dn i j x3.toInt x4.toInt → I (t + 21 + i) j = 0) ∧ (¬ (bt x1 i = true ∧ bt x1 j = true ∧ dn i j x3.toInt x4.toInt) → I (t + 21 + i) j = w.2.2.2.2.2 i j))) → x2.toInt = totc w.2.2.2.2.2 x1 x3.toInt.toNat + rowc w.2.2.2.2.2 x1 x3.toInt.toNat x4.toInt.toNat → 0 ≤ x3.toInt ∧ x3.toInt < w.1 → 0 ≤ x4.toInt ∧ x4.toInt ≤ x3.toInt → (8 - x3.toInt) * 10 - 1 - x4.toInt < (m : Int) → Jd G mX12_meets (jdFm G (qi Z K)) (n + 1) rc rs 15 [(0, .ref (gb G + t)), (1, .int x1), (2, .int x2), (3, .int x3), (4, .int x4)] [] Z I J) := by
  intro m
  induction m with
  | zero =>
    refine ⟨fun I x2 x3 hW hF b0 b1 b2 h3 hm => ?_, fun I x2 x3 x4 hW hF b0 b1 b2 h3 h4 hm => ?_⟩ <;> omega
  | succ m ih =>
    have q1 : (1 : Int32).toInt = 1 := rfl
    have q0 : (0 : Int32).toInt = 0 := rfl
    refine ⟨fun I x2 x3 hW hF b0 b1 b2 h3 hm => ?_, fun I x2 x3 x4 hW hF b0 b1 b2 h3 h4 hm => ?_⟩
    · obtain ⟨w2, r, e1, e2, e3, e4, e5⟩ := b0
      obtain ⟨r1, r2, r3, r4, r5⟩ := r
      refine rX12_meets_4 ht ⟨fun hc => ?_, fun hc => ?_⟩
      · have hc := Int32.le_iff_toInt_le.mp hc
        have ex : x3.toInt = w.1 := by omega
        refine hK x2 I hW hF ⟨by rw [r1, e1]; rfl, fun i hi => ?_, by rw [r3, e4]; rfl, by rw [r4, e5]; rfl, fun i j hi hj hne => ?_⟩ (by rw [b2, ex])
        · have hi : (i : Int) < w.1 := hi
          have h := r2 i (by omega)
          rw [e2, e3] at h
          exact h
        · have hi : (i : Int) < w.1 := hi
          have hj : (j : Int) < w.1 := hj
          obtain ⟨c1, c2⟩ := b1 i j hi hj hne
          show _ = if bt x1 i = true ∧ bt x1 j = true then 0 else w.2.2.2.2.2 i j
          by_cases c : bt x1 i = true ∧ bt x1 j = true
          · rw [if_pos c]
            exact c1 c.1 c.2 (by unfold dn; omega)
          · rw [if_neg c]
            exact c2 (fun q => c ⟨q.1, q.2.1⟩)
      · have hc := mt Int32.le_iff_toInt_le.mpr hc
        refine ih.2 I x2 x3 0 hW hF ⟨w2, ⟨r1, r2, r3, r4, r5⟩, e1, e2, e3, e4, e5⟩ b1 (by rw [b2]; show _ = _ + (0 : Int); omega) (by omega) (by omega) (by omega)
    · have s4 := i32_add x4 1 (by omega) (by omega)
      have s3 := i32_add x3 1 (by omega) (by omega)
      have n3 := tn_eq x3
      have n4 := tn_eq x4
      refine rX12_meets_15 ht ⟨fun hc => ?_, fun hc => ?_⟩
      · have hc := Int32.le_iff_toInt_le.mp hc
        refine ih.1 I x2 (x3 + 1) hW hF b0 (fun i j hi hj hne => ?_) ?_ (by omega) (by omega)
        · obtain ⟨c1, c2⟩ := b1 i j hi hj hne
          exact ⟨fun g1 g2 g3 => c1 g1 g2 (by unfold dn at g3 ⊢; omega), fun g => c2 (fun q => g ⟨q.1, q.2.1, by have := q.2.2; unfold dn at this ⊢; omega⟩)⟩
        · rw [b2, show (x3 + 1).toInt.toNat = x3.toInt.toNat + 1 by omega, show x4.toInt.toNat = x3.toInt.toNat by omega]
          rfl
      · have hc := mt Int32.le_iff_toInt_le.mpr hc
        have cb := rowc_b w.2.2.2.2.2 x1 x3.toInt.toNat x4.toInt.toNat
        have ct := totc_b w.2.2.2.2.2 x1 x3.toInt.toNat (by omega)
        have er : rowc w.2.2.2.2.2 x1 x3.toInt.toNat (x4 + 1).toInt.toNat = rowc w.2.2.2.2.2 x1 x3.toInt.toNat x4.toInt.toNat + (if bt x1 x3.toInt.toNat = true ∧ bt x1 x4.toInt.toNat = true ∧ w.2.2.2.2.2 x3.toInt.toNat x4.toInt.toNat = -1 then 1 else 0) := by
          rw [show (x4 + 1).toInt.toNat = x4.toInt.toNat + 1 by omega]
          rfl
        have b3 := bt_iff x1 (x := x3) h3.1
        have b4 := bt_iff x1 (x := x4) h4.1
        have cur := (b1 x3.toInt.toNat x4.toInt.toNat (by omega) (by omega) (by omega)).2 (fun q => by have := q.2.2; unfold dn at this; omega)
        have skip : ¬ (bt x1 x3.toInt.toNat = true ∧ bt x1 x4.toInt.toNat = true) → Jd G mX12_meets (jdFm G (qi Z K)) (n + 1) rc rs 15 [(0, .ref (gb G + t)), (1, .int x1), (2, .int x2), (3, .int x3), (4, .int (x4 + 1))] [] Z I J := fun hb => by
          refine ih.2 I x2 x3 (x4 + 1) hW hF b0 (fun i j hi hj hne => ?_) ?_ h3 (by omega) (by omega)
          · obtain ⟨c1, c2⟩ := b1 i j hi hj hne
            refine ⟨fun g1 g2 g3 => c1 g1 g2 ?_, fun g => c2 (fun q => g ⟨q.1, q.2.1, by have := q.2.2; unfold dn at this ⊢; omega⟩)⟩
            unfold dn at g3 ⊢
            by_cases d1 : (i : Int) = x3.toInt ∧ (j : Int) = x4.toInt
            · exact absurd ⟨by rw [show x3.toInt.toNat = i by omega]; exact g1, by rw [show x4.toInt.toNat = j by omega]; exact g2⟩ hb
            · by_cases d2 : (j : Int) = x3.toInt ∧ (i : Int) = x4.toInt
              · exact absurd ⟨by rw [show x3.toInt.toNat = j by omega]; exact g2, by rw [show x4.toInt.toNat = i by omega]; exact g1⟩ hb
              · omega
          · rw [er, if_neg (fun q => hb ⟨q.1, q.2.1⟩), b2]
            omega
        have next : (bt x1 x3.toInt.toNat = true ∧ bt x1 x4.toInt.toNat = true) → ∀ (I3 : jdI) (x5 : Int32), WM 7 t I3 → Fr (fun a k => t + 21 ≤ a ∧ a ≤ t + 28) I I3 → RM I3 t (tieT (w.1, w.2.1, w.2.2.1, w.2.2.2.1, w.2.2.2.2.1, fun i j => I (t + 21 + i) j) (Int32.toNatClampNeg x3) (Int32.toNatClampNeg x4) 0) → x5.toInt = totc w.2.2.2.2.2 x1 x3.toInt.toNat + rowc w.2.2.2.2.2 x1 x3.toInt.toNat (x4 + 1).toInt.toNat → Jd G mX12_meets (jdFm G (qi Z K)) (n + 1) rc rs 15 [(0, .ref (gb G + t)), (1, .int x1), (2, .int x5), (3, .int x3), (4, .int (x4 + 1))] [] Z I3 J := fun hb I3 x5 hW3 hF3 hR3 hx5 => by
          refine ih.2 I3 x5 x3 (x4 + 1) hW3 (Fr.tr hF hF3 (fun _ _ h => h)) ⟨_, hR3, rfl, rfl, rfl, rfl, rfl⟩ (fun i j hi hj hne => ?_) hx5 h3 (by omega) (by omega)
          obtain ⟨c1, c2⟩ := b1 i j hi hj hne
          have e9 := hR3.2.2.2.2 i j hi hj hne
          have e9 : I3 (t + 21 + i) j = if (i = Int32.toNatClampNeg x3 ∧ j = Int32.toNatClampNeg x4) ∨ (i = Int32.toNatClampNeg x4 ∧ j = Int32.toNatClampNeg x3) then 0 else I (t + 21 + i) j := e9
          by_cases d : (i = Int32.toNatClampNeg x3 ∧ j = Int32.toNatClampNeg x4) ∨ (i = Int32.toNatClampNeg x4 ∧ j = Int32.toNatClampNeg x3)
          · rw [if_pos d] at e9
            refine ⟨fun _ _ _ => e9, fun g => absurd ?_ g⟩
            rcases d with d | d
            · rw [d.1, d.2]
              exact ⟨hb.1, hb.2, by unfold dn; omega⟩
            · rw [d.1, d.2]
              exact ⟨hb.2, hb.1, by unfold dn; omega⟩
          · rw [if_neg d] at e9
            rw [e9]
            exact ⟨fun g1 g2 g3 => c1 g1 g2 (by unfold dn at g3 ⊢; omega), fun g => c2 (fun q => g ⟨q.1, q.2.1, by have := q.2.2; unfold dn at this ⊢; omega⟩)⟩
        obtain ⟨w2, r, e1, e2, e3, e4, e5⟩ := b0
        have rt : RM I t (w.1, w.2.1, w.2.2.1, w.2.2.2.1, w.2.2.2.2.1, fun i j => I (t + 21 + i) j) := ⟨r.1.trans e1, fun i hi => by have h := r.2.1 i (by have : (i : Int) < w.1 := hi; omega); rw [e2, e3] at h; exact h, r.2.2.1.trans e4, r.2.2.2.1.trans e5, fun i j _ _ _ => rfl⟩
        refine sfX12_has trivial (fun v2 p2 => ⟨fun hz => skip (fun hb => ?_), fun hz => ?_⟩)
        · have hz := i0 hz
          exact b3.mp hb.1 (Int32.toInt_inj.mp (show _ = (0 : Int32).toInt by omega))
        · have hz := i1 hz
          refine sfX12_has trivial (fun v4 p4 => ⟨fun hz4 => skip (fun hb => ?_), fun hz4 => ?_⟩)
          · have hz4 := i0 hz4
            exact b4.mp hb.2 (Int32.toInt_inj.mp (show _ = (0 : Int32).toInt by omega))
          · have hz4 := i1 hz4
            have hb : bt x1 x3.toInt.toNat = true ∧ bt x1 x4.toInt.toNat = true := ⟨b3.mpr (fun q => by rw [q] at p2; omega), b4.mpr (fun q => by rw [q] at p4; omega)⟩
            refine ⟨vp_of (by omega) (by omega), vp_of (by omega) (by omega), ?_⟩
            rw [show I (t + 21 + Int32.toNatClampNeg x3) (Int32.toNatClampNeg x4) = w.2.2.2.2.2 x3.toInt.toNat x4.toInt.toNat from cur]
            refine ⟨fun hv => ?_, fun hv => ?_⟩
            · refine pX12_knows ht hW rt ⟨h3.1, h3.2⟩ ⟨h4.1, by show _ < w.1; omega⟩ (fun I3 hW3 hF3 hR3 => next hb I3 (x2 + 0) hW3 hF3 hR3 ?_)
              have z := i32_add x2 0 (by omega) (by omega)
              rw [er, if_neg (fun q => hv q.2.2), z, b2]
              omega
            · refine pX12_knows ht hW rt ⟨h3.1, h3.2⟩ ⟨h4.1, by show _ < w.1; omega⟩ (fun I3 hW3 hF3 hR3 => next hb I3 (x2 + 1) hW3 hF3 hR3 ?_)
              have z := i32_add x2 1 (by omega) (by omega)
              rw [er, if_pos ⟨hb.1, hb.2, hv⟩, z, b2]
              omega
theorem pX12_meets {G : jdG} {n : Nat} {Z : jdL} {J : jdJ} {K : Int32 → jdI → jdJ → Prop} {I : jdI} {t : Nat} {w : Tw} {x1 : Int32} (ht : zModel Z t) (hW : WM 7 t I) (hw : RM I t w) (hK : ∀ (v : Int32) (I2 : jdI), WM 7 t I2 → Fr (fun a k => t + 21 ≤ a ∧ a ≤ t + 28) I I2 → RM I2 t (acqT w x1) → v.toInt = totc w.2.2.2.2.2 x1 w.1.toNat → K v I2 J) : Cl G mX12_meets (n + 1) 0 0 [.ref (gb G + t), .int x1] Z I J (qi Z K) := by
  have hp := WM_f hW
  have h1 := hw.1
  have q0 : (0 : Int32).toInt = 0 := rfl
  refine eX12_meets ht ?_
  exact (pX12_meets_l ht ⟨by omega, by omega⟩ hK 81).1 I 0 0 hW Fr.rf ⟨w, hw, rfl, rfl, rfl, rfl, rfl⟩ (fun i j hi hj hne => ⟨fun _ _ q => by unfold dn at q; omega, fun _ => hw.2.2.2.2 i j hi hj hne⟩) rfl ⟨by decide, by show (0 : Int) ≤ _; omega⟩ (by decide)
/-- what reading a statement into the town at u1 comes to -/
def OX (T : Nat → Int32) (m : Int) (r : Sum Int (Tw × Q3)) (u1 : Nat) (v : Int32) (I2 : jdI) : Prop := (v.toInt = 1 ∧ SX T m I2 ∧ ∃ w2 : Tw, r = .inr (w2, qx I2) ∧ RX I2 u1 w2) ∨ (v.toInt = 0 ∧ r = .inl (I2 25 5).toInt)
theorem RX_fr {I I2 : jdI} {b : Nat} {w : Tw} {p : Nat → Nat → Prop} (h : RX I b w) (hF : Fr p I I2) (hp : ∀ a k, b ≤ a → a ≤ b + 3 → ¬ p a k) : RX I2 b w := by
  obtain ⟨w1, w2, w3, w4, w5⟩ := h
  refine ⟨by rw [hF b 3 (hp _ _ (by omega) (by omega))]; exact w1, fun i hi => ?_, by rw [hF b 4 (hp _ _ (by omega) (by omega))]; exact w3, by rw [hF b 5 (hp _ _ (by omega) (by omega))]; exact w4, fun i j hi hj hne => ?_⟩
  · rw [hF (b + 1) i (hp _ _ (by omega) (by omega)), hF (b + 2) i (hp _ _ (by omega) (by omega))]
    exact w2 i hi
  · rw [hF (b + 3) _ (hp _ _ (by omega) (by omega))]
    exact w5 i j hi hj hne
theorem SX_fr {I I2 : jdI} {T : Nat → Int32} {m : Int} {p : Nat → Nat → Prop} (h : SX T m I) (hF : Fr p I I2) (hp : ∀ a k, a = 25 ∨ a = 25 + 1 → ¬ p a k) : SX T m I2 ∧ qx I2 = qx I ∧ (I2 25 5).toInt = (I 25 5).toInt := by
  have e : ∀ k, I2 25 k = I 25 k := fun k => hF 25 k (hp _ _ (Or.inl rfl))
  have e2 : I2 (25 + 1) = I (25 + 1) := funext (fun k => hF (25 + 1) k (hp _ _ (Or.inr rfl)))
  unfold SX qx
  rw [e2, e, e, e, e, e]
  exact ⟨h, rfl, rfl⟩
def seatT (w : Tw) (x : Int) : Tw := (w.1, w.2.1, w.2.2.1, x, w.2.2.2.2.1, w.2.2.2.2.2)
def memT (w : Tw) (x : Int) : Tw := (w.1, w.2.1, w.2.2.1, w.2.2.2.1, x, w.2.2.2.2.2)
noncomputable def stPerson (T : Nat → Int32) (n : Int) (w : Tw) (q : Q3) : Sum Int (Tw × Q3) := if 7 ≤ w.1 then .inl q.2.1 else match nm T n (adv T n q.2.2) 0 23 (fun _ => true) with
  | .inl p => .inl p
  | .inr h => match nm T n h.2 0 9 (fun _ => true) with
    | .inl p => .inl p
    | .inr c => .inr (addT w (Int32.ofInt h.1) (Int32.ofInt c.1), c.2)
noncomputable def stSeats (T : Nat → Int32) (n : Int) (w : Tw) (q : Q3) : Sum Int (Tw × Q3) := match nm T n (adv T n q.2.2) 2 4 (fun _ => true) with
  | .inl p => .inl p
  | .inr h => .inr (seatT w h.1, h.2)
noncomputable def stMemory (T : Nat → Int32) (n : Int) (w : Tw) (q : Q3) : Sum Int (Tw × Q3) := match nm T n (adv T n q.2.2) 0 99 (fun _ => true) with
  | .inl p => .inl p
  | .inr h => .inr (memT w h.1, h.2)
theorem ofI (v : Int32) : Int32.ofInt v.toInt = v := Int32.ofInt_toInt v
theorem ok_0 (x1 x2 : Int32) : ∀ w : Int32, x1.toInt ≤ w.toInt → w.toInt ≤ x2.toInt → ((fun _ => true) w.toInt = true ↔ (0 : Int32).toInt = 0 ∨ (((0 : Int32) >>> (w &&& 31)) &&& 1).toInt = 0) := fun _ _ _ => ⟨fun _ => Or.inl rfl, fun _ => rfl⟩
theorem nq {v : Int32} (h : ¬ v = (-1)) : ¬ v.toInt = -1 := fun z => h (Int32.toInt_inj.mp (show v.toInt = (-1 : Int32).toInt from z))
theorem pX5_readSeats {G : jdG} {n : Nat} {Z : jdL} {J : jdJ} {K : Int32 → jdI → jdJ → Prop} {I : jdI} {u1 : Nat} {T : Nat → Int32} {m : Int} {w : Tw} (ht : zScribe Z 25) (hu1 : zTown Z u1) (hus : u1 = 1 ∨ u1 = 5 ∨ u1 = 9) (hW : WX I) (hS : SX T m I) (hw : RX I u1 w) (hK : ∀ (v : Int32) (I2 : jdI), WX I2 → Fr (fun a k => a = 25 ∨ (a = u1 ∧ 3 ≤ k ∧ k ≤ 5) ∨ (u1 + 1 ≤ a ∧ a ≤ u1 + 3)) I I2 → (I2 25 1).toInt = m → OX T m (stSeats T m w (qx I)) u1 v I2 → K v I2 J) : Cl G mX5_readSeats (n + 3) 0 0 [.ref (gb G + 25), .ref (gb G + u1)] Z I J (qi Z K) := by
  refine eX5_readSeats ht hu1 ?_
  refine pX5_advance ht hW hS (fun I1 hW1 hF1 hS1 hq1 h51 => ?_)
  refine pX5_readNumber (ok := fun _ => true) ht hW1 hS1 (by decide) (ok_0 2 4) (fun v I3 hW3 hF3 hp hm hT => ?_)
  have hF : Fr (fun a k => a = 25 ∨ (a = u1 ∧ 3 ≤ k ∧ k ≤ 5) ∨ (u1 + 1 ≤ a ∧ a ≤ u1 + 3)) I I3 := Fr.tr (Fr.tr Fr.rf hF1 (by intro a k h; omega)) hF3 (by intro a k h; omega)
  have hR := RX_fr (RX_fr hw hF1 (by intro a k h1 h2; omega)) hF3 (by intro a k h1 h2; omega)
  rw [hq1] at hp
  refine ⟨fun hv => ?_, fun hv => ?_⟩
  · have hv := nq hv
    rcases hp with ⟨p1, p2, p3, p4⟩ | ⟨p1, p2⟩
    · have p3 : 2 ≤ v.toInt := p3
      have p4 : v.toInt ≤ 4 := p4
      have f0 : Fr (fun a k => a = u1 ∧ k = 4) I3 (uI I3 u1 4 v) := Fr_uI Fr.rf ⟨rfl, rfl⟩
      obtain ⟨g1, g2, g3⟩ := SX_fr p2 f0 (by intro a k h; omega)
      refine hK 1 _ (WX_uI hW3 (by first | exact okXo (by decide) | (unfold okX; refine ⟨?_, ?_, ?_, ?_, ?_, ?_, ?_, ?_, ?_, ?_⟩ <;> intro h <;> omega))) (Fr.tr hF f0 (by intro a k h; omega)) g1.2.1 (Or.inl ⟨rfl, g1, seatT w v.toInt, ?_, ?_⟩)
      · unfold stSeats
        rw [show nm T m (adv T m (qx I).2.2) 2 4 (fun _ => true) = .inr (v.toInt, qx I3) from p1, g2]
      · obtain ⟨r1, r2, r3, r4, r5⟩ := hR
        exact ⟨by rw [f0 u1 3 (by omega)]; exact r1, fun i hi => by rw [f0 (u1 + 1) i (by omega), f0 (u1 + 2) i (by omega)]; exact r2 i hi, by rw [uI_ap, if_pos ⟨rfl, rfl⟩]; rfl, by rw [f0 u1 5 (by omega)]; exact r4, fun i j hi hj hne => by rw [f0 (u1 + 3) _ (by omega)]; exact r5 i j hi hj hne⟩
    · exact absurd p2 hv
  · have hv1 : v.toInt = -1 := by rw [hv]; rfl
    rcases hp with ⟨p1, p2, p3, p4⟩ | ⟨p1, p2⟩
    · have p3 : 2 ≤ v.toInt := p3
      omega
    · refine hK 0 I3 hW3 hF hm (Or.inr ⟨rfl, ?_⟩)
      unfold stSeats
      rw [show nm T m (adv T m (qx I).2.2) 2 4 (fun _ => true) = .inl (I3 25 5).toInt from p1]
