/-! a day -/
def cdN (y : Int32) : Nat → Nat
  | 0 => 0
  | k + 1 => cdN y k + (if bt y k = true then 1 else 0)
/-- how many are in a set -/
def cd (y : Int32) : Nat := cdN y 8
theorem cdN_dl {y g : Int32} (h : sbs y g = true) : ∀ k, k ≤ 8 → cdN (dl y g) k + cdN g k = cdN y k
  | 0, _ => rfl
  | k + 1, hk => by
    have ih := cdN_dl h k (by omega)
    show cdN (dl y g) k + (if bt (dl y g) k = true then 1 else 0) + (cdN g k + (if bt g k = true then 1 else 0)) = cdN y k + (if bt y k = true then 1 else 0)
    rw [dl_bt _ _ (show k < 32 by omega)]
    cases a : bt g k with
    | false =>
      rw [Bool.not_false, Bool.and_true]
      have : (if false = true then 1 else 0) = 0 := rfl
      omega
    | true =>
      rw [sbs_bt.mp h k (by omega) a]
      have e1 : (if (true && !true) = true then 1 else 0) = 0 := rfl
      have e2 : (if true = true then 1 else 0) = 1 := rfl
      omega
theorem cdN_0 {y : Int32} : ∀ k, cdN y k = 0 → ∀ i, i < k → bt y i = false
  | 0, _, i, hi => absurd hi (Nat.not_lt_zero i)
  | k + 1, h, i, hi => by
    have h : cdN y k + (if bt y k = true then 1 else 0) = 0 := h
    by_cases c : i = k
    · subst c
      cases a : bt y i with
      | false => rfl
      | true =>
        rw [a] at h
        have e2 : (if true = true then 1 else 0) = 1 := rfl
        omega
    · exact cdN_0 k (by omega) i (by omega)
theorem cd_0 {y : Int32} (h0 : 0 ≤ y.toInt) (h1 : y.toInt ≤ 255) (h : cd y = 0) : y = 0 := bt_ext ⟨h0, by omega⟩ (by decide) (fun i hi => by
  rw [cdN_0 8 h i hi, bt_ze i (by omega)])
theorem cd_dl {y g : Int32} (hs : sbs y g = true) (h0 : 0 < g.toInt) (h1 : g.toInt ≤ 255) : cd (dl y g) < cd y := by
  have e := cdN_dl hs 8 (Nat.le_refl _)
  have : ¬ cd g = 0 := fun z => by
    have := cd_0 (by omega) h1 z
    rw [this] at h0
    exact absurd h0 (by decide)
  unfold cd at *
  omega
theorem cdN_or (y e : Int32) {p : Nat} (he : ∀ i, i < 8 → bt e i = decide (i = p)) : ∀ k, k ≤ 8 → cdN (y ||| e) k ≤ cdN y k + (if p < k then 1 else 0)
  | 0, _ => Nat.zero_le _
  | k + 1, hk => by
    have ih := cdN_or y e he k (by omega)
    show cdN (y ||| e) k + (if bt (y ||| e) k = true then 1 else 0) ≤ cdN y k + (if bt y k = true then 1 else 0) + (if p < k + 1 then 1 else 0)
    rw [bt_or _ _ _ (show k < 32 by omega), he k (by omega)]
    by_cases c : k = p
    · rw [decide_eq_true c, Bool.or_true]
      have e2 : (if true = true then 1 else 0) = 1 := rfl
      rw [if_neg (show ¬ p < k by omega)] at ih
      rw [if_pos (show p < k + 1 by omega)]
      omega
    · rw [decide_eq_false c, Bool.or_false]
      by_cases d : p < k
      · rw [if_pos d] at ih
        rw [if_pos (show p < k + 1 by omega)]
        omega
      · rw [if_neg d] at ih
        rw [if_neg (show ¬ p < k + 1 by omega)]
        omega
theorem cd_or {y : Int32} {x : Int32} (hx : 0 ≤ x.toInt ∧ x.toInt < 8) : cd (y ||| ((1 : Int32) <<< (x &&& 31))) ≤ cd y + 1 := by
  have e := cdN_or y ((1 : Int32) <<< (x &&& 31)) (p := x.toInt.toNat) (fun i hi => bt_1 hx hi) 8 (Nat.le_refl _)
  rw [if_pos (by omega)] at e
  exact e
theorem fstIn_m {y : Int32} : ∀ L : List Int32, fstIn y L = 0 ∨ (fstIn y L ∈ L ∧ sbs y (fstIn y L) = true)
  | [] => Or.inl rfl
  | g :: L => by
    show (if sbs y g = true then g else fstIn y L) = 0 ∨ ((if sbs y g = true then g else fstIn y L) ∈ g :: L ∧ sbs y (if sbs y g = true then g else fstIn y L) = true)
    by_cases c : sbs y g = true
    · rw [if_pos c]
      exact Or.inr ⟨List.mem_cons_self, c⟩
    · rw [if_neg c]
      exact (fstIn_m L).elim Or.inl (fun h => Or.inr ⟨List.mem_cons_of_mem _ h.1, h.2⟩)
theorem chs_m {f : Int32 → Int32} {y : Int32} : ∀ (L : List Int32) (c w : Int32), chs f y L c w = c ∨ (chs f y L c w ∈ L ∧ sbs y (chs f y L c w) = true)
  | [], c, w => Or.inl rfl
  | g :: L, c, w => by
    by_cases hb : sbs y g = true
    · by_cases hk : c = 0 ∨ w.toInt < (f g).toInt
      · rw [chs_y hb hk]
        rcases chs_m L g (f g) with e | e
        · rw [e]
          exact Or.inr ⟨List.mem_cons_self, hb⟩
        · exact Or.inr ⟨List.mem_cons_of_mem _ e.1, e.2⟩
      · rw [chs_k hb hk]
        exact (chs_m L c w).elim Or.inl (fun h => Or.inr ⟨List.mem_cons_of_mem _ h.1, h.2⟩)
    · rw [chs_n hb]
      exact (chs_m L c w).elim Or.inl (fun h => Or.inr ⟨List.mem_cons_of_mem _ h.1, h.2⟩)
theorem bst_m {L : List Int32} {y : Int32} : ∀ M : List Int32, bst L y M = 0 ∨ (bst L y M ∈ M ∧ sbs y (bst L y M) = true)
  | [] => Or.inl rfl
  | g :: M => by
    by_cases c : sbs y g = true ∧ MS L (dl y g) = MS L y - 1
    · rw [bst_y c]
      exact Or.inr ⟨List.mem_cons_self, c.1⟩
    · rw [bst_n c]
      exact (bst_m M).elim Or.inl (fun h => Or.inr ⟨List.mem_cons_of_mem _ h.1, h.2⟩)
theorem pk_m (N : Nat) (rel : Nat → Nat → Bool) (c : Nat → Int32) (L : List Int32) (kind : Int) (a y : Int32) (tc : Int) : pk N rel c L kind a y tc = 0 ∨ (pk N rel c L kind a y tc ∈ L ∧ sbs y (pk N rel c L kind a y tc) = true) := by
  unfold pk
  split
  · exact Or.inl rfl
  · split
    · exact fstIn_m L
    · split
      · exact chs_m L 0 0
      · split
        · exact chs_m L 0 0
        · exact bst_m L
/-- a rule of sending: nothing, or a group of the yard -/
def PK (L : List Int32) (f : Int32 → Int32) : Prop := ∀ y, f y = 0 ∨ (f y ∈ L ∧ sbs y (f y) = true)
/-- what is sent one after the other, and who is left -/
def sa (f : Int32 → Int32) : Nat → Int32 → List Int32 × Int32
  | 0, y => ([], y)
  | k + 1, y => if f y = 0 then ([], y) else (f y :: (sa f k (dl y (f y))).1, (sa f k (dl y (f y))).2)
theorem sa_0 {f : Int32 → Int32} {k : Nat} {y : Int32} (h : f y = 0) : sa f (k + 1) y = ([], y) := if_pos h
theorem sa_s {f : Int32 → Int32} {k : Nat} {y : Int32} (h : ¬ f y = 0) : sa f (k + 1) y = (f y :: (sa f k (dl y (f y))).1, (sa f k (dl y (f y))).2) := if_neg h
theorem pk_e {L : List Int32} {f : Int32 → Int32} (hG : GG L) (hf : PK L f) : f 0 = 0 := by
  rcases hf 0 with h | h
  · exact h
  · exact absurd h.2 (sbs_0 (GG_n hG h.1))
theorem sa_cd {L : List Int32} {f : Int32 → Int32} (hG : GG L) (hf : PK L f) : ∀ (k : Nat) (y : Int32), 0 ≤ y.toInt → y.toInt ≤ 255 → (sa f k y).1.length + cd (sa f k y).2 ≤ cd y ∧ 0 ≤ (sa f k y).2.toInt ∧ (sa f k y).2.toInt ≤ y.toInt
  | 0, y, h0, h1 => by
    show 0 + cd y ≤ cd y ∧ 0 ≤ y.toInt ∧ y.toInt ≤ y.toInt
    omega
  | k + 1, y, h0, h1 => by
    by_cases c : f y = 0
    · rw [sa_0 c]
      show 0 + cd y ≤ cd y ∧ 0 ≤ y.toInt ∧ y.toInt ≤ y.toInt
      omega
    · rw [sa_s c]
      have hm := (hf y).elim (fun z => absurd z c) id
      have r := dl_r (g := f y) h0
      have g := hG _ hm.1
      have l := cd_dl hm.2 g.1 g.2
      have ih := sa_cd hG hf k (dl y (f y)) r.1 (by omega)
      show (sa f k (dl y (f y))).1.length + 1 + cd (sa f k (dl y (f y))).2 ≤ cd y ∧ 0 ≤ (sa f k (dl y (f y))).2.toInt ∧ (sa f k (dl y (f y))).2.toInt ≤ y.toInt
      omega
/-- X's day: who went (with the hour), who is in the yard -/
def DX (I : jdI) (S : List (Int32 × Int32)) (y : Int32) : Prop := (I 20 4).toInt = (S.length : Int) ∧ LiS I (20 + 1) (S.map Prod.fst) ∧ LiS I (20 + 2) (S.map Prod.snd) ∧ I 20 5 = y
def ta (r : List Int32) (h : Int32) : List (Int32 × Int32) := r.map (fun g => (g, h))
theorem pX3_sendAll_3 {G : jdG} {n rc rs : Nat} {Z : jdL} {J : jdJ} {K : jdI → jdJ → Prop} {I0 : jdI} {u2 N st ci : Nat} {rel : Nat → Nat → Bool} {c : Nat → Int32} {L : List Int32} {a x3 x4 Y : Int32} {R : List (Int32 × Int32)} {f : Int32 → Int32} (ht : zDay Z 20) (hT : zTies Z 13) (hz : Z.1 u2 = some (ci + 10, 0)) (hci : ci = 0 ∨ ci = 1 ∨ ci = 3 ∨ ci = 6 ∨ ci = 9) (hu : 44 < u2) (hG : GG L) (hN : N ≤ 8) (h70 : L.length ≤ 70) (h4 : 0 ≤ x4.toInt) (ha : I0 u2 0 = a) (hf : f = fun y => pk N rel c L (ckI (Z.1 u2)) a y x4.toInt) (hK : ∀ I2, WX I2 → PT N st rel c L I2 → Fr (fun a k => (a = 13 ∧ k = 10) ∨ a = 13 + 5 ∨ (a = 20 ∧ (k = 4 ∨ k = 5)) ∨ a = 20 + 1 ∨ a = 20 + 2) I0 I2 → DX I2 R Y → K I2 J) : ∀ k : Nat, ∀ (I : jdI) (x5 y : Int32) (S : List (Int32 × Int32)), WX I → PT N st rel c L I → Fr (fun a k => (a = 13 ∧ k = 10) ∨ a = 13 + 5 ∨ (a = 20 ∧ (k = 4 ∨ k = 5)) ∨ a = 20 + 1 ∨ a = 20 + 2) I0 I → DX I S y → 0 ≤ y.toInt → y.toInt < 2 ^ N → 0 ≤ x5.toInt → x5.toInt + (k : Int) = 7 → x5.toInt + (cd y : Int) ≤ 7 → S.length + cd y ≤ 7 → S ++ ta (sa f (k + 1) y).1 x3 = R → (sa f (k + 1) y).2 = Y → Jd G mX3_sendAll (jdFm G (qv Z K)) (n + 4) rc rs 3 [(0, .ref (gb G + 20)), (1, .ref (gb G + 13)), (2, .ref (gb G + u2)), (3, .int x3), (4, .int x4), (5, .int x5)] [] Z I J := by
  have hp2 := pw2 ⟨N, by omega⟩
  have hp2 : 1 ≤ (2 : Int) ^ N ∧ (2 : Int) ^ N ≤ 256 := hp2
  have q7 : (7 : Int32).toInt = 7 := rfl
  have hPK : PK L f := fun y => by rw [hf]; exact pk_m N rel c L _ a y _
  intro k
  induction k with
  | zero =>
    intro I x5 y S hW hP hF hD hy0 hy1 h5 hk hcd hsc hR hY
    have y0 := cd_0 hy0 (by omega) (show cd y = 0 by omega)
    have e0 : f y = 0 := by rw [y0]; exact pk_e hG hPK
    rw [sa_0 e0] at hR hY
    have hR : S ++ [] = R := hR
    have hY : y = Y := hY
    rw [List.append_nil] at hR
    rw [hR, hY] at hD
    refine rX3_sendAll_3 ht hT ⟨fun _ => hK I hW hP hF hD, fun hx => absurd (Int32.le_iff_toInt_le.mpr (by omega)) hx⟩
  | succ k ih =>
    intro I x5 y S hW hP hF hD hy0 hy1 h5 hk hcd hsc hR hY
    have hw := WX_f hW
    obtain ⟨d1, d2, d3, d4⟩ := hD
    have q1 : (1 : Int32).toInt = 1 := rfl
    have e5 := i32_add x5 1 (by omega) (by omega)
    refine rX3_sendAll_3 ht hT ⟨fun hx => by have := Int32.le_iff_toInt_le.mp hx; omega, fun _ => ⟨fun hx => ?_, fun hx => ⟨⟨ci, hci, hz⟩, ?_⟩⟩⟩
    · have hx := Int32.le_iff_toInt_le.mp hx
      have y0 := cd_0 hy0 (by omega) (show cd y = 0 by omega)
      have e0 : f y = 0 := by rw [y0]; exact pk_e hG hPK
      rw [sa_0 e0] at hR hY
      have hR : S ++ [] = R := hR
      have hY : y = Y := hY
      rw [List.append_nil] at hR
      rw [← hR, ← hY] at hK
      exact hK I hW hP hF ⟨d1, d2, d3, d4⟩
    · have hx := mt Int32.le_iff_toInt_le.mpr hx
      rw [d4]
      refine p_pick hT hz hci hG hN h70 hy0 hy1 h4 hW hP (fun I1 hW1 hP1 hF1 => ?_)
      have ea : I u2 0 = a := by rw [hF u2 0 (by omega)]; exact ha
      have ef : pk N rel c L (ckI (Z.1 u2)) (I u2 0) y x4.toInt = f y := by rw [ea, hf]
      rw [ef]
      have hF1' := Fr.tr hF hF1 (p2 := (fun a k => (a = 13 ∧ k = 10) ∨ a = 13 + 5)) (by intro a k h; omega)
      have g4 : (I1 20 4).toInt = (S.length : Int) := by rw [hF1 20 4 (by omega)]; exact d1
      have g5 : I1 20 5 = y := by rw [hF1 20 5 (by omega)]; exact d4
      have g1 := LiS_fr d2 hF1 (by intro k; omega)
      have g2 := LiS_fr d3 hF1 (by intro k; omega)
      refine ⟨fun hv => ⟨vp_of (by omega) (by omega), vp_of (by omega) (by omega), ?_⟩, fun hv => ?_⟩
      · have hm := (hPK y).elim (fun z => absurd z hv) id
        have r := dl_r (g := f y) hy0
        have gg := hG _ hm.1
        have l := cd_dl hm.2 gg.1 gg.2
        rw [sa_s hv] at hR hY
        rw [g5, xo_m1]
        show Jd G mX3_sendAll (jdFm G (qv Z K)) (n + 4) rc rs 3 [(0, .ref (gb G + 20)), (1, .ref (gb G + 13)), (2, .ref (gb G + u2)), (3, .int x3), (4, .int x4), (5, .int (x5 + 1))] [] Z (uI (uI (uI (uI I1 20 5 (dl y (f y))) (20 + 1) (Int32.toNatClampNeg (I1 20 4)) (f y)) (20 + 2) (Int32.toNatClampNeg (I1 20 4)) x3) 20 4 ((I1 20 4) + 1)) J
        have n4 := tn_eq (I1 20 4)
        have e4 := i32_add (I1 20 4) 1 (by omega) (by omega)
        have w1 : WX (uI I1 20 5 (dl y (f y))) := WX_uI hW1 (by first | exact okXo (by decide) | (unfold okX; refine ⟨?_, ?_, ?_, ?_, ?_, ?_, ?_, ?_, ?_, ?_⟩ <;> intro h <;> omega))
        have w2 : WX (uI (uI I1 20 5 (dl y (f y))) (20 + 1) (Int32.toNatClampNeg (I1 20 4)) (f y)) := WX_uI w1 (by first | exact okXo (by decide) | (unfold okX; refine ⟨?_, ?_, ?_, ?_, ?_, ?_, ?_, ?_, ?_, ?_⟩ <;> intro h <;> omega))
        have w3 : WX (uI (uI (uI I1 20 5 (dl y (f y))) (20 + 1) (Int32.toNatClampNeg (I1 20 4)) (f y)) (20 + 2) (Int32.toNatClampNeg (I1 20 4)) x3) := WX_uI w2 (by first | exact okXo (by decide) | (unfold okX; refine ⟨?_, ?_, ?_, ?_, ?_, ?_, ?_, ?_, ?_, ?_⟩ <;> intro h <;> omega))
        have fD : Fr (fun a k => (a = 20 ∧ (k = 4 ∨ k = 5)) ∨ a = 20 + 1 ∨ a = 20 + 2) I1 (uI (uI (uI (uI I1 20 5 (dl y (f y))) (20 + 1) (Int32.toNatClampNeg (I1 20 4)) (f y)) (20 + 2) (Int32.toNatClampNeg (I1 20 4)) x3) 20 4 ((I1 20 4) + 1)) := Fr_uI (Fr_uI (Fr_uI (Fr_uI Fr.rf (by omega)) (by omega)) (by omega)) (by omega)
        have hP2 : PT N st rel c L (uI (uI (uI (uI I1 20 5 (dl y (f y))) (20 + 1) (Int32.toNatClampNeg (I1 20 4)) (f y)) (20 + 2) (Int32.toNatClampNeg (I1 20 4)) x3) 20 4 ((I1 20 4) + 1)) := by
          obtain ⟨⟨p1, p2, p3, p4⟩, p5, p6⟩ := hP1
          refine ⟨⟨by rw [fD 13 6 (by omega)]; exact p1, by rw [fD 13 8 (by omega)]; exact p2, LiS_fr p3 fD (by intro k; omega), fun hz => ?_⟩, GX_fr p5 fD (by omega) (by omega) (by intro k; omega), fun p hp => by rw [fD (13 + 2) p (by omega)]; exact p6 p hp⟩
          rw [fD 13 10 (by omega)] at hz
          exact fun v hv => by rw [fD (13 + 5) v (by omega)]; exact p4 hz v hv
        have hlen : (S ++ [(f y, x3)]).length = S.length + 1 := by rw [List.length_append]; rfl
        refine ih _ (x5 + 1) (dl y (f y)) (S ++ [(f y, x3)]) (WX_uI w3 (by first | exact okXo (by decide) | (unfold okX; refine ⟨?_, ?_, ?_, ?_, ?_, ?_, ?_, ?_, ?_, ?_⟩ <;> intro h <;> omega))) hP2 (Fr.tr hF1' fD (by intro a k h; omega)) ⟨?_, ?_, ?_, ?_⟩ r.1 (by omega) (by omega) (by omega) (by omega) (by rw [hlen]; omega) ?_ hY
        · rw [uI_ap, if_pos ⟨rfl, rfl⟩, hlen]
          omega
        · rw [List.map_append]
          have e := LiS_push (I := uI I1 20 5 (dl y (f y))) (b := 20 + 1) (x := f y) (fun k hk => by rw [uI_n _ _ _ (by omega)]; exact g1 k hk) (show Int32.toNatClampNeg (I1 20 4) = (S.map Prod.fst).length by rw [List.length_map]; omega)
          exact fun k hk => by
            rw [uI_n _ _ _ (by omega), uI_n _ _ _ (by omega)]
            exact e k hk
        · rw [List.map_append]
          have e := LiS_push (I := uI (uI I1 20 5 (dl y (f y))) (20 + 1) (Int32.toNatClampNeg (I1 20 4)) (f y)) (b := 20 + 2) (x := x3) (fun k hk => by rw [uI_n _ _ _ (by omega), uI_n _ _ _ (by omega)]; exact g2 k hk) (show Int32.toNatClampNeg (I1 20 4) = (S.map Prod.snd).length by rw [List.length_map]; omega)
          exact fun k hk => by
            rw [uI_n _ _ _ (by omega)]
            exact e k hk
        · rw [uI_ap, if_neg (by omega), uI_ap, if_neg (by omega), uI_ap, if_neg (by omega), uI_ap, if_pos ⟨rfl, rfl⟩]
        · rw [List.append_assoc]
          exact hR
      · rw [sa_0 hv] at hR hY
        have hR : S ++ [] = R := hR
        have hY : y = Y := hY
        rw [List.append_nil] at hR
        rw [← hR, ← hY] at hK
        exact hK I1 hW1 hP1 hF1' ⟨g4, g1, g2, g5⟩
theorem pX3_sendAll {G : jdG} {n : Nat} {Z : jdL} {J : jdJ} {K : jdI → jdJ → Prop} {I : jdI} {u2 N st ci : Nat} {rel : Nat → Nat → Bool} {c : Nat → Int32} {L : List Int32} {x3 x4 y : Int32} {S : List (Int32 × Int32)} {f : Int32 → Int32} (ht : zDay Z 20) (hT : zTies Z 13) (hz : Z.1 u2 = some (ci + 10, 0)) (hci : ci = 0 ∨ ci = 1 ∨ ci = 3 ∨ ci = 6 ∨ ci = 9) (hu : 44 < u2) (hG : GG L) (hN : N ≤ 8) (h70 : L.length ≤ 70) (h4 : 0 ≤ x4.toInt) (hf : f = fun y => pk N rel c L (ckI (Z.1 u2)) (I u2 0) y x4.toInt) (hW : WX I) (hP : PT N st rel c L I) (hD : DX I S y) (hy0 : 0 ≤ y.toInt) (hy1 : y.toInt < 2 ^ N) (hsc : S.length + cd y ≤ 7) (hK : ∀ I2, WX I2 → PT N st rel c L I2 → Fr (fun a k => (a = 13 ∧ k = 10) ∨ a = 13 + 5 ∨ (a = 20 ∧ (k = 4 ∨ k = 5)) ∨ a = 20 + 1 ∨ a = 20 + 2) I I2 → DX I2 (S ++ ta (sa f 8 y).1 x3) (sa f 8 y).2 → K I2 J) : Cl G mX3_sendAll (n + 4) 0 0 [.ref (gb G + 20), .ref (gb G + 13), .ref (gb G + u2), .int x3, .int x4] Z I J (qv Z K) :=
  eX3_sendAll ht hT (pX3_sendAll_3 ht hT hz hci hu hG hN h70 h4 rfl hf hK 7 I 0 y S hW hP Fr.rf hD hy0 hy1 (by decide) (by decide) (by show (0 : Int) + _ ≤ 7; omega) hsc rfl rfl)
/-- who of p, p + 1 .. comes at the hour h; who comes, one after the other -/
def cof (hr : Nat → Int32) (h : Int32) : Nat → Nat → List Nat
  | 0, _ => []
  | k + 1, p => if hr p = h then p :: cof hr h k (p + 1) else cof hr h k (p + 1)
def coA (hr : Nat → Int32) (n : Nat) : Nat → Nat → List Nat
  | 0, _ => []
  | k + 1, h => cof hr (Int32.ofNat h) n 0 ++ coA hr n k (h + 1)
def dy (f : Int → Int32 → Int32) (hr : Nat → Int32) : List Nat → Int → List (Int32 × Int32) → Int32 → List (Int32 × Int32) × Int32
  | [], _, S, y => (S, y)
  | p :: ps, tc, S, y => dy f hr ps (tc - 1) (S ++ ta (sa (f (tc - 1)) 8 (y ||| ((1 : Int32) <<< (Int32.ofNat p &&& 31)))).1 (hr p)) (sa (f (tc - 1)) 8 (y ||| ((1 : Int32) <<< (Int32.ofNat p &&& 31)))).2
theorem cof_end (hr : Nat → Int32) (h : Int32) : ∀ k p, cof hr h (k + 1) p = cof hr h k p ++ (if hr (p + k) = h then [p + k] else [])
  | 0, p => by
    show (if hr p = h then [p] else []) = [] ++ (if hr (p + 0) = h then [p + 0] else [])
    rfl
  | k + 1, p => by
    have ih := cof_end hr h k (p + 1)
    show (if hr p = h then p :: cof hr h (k + 1) (p + 1) else cof hr h (k + 1) (p + 1)) = (if hr p = h then p :: cof hr h k (p + 1) else cof hr h k (p + 1)) ++ _
    rw [ih, show p + 1 + k = p + (k + 1) by omega]
    by_cases c : hr p = h
    · rw [if_pos c, if_pos c]
      rfl
    · rw [if_neg c, if_neg c]
theorem coA_n (hr : Nat → Int32) (n : Nat) : ∀ k h, h + k ≤ 24 → (coA hr (n + 1) k h).length = (coA hr n k h).length + (if (h : Int) ≤ (hr n).toInt ∧ (hr n).toInt < (h : Int) + (k : Int) then 1 else 0)
  | 0, h, hk => by
    rw [if_neg (by omega)]
    rfl
  | k + 1, h, hk => by
    have ih := coA_n hr n k (h + 1) (by omega)
    have eh := ofN_i (v := h) (by omega)
    show (cof hr (Int32.ofNat h) (n + 1) 0 ++ coA hr (n + 1) k (h + 1)).length = (cof hr (Int32.ofNat h) n 0 ++ coA hr n k (h + 1)).length + _
    rw [cof_end, List.length_append, List.length_append, List.length_append, ih, Nat.zero_add]
    by_cases c : hr n = Int32.ofNat h
    · have ci : (hr n).toInt = (h : Int) := by rw [c]; exact eh
      rw [if_pos c, if_neg (by omega), if_pos (by omega)]
      show _ + 1 + _ = _
      omega
    · have ci : ¬ (hr n).toInt = (h : Int) := fun z => c (Int32.toInt_inj.mp (z.trans eh.symm))
      rw [if_neg c]
      by_cases d : ((h + 1 : Nat) : Int) ≤ (hr n).toInt ∧ (hr n).toInt < ((h + 1 : Nat) : Int) + (k : Int)
      · rw [if_pos d, if_pos (by omega)]
        show _ + 0 + _ = _
        omega
      · rw [if_neg d, if_neg (by omega)]
        show _ + 0 + _ = _
        omega
theorem coA_0 (hr : Nat → Int32) : ∀ k h, coA hr 0 k h = []
  | 0, _ => rfl
  | k + 1, h => by
    show [] ++ coA hr 0 k (h + 1) = []
    rw [coA_0 hr k (h + 1)]
    rfl
theorem coA_len (hr : Nat → Int32) : ∀ n, (∀ p, p < n → 0 ≤ (hr p).toInt ∧ (hr p).toInt < 24) → (coA hr n 24 0).length = n
  | 0, _ => by rw [coA_0]; rfl
  | n + 1, h => by
    have a := h n (by omega)
    rw [coA_n hr n 24 0 (by omega), coA_len hr n (fun p hp => h p (by omega)), if_pos (by omega)]
theorem or_lt2 {x y : Int32} {k : Nat} (hk : k ≤ 30) (h0 : 0 ≤ x.toInt) (h1 : x.toInt < 2 ^ k) (h2 : 0 ≤ y.toInt) (h3 : y.toInt < 2 ^ k) : 0 ≤ (x ||| y).toInt ∧ (x ||| y).toInt < 2 ^ k := by
  have hx := i32_nat x h0
  have hy := i32_nat y h2
  have hp : (2 : Int) ^ k = ((2 ^ k : Nat) : Int) := by simp
  have hb : (x ||| y).toBitVec.toNat < 2 ^ k := by
    rw [Int32.toBitVec_or, BitVec.toNat_or]
    exact Nat.or_lt_two_pow (by omega) (by omega)
  have hk2 : (2 : Nat) ^ k ≤ 2 ^ 30 := Nat.pow_le_pow_right (by omega) hk
  have h5 : (x ||| y).toInt = ((x ||| y).toBitVec.toNat : Int) := by
    have h2 : (x ||| y).toInt = (x ||| y).toBitVec.toInt := rfl
    rw [h2, BitVec.toInt_eq_toNat_cond, if_pos (by omega)]
  omega
theorem yard_p {y x : Int32} {N : Nat} (hN : N ≤ 8) (h0 : 0 ≤ y.toInt) (h1 : y.toInt < 2 ^ N) (hx : 0 ≤ x.toInt) (hx1 : x.toInt < (N : Int)) : 0 ≤ (y ||| ((1 : Int32) <<< (x &&& 31))).toInt ∧ (y ||| ((1 : Int32) <<< (x &&& 31))).toInt < 2 ^ N := by
  have e := (ev_of (x := x) hx (by omega)).1
  have hp : (2 : Int) ^ x.toInt.toNat = ((2 ^ x.toInt.toNat : Nat) : Int) := by simp
  have hq : (2 : Int) ^ N = ((2 ^ N : Nat) : Int) := by simp
  have hl : 2 ^ x.toInt.toNat < 2 ^ N := Nat.pow_lt_pow_right (by omega) (by omega)
  have e8 := ev_8 (x := x) hx (by omega)
  exact or_lt2 (by omega) h0 h1 (by omega) (by rw [e, hp, hq]; exact Int.ofNat_lt.mpr hl)
/-- the rule of the coachman in the cell u, with a -/
def rule (N : Nat) (rel : Nat → Nat → Bool) (c : Nat → Int32) (L : List Int32) (kind : Int) (a : Int32) (tc : Int) (y : Int32) : Int32 := pk N rel c L kind a y tc
theorem pX3_pass_l {G : jdG} {n rc rs : Nat} {Z : jdL} {J : jdJ} {K : jdI → jdJ → Prop} {I0 : jdI} {u1 u3 N st ci : Nat} {rel : Nat → Nat → Bool} {c hr : Nat → Int32} {L : List Int32} {R : List (Int32 × Int32)} {Y : Int32} (ht : zDay Z 20) (hu1 : zTown Z u1) (hus : u1 = 1 ∨ u1 = 5 ∨ u1 = 9) (hT : zTies Z 13) (hz : Z.1 u3 = some (ci + 10, 0)) (hci : ci = 0 ∨ ci = 1 ∨ ci = 3 ∨ ci = 6 ∨ ci = 9) (hu : 44 < u3) (hG : GG L) (hN : N ≤ 7) (h70 : L.length ≤ 70) (h3 : (I0 u1 3).toInt = (N : Int)) (hh : ∀ p, p < N → I0 (u1 + 1) p = hr p) (hK : ∀ I2, WX I2 → PT N st rel c L I2 → Fr (fun a k => (a = 13 ∧ k = 10) ∨ a = 13 + 5 ∨ (a = 20 ∧ (k = 4 ∨ k = 5)) ∨ a = 20 + 1 ∨ a = 20 + 2) I0 I2 → DX I2 R Y → K I2 J) : ∀ m : Nat,
    (∀ (I : jdI) (x4 x5 y : Int32) (S : List (Int32 × Int32)), WX I → PT N st rel c L I → Fr (fun a k => (a = 13 ∧ k = 10) ∨ a = 13 + 5 ∨ (a = 20 ∧ (k = 4 ∨ k = 5)) ∨ a = 20 + 1 ∨ a = 20 + 2) I0 I → DX I S y → 0 ≤ y.toInt → y.toInt < 2 ^ N → 0 ≤ x5.toInt → x5.toInt ≤ 24 → x4.toInt = ((coA hr N (24 - x5.toInt.toNat) x5.toInt.toNat).length : Int) → S.length + cd y + (coA hr N (24 - x5.toInt.toNat) x5.toInt.toNat).length ≤ 7 → dy (rule N rel c L (ckI (Z.1 u3)) (I0 u3 0)) hr (coA hr N (24 - x5.toInt.toNat) x5.toInt.toNat) x4.toInt S y = (R, Y) → (24 - x5.toInt) * 10 < (m : Int) → Jd G mX3_pass (jdFm G (qv Z K)) (n + 5) rc rs 19 [(0, .ref (gb G + 20)), (1, .ref (gb G + u1)), (2, .ref (gb G + 13)), (3, .ref (gb G + u3)), (4, .int x4), (5, .int x5)] [] Z I J) ∧
    (∀ (I : jdI) (x4 x5 x6 y : Int32) (S : List (Int32 × Int32)), WX I → PT N st rel c L I → Fr (fun a k => (a = 13 ∧ k = 10) ∨ a = 13 + 5 ∨ (a = 20 ∧ (k = 4 ∨ k = 5)) ∨ a = 20 + 1 ∨ a = 20 + 2) I0 I → DX I S y → 0 ≤ y.toInt → y.toInt < 2 ^ N → 0 ≤ x5.toInt → x5.toInt < 24 → 0 ≤ x6.toInt → x6.toInt ≤ (N : Int) → x4.toInt = ((cof hr x5 (N - x6.toInt.toNat) x6.toInt.toNat ++ coA hr N (23 - x5.toInt.toNat) (x5.toInt.toNat + 1)).length : Int) → S.length + cd y + (cof hr x5 (N - x6.toInt.toNat) x6.toInt.toNat ++ coA hr N (23 - x5.toInt.toNat) (x5.toInt.toNat + 1)).length ≤ 7 → dy (rule N rel c L (ckI (Z.1 u3)) (I0 u3 0)) hr (cof hr x5 (N - x6.toInt.toNat) x6.toInt.toNat ++ coA hr N (23 - x5.toInt.toNat) (x5.toInt.toNat + 1)) x4.toInt S y = (R, Y) → (24 - x5.toInt) * 10 - 1 - x6.toInt < (m : Int) → Jd G mX3_pass (jdFm G (qv Z K)) (n + 5) rc rs 29 [(0, .ref (gb G + 20)), (1, .ref (gb G + u1)), (2, .ref (gb G + 13)), (3, .ref (gb G + u3)), (4, .int x4), (5, .int x5), (6, .int x6)] [] Z I J) := by
  intro m
  induction m with
  | zero =>
    refine ⟨fun I x4 x5 y S hW hP hF hD a1 a2 a3 a4 a5 a6 a7 hm => ?_, fun I x4 x5 x6 y S hW hP hF hD a1 a2 a3 a4 a5 a6 a7 a8 a9 hm => ?_⟩
    · have hf0 : (24 - x5.toInt) * 10 < 0 := hm
      omega
    · have hf0 : (24 - x5.toInt) * 10 - 1 - x6.toInt < 0 := hm
      omega
  | succ m ih =>
    have q1 : (1 : Int32).toInt = 1 := rfl
    have q24 : (24 : Int32).toInt = 24 := rfl
    have qm : (-1 : Int32).toInt = -1 := rfl
    refine ⟨fun I x4 x5 y S hW hP hF hD a1 a2 a3 a4 a5 a6 a7 hm => ?_, fun I x4 x5 x6 y S hW hP hF hD a1 a2 a3 a4 a5 a6 a7 a8 a9 hm => ?_⟩
    · refine rX3_pass_19 ht hu1 hT ⟨fun hx => ?_, fun hx => ?_⟩
      · have hx := Int32.le_iff_toInt_le.mp hx
        rw [show 24 - x5.toInt.toNat = 0 by omega] at a7
        have a7 : (S, y) = (R, Y) := a7
        injection a7 with b1 b2
        rw [← b1, ← b2] at hK
        exact hK I hW hP hF hD
      · have hx := mt Int32.le_iff_toInt_le.mpr hx
        rw [show 24 - x5.toInt.toNat = (23 - x5.toInt.toNat) + 1 by omega] at a5 a6 a7
        have e : coA hr N ((23 - x5.toInt.toNat) + 1) x5.toInt.toNat = cof hr x5 (N - (0 : Int32).toInt.toNat) (0 : Int32).toInt.toNat ++ coA hr N (23 - x5.toInt.toNat) (x5.toInt.toNat + 1) := by
          show cof hr (Int32.ofNat x5.toInt.toNat) N 0 ++ _ = _
          rw [← i32_ofNat a3]
          rfl
        rw [e] at a5 a6 a7
        exact ih.2 I x4 x5 0 y S hW hP hF hD a1 a2 a3 (by omega) (by decide) (by show (0 : Int) ≤ _; omega) a5 a6 a7 (by show _ - 1 - (0 : Int) < _; omega)
    · have e6 := i32_add x6 1 (by omega) (by omega)
      have e5 := i32_add x5 1 (by omega) (by omega)
      have n6 := tn_eq x6
      have h3' : (I u1 3).toInt = (N : Int) := by rw [hF u1 3 (by omega)]; exact h3
      refine rX3_pass_29 ht hu1 hT ⟨fun hx => ?_, fun hx => ⟨vp_of (by omega) (by have := mt Int32.le_iff_toInt_le.mpr hx; omega), ?_⟩⟩
      · have hx := Int32.le_iff_toInt_le.mp hx
        rw [show N - x6.toInt.toNat = 0 by omega] at a7 a8 a9
        have e : cof hr x5 0 x6.toInt.toNat ++ coA hr N (23 - x5.toInt.toNat) (x5.toInt.toNat + 1) = coA hr N (24 - (x5 + 1).toInt.toNat) (x5 + 1).toInt.toNat := by
          rw [show 24 - (x5 + 1).toInt.toNat = 23 - x5.toInt.toNat by omega, show (x5 + 1).toInt.toNat = x5.toInt.toNat + 1 by omega]
          rfl
        rw [e] at a7 a8 a9
        exact ih.1 I x4 (x5 + 1) y S hW hP hF hD a1 a2 (by omega) (by omega) a7 a8 a9 (by omega)
      · have hx := mt Int32.le_iff_toInt_le.mpr hx
        have eh : I (u1 + 1) (Int32.toNatClampNeg x6) = hr x6.toInt.toNat := by rw [hF (u1 + 1) _ (by omega)]; exact hh x6.toInt.toNat (by omega)
        rw [eh]
        have ec : cof hr x5 (N - x6.toInt.toNat) x6.toInt.toNat = if hr x6.toInt.toNat = x5 then x6.toInt.toNat :: cof hr x5 (N - (x6 + 1).toInt.toNat) (x6 + 1).toInt.toNat else cof hr x5 (N - (x6 + 1).toInt.toNat) (x6 + 1).toInt.toNat := by
          rw [show N - x6.toInt.toNat = (N - (x6 + 1).toInt.toNat) + 1 by omega, show (x6 + 1).toInt.toNat = x6.toInt.toNat + 1 by omega]
          rfl
        refine ⟨fun hv => ?_, fun hv => ?_⟩
        · rw [ec, if_neg hv] at a7 a8 a9
          exact ih.2 I x4 x5 (x6 + 1) y S hW hP hF hD a1 a2 a3 a4 (by omega) (by omega) a7 a8 a9 (by omega)
        · rw [ec, if_pos hv, List.cons_append] at a7 a8 a9
          generalize hrem : cof hr x5 (N - (x6 + 1).toInt.toNat) (x6 + 1).toInt.toNat ++ coA hr N (23 - x5.toInt.toNat) (x5.toInt.toNat + 1) = rem at a7 a8 a9
          rw [List.length_cons] at a7 a8
          have em := i32_add x4 (-1) (by omega) (by omega)
          have hy2 := yard_p (y := y) (x := x6) (show N ≤ 8 by omega) a1 a2 a5 (by omega)
          have hcd := cd_or (y := y) (x := x6) ⟨a5, by omega⟩
          have hw := WX_f hW
          obtain ⟨d1, d2, d3, d4⟩ := hD
          rw [d4]
          have a9 : dy (rule N rel c L (ckI (Z.1 u3)) (I0 u3 0)) hr rem (x4.toInt - 1) (S ++ ta (sa (rule N rel c L (ckI (Z.1 u3)) (I0 u3 0) (x4.toInt - 1)) 8 (y ||| ((1 : Int32) <<< (Int32.ofNat x6.toInt.toNat &&& 31)))).1 (hr x6.toInt.toNat)) (sa (rule N rel c L (ckI (Z.1 u3)) (I0 u3 0) (x4.toInt - 1)) 8 (y ||| ((1 : Int32) <<< (Int32.ofNat x6.toInt.toNat &&& 31)))).2 = (R, Y) := a9
          rw [← i32_ofNat a5, hv] at a9
          generalize hyy : y ||| ((1 : Int32) <<< (x6 &&& 31)) = yy at a9 hy2 hcd ⊢
          have et : (x4 + (-1)).toInt = x4.toInt - 1 := by
            rw [em, qm]
            rfl
          generalize hx4 : x4 + (-1) = z4 at et ⊢
          clear em
          have f0 : Fr (fun a k => a = 20 ∧ k = 5) I (uI I 20 5 yy) := Fr_uI Fr.rf ⟨rfl, rfl⟩
          have hP2 : PT N st rel c L (uI I 20 5 yy) := by
            obtain ⟨⟨p1, p2, p3, p4⟩, p5, p6⟩ := hP
            refine ⟨⟨by rw [f0 13 6 (by omega)]; exact p1, by rw [f0 13 8 (by omega)]; exact p2, LiS_fr p3 f0 (by intro k; omega), fun hz => ?_⟩, GX_fr p5 f0 (by omega) (by omega) (by intro k; omega), fun p hp => by rw [f0 (13 + 2) p (by omega)]; exact p6 p hp⟩
            rw [f0 13 10 (by omega)] at hz
            exact fun v hv => by rw [f0 (13 + 5) v (by omega)]; exact p4 hz v hv
          have eu : (uI I 20 5 yy) u3 0 = I0 u3 0 := by rw [f0 u3 0 (by omega), hF u3 0 (by omega)]
          refine pX3_sendAll (S := S) (y := yy) (f := rule N rel c L (ckI (Z.1 u3)) (I0 u3 0) z4.toInt) ht hT hz hci hu hG (by omega) h70 (by omega) (by rw [eu]; rfl) (WX_uI hW (by first | exact okXo (by decide) | (unfold okX; refine ⟨?_, ?_, ?_, ?_, ?_, ?_, ?_, ?_, ?_, ?_⟩ <;> intro h <;> omega))) hP2 ⟨by rw [f0 20 4 (by omega)]; exact d1, LiS_fr d2 f0 (by intro k; omega), LiS_fr d3 f0 (by intro k; omega), by rw [uI_ap, if_pos ⟨rfl, rfl⟩]⟩ hy2.1 hy2.2 (by omega) (fun I2 hW2 hP3 hF2 hD2 => ?_)
          have hPK : PK L (rule N rel c L (ckI (Z.1 u3)) (I0 u3 0) z4.toInt) := fun y => pk_m N rel c L _ _ y _
          have sc := sa_cd hG hPK 8 yy hy2.1 (by have := pw2 ⟨N, by omega⟩; have : (2 : Int) ^ N ≤ 256 := this.2; omega)
          refine ih.2 I2 z4 x5 (x6 + 1) _ _ hW2 hP3 (Fr.tr (Fr.tr hF f0 (by intro a k h; omega)) hF2 (fun _ _ h => h)) hD2 sc.2.1 (by omega) a3 a4 (by omega) (by omega) (by rw [hrem]; omega) ?_ ?_ (by omega)
          · rw [hrem, List.length_append]
            unfold ta
            rw [List.length_map]
            omega
          · rw [hrem, et]
            exact a9
theorem pX3_pass {G : jdG} {n : Nat} {Z : jdL} {J : jdJ} {K : jdI → jdJ → Prop} {I : jdI} {u1 u3 N st ci : Nat} {rel : Nat → Nat → Bool} {c hr : Nat → Int32} {L : List Int32} (ht : zDay Z 20) (hu1 : zTown Z u1) (hus : u1 = 1 ∨ u1 = 5 ∨ u1 = 9) (hT : zTies Z 13) (hz : Z.1 u3 = some (ci + 10, 0)) (hci : ci = 0 ∨ ci = 1 ∨ ci = 3 ∨ ci = 6 ∨ ci = 9) (hu : 44 < u3) (hG : GG L) (hN : N ≤ 7) (h70 : L.length ≤ 70) (h3 : (I u1 3).toInt = (N : Int)) (hh : ∀ p, p < N → I (u1 + 1) p = hr p) (hhr : ∀ p, p < N → 0 ≤ (hr p).toInt ∧ (hr p).toInt < 24) (hW : WX I) (hP : PT N st rel c L I) (hK : ∀ I2, WX I2 → PT N st rel c L I2 → Fr (fun a k => (a = 13 ∧ k = 10) ∨ a = 13 + 5 ∨ (a = 20 ∧ (k = 4 ∨ k = 5)) ∨ a = 20 + 1 ∨ a = 20 + 2) I I2 → DX I2 (dy (rule N rel c L (ckI (Z.1 u3)) (I u3 0)) hr (coA hr N 24 0) (N : Int) [] 0).1 (dy (rule N rel c L (ckI (Z.1 u3)) (I u3 0)) hr (coA hr N 24 0) (N : Int) [] 0).2 → K I2 J) : Cl G mX3_pass (n + 5) 0 0 [.ref (gb G + 20), .ref (gb G + u1), .ref (gb G + 13), .ref (gb G + u3)] Z I J (qv Z K) := by
  have hl := coA_len hr N hhr
  have hw := WX_f hW
  have q0 : (0 : Int32).toInt = 0 := rfl
  have hp2 : 1 ≤ (2 : Int) ^ N := (pw2 ⟨N, by omega⟩).1
  refine eX3_pass ht hu1 hT ?_
  have e3 : (uI (uI I 20 4 0) 20 5 0) u1 3 = I u1 3 := by rw [uI_ap, if_neg (by omega), uI_ap, if_neg (by omega)]
  rw [e3]
  have w0 : WX (uI I 20 4 0) := WX_uI hW (by first | exact okXo (by decide) | (unfold okX; refine ⟨?_, ?_, ?_, ?_, ?_, ?_, ?_, ?_, ?_, ?_⟩ <;> intro h <;> omega))
  have f0 : Fr (fun a k => a = 20 ∧ (k = 4 ∨ k = 5)) I (uI (uI I 20 4 0) 20 5 0) := Fr_uI (Fr_uI Fr.rf (by omega)) (by omega)
  have w1 : WX (uI (uI I 20 4 0) 20 5 0) := WX_uI w0 (by first | exact okXo (by decide) | (unfold okX; refine ⟨?_, ?_, ?_, ?_, ?_, ?_, ?_, ?_, ?_, ?_⟩ <;> intro h <;> omega))
  have z4 : ((uI (uI I 20 4 0) 20 5 0) 20 4).toInt = 0 := by rw [uI_ap, if_neg (by omega), uI_ap, if_pos ⟨rfl, rfl⟩]; rfl
  have z5 : (uI (uI I 20 4 0) 20 5 0) 20 5 = 0 := by rw [uI_ap, if_pos ⟨rfl, rfl⟩]
  have hP2 : PT N st rel c L (uI (uI I 20 4 0) 20 5 0) := by
    obtain ⟨⟨p1, p2, p3, p4⟩, p5, p6⟩ := hP
    refine ⟨⟨by rw [f0 13 6 (by omega)]; exact p1, by rw [f0 13 8 (by omega)]; exact p2, LiS_fr p3 f0 (by intro k; omega), fun hz => ?_⟩, GX_fr p5 f0 (by omega) (by omega) (by intro k; omega), fun p hp => by rw [f0 (13 + 2) p (by omega)]; exact p6 p hp⟩
    rw [f0 13 10 (by omega)] at hz
    exact fun v hv => by rw [f0 (13 + 5) v (by omega)]; exact p4 hz v hv
  generalize (uI (uI I 20 4 0) 20 5 0) = I1 at f0 w1 z4 z5 hP2 ⊢
  have eu : I1 u3 0 = I u3 0 := f0 u3 0 (by omega)
  refine (pX3_pass_l (N := N) (hr := hr) (R := (dy (rule N rel c L (ckI (Z.1 u3)) (I u3 0)) hr (coA hr N 24 0) (N : Int) [] 0).1) (Y := (dy (rule N rel c L (ckI (Z.1 u3)) (I u3 0)) hr (coA hr N 24 0) (N : Int) [] 0).2) ht hu1 hus hT hz hci hu hG hN h70 (by rw [f0 u1 3 (by omega)]; exact h3) (fun p hp => by rw [f0 (u1 + 1) p (by omega)]; exact hh p hp) (fun I2 hW2 hP3 hF2 hD2 => hK I2 hW2 hP3 (Fr.tr (Fr.tr Fr.rf f0 (by intro a k h; omega)) hF2 (fun _ _ h => h)) hD2) 241).1 I1 (I u1 3) 0 0 [] w1 hP2 Fr.rf ⟨z4, LiS_nil _ _, LiS_nil _ _, z5⟩ (by decide) (by show (0 : Int) < _; omega) (by decide) (by decide) ?_ ?_ ?_ (by decide)
  · show _ = ((coA hr N 24 0).length : Int)
    rw [hl]
    exact h3
  · show 0 + cd 0 + (coA hr N 24 0).length ≤ 7
    rw [hl]
    have : cd 0 = 0 := by decide
    omega
  · rw [eu, h3]
    rfl
theorem pX12_findComing_l {G : jdG} {n rc rs : Nat} {Z : jdL} {J : jdJ} {K : jdI → jdJ → Prop} {I0 : jdI} {t N : Nat} {hr : Nat → Int32} {R : List Nat} (ht : zModel Z t) (hN : N ≤ 7) (h10 : (I0 t 10).toInt = (N : Int)) (hh : ∀ p, p < N → I0 (t + 18) p = hr p) (hR : R.length ≤ 7) (hK : ∀ I2, WM 7 t I2 → Fr (fun a _ => a = t + 31) I0 I2 → LiS I2 (t + 31) (R.map Int32.ofNat) → K I2 J) : ∀ m : Nat,
    (∀ (I : jdI) (x1 x2 : Int32) (C : List Nat), WM 7 t I → Fr (fun a _ => a = t + 31) I0 I → LiS I (t + 31) (C.map Int32.ofNat) → x1.toInt = (C.length : Int) → 0 ≤ x2.toInt → x2.toInt ≤ 24 → C ++ coA hr N (24 - x2.toInt.toNat) x2.toInt.toNat = R → (24 - x2.toInt) * 10 < (m : Int) → Jd G mX12_findComing (jdFm G (qv Z K)) n rc rs 4 [(0, .ref (gb G + t)), (1, .int x1), (2, .int x2)] [] Z I J) ∧
    (∀ (I : jdI) (x1 x2 x3 : Int32) (C : List Nat), WM 7 t I → Fr (fun a _ => a = t + 31) I0 I → LiS I (t + 31) (C.map Int32.ofNat) → x1.toInt = (C.length : Int) → 0 ≤ x2.toInt → x2.toInt < 24 → 0 ≤ x3.toInt → x3.toInt ≤ (N : Int) → C ++ (cof hr x2 (N - x3.toInt.toNat) x3.toInt.toNat ++ coA hr N (23 - x2.toInt.toNat) (x2.toInt.toNat + 1)) = R → (24 - x2.toInt) * 10 - 1 - x3.toInt < (m : Int) → Jd G mX12_findComing (jdFm G (qv Z K)) n rc rs 12 [(0, .ref (gb G + t)), (1, .int x1), (2, .int x2), (3, .int x3)] [] Z I J) := by
  intro m
  induction m with
  | zero =>
    refine ⟨fun I x1 x2 C hW hF hL h1 a3 a4 a7 hm => ?_, fun I x1 x2 x3 C hW hF hL h1 a3 a4 a5 a6 a9 hm => ?_⟩
    · have hf0 : (24 - x2.toInt) * 10 < 0 := hm
      omega
    · have hf0 : (24 - x2.toInt) * 10 - 1 - x3.toInt < 0 := hm
      omega
  | succ m ih =>
    have q1 : (1 : Int32).toInt = 1 := rfl
    have q24 : (24 : Int32).toInt = 24 := rfl
    refine ⟨fun I x1 x2 C hW hF hL h1 a3 a4 a7 hm => ?_, fun I x1 x2 x3 C hW hF hL h1 a3 a4 a5 a6 a9 hm => ?_⟩
    · refine rX12_findComing_4 ht ⟨fun hx => ?_, fun hx => ?_⟩
      · have hx := Int32.le_iff_toInt_le.mp hx
        rw [show 24 - x2.toInt.toNat = 0 by omega] at a7
        have a7 : C ++ [] = R := a7
        rw [List.append_nil] at a7
        rw [← a7] at hK
        exact hK I hW hF hL
      · have hx := mt Int32.le_iff_toInt_le.mpr hx
        rw [show 24 - x2.toInt.toNat = (23 - x2.toInt.toNat) + 1 by omega] at a7
        have e : coA hr N ((23 - x2.toInt.toNat) + 1) x2.toInt.toNat = cof hr x2 (N - (0 : Int32).toInt.toNat) (0 : Int32).toInt.toNat ++ coA hr N (23 - x2.toInt.toNat) (x2.toInt.toNat + 1) := by
          show cof hr (Int32.ofNat x2.toInt.toNat) N 0 ++ _ = _
          rw [← i32_ofNat a3]
          rfl
        rw [e] at a7
        exact ih.2 I x1 x2 0 C hW hF hL h1 a3 (by omega) (by decide) (by show (0 : Int) ≤ _; omega) a7 (by show _ - 1 - (0 : Int) < _; omega)
    · have e3 := i32_add x3 1 (by omega) (by omega)
      have e2 := i32_add x2 1 (by omega) (by omega)
      have n3 := tn_eq x3
      have n1 := tn_eq x1
      have h10' : (I t 10).toInt = (N : Int) := by rw [hF t 10 (by omega)]; exact h10
      refine rX12_findComing_12 ht ⟨fun hx => ?_, fun hx => ⟨vp_of (by omega) (by have := mt Int32.le_iff_toInt_le.mpr hx; omega), ?_⟩⟩
      · have hx := Int32.le_iff_toInt_le.mp hx
        rw [show N - x3.toInt.toNat = 0 by omega] at a9
        have e : cof hr x2 0 x3.toInt.toNat ++ coA hr N (23 - x2.toInt.toNat) (x2.toInt.toNat + 1) = coA hr N (24 - (x2 + 1).toInt.toNat) (x2 + 1).toInt.toNat := by
          rw [show 24 - (x2 + 1).toInt.toNat = 23 - x2.toInt.toNat by omega, show (x2 + 1).toInt.toNat = x2.toInt.toNat + 1 by omega]
          rfl
        rw [e] at a9
        exact ih.1 I x1 (x2 + 1) C hW hF hL h1 (by omega) (by omega) a9 (by omega)
      · have hx := mt Int32.le_iff_toInt_le.mpr hx
        have eh : I (t + 18) (Int32.toNatClampNeg x3) = hr x3.toInt.toNat := by rw [hF (t + 18) _ (by omega)]; exact hh x3.toInt.toNat (by omega)
        rw [eh]
        have ec : cof hr x2 (N - x3.toInt.toNat) x3.toInt.toNat = if hr x3.toInt.toNat = x2 then x3.toInt.toNat :: cof hr x2 (N - (x3 + 1).toInt.toNat) (x3 + 1).toInt.toNat else cof hr x2 (N - (x3 + 1).toInt.toNat) (x3 + 1).toInt.toNat := by
          rw [show N - x3.toInt.toNat = (N - (x3 + 1).toInt.toNat) + 1 by omega, show (x3 + 1).toInt.toNat = x3.toInt.toNat + 1 by omega]
          rfl
        refine ⟨fun hv => ?_, fun hv => ?_⟩
        · rw [ec, if_neg hv] at a9
          exact ih.2 I x1 x2 (x3 + 1) C hW hF hL h1 a3 a4 (by omega) (by omega) a9 (by omega)
        · rw [ec, if_pos hv, List.cons_append] at a9
          have hlen : C.length + 1 ≤ R.length := by
            rw [← a9, List.length_append, List.length_cons]
            omega
          have e1 := i32_add x1 1 (by omega) (by omega)
          have hw := WM_f hW
          refine ⟨vp_of (by omega) (by omega), ?_⟩
          refine ih.2 _ (x1 + 1) x2 (x3 + 1) (C ++ [x3.toInt.toNat]) (WM_uI hW (by first | exact okMo (by decide) (by decide) (by decide) (by decide) (by decide) | exact okMf (by decide) (by decide) (by decide) (by decide) (by decide) (by decide) (by decide) (by decide) | exact okM30 (by omega) | exact okM42 (by omega) | exact okM33 (by omega) | exact okM10 (by omega) | exact okM8 (by omega) | exact okM22 (by omega) | exact okM24 (by omega) | exact okM14 (by omega) | exact okMa31 (by omega) | exact okMa35 (by omega) | exact okMa36 (by omega) | exact okMa3 (by omega) | exact okMr (by omega) | (unfold okM; refine ⟨?_, ?_, ?_, ?_, ?_, ?_, ?_, ?_, ?_, ?_, ?_, ?_⟩ <;> intro h <;> omega))) (Fr_uI hF rfl) ?_ ?_ a3 a4 (by omega) (by omega) ?_ (by omega)
          · rw [List.map_append]
            have e := LiS_push (b := t + 31) (x := x3) hL (show Int32.toNatClampNeg x1 = (C.map Int32.ofNat).length by rw [List.length_map]; omega)
            have ex : [x3.toInt.toNat].map Int32.ofNat = [x3] := by
              show [Int32.ofNat x3.toInt.toNat] = [x3]
              rw [← i32_ofNat a5]
            rw [ex]
            exact e
          · rw [List.length_append]
            show _ = ((C.length + 1 : Nat) : Int)
            omega
          · rw [List.append_assoc]
            exact a9
theorem pX12_findComing {G : jdG} {n : Nat} {Z : jdL} {J : jdJ} {K : jdI → jdJ → Prop} {I : jdI} {t N : Nat} {hr : Nat → Int32} (ht : zModel Z t) (hW : WM 7 t I) (hN : N ≤ 7) (h10 : (I t 10).toInt = (N : Int)) (hh : ∀ p, p < N → I (t + 18) p = hr p) (hhr : ∀ p, p < N → 0 ≤ (hr p).toInt ∧ (hr p).toInt < 24) (hK : ∀ I2, WM 7 t I2 → Fr (fun a _ => a = t + 31) I I2 → LiS I2 (t + 31) ((coA hr N 24 0).map Int32.ofNat) → K I2 J) : Cl G mX12_findComing n 0 0 [.ref (gb G + t)] Z I J (qv Z K) := by
  have hl := coA_len hr N hhr
  refine eX12_findComing ht ?_
  exact (pX12_findComing_l ht hN h10 hh (by omega) hK 241).1 I 0 0 [] hW Fr.rf (LiS_nil _ _) rfl (by decide) (by decide) rfl (by decide)
