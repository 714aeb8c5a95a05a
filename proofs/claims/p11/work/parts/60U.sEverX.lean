/-! the longest row and the soonest end, as X finds them -/
theorem b0_bt (y : Int32) : bt y 0 = true ↔ ¬ (y &&& 1) = 0 := by
  unfold bt
  rw [decide_eq_true_iff, show (Int32.ofNat 0 &&& 31) = (0 : Int32) by decide, Int32.shiftRight_zero]
theorem bt_sh (s : Int32) {x : Int32} (h : 0 ≤ x.toInt) : bt (s >>> (x &&& 31)) 0 = bt s x.toInt.toNat := Bool.eq_iff_iff.mpr ((b0_bt _).trans (bt_iff s h).symm)
theorem and3 {a s x y : Int32} (hx : 0 ≤ x.toInt) (hy : 0 ≤ y.toInt) : ((((a >>> (x &&& 31)) &&& (a >>> (y &&& 31))) &&& (s >>> (y &&& 31))) &&& 1) = 0 ↔ ¬ (bt a x.toInt.toNat && (bt a y.toInt.toNat && bt s y.toInt.toNat)) = true := by
  have h := b0_bt (((a >>> (x &&& 31)) &&& (a >>> (y &&& 31))) &&& (s >>> (y &&& 31)))
  rw [bt_an _ _ _ (by decide), bt_an _ _ _ (by decide), bt_sh a hx, bt_sh a hy, bt_sh s hy, Bool.and_assoc] at h
  exact ⟨fun q z => h.mp z q, fun q => Classical.byContradiction (fun z => q (h.mpr z))⟩
theorem pb_v : ∀ p : Fin 8, ∀ q : Fin 8, ((Int32.ofNat q.val * (Int32.ofNat q.val - 1)) / 2) + Int32.ofNat p.val = Int32.ofNat (pb p.val q.val) := by decide +kernel
theorem pb_x {x y : Int32} (hx : 0 ≤ x.toInt ∧ x.toInt < 8) (hy : 0 ≤ y.toInt ∧ y.toInt < 8) : ((y * (y - 1)) / 2) + x = Int32.ofNat (pb x.toInt.toNat y.toInt.toNat) := by
  have e := pb_v ⟨x.toInt.toNat, by omega⟩ ⟨y.toInt.toNat, by omega⟩
  rw [← i32_ofNat hx.1, ← i32_ofNat hy.1] at e
  exact e
theorem pX8_pairsIn_l {G : jdG} {n rc rs : Nat} {Z : jdL} {J : jdJ} {K : Int32 → jdI → jdJ → Prop} {I : jdI} {N st : Nat} {rel : Nat → Nat → Bool} {x1 : Int32} (ht : zTies Z 13) (hg : GX I N st rel) (hN : N ≤ 7) (hK : K (pmG rel N x1) I J) : ∀ m : Nat,
    (∀ x2 x3 : Int32, 1 ≤ x3.toInt → (x3.toInt ≤ (N : Int) ∨ x3.toInt = 1) → x2 = pmO (fG rel x1) x3.toInt.toNat → (8 - x3.toInt) * 10 < (m : Int) → Jd G mX8_pairsIn (jdFm G (qi Z K)) (n + 1) rc rs 4 [(0, .ref (gb G + 13)), (1, .int x1), (2, .int x2), (3, .int x3)] [] Z I J) ∧
    (∀ x2 x3 x4 : Int32, 1 ≤ x3.toInt → x3.toInt < (N : Int) → 0 ≤ x4.toInt → x4.toInt ≤ x3.toInt → x2 = pmI (fG rel x1) x3.toInt.toNat x4.toInt.toNat (pmO (fG rel x1) x3.toInt.toNat) → (8 - x3.toInt) * 10 - x4.toInt - 1 < (m : Int) → Jd G mX8_pairsIn (jdFm G (qi Z K)) (n + 1) rc rs 15 [(0, .ref (gb G + 13)), (1, .int x1), (2, .int x2), (3, .int x3), (4, .int x4)] [] Z I J) := by
  intro m
  induction m with
  | zero =>
    refine ⟨fun x2 x3 h1 h2 h3 hm => ?_, fun x2 x3 x4 h1 h2 h3 h4 h5 hm => ?_⟩ <;> omega
  | succ m ih =>
    have q1 : (1 : Int32).toInt = 1 := rfl
    have q0 : (0 : Int32).toInt = 0 := rfl
    have h6 := hg.1
    refine ⟨fun x2 x3 h1 h2 h3 hm => ?_, fun x2 x3 x4 h1 h2 h3 h4 h5 hm => ?_⟩
    · refine rX8_pairsIn_4 ht ⟨fun hc => ?_, fun hc => ?_⟩
      · have hc := Int32.le_iff_toInt_le.mp hc
        have e : pmO (fG rel x1) x3.toInt.toNat = pmG rel N x1 := by
          by_cases c : x3.toInt = (N : Int)
          · rw [show x3.toInt.toNat = N by omega]
            rfl
          · rw [show x3.toInt.toNat = 1 by omega, show N = 0 by omega]
            rfl
        rw [h3, e]
        exact hK
      · have hc := mt Int32.le_iff_toInt_le.mpr hc
        exact ih.2 x2 x3 0 h1 (by omega) (by decide) (by omega) (by rw [h3]; rfl) (by omega)
    · have e3 := i32_add x3 1 (by omega) (by omega)
      have e4 := i32_add x4 1 (by omega) (by omega)
      have n4 := tn_eq x4
      refine rX8_pairsIn_15 ht ⟨fun hc => ?_, fun hc => ?_⟩
      · have hc := Int32.le_iff_toInt_le.mp hc
        exact ih.1 x2 (x3 + 1) (by omega) (by omega) (by rw [h5, show x4.toInt.toNat = x3.toInt.toNat by omega, show (x3 + 1).toInt.toNat = x3.toInt.toNat + 1 by omega]; rfl) (by omega)
      · have hc := mt Int32.le_iff_toInt_le.mpr hc
        have et : Int32.toNatClampNeg x4 = x4.toInt.toNat := by omega
        have en : (x4 + 1).toInt.toNat = x4.toInt.toNat + 1 := by omega
        have b9 := GX_bt hg (by omega) (p := x4.toInt.toNat) (q := x3.toInt.toNat) (by omega) (by omega)
        rw [decide_eq_true (show x3.toInt.toNat < N by omega), decide_eq_true (show x3.toInt.toNat ≠ x4.toInt.toNat by omega), Bool.true_and, Bool.true_and] at b9
        refine ⟨vp_of (by omega) (by omega), fun hv => ?_, fun hv => ?_⟩
        · rw [et] at hv
          have hv := (and3 (by omega) (by omega)).mp hv
          rw [b9] at hv
          exact ih.2 x2 x3 (x4 + 1) h1 h2 (by omega) (by omega) (by rw [h5, en, pmI_n hv]) (by omega)
        · rw [et] at hv
          have hv : (bt x1 x4.toInt.toNat && (bt x1 x3.toInt.toNat && bt (I (13 + 1) x4.toInt.toNat) x3.toInt.toNat)) = true := Classical.byContradiction (fun z => hv ((and3 (by omega) (by omega)).mpr z))
          rw [b9] at hv
          refine eX8_pairBit ?_
          rw [pb_x ⟨h3, by omega⟩ ⟨by omega, by omega⟩]
          exact ih.2 _ x3 (x4 + 1) h1 h2 (by omega) (by omega) (by rw [h5, en, pmI_y hv]) (by omega)
theorem pX8_pairsIn {G : jdG} {n : Nat} {Z : jdL} {J : jdJ} {K : Int32 → jdI → jdJ → Prop} {I : jdI} {N st : Nat} {rel : Nat → Nat → Bool} {x1 : Int32} (ht : zTies Z 13) (hg : GX I N st rel) (hN : N ≤ 7) (hK : K (pmG rel N x1) I J) : Cl G mX8_pairsIn (n + 1) 0 0 [.ref (gb G + 13), .int x1] Z I J (qi Z K) :=
  eX8_pairsIn ht ((pX8_pairsIn_l ht hg hN hK 71).1 0 1 (by decide) (Or.inr rfl) rfl (by decide))
theorem pX8_listPairs_4 {G : jdG} {n rc rs : Nat} {Z : jdL} {J : jdJ} {K : Int32 → jdI → jdJ → Prop} {I0 : jdI} {N st : Nat} {rel : Nat → Nat → Bool} {L F : List Int32} {x1 : Int32} (ht : zTies Z 13) (hN : N ≤ 7) (h70 : L.length ≤ 70) (hg0 : GX I0 N st rel) (hc0 : (I0 13 8).toInt = (L.length : Int)) (hL0 : LiS I0 (13 + 3) L) (hK : ∀ (v : Int32) (I2 : jdI), WX I2 → Fr (fun a k => a = 13 + 4) I0 I2 → v.toInt = (F.length : Int) → LiS I2 (13 + 4) F → K v I2 J) : ∀ f : Nat, ∀ (I : jdI) (x2 x3 : Int32) (D : List Int32), WX I → Fr (fun a k => a = 13 + 4) I0 I → LiS I (13 + 4) D → x2.toInt = (D.length : Int) → 0 ≤ x3.toInt → x3.toInt + (f : Int) = (L.length : Int) → x2.toInt ≤ x3.toInt → D ++ ((L.drop x3.toInt.toNat).filter (sbs x1)).map (pmG rel N) = F → Jd G mX8_listPairs (jdFm G (qi Z K)) (n + 2) rc rs 4 [(0, .ref (gb G + 13)), (1, .int x1), (2, .int x2), (3, .int x3)] [] Z I J := by
  intro f
  induction f with
  | zero =>
    intro I x2 x3 D hW hF hD h2 h3 hf hx hr
    rw [drop_end (show L.length ≤ x3.toInt.toNat by omega), List.filter_nil, List.map_nil, List.append_nil] at hr
    subst hr
    have e8 : (I 13 8).toInt = (L.length : Int) := by rw [hF 13 8 (by omega)]; exact hc0
    exact rX8_listPairs_4 ht ⟨fun _ => hK x2 I hW hF h2 hD, fun h => absurd (Int32.le_iff_toInt_le.mpr (by omega)) h⟩
  | succ f ih =>
    intro I x2 x3 D hW hF hD h2 h3 hf hx hr
    have e8 : (I 13 8).toInt = (L.length : Int) := by rw [hF 13 8 (by omega)]; exact hc0
    have hL : LiS I (13 + 3) L := LiS_fr hL0 hF (fun k => by omega)
    have hg : GX I N st rel := GX_fr hg0 hF (by omega) (by omega) (fun k => by omega)
    have q1 : (1 : Int32).toInt = 1 := rfl
    have e2 := i32_add x2 1 (by omega) (by omega)
    have e3 := i32_add x3 1 (by omega) (by omega)
    have n3 := tn_eq x3
    have n2 := tn_eq x2
    have en : (x3 + 1).toInt.toNat = x3.toInt.toNat + 1 := by omega
    rw [LiS_drop hL (k := x3.toInt.toNat) (by omega)] at hr
    refine rX8_listPairs_4 ht ⟨fun h => by have := Int32.le_iff_toInt_le.mp h; omega, fun _ => ⟨vp_of (by omega) (by omega), vp_of (by omega) (by omega), fun hv => ?_, fun hv => ?_⟩⟩
    · rw [n3] at hv
      rw [List.filter_cons_of_neg (fun z => hv (sbs_x.mpr z)), ← en] at hr
      exact ih I x2 (x3 + 1) D hW hF hD h2 (by omega) (by omega) (by omega) hr
    · rw [n3] at hv ⊢
      rw [List.filter_cons_of_pos (sbs_x.mp hv), List.map_cons, ← en] at hr
      refine ⟨vp_of (by omega) (by omega), ?_⟩
      refine pX8_pairsIn ht hg hN ⟨vp_of (by omega) (by omega), ?_⟩
      have et : Int32.toNatClampNeg x2 = D.length := by omega
      rw [et]
      have w1 := WX_uI (id := 13 + 4) (k := D.length) (v := pmG rel N (I (13 + 3) x3.toInt.toNat)) hW (by unfold okX; refine ⟨?_, ?_, ?_, ?_, ?_, ?_, ?_, ?_, ?_, ?_⟩ <;> intro h <;> omega)
      have f1 : Fr (fun a k => a = 13 + 4) I (uI I (13 + 4) D.length (pmG rel N (I (13 + 3) x3.toInt.toNat))) := Fr_uI Fr.rf rfl
      exact ih _ (x2 + 1) (x3 + 1) (D ++ [pmG rel N (I (13 + 3) x3.toInt.toNat)]) w1 (Fr.tr hF f1 (by intro a k h; omega)) (LiS_push hD rfl) (by rw [List.length_append, List.length_singleton]; omega) (by omega) (by omega) (by omega) (by rw [List.append_assoc]; exact hr)
theorem pX8_listPairs {G : jdG} {n : Nat} {Z : jdL} {J : jdJ} {K : Int32 → jdI → jdJ → Prop} {I : jdI} {N st : Nat} {rel : Nat → Nat → Bool} {L : List Int32} {x1 : Int32} (ht : zTies Z 13) (hW : WX I) (hN : N ≤ 7) (h70 : L.length ≤ 70) (hg : GX I N st rel) (hc : (I 13 8).toInt = (L.length : Int)) (hL : LiS I (13 + 3) L) (hK : ∀ (v : Int32) (I2 : jdI), WX I2 → Fr (fun a k => a = 13 + 4) I I2 → v.toInt = (((L.filter (sbs x1)).map (pmG rel N)).length : Int) → LiS I2 (13 + 4) ((L.filter (sbs x1)).map (pmG rel N)) → K v I2 J) : Cl G mX8_listPairs (n + 2) 0 0 [.ref (gb G + 13), .int x1] Z I J (qi Z K) := by
  have q0 : (0 : Int32).toInt = 0 := rfl
  exact eX8_listPairs ht (pX8_listPairs_4 (F := (L.filter (sbs x1)).map (pmG rel N)) ht hN h70 hg hc hL hK L.length I 0 0 [] hW Fr.rf (LiS_nil _ _) rfl (by decide) (by rw [q0]; omega) (by decide) rfl)
/-! the search for the longest -/
def LPr (I : jdI) (M : List Int32) (st : Nat) : Prop := (I 13 7).toInt = (st : Int) ∧ (I 13 8).toInt = (M.length : Int) ∧ LiS I (13 + 4) M
theorem LPr_9 {I I2 : jdI} {M : List Int32} {st : Nat} (h : LPr I M st) (hF : Fr (fun a k => a = 13 ∧ k = 9) I I2) : LPr I2 M st := ⟨by rw [hF 13 7 (by omega)]; exact h.1, by rw [hF 13 8 (by omega)]; exact h.2.1, LiS_fr h.2.2 hF (fun k => by omega)⟩
theorem pX8_lengthen_37 {G : jdG} {n rc rs : Nat} {Z : jdL} {J : jdJ} {K : jdI → jdJ → Prop} {I0 : jdI} {M : List Int32} {st e : Nat} {o x2 x3 x4 : Int32} {R : Int} (ht : zTies Z 13) (h70 : M.length ≤ 70) (he : x4.toInt = (e : Int)) (he3 : e = 3 ∨ e = 6) (hM : ∀ p ∈ M, cdN p 24 = e) (ho : 0 ≤ o.toInt ∧ o.toInt < 16777216) (hs : 0 ≤ x3.toInt) (hso : x3.toInt.toNat * e + cdN o 24 ≤ 24) {d : Nat}
    (hR : ∀ (I : jdI) (K : jdI → jdJ → Prop) (o x2 x3 : Int32), WX I → LPr I M st → 0 ≤ (I 13 9).toInt ∧ (I 13 9).toInt ≤ 100 → 0 ≤ o.toInt ∧ o.toInt < 16777216 → 0 ≤ x3.toInt → x3.toInt.toNat * e + cdN o 24 ≤ 24 → 0 ≤ x2.toInt → x2.toInt ≤ (M.length : Int) → (M.length : Int) ≤ x2.toInt + (d : Int) → (∀ I2 : jdI, WX I2 → Fr (fun a k => a = 13 ∧ k = 9) I I2 → (I2 13 9).toInt = lenL (e : Int) (M.drop x2.toInt.toNat) o x3.toInt (if (I 13 9).toInt < x3.toInt then x3.toInt else (I 13 9).toInt) → K I2 J) → Cl G mX8_lengthen n 0 0 [.ref (gb G + 13), .int o, .int x2, .int x3] Z I J (qv Z K))
    (hK : ∀ I2 : jdI, WX I2 → Fr (fun a k => a = 13 ∧ k = 9) I0 I2 → (I2 13 9).toInt = R → K I2 J) : ∀ f : Nat, ∀ (I : jdI) (x5 : Int32), WX I → Fr (fun a k => a = 13 ∧ k = 9) I0 I → LPr I M st → x3.toInt ≤ (I 13 9).toInt → (I 13 9).toInt ≤ 100 → 0 ≤ x5.toInt → x5.toInt + (f : Int) = (M.length : Int) → (M.length : Int) ≤ x5.toInt + (d : Int) + 1 → lenL (e : Int) (M.drop x5.toInt.toNat) o x3.toInt (I 13 9).toInt = R → Jd G mX8_lengthen (jdFm G (qv Z K)) (n + 1) rc rs 37 [(0, .ref (gb G + 13)), (1, .int o), (2, .int x2), (3, .int x3), (4, .int x4), (5, .int x5)] [] Z I J := by
  intro f
  induction f with
  | zero =>
    intro I x5 hW hF hP h1 h2 h5 hf hd hr
    rw [drop_end (show M.length ≤ x5.toInt.toNat by omega)] at hr
    have h8 := hP.2.1
    exact rX8_lengthen_37 ht ⟨fun _ => hK I hW hF hr, fun h => absurd (Int32.le_iff_toInt_le.mpr (by omega)) h⟩
  | succ f ih =>
    intro I x5 hW hF hP h1 h2 h5 hf hd hr
    have h8 := hP.2.1
    have q1 : (1 : Int32).toInt = 1 := rfl
    have e3le : x3.toInt.toNat * 3 ≤ x3.toInt.toNat * e := Nat.mul_le_mul_left _ (by omega)
    have e3 := i32_add x3 1 (by omega) (by omega)
    have e5 := i32_add x5 1 (by omega) (by omega)
    have n5 := tn_eq x5
    have en : (x5 + 1).toInt.toNat = x5.toInt.toNat + 1 := by omega
    rw [LiS_drop hP.2.2 (k := x5.toInt.toNat) (by omega)] at hr
    have hp : I (13 + 4) x5.toInt.toNat ∈ M := List.mem_of_mem_drop (i := x5.toInt.toNat) (by rw [LiS_drop hP.2.2 (k := x5.toInt.toNat) (by omega)]; exact List.mem_cons_self)
    have ep := hM _ hp
    rw [lenL_c] at hr
    have a1 := i32_add (I 13 9) 1 (by omega) (by omega)
    have a2 := i32_sub ((I 13 9) + 1) x3 (by omega) (by omega)
    have m : ((((I 13 9) + 1) - x3) * x4).toInt = ((I 13 9).toInt + 1 - x3.toInt) * (e : Int) := by
      rcases he3 with h | h
      · rw [i32_mulc _ x4 3 (by omega) (by omega) (by omega), h]
        omega
      · rw [i32_mulc _ x4 6 (by omega) (by omega) (by omega), h]
        omega
    refine rX8_lengthen_37 ht ⟨fun h => by have := Int32.le_iff_toInt_le.mp h; omega, fun _ => ?_⟩
    refine pJ6_bitCount24 ho.1 ho.2 (fun v2 hv2 => ⟨fun hc => ?_, fun hc => ?_⟩)
    · have hc := Int32.le_iff_toInt_le.mp hc
      rw [m, hv2] at hc
      rw [if_pos hc] at hr
      refine ⟨vp_of (by omega) (by omega), vp_of (by omega) (by omega), fun hv => ?_, fun hv => ?_⟩
      · rw [n5] at hv
        rw [if_neg hv, ← en] at hr
        exact ih I (x5 + 1) hW hF hP h1 h2 (by omega) (by omega) (by omega) hr
      · rw [n5] at hv ⊢
        rw [if_pos hv, ← en] at hr
        refine ⟨vp_of (by omega) (by omega), ?_⟩
        rw [xo_m1]
        have so := cdN_off hv 24 (by decide)
        have mul : (x3 + 1).toInt.toNat * e = x3.toInt.toNat * e + e := by rw [show (x3 + 1).toInt.toNat = x3.toInt.toNat + 1 by omega, Nat.succ_mul]
        have ra := i32_and' o (~~~(I (13 + 4) x5.toInt.toNat)) ho.1
        refine hR I _ (o &&& ~~~(I (13 + 4) x5.toInt.toNat)) (x5 + 1) (x3 + 1) hW hP ⟨by omega, h2⟩ ⟨ra.1, by omega⟩ (by omega) (by omega) (by omega) (by omega) (by omega) (fun I6 hW6 hF6 h6 => ?_)
        rw [show (x3 + 1).toInt = x3.toInt + 1 by omega] at h6
        have A1 := mx_sp (x3.toInt + 1) (I 13 9).toInt
        have ms := hM
        have l9 := lenL_eq (e := e) (M.drop (x5 + 1).toInt.toNat) (o &&& ~~~(I (13 + 4) x5.toInt.toNat)) (x3.toInt + 1) (if (I 13 9).toInt < x3.toInt + 1 then x3.toInt + 1 else (I 13 9).toInt) (fun p hp => hM p (List.mem_of_mem_drop hp)) (by omega)
        have lb := lmx_b (e := e) (M.drop (x5 + 1).toInt.toNat) (o &&& ~~~(I (13 + 4) x5.toInt.toNat)) (fun p hp => hM p (List.mem_of_mem_drop hp))
        have lb3 : lmx (M.drop (x5 + 1).toInt.toNat) (o &&& ~~~(I (13 + 4) x5.toInt.toNat)) * 3 ≤ lmx (M.drop (x5 + 1).toInt.toNat) (o &&& ~~~(I (13 + 4) x5.toInt.toNat)) * e := Nat.mul_le_mul_left _ (by omega)
        have A2 := mx_sp (x3.toInt + 1 + (lmx (M.drop (x5 + 1).toInt.toNat) (o &&& ~~~(I (13 + 4) x5.toInt.toNat)) : Int)) (if (I 13 9).toInt < x3.toInt + 1 then x3.toInt + 1 else (I 13 9).toInt)
        rw [← l9, ← h6] at A2
        exact ih I6 (x5 + 1) hW6 (Fr.tr hF hF6 (by intro a k h; omega)) (LPr_9 hP hF6) (by omega) (by omega) (by omega) (by omega) (by omega) (by rw [h6]; exact hr)
    · have hc := mt Int32.le_iff_toInt_le.mpr hc
      rw [m, hv2] at hc
      rw [if_neg hc] at hr
      exact hK I hW hF hr
theorem pX8_lengthen {G : jdG} {Z : jdL} {J : jdJ} {M : List Int32} {st e : Nat} (ht : zTies Z 13) (h70 : M.length ≤ 70) (hst : (st = 3 ∧ e = 3) ∨ (st = 4 ∧ e = 6)) (hM : ∀ p ∈ M, cdN p 24 = e) : ∀ d : Nat, ∀ (n : Nat) (I : jdI) (K : jdI → jdJ → Prop) (o x2 x3 : Int32), WX I → LPr I M st → 0 ≤ (I 13 9).toInt ∧ (I 13 9).toInt ≤ 100 → 0 ≤ o.toInt ∧ o.toInt < 16777216 → 0 ≤ x3.toInt → x3.toInt.toNat * e + cdN o 24 ≤ 24 → 0 ≤ x2.toInt → x2.toInt ≤ (M.length : Int) → (M.length : Int) ≤ x2.toInt + (d : Int) → (∀ I2 : jdI, WX I2 → Fr (fun a k => a = 13 ∧ k = 9) I I2 → (I2 13 9).toInt = lenL (e : Int) (M.drop x2.toInt.toNat) o x3.toInt (if (I 13 9).toInt < x3.toInt then x3.toInt else (I 13 9).toInt) → K I2 J) → Cl G mX8_lengthen (n + d + 2) 0 0 [.ref (gb G + 13), .int o, .int x2, .int x3] Z I J (qv Z K) := by
  intro d
  induction d with
  | zero =>
    intro n I K o x2 x3 hW hP hb ho hs hso h2 h2l hd hK
    have h8 := hP.2.1
    have e3le : x3.toInt.toNat * 3 ≤ x3.toInt.toNat * e := Nat.mul_le_mul_left _ (by omega)
    have q28 : (28 : Int32).toInt = 28 := rfl
    refine eX8_lengthen ht ⟨fun _ => ?_, fun h => absurd (Int32.lt_iff_toInt_lt.mpr (by omega)) h⟩
    have w1 := WX_uI (id := 13) (k := 9) (v := if (I 13 9) < x3 then x3 else (I 13 9)) hW (by unfold okX; refine ⟨?_, ?_, ?_, ?_, ?_, ?_, ?_, ?_, ?_, ?_⟩ <;> intro h <;> omega)
    have f1 : Fr (fun a k => a = 13 ∧ k = 9) I (uI I 13 9 (if (I 13 9) < x3 then x3 else (I 13 9))) := Fr_uI Fr.rf ⟨rfl, rfl⟩
    have e9 : ((uI I 13 9 (if (I 13 9) < x3 then x3 else (I 13 9))) 13 9).toInt = if (I 13 9).toInt < x3.toInt then x3.toInt else (I 13 9).toInt := by
      rw [uI_ap, if_pos ⟨rfl, rfl⟩]
      by_cases c : (I 13 9) < x3
      · rw [if_pos c, if_pos (Int32.lt_iff_toInt_lt.mp c)]
      · rw [if_neg c, if_neg (mt Int32.lt_iff_toInt_lt.mpr c)]
    refine rX8_lengthen_37 ht ⟨fun _ => hK _ w1 f1 ?_, fun h => absurd (Int32.le_iff_toInt_le.mpr (by rw [f1 13 8 (by omega)]; omega)) h⟩
    rw [e9, drop_end (show M.length ≤ x2.toInt.toNat by omega)]
    rfl
  | succ d ihd =>
    intro n I K o x2 x3 hW hP hb ho hs hso h2 h2l hd hK
    have h8 := hP.2.1
    have e3le : x3.toInt.toNat * 3 ≤ x3.toInt.toNat * e := Nat.mul_le_mul_left _ (by omega)
    have q28 : (28 : Int32).toInt = 28 := rfl
    refine eX8_lengthen ht ⟨fun _ => ?_, fun h => absurd (Int32.lt_iff_toInt_lt.mpr (by omega)) h⟩
    have w1 := WX_uI (id := 13) (k := 9) (v := if (I 13 9) < x3 then x3 else (I 13 9)) hW (by unfold okX; refine ⟨?_, ?_, ?_, ?_, ?_, ?_, ?_, ?_, ?_, ?_⟩ <;> intro h <;> omega)
    have f1 : Fr (fun a k => a = 13 ∧ k = 9) I (uI I 13 9 (if (I 13 9) < x3 then x3 else (I 13 9))) := Fr_uI Fr.rf ⟨rfl, rfl⟩
    have e9 : ((uI I 13 9 (if (I 13 9) < x3 then x3 else (I 13 9))) 13 9).toInt = if (I 13 9).toInt < x3.toInt then x3.toInt else (I 13 9).toInt := by
      rw [uI_ap, if_pos ⟨rfl, rfl⟩]
      by_cases c : (I 13 9) < x3
      · rw [if_pos c, if_pos (Int32.lt_iff_toInt_lt.mp c)]
      · rw [if_neg c, if_neg (mt Int32.lt_iff_toInt_lt.mpr c)]
    have A1 := mx_sp x3.toInt (I 13 9).toInt
    rw [← e9] at A1
    have h7 := hP.1
    have hx4 : (((I 13 7) * ((I 13 7) - 1)) / 2).toInt = (e : Int) := by
      rcases hst with ⟨s, h⟩ | ⟨s, h⟩
      · have : I 13 7 = 3 := Int32.toInt_inj.mp (by rw [h7, s]; rfl)
        rw [this, h]
        decide
      · have : I 13 7 = 4 := Int32.toInt_inj.mp (by rw [h7, s]; rfl)
        rw [this, h]
        decide
    exact pX8_lengthen_37 (R := lenL (e : Int) (M.drop x2.toInt.toNat) o x3.toInt (if (I 13 9).toInt < x3.toInt then x3.toInt else (I 13 9).toInt)) (d := d) ht h70 hx4 (by omega) hM ho hs hso (fun I K o x2 x3 a1 a2 a3 a4 a5 a6 a7 a8 a9 a10 => ihd n I K o x2 x3 a1 a2 a3 a4 a5 a6 a7 a8 a9 a10) (fun I2 hW2 hF2 h => hK I2 hW2 (Fr.tr (Fr.tr Fr.rf f1 (by intro a k h; omega)) hF2 (by intro a k h; omega)) h) (M.length - x2.toInt.toNat) _ x2 w1 Fr.rf (LPr_9 hP f1) (by omega) (by omega) h2 (by omega) (by omega) (by rw [e9])
