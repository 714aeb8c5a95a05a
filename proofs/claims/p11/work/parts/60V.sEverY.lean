/-! longest and soonest of X, whole -/
theorem LW_35 {w : Tw} (h : (0 ≤ w.1 ∧ w.1 ≤ 7) ∧ 2 ≤ w.2.2.2.1 ∧ w.2.2.2.1 ≤ 4) : (LW w).length ≤ 35 := Nat.le_trans (DL_len (relW w) w.1.toNat 0 w.2.2.2.1.toNat 0) (cb_35 ⟨w.1.toNat, by omega⟩ ⟨w.2.2.2.1.toNat, by omega⟩)
theorem evT {I : jdI} {w : Tw} (h : TL I w) (h0 : 0 ≤ w.1) : ((1 : Int32) <<< ((I 13 6) &&& 31)) - 1 = evW w := by
  have h6 := h.1.1
  have e : (I 13 6).toInt = w.1 := by omega
  unfold evW
  rw [← e, ofI]
theorem pa_r {w : Tw} (h : (0 ≤ w.1 ∧ w.1 ≤ 7) ∧ 2 ≤ w.2.2.2.1 ∧ w.2.2.2.1 ≤ 4) : 0 ≤ (paW w).toInt ∧ (paW w).toInt < 16777216 := by
  have r := pmO_r (f := fG (relW w) (evW w)) (N := w.1.toNat) (by omega)
  have r : 0 ≤ (paW w).toInt ∧ (paW w).toInt < 2097152 := r
  omega
theorem LW_fil {w : Tw} (h : (0 ≤ w.1 ∧ w.1 ≤ 7) ∧ 2 ≤ w.2.2.2.1 ∧ w.2.2.2.1 ≤ 4) : (LW w).filter (sbs (evW w)) = LW w := List.filter_eq_self.mpr (LW_ev h)
def oLong (w : Tw) : Int := if w.2.2.2.1 = 2 then ((LW w).length : Int) else (lmx ((LW w).map (pmW w)) (paW w) : Int)
def oSoon (w : Tw) : Int := if w.2.2.2.1 = 2 then ((LW w).length : Int) else finE ((LW w).map (pmW w)) 29 (paW w) 0 0 28
theorem i7_2 {I : jdI} {w : Tw} (h : TL I w) (h0 : 0 ≤ w.2.2.2.1) : (I 13 7 = 2 ↔ w.2.2.2.1 = 2) := by
  have h7 := h.1.2.1
  have q2 : (2 : Int32).toInt = 2 := rfl
  constructor
  · intro e
    rw [e] at h7
    omega
  · intro e
    exact Int32.toInt_inj.mp (by rw [q2]; omega)
theorem pX8_ready {G : jdG} {n : Nat} {Z : jdL} {J : jdJ} {I : jdI} {w : Tw} {K2 : Int32 → jdI → jdJ → Prop} {b : Int32} (ht : zTies Z 13) (hW : WX I) (hb : (0 ≤ w.1 ∧ w.1 ≤ 7) ∧ 2 ≤ w.2.2.2.1 ∧ w.2.2.2.1 ≤ 4) (hT : TL I w) (hK : ∀ I2 : jdI, WX I2 → Fr (fun a k => (a = 13 ∧ k = 9) ∨ a = 13 + 4) I I2 → TL I2 w → LPr I2 ((LW w).map (pmW w)) w.2.2.2.1.toNat → I2 13 9 = b → K2 (paW w) I2 J) : Cl G mX8_everybody (n + 2) 0 0 [.ref (gb G + 13)] Z I J (qi Z (fun v2 I1 J1 => Cl G mX8_listPairs (n + 2) 0 0 [.ref (gb G + 13), .int v2] Z I1 J1 (qi Z (fun v4 I3 J3 => Cl G mX8_everybody (n + 2) 0 0 [.ref (gb G + 13)] Z (uI I3 13 9 b) J3 (qi Z (fun v6 I5 J5 => Cl G mX8_pairsIn (n + 2) 0 0 [.ref (gb G + 13), .int v6] Z I5 J5 (qi Z K2))))))) := by
  refine eX8_everybody ht ?_
  rw [evT hT hb.1.1]
  refine pX8_listPairs (L := LW w) ht hW (show w.1.toNat ≤ 7 by omega) (LW_70 hb) hT.1 hT.2.2.1 hT.2.2.2 (fun v4 I3 hW3 hF3 hv4 hL3 => ?_)
  rw [LW_fil hb] at hL3
  have hT3 : TL I3 w := TL_k hT hF3 (by intro a k h; omega)
  have w4 : WX (uI I3 13 9 b) := WX_uI hW3 (by unfold okX; refine ⟨?_, ?_, ?_, ?_, ?_, ?_, ?_, ?_, ?_, ?_⟩ <;> intro h <;> omega)
  have f4 : Fr (fun a k => a = 13 ∧ k = 9) I3 (uI I3 13 9 b) := Fr_uI Fr.rf ⟨rfl, rfl⟩
  have hT4 : TL (uI I3 13 9 b) w := TL_k hT3 f4 (by intro a k h; omega)
  refine eX8_everybody ht ?_
  rw [evT hT4 hb.1.1]
  refine pX8_pairsIn ht hT4.1 (by omega) ?_
  refine hK _ w4 (Fr.tr (Fr.tr Fr.rf hF3 (by intro a k h; omega)) f4 (by intro a k h; omega)) hT4 ⟨hT4.1.2.1, ?_, LiS_fr hL3 f4 (fun k => by omega)⟩ (by rw [uI_ap, if_pos ⟨rfl, rfl⟩])
  rw [hT4.2.2.1, List.length_map]
  rfl
theorem st_ea {w : Tw} (hb : (0 ≤ w.1 ∧ w.1 ≤ 7) ∧ 2 ≤ w.2.2.2.1 ∧ w.2.2.2.1 ≤ 4) (h2 : ¬ w.2.2.2.1 = 2) : (w.2.2.2.1.toNat = 3 ∧ eaN w = 3) ∨ (w.2.2.2.1.toNat = 4 ∧ eaN w = 6) := by
  have s3 : w.2.2.2.1.toNat = 3 ∨ w.2.2.2.1.toNat = 4 := by omega
  unfold eaN
  rcases s3 with s | s
  · rw [s]
    exact Or.inl ⟨rfl, rfl⟩
  · rw [s]
    exact Or.inr ⟨rfl, rfl⟩
theorem pX8_longest {G : jdG} {n : Nat} {Z : jdL} {J : jdJ} {K : Int32 → jdI → jdJ → Prop} {I : jdI} {w : Tw} (ht : zTies Z 13) (hW : WX I) (hb : (0 ≤ w.1 ∧ w.1 ≤ 7) ∧ 2 ≤ w.2.2.2.1 ∧ w.2.2.2.1 ≤ 4) (hsy : SYM w) (hT : TL I w) (hK : ∀ (v : Int32) (I2 : jdI), WX I2 → Fr (fun a k => (a = 13 ∧ k = 9) ∨ a = 13 + 4) I I2 → v.toInt = oLong w → K v I2 J) : Cl G mX8_longest (n + 80) 0 0 [.ref (gb G + 13)] Z I J (qi Z K) := by
  refine eX8_longest ht ⟨fun h7 => ?_, fun h7 => ?_⟩
  · have h2 : ¬ w.2.2.2.1 = 2 := fun e => h7 ((i7_2 hT (by omega)).mpr e)
    refine pX8_ready (n := n + 77) ht hW hb hT (fun I7 hW7 hF7 hT7 hP7 h9 => ?_)
    have l8 := lmx_8 hb hsy h2 (o := paW w)
    have l35 := LW_35 hb
    have q0 : (0 : Int32).toInt = 0 := rfl
    have ll : ((LW w).map (pmW w)).length ≤ 35 := by rw [List.length_map]; exact l35
    have c24 := cdN_24 (paW w) 24
    refine pX8_lengthen (st := w.2.2.2.1.toNat) (e := eaN w) (M := (LW w).map (pmW w)) ht (by omega) (st_ea hb h2) l8.2.2 35 (n + 42) I7 _ (paW w) 0 0 hW7 hP7 (by rw [h9]; decide) (pa_r hb) (by decide) (by rw [q0]; show 0 * _ + _ ≤ 24; omega) (by decide) (by rw [q0]; omega) (by rw [q0]; omega) (fun I9 hW9 hF9 h => ?_)
    refine hK _ I9 hW9 (Fr.tr hF7 hF9 (by intro a k h; omega)) ?_
    rw [h9, q0] at h
    have l9 := lenL_eq (e := eaN w) ((LW w).map (pmW w)) (paW w) 0 0 l8.2.2 (by decide)
    have h : (I9 13 9).toInt = lenL (eaN w : Int) ((LW w).map (pmW w)) (paW w) 0 0 := h
    rw [h, l9]
    unfold oLong
    rw [if_neg h2]
    by_cases c : (0 : Int) < 0 + (lmx ((LW w).map (pmW w)) (paW w) : Int)
    · rw [if_pos c]
      omega
    · rw [if_neg c]
      omega
  · have h2 := (i7_2 hT (by omega)).mp h7
    refine hK _ I hW Fr.rf ?_
    unfold oLong
    rw [if_pos h2]
    exact hT.2.2.1
/-! the soonest end -/
theorem pX8_firstPossible_2 {G : jdG} {n rc rs : Nat} {Z : jdL} {J : jdJ} {K : Int32 → jdI → jdJ → Prop} {I : jdI} {M : List Int32} {st : Nat} {o : Int32} {R : Int} (ht : zTies Z 13) (h70 : M.length ≤ 70) (hP : LPr I M st) (hK : ∀ v : Int32, v.toInt = R → K v I J) : ∀ f : Nat, ∀ x2 : Int32, 0 ≤ x2.toInt → x2.toInt + (f : Int) = (M.length : Int) → fpI o (M.drop x2.toInt.toNat) x2.toInt.toNat = R → Jd G mX8_firstPossible (jdFm G (qi Z K)) n rc rs 2 [(0, .ref (gb G + 13)), (1, .int o), (2, .int x2)] [] Z I J := by
  have h8 := hP.2.1
  intro f
  induction f with
  | zero =>
    intro x2 h2 hf hr
    rw [drop_end (show M.length ≤ x2.toInt.toNat by omega)] at hr
    exact rX8_firstPossible_2 ht ⟨fun _ => hK (-1) hr, fun h => absurd (Int32.le_iff_toInt_le.mpr (by omega)) h⟩
  | succ f ih =>
    intro x2 h2 hf hr
    have q1 : (1 : Int32).toInt = 1 := rfl
    have e2 := i32_add x2 1 (by omega) (by omega)
    have n2 := tn_eq x2
    have en : (x2 + 1).toInt.toNat = x2.toInt.toNat + 1 := by omega
    rw [LiS_drop hP.2.2 (k := x2.toInt.toNat) (by omega)] at hr
    have hr : (if (I (13 + 4) x2.toInt.toNat &&& o) = I (13 + 4) x2.toInt.toNat then (x2.toInt.toNat : Int) else fpI o (M.drop (x2.toInt.toNat + 1)) (x2.toInt.toNat + 1)) = R := hr
    refine rX8_firstPossible_2 ht ⟨fun h => by have := Int32.le_iff_toInt_le.mp h; omega, fun _ => ⟨vp_of (by omega) (by omega), vp_of (by omega) (by omega), fun hv => ?_, fun hv => ?_⟩⟩
    · rw [n2] at hv
      rw [if_neg hv, ← en] at hr
      exact ih (x2 + 1) (by omega) (by omega) hr
    · rw [n2] at hv
      rw [if_pos hv] at hr
      exact hK x2 (by omega)
theorem pX8_firstPossible {G : jdG} {n : Nat} {Z : jdL} {J : jdJ} {K : Int32 → jdI → jdJ → Prop} {I : jdI} {M : List Int32} {st : Nat} {o : Int32} (ht : zTies Z 13) (h70 : M.length ≤ 70) (hP : LPr I M st) (hK : ∀ v : Int32, v.toInt = fpI o M 0 → K v I J) : Cl G mX8_firstPossible n 0 0 [.ref (gb G + 13), .int o] Z I J (qi Z K) :=
  eX8_firstPossible ht (pX8_firstPossible_2 (R := fpI o M 0) ht h70 hP hK M.length 0 (by decide) (by show (0 : Int) + _ = _; omega) rfl)
theorem finL_b {rc : Int32 → Int64 → Int → Int → Int} {o pf : Int32} {s : Int} (hs : 0 ≤ s) (hrc : ∀ o y s b, 0 ≤ s → 0 ≤ b → 0 ≤ rc o y s b ∧ rc o y s b ≤ b) : ∀ (R : List Int32) (i : Nat) (y : Int64) (b : Int), 0 ≤ b → 0 ≤ finL rc o pf s R i y b ∧ finL rc o pf s R i y b ≤ b
  | [], _, _, b, hb => ⟨hb, Int.le_refl _⟩
  | p :: R, i, y, b, hb => by
    rw [finL_c]
    by_cases c : b ≤ s + 1
    · rw [if_pos c]
      exact ⟨hb, Int.le_refl _⟩
    · rw [if_neg c]
      by_cases d : ¬ (p &&& pf) = 0 ∧ (p &&& o) = p ∧ tb y i = false
      · rw [if_pos d]
        have h1 := hrc (o &&& ~~~p) y (s + 1) b (by omega) hb
        have h2 := finL_b (o := o) (pf := pf) hs hrc R (i + 1) (y ||| ((1 : Int64) <<< (Int64.ofNat i &&& 63))) (rc (o &&& ~~~p) y (s + 1) b) h1.1
        omega
      · rw [if_neg d]
        exact finL_b hs hrc R (i + 1) y b hb
theorem finE_b {M : List Int32} : ∀ (d : Nat) (o : Int32) (y : Int64) (s b : Int), 0 ≤ s → 0 ≤ b → 0 ≤ finE M d o y s b ∧ finE M d o y s b ≤ b
  | 0, _, _, _, b, _, hb => ⟨hb, Int.le_refl _⟩
  | d + 1, o, y, s, b, hs, hb => by
    show 0 ≤ (if fpI o M 0 = -1 then (if s < b then s else b) else finL (finE M d) o (M.getD (fpI o M 0).toNat 0) s (M.drop (fpI o M 0).toNat) (fpI o M 0).toNat y b) ∧ (if fpI o M 0 = -1 then (if s < b then s else b) else finL (finE M d) o (M.getD (fpI o M 0).toNat 0) s (M.drop (fpI o M 0).toNat) (fpI o M 0).toNat y b) ≤ b
    by_cases c : fpI o M 0 = -1
    · rw [if_pos c]
      by_cases e : s < b
      · rw [if_pos e]
        omega
      · rw [if_neg e]
        omega
    · rw [if_neg c]
      exact finL_b hs (fun o y s b h1 h2 => finE_b d o y s b h1 h2) _ _ _ _ hb
theorem tb_x (y : Int64) {x : Int32} (h : 0 ≤ x.toInt) : (lg_cmp ((y >>> (Int32.toInt64 x &&& 63)) &&& 1) 0) = 0 ↔ tb y x.toInt.toNat = false := by
  have e : Int32.toInt64 x = Int64.ofNat x.toInt.toNat := Int64.toInt_inj.mp (by
    have l := (i32_lo x).2
    rw [Int32.toInt_toInt64, Int64.toInt_ofNat_of_lt (by omega)]
    omega)
  rw [e]
  have f := lg_f ((y >>> (Int64.ofNat x.toInt.toNat &&& 63)) &&& 1) 0
  have q0 : (0 : Int32).toInt = 0 := rfl
  unfold tb
  rw [decide_eq_false_iff_not, Classical.not_not]
  constructor
  · intro h
    rw [h] at f
    exact Int64.toInt_inj.mp (by omega)
  · intro h
    rw [h] at f ⊢
    exact Int32.toInt_inj.mp (by omega)
theorem sh_x {x : Int32} (h : 0 ≤ x.toInt) : Int32.toInt64 x = Int64.ofNat x.toInt.toNat := Int64.toInt_inj.mp (by
  have l := (i32_lo x).2
  rw [Int32.toInt_toInt64, Int64.toInt_ofNat_of_lt (by omega)]
  omega)
theorem pX8_finish_34 {G : jdG} {n rc rs : Nat} {Z : jdL} {J : jdJ} {K : jdI → jdJ → Prop} {I0 : jdI} {M : List Int32} {st e d : Nat} {o x4 x5 : Int32} {y2 : Int64} {R : Int} (ht : zTies Z 13) (h70 : M.length ≤ 64) (he3 : 3 ≤ e) (hM : ∀ p ∈ M, cdN p 24 = e) (ho : 0 ≤ o.toInt ∧ o.toInt < 16777216) (hs : 0 ≤ x4.toInt) (hso : x4.toInt.toNat * e + cdN o 24 ≤ 24) (hsd : 8 ≤ x4.toInt + (d : Int)) (h5 : 0 ≤ x5.toInt ∧ x5.toInt < (M.length : Int))
    (hR : ∀ (I : jdI) (K : jdI → jdJ → Prop) (o : Int32) (y : Int64) (x4 : Int32), WX I → LPr I M st → 0 ≤ (I 13 9).toInt ∧ (I 13 9).toInt ≤ 28 → 0 ≤ o.toInt ∧ o.toInt < 16777216 → 0 ≤ x4.toInt → x4.toInt.toNat * e + cdN o 24 ≤ 24 → 9 ≤ x4.toInt + (d : Int) → (∀ I2 : jdI, WX I2 → Fr (fun a k => a = 13 ∧ k = 9) I I2 → (I2 13 9).toInt = finE M d o y x4.toInt (I 13 9).toInt → K I2 J) → Cl G mX8_finish n 0 0 [.ref (gb G + 13), .int o, .long y, .int x4] Z I J (qv Z K))
    (hK : ∀ I2 : jdI, WX I2 → Fr (fun a k => a = 13 ∧ k = 9) I0 I2 → (I2 13 9).toInt = R → K I2 J) : ∀ f : Nat, ∀ (I : jdI) (x8 : Int32) (y6 : Int64), WX I → Fr (fun a k => a = 13 ∧ k = 9) I0 I → LPr I M st → 0 ≤ (I 13 9).toInt ∧ (I 13 9).toInt ≤ 28 → 0 ≤ x8.toInt → x8.toInt + (f : Int) = (M.length : Int) → finL (finE M d) o (I0 (13 + 4) x5.toInt.toNat) x4.toInt (M.drop x8.toInt.toNat) x8.toInt.toNat y6 (I 13 9).toInt = R → Jd G mX8_finish (jdFm G (qv Z K)) (n + 1) rc rs 34 [(0, .ref (gb G + 13)), (1, .int o), (2, .long y2), (4, .int x4), (5, .int x5), (6, .long y6), (8, .int x8)] [] Z I J := by
  intro f
  induction f with
  | zero =>
    intro I x8 y6 hW hF hP hb h8x hf hr
    have h8 := hP.2.1
    rw [drop_end (show M.length ≤ x8.toInt.toNat by omega)] at hr
    exact rX8_finish_34 ht ⟨fun _ => hK I hW hF hr, fun h => absurd (Int32.le_iff_toInt_le.mpr (by omega)) h⟩
  | succ f ih =>
    intro I x8 y6 hW hF hP hb h8x hf hr
    have h8 := hP.2.1
    have q1 : (1 : Int32).toInt = 1 := rfl
    have e3le : x4.toInt.toNat * 3 ≤ x4.toInt.toNat * e := Nat.mul_le_mul_left _ he3
    have e4 := i32_add x4 1 (by omega) (by omega)
    have e8 := i32_add x8 1 (by omega) (by omega)
    have n8 := tn_eq x8
    have n5 := tn_eq x5
    have en : (x8 + 1).toInt.toNat = x8.toInt.toNat + 1 := by omega
    have ef : I (13 + 4) x5.toInt.toNat = I0 (13 + 4) x5.toInt.toNat := hF _ _ (by omega)
    rw [LiS_drop hP.2.2 (k := x8.toInt.toNat) (by omega), finL_c] at hr
    have hp : I (13 + 4) x8.toInt.toNat ∈ M := List.mem_of_mem_drop (i := x8.toInt.toNat) (by rw [LiS_drop hP.2.2 (k := x8.toInt.toNat) (by omega)]; exact List.mem_cons_self)
    have ep := hM _ hp
    refine rX8_finish_34 ht ⟨fun h => by have := Int32.le_iff_toInt_le.mp h; omega, fun _ => ⟨fun hc => ?_, fun hc => ?_⟩⟩
    · have hc := Int32.le_iff_toInt_le.mp hc
      rw [if_pos (by omega)] at hr
      exact hK I hW hF hr
    · have hc := mt Int32.le_iff_toInt_le.mpr hc
      rw [if_neg (by omega)] at hr
      have skip : ¬ (¬ (I (13 + 4) x8.toInt.toNat &&& I0 (13 + 4) x5.toInt.toNat) = 0 ∧ (I (13 + 4) x8.toInt.toNat &&& o) = I (13 + 4) x8.toInt.toNat ∧ tb y6 x8.toInt.toNat = false) → Jd G mX8_finish (jdFm G (qv Z K)) (n + 1) rc rs 34 [(0, .ref (gb G + 13)), (1, .int o), (2, .long y2), (4, .int x4), (5, .int x5), (6, .long y6), (8, .int (x8 + 1))] [] Z I J := fun z => by
        rw [if_neg z, ← en] at hr
        exact ih I (x8 + 1) y6 hW hF hP hb (by omega) (by omega) hr
      refine ⟨vp_of (by omega) (by omega), vp_of (by omega) (by omega), fun h0 => ?_, fun h0 => ⟨vp_of (by omega) (by omega), vp_of (by omega) (by omega), fun h1 => ?_, fun h1 => ⟨fun h2 => ?_, fun h2 => ?_⟩⟩⟩
      · rw [n8, n5, ef] at h0
        exact skip (fun z => z.1 h0)
      · rw [n8] at h1
        exact skip (fun z => h1 z.2.1)
      · exact skip (fun z => h2 ((tb_x y6 h8x).mpr z.2.2))
      · rw [n8, n5, ef] at h0
        rw [n8] at h1 ⊢
        have h2 := (tb_x y6 h8x).mp h2
        rw [if_pos ⟨h0, h1, h2⟩, ← en] at hr
        refine ⟨vp_of (by omega) (by omega), ?_⟩
        rw [xo_m1, sh_x h8x]
        have so := cdN_off h1 24 (by decide)
        have mul : (x4 + 1).toInt.toNat * e = x4.toInt.toNat * e + e := by rw [show (x4 + 1).toInt.toNat = x4.toInt.toNat + 1 by omega, Nat.succ_mul]
        have ra := i32_and' o (~~~(I (13 + 4) x8.toInt.toNat)) ho.1
        refine hR I _ (o &&& ~~~(I (13 + 4) x8.toInt.toNat)) y6 (x4 + 1) hW hP hb ⟨ra.1, by omega⟩ (by omega) (by omega) (by omega) (fun I6 hW6 hF6 h6 => ?_)
        rw [show (x4 + 1).toInt = x4.toInt + 1 by omega] at h6
        have fb := finE_b (M := M) d (o &&& ~~~(I (13 + 4) x8.toInt.toNat)) y6 (x4.toInt + 1) (I 13 9).toInt (by omega) hb.1
        rw [← h6] at fb
        exact ih I6 (x8 + 1) _ hW6 (Fr.tr hF hF6 (by intro a k h; omega)) (LPr_9 hP hF6) (by omega) (by omega) (by omega) (by rw [h6]; exact hr)
theorem pX8_finish {G : jdG} {Z : jdL} {J : jdJ} {M : List Int32} {st e : Nat} (ht : zTies Z 13) (h64 : M.length ≤ 64) (he3 : 3 ≤ e) (hM : ∀ p ∈ M, cdN p 24 = e) : ∀ d : Nat, ∀ (n : Nat) (I : jdI) (K : jdI → jdJ → Prop) (o : Int32) (y : Int64) (x4 : Int32), WX I → LPr I M st → 0 ≤ (I 13 9).toInt ∧ (I 13 9).toInt ≤ 28 → 0 ≤ o.toInt ∧ o.toInt < 16777216 → 0 ≤ x4.toInt → x4.toInt.toNat * e + cdN o 24 ≤ 24 → 9 ≤ x4.toInt + (d : Int) → (∀ I2 : jdI, WX I2 → Fr (fun a k => a = 13 ∧ k = 9) I I2 → (I2 13 9).toInt = finE M d o y x4.toInt (I 13 9).toInt → K I2 J) → Cl G mX8_finish (n + d) 0 0 [.ref (gb G + 13), .int o, .long y, .int x4] Z I J (qv Z K) := by
  intro d
  induction d with
  | zero =>
    intro n I K o y x4 hW hP hb ho hs hso hd hK
    have e3le : x4.toInt.toNat * 3 ≤ x4.toInt.toNat * e := Nat.mul_le_mul_left _ he3
    omega
  | succ d ihd =>
    intro n I K o y x4 hW hP hb ho hs hso hd hK
    have qm : (-1 : Int32).toInt = -1 := rfl
    refine eX8_finish ht (pX8_firstPossible ht (by omega) hP (fun v2 hv2 => ⟨fun hc => ?_, fun hc => ?_⟩))
    · have hc : ¬ fpI o M 0 = -1 := fun z => hc (Int32.toInt_inj.mp (by rw [hv2, z]; rfl))
      obtain ⟨k, p, e1, e2, e3, e4⟩ := fpI_s M 0 hc
      have hk := (List.getElem?_eq_some_iff.mp e2).1
      have vk : v2.toInt = (k : Int) := by rw [hv2, e1]; omega
      have vn : v2.toInt.toNat = k := by omega
      have ep : I (13 + 4) k = p := by
        have q := hP.2.2 k hk
        rw [e2] at q
        injection q with q
        exact q.symm
      refine pX8_finish_34 (R := finE M (d + 1) o y x4.toInt (I 13 9).toInt) (d := d) ht h64 he3 hM ho hs hso (by omega) ⟨by omega, by omega⟩ (fun I K o y x4 a1 a2 a3 a4 a5 a6 a7 a8 => ihd n I K o y x4 a1 a2 a3 a4 a5 a6 a7 a8) hK (M.length - k) I v2 y hW Fr.rf hP hb (by omega) (by omega) ?_
      show _ = if fpI o M 0 = -1 then (if x4.toInt < (I 13 9).toInt then x4.toInt else (I 13 9).toInt) else finL (finE M d) o (M.getD (fpI o M 0).toNat 0) x4.toInt (M.drop (fpI o M 0).toNat) (fpI o M 0).toNat y (I 13 9).toInt
      have ek : (fpI o M 0).toNat = k := by rw [e1]; omega
      have eg : M.getD k 0 = p := by rw [List.getD_eq_getElem?_getD, e2]; rfl
      rw [if_neg hc, ek, vn, ep, eg]
    · have hc : fpI o M 0 = -1 := by rw [← hv2, hc]; rfl
      have w1 := WX_uI (id := 13) (k := 9) (v := if x4 < (I 13 9) then x4 else (I 13 9)) hW (by unfold okX; refine ⟨?_, ?_, ?_, ?_, ?_, ?_, ?_, ?_, ?_, ?_⟩ <;> intro h <;> omega)
      refine hK _ w1 (Fr_uI Fr.rf ⟨rfl, rfl⟩) ?_
      show _ = if fpI o M 0 = -1 then (if x4.toInt < (I 13 9).toInt then x4.toInt else (I 13 9).toInt) else _
      rw [if_pos hc, uI_ap, if_pos ⟨rfl, rfl⟩]
      by_cases c : x4 < (I 13 9)
      · rw [if_pos c, if_pos (Int32.lt_iff_toInt_lt.mp c)]
      · rw [if_neg c, if_neg (mt Int32.lt_iff_toInt_lt.mpr c)]
theorem pX8_soonest {G : jdG} {n : Nat} {Z : jdL} {J : jdJ} {K : Int32 → jdI → jdJ → Prop} {I : jdI} {w : Tw} (ht : zTies Z 13) (hW : WX I) (hb : (0 ≤ w.1 ∧ w.1 ≤ 7) ∧ 2 ≤ w.2.2.2.1 ∧ w.2.2.2.1 ≤ 4) (hsy : SYM w) (hT : TL I w) (hK : ∀ (v : Int32) (I2 : jdI), WX I2 → Fr (fun a k => (a = 13 ∧ k = 9) ∨ a = 13 + 4) I I2 → v.toInt = oSoon w → K v I2 J) : Cl G mX8_soonest (n + 80) 0 0 [.ref (gb G + 13)] Z I J (qi Z K) := by
  refine eX8_soonest ht ⟨fun h7 => ?_, fun h7 => ?_⟩
  · have h2 : ¬ w.2.2.2.1 = 2 := fun e => h7 ((i7_2 hT (by omega)).mpr e)
    refine pX8_ready (n := n + 77) ht hW hb hT (fun I7 hW7 hF7 hT7 hP7 h9 => ?_)
    have l8 := lmx_8 hb hsy h2 (o := paW w)
    have q0 : (0 : Int32).toInt = 0 := rfl
    have q28 : (28 : Int32).toInt = 28 := rfl
    have ll : ((LW w).map (pmW w)).length ≤ 35 := by rw [List.length_map]; exact LW_35 hb
    have c24 := cdN_24 (paW w) 24
    refine pX8_finish (st := w.2.2.2.1.toNat) (e := eaN w) (M := (LW w).map (pmW w)) ht (by omega) l8.1 l8.2.2 29 (n + 50) I7 _ (paW w) 0 0 hW7 hP7 (by rw [h9]; decide) (pa_r hb) (by decide) (by rw [q0]; show 0 * _ + _ ≤ 24; omega) (by decide) (fun I9 hW9 hF9 h => ?_)
    refine hK _ I9 hW9 (Fr.tr hF7 hF9 (by intro a k h; omega)) ?_
    rw [h9, q0, q28] at h
    unfold oSoon
    rw [if_neg h2]
    exact h
  · have h2 := (i7_2 hT (by omega)).mp h7
    refine hK _ I hW Fr.rf ?_
    unfold oSoon
    rw [if_pos h2]
    exact hT.2.2.1
