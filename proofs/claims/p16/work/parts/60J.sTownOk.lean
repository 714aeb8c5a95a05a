/-! towns that may be; know, meet, year -/
def KK (k : Nat → Nat → Int32) : Prop := (∀ i j, k i j = k j i) ∧ ∀ i j, -1 ≤ (k i j).toInt ∧ (k i j).toInt ≤ 99
def HC (w : Tw) : Prop := ∀ p : Nat, (p : Int) < w.1 → (0 ≤ (w.2.1 p).toInt ∧ (w.2.1 p).toInt < 24) ∧ 0 ≤ (w.2.2.1 p).toInt ∧ (w.2.2.1 p).toInt ≤ 9
/-- hours, costs and years are such as may be, and who knows whom goes both ways -/
def OKT (w : Tw) : Prop := HC w ∧ KK w.2.2.2.2.2
theorem OKT_sy {w : Tw} (h : OKT w) : SYM w := h.2.1
theorem OKT_tie {w : Tw} {a b : Nat} {v : Int32} (h : OKT w) (hv : -1 ≤ v.toInt ∧ v.toInt ≤ 99) : OKT (tieT w a b v) := by
  refine ⟨h.1, fun i j => ?_, fun i j => ?_⟩
  · show (if (i = a ∧ j = b) ∨ (i = b ∧ j = a) then v else w.2.2.2.2.2 i j) = (if (j = a ∧ i = b) ∨ (j = b ∧ i = a) then v else w.2.2.2.2.2 j i)
    by_cases c : (i = a ∧ j = b) ∨ (i = b ∧ j = a)
    · rw [if_pos c, if_pos (by omega)]
    · rw [if_neg c, if_neg (by omega)]
      exact h.2.1 i j
  · show -1 ≤ (if (i = a ∧ j = b) ∨ (i = b ∧ j = a) then v else w.2.2.2.2.2 i j).toInt ∧ (if (i = a ∧ j = b) ∨ (i = b ∧ j = a) then v else w.2.2.2.2.2 i j).toInt ≤ 99
    by_cases c : (i = a ∧ j = b) ∨ (i = b ∧ j = a)
    · rw [if_pos c]
      exact hv
    · rw [if_neg c]
      exact h.2.2 i j
theorem OKT_acq {w : Tw} {s : Int32} (h : OKT w) : OKT (acqT w s) := by
  refine ⟨h.1, fun i j => ?_, fun i j => ?_⟩
  · show (if bt s i = true ∧ bt s j = true then 0 else w.2.2.2.2.2 i j) = (if bt s j = true ∧ bt s i = true then 0 else w.2.2.2.2.2 j i)
    by_cases c : bt s i = true ∧ bt s j = true
    · rw [if_pos c, if_pos ⟨c.2, c.1⟩]
    · rw [if_neg c, if_neg (fun z => c ⟨z.2, z.1⟩)]
      exact h.2.1 i j
  · show -1 ≤ (if bt s i = true ∧ bt s j = true then 0 else w.2.2.2.2.2 i j).toInt ∧ (if bt s i = true ∧ bt s j = true then 0 else w.2.2.2.2.2 i j).toInt ≤ 99
    by_cases c : bt s i = true ∧ bt s j = true
    · rw [if_pos c]
      decide
    · rw [if_neg c]
      exact h.2.2 i j
theorem OKT_add {w : Tw} {x y : Int32} (h : OKT w) (hx : 0 ≤ x.toInt ∧ x.toInt < 24) (hy : 0 ≤ y.toInt ∧ y.toInt ≤ 9) : OKT (addT w x y) := by
  refine ⟨fun p hp => ?_, fun i j => ?_, fun i j => ?_⟩
  · have hp : (p : Int) < w.1 + 1 := hp
    show (0 ≤ (if (p : Int) = w.1 then x else w.2.1 p).toInt ∧ (if (p : Int) = w.1 then x else w.2.1 p).toInt < 24) ∧ 0 ≤ (if (p : Int) = w.1 then y else w.2.2.1 p).toInt ∧ (if (p : Int) = w.1 then y else w.2.2.1 p).toInt ≤ 9
    by_cases c : (p : Int) = w.1
    · rw [if_pos c, if_pos c]
      exact ⟨hx, hy⟩
    · rw [if_neg c, if_neg c]
      exact h.1 p (by omega)
  · show (if (i : Int) = w.1 ∨ (j : Int) = w.1 then -1 else w.2.2.2.2.2 i j) = (if (j : Int) = w.1 ∨ (i : Int) = w.1 then -1 else w.2.2.2.2.2 j i)
    by_cases c : (i : Int) = w.1 ∨ (j : Int) = w.1
    · rw [if_pos c, if_pos (by omega)]
    · rw [if_neg c, if_neg (by omega)]
      exact h.2.1 i j
  · show -1 ≤ (if (i : Int) = w.1 ∨ (j : Int) = w.1 then -1 else w.2.2.2.2.2 i j).toInt ∧ (if (i : Int) = w.1 ∨ (j : Int) = w.1 then -1 else w.2.2.2.2.2 i j).toInt ≤ 99
    by_cases c : (i : Int) = w.1 ∨ (j : Int) = w.1
    · rw [if_pos c]
      decide
    · rw [if_neg c]
      exact h.2.2 i j
theorem OKT_hour {w : Tw} {i : Nat} {v : Int32} (h : OKT w) (hv : 0 ≤ v.toInt ∧ v.toInt < 24) : OKT (hourT w i v) := by
  refine ⟨fun p hp => ⟨?_, (h.1 p hp).2⟩, h.2⟩
  show 0 ≤ (if p = i then v else w.2.1 p).toInt ∧ (if p = i then v else w.2.1 p).toInt < 24
  by_cases c : p = i
  · rw [if_pos c]
    exact hv
  · rw [if_neg c]
    exact (h.1 p hp).1
theorem OKT_cost {w : Tw} {i : Nat} {v : Int32} (h : OKT w) (hv : 0 ≤ v.toInt ∧ v.toInt ≤ 9) : OKT (costT w i v) := by
  refine ⟨fun p hp => ⟨(h.1 p hp).1, ?_⟩, h.2⟩
  show 0 ≤ (if p = i then v else w.2.2.1 p).toInt ∧ (if p = i then v else w.2.2.1 p).toInt ≤ 9
  by_cases c : p = i
  · rw [if_pos c]
    exact hv
  · rw [if_neg c]
    exact (h.1 p hp).2
theorem vd_q (x : Int32) : 0 ≤ ((Int32.toUInt32 x >>> (Int32.toUInt32 16 &&& Int32.toUInt32 31)).toInt32).toInt ∧ ((Int32.toUInt32 x >>> (Int32.toUInt32 16 &&& Int32.toUInt32 31)).toInt32).toInt ≤ 65535 := by
  have e := UInt32.toNat_shiftRight (Int32.toUInt32 x) (Int32.toUInt32 16 &&& Int32.toUInt32 31)
  have e2 : (Int32.toUInt32 16 &&& Int32.toUInt32 31).toNat % 32 = 16 := by decide
  have l := (Int32.toUInt32 x).toNat_lt
  rw [e2, Nat.shiftRight_eq_div_pow] at e
  generalize Int32.toUInt32 x >>> (Int32.toUInt32 16 &&& Int32.toUInt32 31) = u at e ⊢
  have b : u.toInt32.toBitVec.toNat = u.toNat := rfl
  have h2 : u.toInt32.toInt = u.toInt32.toBitVec.toInt := rfl
  have h3 : u.toNat < 65536 := by
    rw [e]
    omega
  rw [h2, BitVec.toInt_eq_toNat_cond, b, if_pos (by omega)]
  omega
theorem vd_24 (x : Int32) : 0 ≤ (vd x 24).toInt ∧ (vd x 24).toInt < 24 := by
  have r := vd_q x
  unfold vd
  generalize (Int32.toUInt32 x >>> (Int32.toUInt32 16 &&& Int32.toUInt32 31)).toInt32 = q at r ⊢
  have q24 : (24 : Int32).toInt = 24 := rfl
  have d : (q / 24).toInt = q.toInt / 24 := by
    rw [Int32.toInt_div_of_ne_right q 24 (by decide), q24]
    exact Int.tdiv_eq_ediv_of_nonneg r.1
  have m := i32_mulc (q / 24) 24 24 rfl (by omega) (by omega)
  have s := i32_sub q (q / 24 * 24) (by omega) (by omega)
  omega
theorem vd_10 (x : Int32) : 0 ≤ (vd x 10).toInt ∧ (vd x 10).toInt ≤ 9 := by
  have r := vd_q x
  unfold vd
  generalize (Int32.toUInt32 x >>> (Int32.toUInt32 16 &&& Int32.toUInt32 31)).toInt32 = q at r ⊢
  have q10 : (10 : Int32).toInt = 10 := rfl
  have d : (q / 10).toInt = q.toInt / 10 := by
    rw [Int32.toInt_div_of_ne_right q 10 (by decide), q10]
    exact Int.tdiv_eq_ediv_of_nonneg r.1
  have m := i32_mulc (q / 10) 10 10 rfl (by omega) (by omega)
  have s := i32_sub q (q / 10 * 10) (by omega) (by omega)
  omega
theorem OKT_drG (g : Int32 → Int32) (b : Int32 → Bool) : ∀ (f j : Nat) (s : Sd), OKT s.1 → OKT (drG g b f j s).1
  | 0, _, s, h => h
  | f + 1, j, s, h => by
    by_cases c : b (g s.2) = true
    · rw [drG_y c]
      exact OKT_drG g b f (j + 1) _ (OKT_tie h (by decide))
    · rw [drG_n c]
      exact OKT_drG g b f (j + 1) _ h
theorem OKT_addD {s : Sd} (h : OKT s.1) : OKT (addD s).1 := OKT_drG nx bz _ _ _ (OKT_add h (vd_24 _) (vd_10 _))
theorem OKT_comeN : ∀ (f : Nat) (s : Sd), OKT s.1 → OKT (comeN f s).1
  | 0, _, h => h
  | f + 1, s, h => OKT_comeN f (addD s) (OKT_addD h)
theorem oPerson_ok {s : Sd} {x1 x2 : Int32} (h : OKT s.1) : OKT (oPerson s x1 x2).2.1 := by
  unfold oPerson
  by_cases c : (0 ≤ x1.toInt ∧ x1.toInt < 24) ∧ 0 ≤ x2.toInt ∧ x2.toInt < 10
  · by_cases d : s.1.1 < 7
    · rw [if_pos c, if_pos d]
      exact OKT_add h c.1 ⟨c.2.1, by omega⟩
    · rw [if_pos c, if_neg d]
      exact h
  · rw [if_neg c]
    exact h
theorem oChange_ok {s : Sd} {x1 x2 x3 : Int32} (h : OKT s.1) : OKT (oChange s x1 x2 x3).2.1 := by
  unfold oChange
  by_cases c : (0 ≤ x1.toInt ∧ x1.toInt < s.1.1) ∧ ((x2.toInt = 0 ∧ 0 ≤ x3.toInt ∧ x3.toInt < 24) ∨ (x2.toInt = 1 ∧ 0 ≤ x3.toInt ∧ x3.toInt < 10))
  · by_cases d : x2.toInt = 0
    · rw [if_pos c, if_pos d]
      exact OKT_hour h (by omega)
    · rw [if_pos c, if_neg d]
      exact OKT_cost h (by omega)
  · rw [if_neg c]
    exact h
theorem oAsk_ok {s : Sd} {x1 x2 : Int32} (h : OKT s.1) : OKT (oAsk s x1 x2).2.1 := by
  unfold oAsk
  split
  · exact h
  · split
    · exact h
    · exact h
theorem oSeed_ok {s : Sd} {x1 : Int32} (h : OKT s.1) : OKT (oSeed s x1).2.1 := h
theorem oCome_ok {s : Sd} {x1 : Int32} (h : OKT s.1) : OKT (oCome s x1).2.1 := by
  unfold oCome
  split
  · split
    · exact OKT_comeN _ _ h
    · exact OKT_comeN _ _ h
  · exact h
theorem nm_rg {T : Nat → Int32} {n lo hi : Int} {q : Q3} {ok : Int → Bool} {a : Int × Q3} (e : nm T n q lo hi ok = .inr a) : lo ≤ a.1 ∧ a.1 ≤ hi := by
  unfold nm at e
  by_cases c : q.1 = 2 ∧ lo ≤ vl T q.2.1 q.2.2 ∧ vl T q.2.1 q.2.2 ≤ hi ∧ ok (vl T q.2.1 q.2.2) = true
  · rw [if_pos c] at e
    injection e with e
    rw [← e]
    exact ⟨c.2.1, c.2.2.1⟩
  · rw [if_neg c] at e
    cases e
theorem ofI_r {v lo hi : Int} (h : lo ≤ v ∧ v ≤ hi) (h1 : -1000 ≤ lo) (h2 : hi ≤ 1000) : lo ≤ (Int32.ofInt v).toInt ∧ (Int32.ofInt v).toInt ≤ hi := by
  rw [Int32.toInt_ofInt_of_le (by omega) (by omega)]
  exact h
/-- what is read into a town that may be is one -/
def OKR (r : Sum Int (Tw × Q3)) : Prop := ∀ w q, r = .inr (w, q) → OKT w
theorem OKR_l {p : Int} : OKR (.inl p) := fun w q e => by cases e
theorem OKR_r {w : Tw} {q : Q3} (h : OKT w) : OKR (.inr (w, q)) := fun w2 q2 e => by
  injection e with e
  injection e with e1 e2
  rw [← e1]
  exact h
theorem stPerson_ok {T : Nat → Int32} {n : Int} {w : Tw} {q : Q3} (h : OKT w) : OKR (stPerson T n w q) := by
  unfold stPerson
  by_cases c : 7 ≤ w.1
  · rw [if_pos c]
    exact OKR_l
  · rw [if_neg c]
    cases ha : nm T n (adv T n q.2.2) 0 23 (fun _ => true) with
    | inl p => exact OKR_l
    | inr a =>
      dsimp only
      cases hb : nm T n a.2 0 9 (fun _ => true) with
      | inl p => exact OKR_l
      | inr b =>
        have r1 := ofI_r (nm_rg ha) (by omega) (by omega)
        exact OKR_r (OKT_add h ⟨r1.1, by omega⟩ (ofI_r (nm_rg hb) (by omega) (by omega)))
theorem stPair_ok {T : Nat → Int32} {n : Int} {w : Tw} {q : Q3} {kn : Bool} (h : OKT w) : OKR (stPair T n w q kn) := by
  unfold stPair
  cases ha : nm T n (adv T n q.2.2) 0 (w.1 - 1) (fun _ => true) with
  | inl p => exact OKR_l
  | inr a =>
    dsimp only
    cases hb : nm T n a.2 0 (w.1 - 1) (fun x => decide (¬ x = a.1)) with
    | inl p => exact OKR_l
    | inr b =>
      dsimp only
      by_cases c : kn = true ∧ WD T b.2.1 b.2.2.1 b.2.2.2 2
      · rw [if_pos c]
        unfold stSince
        cases hd : nm T n (adv T n b.2.2.2) 0 99 (fun _ => true) with
        | inl p => exact OKR_l
        | inr d =>
          have r1 := ofI_r (nm_rg hd) (by omega) (by omega)
          exact OKR_r (OKT_tie h ⟨by omega, r1.2⟩)
      · rw [if_neg c]
        refine OKR_r (OKT_tie h ?_)
        cases kn <;> decide
theorem stSeats_ok {T : Nat → Int32} {n : Int} {w : Tw} {q : Q3} (h : OKT w) : OKR (stSeats T n w q) := by
  unfold stSeats
  cases nm T n (adv T n q.2.2) 2 4 (fun _ => true) with
  | inl p => exact OKR_l
  | inr a => exact OKR_r h
theorem stMemory_ok {T : Nat → Int32} {n : Int} {w : Tw} {q : Q3} (h : OKT w) : OKR (stMemory T n w q) := by
  unfold stMemory
  cases nm T n (adv T n q.2.2) 0 99 (fun _ => true) with
  | inl p => exact OKR_l
  | inr a => exact OKR_r h
theorem stMet_ok {T : Nat → Int32} {n : Int} {w : Tw} {q : Q3} (h : OKT w) : OKR (stMet T n w q) := by
  unfold stMet
  cases nm T n (adv T n q.2.2) 0 (w.1 - 1) (fun _ => true) with
  | inl p => exact OKR_l
  | inr a =>
    dsimp only
    cases metR T n w.1 7 ((1 : Int32) <<< (Int32.ofInt a.1 &&& 31)) a.2 with
    | inl p => exact OKR_l
    | inr b => exact OKR_r (OKT_acq h)
theorem st_ok {T : Nat → Int32} {n : Int} {w : Tw} {q : Q3} (h : OKT w) : OKR (st T n w q) := by
  unfold st
  by_cases c0 : WD T q.1 q.2.1 q.2.2 0
  · rw [if_pos c0]
    exact stPerson_ok h
  · rw [if_neg c0]
    by_cases c1 : WD T q.1 q.2.1 q.2.2 1
    · rw [if_pos c1]
      exact stPair_ok h
    · rw [if_neg c1]
      by_cases c3 : WD T q.1 q.2.1 q.2.2 3
      · rw [if_pos c3]
        exact stPair_ok h
      · rw [if_neg c3]
        by_cases c4 : WD T q.1 q.2.1 q.2.2 4
        · rw [if_pos c4]
          exact stSeats_ok h
        · rw [if_neg c4]
          by_cases c5 : WD T q.1 q.2.1 q.2.2 5
          · rw [if_pos c5]
            exact stMemory_ok h
          · rw [if_neg c5]
            by_cases c6 : WD T q.1 q.2.1 q.2.2 6
            · rw [if_pos c6]
              exact stMet_ok h
            · rw [if_neg c6]
              exact OKR_l
theorem rd_ok (T : Nat → Int32) (n : Int) : ∀ (f : Nat) (w : Tw) (q : Q3) (c : Int) (w2 : Tw) (c2 : Int), OKT w → rd T n f w q c = .inr (w2, c2) → OKT w2
  | 0, w, q, c, w2, c2, h, e => by
    have e : (Sum.inl _ : Rd) = .inr (w2, c2) := e
    cases e
  | f + 1, w, q, c, w2, c2, h, e => by
    cases hs : st T n w q with
    | inl p =>
      rw [rd_e hs] at e
      cases e
    | inr a =>
      have hw : OKT a.1 := st_ok h a.1 a.2 hs
      rw [rd_y (w2 := a.1) (q2 := a.2) hs] at e
      by_cases c0 : a.2.1 = 0
      · rw [rdB_0 c0] at e
        injection e with e
        injection e with e1 e2
        rw [← e1]
        exact hw
      · by_cases c3 : a.2.1 = 3
        · rw [rdB_3 c3] at e
          exact rd_ok T n f a.1 _ _ w2 c2 hw e
        · rw [rdB_x c0 c3] at e
          cases e
/-! refusals -/
theorem refX {G : jdG} {n : Nat} {Z : jdL} {J : jdJ} {K : Int32 → jdI → jdJ → Prop} {I : jdI} {s : Sd} {num : Int32} {P : Nat → Nat → Prop} {o : Int × Sd} (hX : zX Z) (hW : WX I) (hs : TX I 1 s) (e : o = (num.toInt, s)) (hp : ∀ a k, a = 28 → P a k) (hK : ∀ (v : Int32) (I2 : jdI), WX I2 → Fr P I I2 → (v.toInt = o.1 ∧ TX I2 1 o.2) → K v I2 J) : Cl G mX11_refuse n 0 0 [.ref (gb G + 0), .int num] Z I J (qi Z K) :=
  sfX11_refuse hX hW (fun v4 I3 hW3 hF3 hp3 => hK v4 I3 hW3 (Fr.tr Fr.rf hF3 (fun a k h => hp a k h)) (by rw [e, hp3]; exact ⟨rfl, TX_fr hs hF3 (by intro a k h1 h2; omega)⟩))
theorem refM {G : jdG} {n : Nat} {Z : jdL} {J : jdJ} {K : Int32 → jdI → jdJ → Prop} {I : jdI} {t : Nat} {s : Sd} {num : Int32} {P : Nat → Nat → Prop} {o : Int × Sd} (ht : zModel Z t) (hW : WM 7 t I) (hs : TM I t s) (hn : -7 ≤ num.toInt ∧ num.toInt ≤ 0) (e : o = (num.toInt, s)) (hp : ∀ a k, a = t + 17 → P a k) (hK : ∀ (v : Int32) (I2 : jdI), WM 7 t I2 → Fr P I I2 → (v.toInt = o.1 ∧ TM I2 t o.2) → K v I2 J) : Cl G mX12_refuse n 0 0 [.ref (gb G + t), .int num] Z I J (qi Z K) := by
  have h1 := hs.1.1
  have hw := WM_f hW
  exact sfX12_refuse ht (by decide) hW hn (fun v4 I3 hW3 hF3 hp3 => hK v4 I3 hW3 (Fr.tr Fr.rf hF3 (fun a k h => hp a k h)) (by rw [e]; exact ⟨hp3, TM_fr hs (show s.1.1 ≤ 8 by omega) hF3 (by omega) (by omega) (by omega) (by omega) (by intro a k h1 h2 h3; omega)⟩))
/-! know -/
def oKnow (s : Sd) (x1 x2 x3 : Int32) : Int × Sd := if ((0 ≤ x1.toInt ∧ x1.toInt < s.1.1) ∧ (0 ≤ x2.toInt ∧ x2.toInt < s.1.1) ∧ ¬ x1.toInt = x2.toInt) ∧ -1 ≤ x3.toInt ∧ x3.toInt ≤ 99 then ((s.1.2.2.2.2.2 x1.toInt.toNat x2.toInt.toNat).toInt, (tieT s.1 x1.toInt.toNat x2.toInt.toNat x3, s.2)) else (-2, s)
theorem oKnow_ok {s : Sd} {x1 x2 x3 : Int32} (h : OKT s.1) : OKT (oKnow s x1 x2 x3).2.1 := by
  unfold oKnow
  by_cases c : ((0 ≤ x1.toInt ∧ x1.toInt < s.1.1) ∧ (0 ≤ x2.toInt ∧ x2.toInt < s.1.1) ∧ ¬ x1.toInt = x2.toInt) ∧ -1 ≤ x3.toInt ∧ x3.toInt ≤ 99
  · rw [if_pos c]
    exact OKT_tie h c.2
  · rw [if_neg c]
    exact h
theorem pX9_since {G : jdG} {n : Nat} {Z : jdL} {J : jdJ} {K : Int32 → jdI → jdJ → Prop} {I : jdI} {t : Nat} {w : Tw} {x1 x2 : Int32} (ht : zTown Z t) (hts : t = 1 ∨ t = 5 ∨ t = 9) (hW : WX I) (hw : RX I t w) (h1 : 0 ≤ x1.toInt ∧ x1.toInt < w.1) (h2 : 0 ≤ x2.toInt ∧ x2.toInt < w.1) (hne : ¬ x1.toInt = x2.toInt) (hK : K (w.2.2.2.2.2 x1.toInt.toNat x2.toInt.toNat) I J) : Cl G mX9_since n 0 0 [.ref (gb G + t), .int x1, .int x2] Z I J (qi Z K) := by
  have hp := WX_town hW hts
  have hw1 := hw.1
  have m1 := i32_mulc x1 7 7 rfl (by omega) (by omega)
  have a1 := i32_add (x1 * 7) x2 (by omega) (by omega)
  have k1 := tn_eq ((x1 * 7) + x2)
  refine eX9_since ht ⟨vp_of (by omega) (by omega), ?_⟩
  rw [show Int32.toNatClampNeg ((x1 * 7) + x2) = x1.toInt.toNat * 7 + x2.toInt.toNat by omega, hw.2.2.2.2 x1.toInt.toNat x2.toInt.toNat (by omega) (by omega) (by omega)]
  exact hK
theorem pX11_know {G : jdG} {n : Nat} {Z : jdL} {J : jdJ} {K : Int32 → jdI → jdJ → Prop} {I : jdI} {s : Sd} {x1 x2 x3 : Int32} (hX : zX Z) (hW : WX I) (hs : TX I 1 s) (hK : ∀ (v : Int32) (I2 : jdI), WX I2 → Fr (fun a k => a = 4 ∨ a = 28) I I2 → (v.toInt = (oKnow s x1 x2 x3).1 ∧ TX I2 1 (oKnow s x1 x2 x3).2) → K v I2 J) : Cl G mX11_know (n + 2) 0 0 [.ref (gb G + 0), .int x1, .int x2, .int x3] Z I J (qi Z K) := by
  have h1 := hs.1.1
  have hw := WX_f hW
  have qm : (-1 : Int32).toInt = -1 := rfl
  have q99 : (99 : Int32).toInt = 99 := rfl
  refine eX11_know hX ?_
  refine sfX9_hasTwo (zX_o0 hX) (Or.inl rfl) hW (fun v2 p2 => ⟨fun c2 => ?_, fun c2 => ⟨fun c3 => ?_, fun c3 => ⟨fun c4 => ?_, fun c4 => ?_⟩⟩⟩)
  · have c2 := i0 c2
    exact refX hX hW hs (if_neg (by omega)) (by intro a k h; omega) hK
  · have c3 := Int32.lt_iff_toInt_lt.mp c3
    exact refX hX hW hs (if_neg (by omega)) (by intro a k h; omega) hK
  · have c2 := i1 c2
    have c3 := mt Int32.lt_iff_toInt_lt.mpr c3
    have c4 := Int32.le_iff_toInt_le.mp c4
    have e : oKnow s x1 x2 x3 = ((s.1.2.2.2.2.2 x1.toInt.toNat x2.toInt.toNat).toInt, (tieT s.1 x1.toInt.toNat x2.toInt.toNat x3, s.2)) := if_pos (by omega)
    refine pX9_since (zX_o0 hX) (Or.inl rfl) hW hs.1 (by omega) (by omega) (by omega) ?_
    refine pX9_tie (zX_o0 hX) (Or.inl rfl) hW hs.1 (by omega) (by omega) (fun I3 hW3 hF3 hR3 => ?_)
    refine hK _ I3 hW3 (Fr.tr Fr.rf hF3 (by intro a k h; omega)) ?_
    rw [e]
    exact ⟨rfl, hR3, by rw [hF3 1 6 (by omega)]; exact hs.2⟩
  · have c4 := mt Int32.le_iff_toInt_le.mpr c4
    exact refX hX hW hs (if_neg (by omega)) (by intro a k h; omega) hK
theorem pX12_know {G : jdG} {n : Nat} {Z : jdL} {J : jdJ} {K : Int32 → jdI → jdJ → Prop} {I : jdI} {t : Nat} {s : Sd} {x1 x2 x3 : Int32} (ht : zModel Z t) (hW : WM 7 t I) (hs : TM I t s) (hK : ∀ (v : Int32) (I2 : jdI), WM 7 t I2 → Fr (fun a k => (t + 21 ≤ a ∧ a ≤ t + 28) ∨ a = t + 17) I I2 → (v.toInt = (oKnow s x1 x2 x3).1 ∧ TM I2 t (oKnow s x1 x2 x3).2) → K v I2 J) : Cl G mX12_know (n + 3) 0 0 [.ref (gb G + t), .int x1, .int x2, .int x3] Z I J (qi Z K) := by
  have h1 := hs.1.1
  have hw := WM_f hW
  have e3 : (Int32.toInt64 x3).toInt = x3.toInt := Int32.toInt_toInt64 _
  have zm : (-1 : Int64).toInt = -1 := rfl
  have z99 : (99 : Int64).toInt = 99 := rfl
  refine eX12_know ht ?_
  refine sfX12_areTwo ht hW (fun v2 p2 => ⟨fun c2 => ?_, fun c2 => ?_⟩)
  · have c2 := i0 c2
    exact refM ht hW hs (by decide) (if_neg (by omega)) (by intro a k h; omega) hK
  · have c2 := i1 c2
    refine sfX12_in trivial (fun v6 p6 => ⟨fun c6 => ?_, fun c6 => ?_⟩)
    · have c6 := i1 c6
      have e : oKnow s x1 x2 x3 = ((s.1.2.2.2.2.2 x1.toInt.toNat x2.toInt.toNat).toInt, (tieT s.1 x1.toInt.toNat x2.toInt.toNat x3, s.2)) := if_pos (by omega)
      have e9 := hs.1.2.2.2.2 x1.toInt.toNat x2.toInt.toNat (by omega) (by omega) (by omega)
      refine ⟨vp_of (by omega) (by omega), vp_of (by omega) (by omega), ?_⟩
      refine pX12_knows ht hW hs.1 (by omega) (by omega) (fun I3 hW3 hF3 hR3 => ?_)
      refine hK _ I3 hW3 (Fr.tr Fr.rf hF3 (by intro a k h; omega)) ?_
      rw [e]
      exact ⟨congrArg Int32.toInt e9, hR3, by rw [hF3 t 19 (by omega)]; exact hs.2⟩
    · have c6 := i0 c6
      exact refM ht hW hs (by decide) (if_neg (by omega)) (by intro a k h; omega) hK
/-! sets of people; meet -/
theorem pX9_hasAll {G : jdG} {n : Nat} {Z : jdL} {J : jdJ} {K : Int32 → jdI → jdJ → Prop} {I : jdI} {t : Nat} {x1 : Int32} {P : Int} (ht : zTown Z t) (hts : t = 1 ∨ t = 5 ∨ t = 9) (hW : WX I) (hP : (I t 3).toInt = P) (hK : ∀ v : Int32, ((v.toInt = 1 ∧ 0 ≤ x1.toInt ∧ x1.toInt < 2 ^ P.toNat) ∨ (v.toInt = 0 ∧ ¬ (0 ≤ x1.toInt ∧ x1.toInt < 2 ^ P.toNat))) → K v I J) : Cl G mX9_hasAll (n + 1) 0 0 [.ref (gb G + t), .int x1] Z I J (qi Z K) := by
  have hp := WX_town hW hts
  have ev := (ev_of (x := I t 3) (by omega) (by omega)).2
  rw [hP] at ev
  have q0 : (0 : Int32).toInt = 0 := rfl
  refine eX9_hasAll ht ⟨fun c => ?_, fun c => ?_⟩
  · have c := Int32.lt_iff_toInt_lt.mp c
    exact hK 0 (Or.inr ⟨rfl, by omega⟩)
  · have c := mt Int32.lt_iff_toInt_lt.mpr c
    refine eX9_everybody ht ⟨fun d => ?_, fun d => ?_⟩
    · have d := Int32.lt_iff_toInt_lt.mp d
      exact hK 0 (Or.inr ⟨rfl, by omega⟩)
    · have d := mt Int32.lt_iff_toInt_lt.mpr d
      exact hK 1 (Or.inl ⟨rfl, by omega, by omega⟩)
theorem pX12_isSet {G : jdG} {n : Nat} {Z : jdL} {J : jdJ} {K : Int32 → jdI → jdJ → Prop} {I : jdI} {t : Nat} {x1 : Int32} {P : Int} (ht : zModel Z t) (hW : WM 7 t I) (hP : (I t 10).toInt = P) (hK : ∀ v : Int32, ((v.toInt = 1 ∧ 0 ≤ x1.toInt ∧ x1.toInt < 2 ^ P.toNat) ∨ (v.toInt = 0 ∧ ¬ (0 ≤ x1.toInt ∧ x1.toInt < 2 ^ P.toNat))) → K v I J) : Cl G mX12_isSet (n + 1) 0 0 [.ref (gb G + t), .int x1] Z I J (qi Z K) := by
  have hp := WM_f hW
  have ev := (ev_of (x := I t 10) (by omega) (by omega)).2
  rw [hP] at ev
  have e1 : (Int32.toInt64 x1).toInt = x1.toInt := Int32.toInt_toInt64 _
  have z0 : (0 : Int64).toInt = 0 := rfl
  refine eX12_isSet ht (eX12_all ht ?_)
  have e2 := Int32.toInt_toInt64 (((1 : Int32) <<< ((I t 10) &&& 31)) - 1)
  exact sfX12_in trivial (fun v4 p4 => ⟨narrow_b (by omega), hK v4 (by omega)⟩)
def oMeet (s : Sd) (x1 : Int32) : Int × Sd := if 0 ≤ x1.toInt ∧ x1.toInt < 2 ^ s.1.1.toNat then (totc s.1.2.2.2.2.2 x1 s.1.1.toNat, (acqT s.1 x1, s.2)) else (-2, s)
theorem oMeet_ok {s : Sd} {x1 : Int32} (h : OKT s.1) : OKT (oMeet s x1).2.1 := by
  unfold oMeet
  by_cases c : 0 ≤ x1.toInt ∧ x1.toInt < 2 ^ s.1.1.toNat
  · rw [if_pos c]
    exact OKT_acq h
  · rw [if_neg c]
    exact h
theorem pX11_meet {G : jdG} {n : Nat} {Z : jdL} {J : jdJ} {K : Int32 → jdI → jdJ → Prop} {I : jdI} {s : Sd} {x1 : Int32} (hX : zX Z) (hW : WX I) (hs : TX I 1 s) (hK : ∀ (v : Int32) (I2 : jdI), WX I2 → Fr (fun a k => a = 4 ∨ a = 28) I I2 → (v.toInt = (oMeet s x1).1 ∧ TX I2 1 (oMeet s x1).2) → K v I2 J) : Cl G mX11_meet (n + 2) 0 0 [.ref (gb G + 0), .int x1] Z I J (qi Z K) := by
  refine eX11_meet hX ?_
  refine pX9_hasAll (zX_o0 hX) (Or.inl rfl) hW hs.1.1 (fun v2 p2 => ⟨fun c2 => ?_, fun c2 => ?_⟩)
  · have c2 := i0 c2
    exact refX hX hW hs (if_neg (by omega)) (by intro a k h; omega) hK
  · have c2 := i1 c2
    have e : oMeet s x1 = (totc s.1.2.2.2.2.2 x1 s.1.1.toNat, (acqT s.1 x1, s.2)) := if_pos (by omega)
    refine pX9_acquaint (zX_o0 hX) (Or.inl rfl) hW hs.1 (fun v6 I3 hW3 hF3 hR3 hv => ?_)
    refine hK v6 I3 hW3 (Fr.tr Fr.rf hF3 (by intro a k h; omega)) ?_
    rw [e]
    exact ⟨hv, hR3, by rw [hF3 1 6 (by omega)]; exact hs.2⟩
theorem pX12_meet {G : jdG} {n : Nat} {Z : jdL} {J : jdJ} {K : Int32 → jdI → jdJ → Prop} {I : jdI} {t : Nat} {s : Sd} {x1 : Int32} (ht : zModel Z t) (hW : WM 7 t I) (hs : TM I t s) (hK : ∀ (v : Int32) (I2 : jdI), WM 7 t I2 → Fr (fun a k => a = t + 17 ∨ (t + 21 ≤ a ∧ a ≤ t + 28)) I I2 → (v.toInt = (oMeet s x1).1 ∧ TM I2 t (oMeet s x1).2) → K v I2 J) : Cl G mX12_meet (n + 2) 0 0 [.ref (gb G + t), .int x1] Z I J (qi Z K) := by
  refine eX12_meet ht ?_
  refine pX12_isSet ht hW hs.1.1 (fun v2 p2 => ⟨fun c2 => ?_, fun c2 => ?_⟩)
  · have c2 := i0 c2
    exact refM ht hW hs (by decide) (if_neg (by omega)) (by intro a k h; omega) hK
  · have c2 := i1 c2
    have e : oMeet s x1 = (totc s.1.2.2.2.2.2 x1 s.1.1.toNat, (acqT s.1 x1, s.2)) := if_pos (by omega)
    refine pX12_meets ht hW hs.1 (fun v6 I3 hW3 hF3 hR3 hv => ?_)
    refine hK v6 I3 hW3 (Fr.tr Fr.rf hF3 (by intro a k h; omega)) ?_
    rw [e]
    exact ⟨hv, hR3, by rw [hF3 t 19 (by omega)]; exact hs.2⟩
/-! a year -/
def oneM (v : Int32) : Int32 := if 99 ≤ v.toInt then 99 else v + 1
theorem oneM_r {v : Int32} (h : -1 ≤ v.toInt ∧ v.toInt ≤ 99) : 0 ≤ (oneM v).toInt ∧ (oneM v).toInt ≤ 99 := by
  have q1 : (1 : Int32).toInt = 1 := rfl
  have q99 : (99 : Int32).toInt = 99 := rfl
  have e := i32_add v 1 (by omega) (by omega)
  unfold oneM
  by_cases c : 99 ≤ v.toInt
  · rw [if_pos c]
    omega
  · rw [if_neg c]
    omega
theorem oneM_x {v : Int32} (h : -1 ≤ v.toInt ∧ v.toInt ≤ 99) : (if 99 < (v + 1) then 99 else (v + 1)) = oneM v := by
  have q1 : (1 : Int32).toInt = 1 := rfl
  have q99 : (99 : Int32).toInt = 99 := rfl
  have e := i32_add v 1 (by omega) (by omega)
  unfold oneM
  by_cases c : 99 ≤ v.toInt
  · rw [if_pos c, if_pos (Int32.lt_iff_toInt_lt.mpr (by omega))]
  · rw [if_neg c, if_neg (fun z => by have := Int32.lt_iff_toInt_lt.mp z; omega)]
/-- a year for the pair i, j, and how many have forgotten -/
def agS (s : Sd) (i j : Nat) : Sd := if s.1.2.2.2.2.2 i j = -1 then s else if s.1.2.2.2.2.1 = 0 ∨ (oneM (s.1.2.2.2.2.2 i j)).toInt ≤ s.1.2.2.2.2.1 then (tieT s.1 i j (oneM (s.1.2.2.2.2.2 i j)), s.2) else (tieT s.1 i j (-1), s.2 + 1)
theorem agS_s {s : Sd} {i j : Nat} (h : s.1.2.2.2.2.2 i j = -1) : agS s i j = s := if_pos h
theorem agS_k {s : Sd} {i j : Nat} (h : ¬ s.1.2.2.2.2.2 i j = -1) (h2 : s.1.2.2.2.2.1 = 0 ∨ (oneM (s.1.2.2.2.2.2 i j)).toInt ≤ s.1.2.2.2.2.1) : agS s i j = (tieT s.1 i j (oneM (s.1.2.2.2.2.2 i j)), s.2) := by
  unfold agS
  rw [if_neg h, if_pos h2]
theorem agS_f {s : Sd} {i j : Nat} (h : ¬ s.1.2.2.2.2.2 i j = -1) (h2 : ¬ (s.1.2.2.2.2.1 = 0 ∨ (oneM (s.1.2.2.2.2.2 i j)).toInt ≤ s.1.2.2.2.2.1)) : agS s i j = (tieT s.1 i j (-1), s.2 + 1) := by
  unfold agS
  rw [if_neg h, if_neg h2]
theorem agS_1 (s : Sd) (i j : Nat) : (agS s i j).1.1 = s.1.1 := by
  unfold agS
  split
  · rfl
  · split <;> rfl
theorem agS_ok {s : Sd} {i j : Nat} (h : OKT s.1) : OKT (agS s i j).1 := by
  have r := oneM_r (h.2.2 i j)
  unfold agS
  split
  · exact h
  · split
    · exact OKT_tie h ⟨by omega, r.2⟩
    · exact OKT_tie h (by decide)
def agR : Nat → Nat → Nat → Sd → Sd
  | 0, _, _, s => s
  | f + 1, i, j, s => agR f i (j + 1) (agS s i j)
theorem agR_1 : ∀ (f i j : Nat) (s : Sd), (agR f i j s).1.1 = s.1.1
  | 0, _, _, _ => rfl
  | f + 1, i, j, s => (agR_1 f i (j + 1) (agS s i j)).trans (agS_1 s i j)
theorem agR_ok : ∀ (f i j : Nat) (s : Sd), OKT s.1 → OKT (agR f i j s).1
  | 0, _, _, _, h => h
  | f + 1, i, j, s, h => agR_ok f i (j + 1) (agS s i j) (agS_ok h)
def agO : Nat → Nat → Sd → Sd
  | 0, _, s => s
  | f + 1, i, s => agO f (i + 1) (agR i i 0 s)
theorem agO_ok : ∀ (f i : Nat) (s : Sd), OKT s.1 → OKT (agO f i s).1
  | 0, _, _, h => h
  | f + 1, i, s, h => agO_ok f (i + 1) (agR i i 0 s) (agR_ok i i 0 s h)
/-- a town a year on, and how many have forgotten -/
def ageT (w : Tw) : Sd := agO w.1.toNat 0 (w, 0)
def oYear (s : Sd) : Int × Sd := ((ageT s.1).2.toInt, ((ageT s.1).1, s.2))
theorem oYear_ok {s : Sd} (h : OKT s.1) : OKT (oYear s).2.1 := agO_ok _ _ _ h
theorem RX_fk {I I2 : jdI} {t : Nat} {w : Tw} (h : RX I t w) (f0 : Fr (fun a k => a = t ∧ 6 ≤ k) I I2) : RX I2 t w := by
  obtain ⟨w1, w2, w3, w4, w5⟩ := h
  exact ⟨by rw [f0 t 3 (by omega)]; exact w1, fun i hi => by rw [f0 (t + 1) i (by omega), f0 (t + 2) i (by omega)]; exact w2 i hi, by rw [f0 t 4 (by omega)]; exact w3, by rw [f0 t 5 (by omega)]; exact w4, fun i j hi hj hne => by rw [f0 (t + 3) _ (by omega)]; exact w5 i j hi hj hne⟩
theorem TX_fk {I I2 : jdI} {t : Nat} {s : Sd} (h : TX I t s) (f0 : Fr (fun a k => a = t ∧ 7 ≤ k) I I2) : TX I2 t s := ⟨RX_fk h.1 (fun a k q => f0 a k (by omega)), by rw [f0 t 6 (by omega)]; exact h.2⟩
theorem pX9_age_24 {G : jdG} {n rc rs : Nat} {Z : jdL} {J : jdJ} {K : Int32 → jdI → jdJ → Prop} {I0 : jdI} {t : Nat} {x2 : Int32} {R : Sd} {P : Int} (ht : zTown Z t) (hts : t = 1 ∨ t = 5 ∨ t = 9) (hP : P ≤ 7) (h2 : 0 ≤ x2.toInt ∧ x2.toInt < P) (hO : ∀ I2 : jdI, WX I2 → Fr (fun a k => a = t + 3) I0 I2 → RX I2 t R.1 → Jd G mX9_age (jdFm G (qi Z K)) (n + 1) rc rs 14 [(0, .ref (gb G + t)), (1, .int R.2), (2, .int (x2 + 1))] [] Z I2 J) : ∀ f : Nat, ∀ (I : jdI) (x3 : Int32) (s : Sd), WX I → Fr (fun a k => a = t + 3) I0 I → RX I t s.1 → s.1.1 = P → OKT s.1 → 0 ≤ x3.toInt → x3.toInt + (f : Int) = x2.toInt → agR f x2.toInt.toNat x3.toInt.toNat s = R → Jd G mX9_age (jdFm G (qi Z K)) (n + 1) rc rs 24 [(0, .ref (gb G + t)), (1, .int s.2), (2, .int x2), (3, .int x3)] [] Z I J := by
  intro f
  induction f with
  | zero =>
    intro I x3 s hW hF hw hp hk h3 hf hr
    have hr : s = R := hr
    subst hr
    exact rX9_age_24 ht ⟨fun _ => hO I hW hF hw, fun hc => absurd (Int32.le_iff_toInt_le.mpr (by omega)) hc⟩
  | succ f ih =>
    intro I x3 s hW hF hw hp hk h3 hf hr
    have q1 : (1 : Int32).toInt = 1 := rfl
    have e3 := i32_add x3 1 (by omega) (by omega)
    have en : (x3 + 1).toInt.toNat = x3.toInt.toNat + 1 := by omega
    have hr : agR f x2.toInt.toNat (x3.toInt.toNat + 1) (agS s x2.toInt.toNat x3.toInt.toNat) = R := hr
    rw [← en] at hr
    have kr := hk.2.2 x2.toInt.toNat x3.toInt.toNat
    have hok := agS_ok (i := x2.toInt.toNat) (j := x3.toInt.toNat) hk
    have hs1 := agS_1 s x2.toInt.toNat x3.toInt.toNat
    have m5 : (I t 5).toInt = s.1.2.2.2.2.1 := hw.2.2.2.1
    refine rX9_age_24 ht ⟨fun hc => by have := Int32.le_iff_toInt_le.mp hc; omega, fun _ => ?_⟩
    refine pX9_since ht hts hW hw ⟨h2.1, by omega⟩ ⟨h3, by omega⟩ (by omega) ⟨fun hv => ?_, fun hv => ?_⟩
    · rw [agS_s hv] at hr
      exact ih I (x3 + 1) s hW hF hw hp hk (by omega) (by omega) hr
    · rw [oneM_x kr]
      refine ⟨fun hm => ?_, fun hm => ⟨fun hl => ?_, fun hl => ?_⟩⟩
      · have hm : s.1.2.2.2.2.1 = 0 := by rw [← m5, hm]; rfl
        have e := agS_k hv (Or.inl hm)
        rw [e] at hr hok hs1
        rw [Int32.add_zero]
        exact pX9_tie ht hts hW hw ⟨h2.1, by omega⟩ ⟨h3, by omega⟩ (fun I3 hW3 hF3 hR3 => ih I3 (x3 + 1) (tieT s.1 x2.toInt.toNat x3.toInt.toNat (oneM (s.1.2.2.2.2.2 x2.toInt.toNat x3.toInt.toNat)), s.2) hW3 (Fr.tr hF hF3 (fun _ _ h => h)) hR3 (hs1.trans hp) hok (by omega) (by omega) hr)
      · have hl := Int32.le_iff_toInt_le.mp hl
        have e := agS_k hv (Or.inr (by omega))
        rw [e] at hr hok hs1
        rw [Int32.add_zero]
        exact pX9_tie ht hts hW hw ⟨h2.1, by omega⟩ ⟨h3, by omega⟩ (fun I3 hW3 hF3 hR3 => ih I3 (x3 + 1) (tieT s.1 x2.toInt.toNat x3.toInt.toNat (oneM (s.1.2.2.2.2.2 x2.toInt.toNat x3.toInt.toNat)), s.2) hW3 (Fr.tr hF hF3 (fun _ _ h => h)) hR3 (hs1.trans hp) hok (by omega) (by omega) hr)
      · have hl := mt Int32.le_iff_toInt_le.mpr hl
        have hm := i1 hm
        have e := agS_f hv (by omega)
        rw [e] at hr hok hs1
        exact pX9_tie ht hts hW hw ⟨h2.1, by omega⟩ ⟨h3, by omega⟩ (fun I3 hW3 hF3 hR3 => ih I3 (x3 + 1) _ hW3 (Fr.tr hF hF3 (fun _ _ h => h)) hR3 (hs1.trans hp) hok (by omega) (by omega) hr)
theorem pX9_age_14 {G : jdG} {n rc rs : Nat} {Z : jdL} {J : jdJ} {K : Int32 → jdI → jdJ → Prop} {I0 : jdI} {t : Nat} {R : Sd} {P : Int} (ht : zTown Z t) (hts : t = 1 ∨ t = 5 ∨ t = 9) (hP : 0 ≤ P ∧ P ≤ 7) (hK : ∀ I2 : jdI, WX I2 → Fr (fun a k => a = t + 3) I0 I2 → RX I2 t R.1 → K R.2 I2 J) : ∀ f : Nat, ∀ (I : jdI) (x2 : Int32) (s : Sd), WX I → Fr (fun a k => a = t + 3) I0 I → RX I t s.1 → s.1.1 = P → OKT s.1 → 0 ≤ x2.toInt → x2.toInt + (f : Int) = P → agO f x2.toInt.toNat s = R → Jd G mX9_age (jdFm G (qi Z K)) (n + 1) rc rs 14 [(0, .ref (gb G + t)), (1, .int s.2), (2, .int x2)] [] Z I J := by
  intro f
  induction f with
  | zero =>
    intro I x2 s hW hF hw hp hk h2 hf hr
    have hr : s = R := hr
    subst hr
    have h3 : (I t 3).toInt = s.1.1 := hw.1
    exact rX9_age_14 ht ⟨fun _ => hK I hW hF hw, fun hc => absurd (Int32.le_iff_toInt_le.mpr (by omega)) hc⟩
  | succ f ih =>
    intro I x2 s hW hF hw hp hk h2 hf hr
    have q1 : (1 : Int32).toInt = 1 := rfl
    have e2 := i32_add x2 1 (by omega) (by omega)
    have en : (x2 + 1).toInt.toNat = x2.toInt.toNat + 1 := by omega
    have hr : agO f (x2.toInt.toNat + 1) (agR x2.toInt.toNat x2.toInt.toNat 0 s) = R := hr
    rw [← en] at hr
    have h3 : (I t 3).toInt = s.1.1 := hw.1
    refine rX9_age_14 ht ⟨fun hc => by have := Int32.le_iff_toInt_le.mp hc; omega, fun _ => ?_⟩
    exact pX9_age_24 (R := agR x2.toInt.toNat x2.toInt.toNat 0 s) ht hts hP.2 ⟨h2, by omega⟩ (fun I2 hW2 hF2 hR2 => ih I2 (x2 + 1) _ hW2 hF2 hR2 ((agR_1 _ _ _ s).trans hp) (agR_ok _ _ _ s hk) (by omega) (by omega) hr) x2.toInt.toNat I 0 s hW hF hw hp hk (by decide) (by show (0 : Int) + _ = _; omega) rfl
theorem pX9_age {G : jdG} {n : Nat} {Z : jdL} {J : jdJ} {K : Int32 → jdI → jdJ → Prop} {I : jdI} {t : Nat} {w : Tw} (ht : zTown Z t) (hts : t = 1 ∨ t = 5 ∨ t = 9) (hW : WX I) (hw : RX I t w) (hk : OKT w) (hK : ∀ I2 : jdI, WX I2 → Fr (fun a k => (a = t ∧ k = 9) ∨ a = t + 3) I I2 → RX I2 t (ageT w).1 → K (ageT w).2 I2 J) : Cl G mX9_age (n + 1) 0 0 [.ref (gb G + t)] Z I J (qi Z K) := by
  have hp := WX_town hW hts
  have h1 : (I t 3).toInt = w.1 := hw.1
  refine eX9_age ht ?_
  have f0 : Fr (fun a k => a = t ∧ k = 9) I (uI I t 9 ((I t 9) + 1)) := Fr_uI Fr.rf ⟨rfl, rfl⟩
  have w1 : WX (uI I t 9 ((I t 9) + 1)) := WX_uI hW (by first | exact okXo (by decide) | (unfold okX; refine ⟨?_, ?_, ?_, ?_, ?_, ?_, ?_, ?_, ?_, ?_⟩ <;> intro h <;> omega))
  exact pX9_age_14 (R := ageT w) (P := w.1) ht hts ⟨by omega, by omega⟩ (fun I2 hW2 hF2 hR2 => hK I2 hW2 (Fr.tr (Fr.tr Fr.rf f0 (by intro a k h; omega)) hF2 (by intro a k h; omega)) hR2) w.1.toNat (uI I t 9 ((I t 9) + 1)) 0 (w, 0) w1 Fr.rf (RX_fk hw (fun a k q => f0 a k (by omega))) rfl hk (by decide) (by show (0 : Int) + _ = _; omega) rfl
theorem pX11_year {G : jdG} {n : Nat} {Z : jdL} {J : jdJ} {K : Int32 → jdI → jdJ → Prop} {I : jdI} {s : Sd} (hX : zX Z) (hW : WX I) (hs : TX I 1 s) (hk : OKT s.1) (hK : ∀ (v : Int32) (I2 : jdI), WX I2 → Fr (fun a k => (a = 1 ∧ k = 9) ∨ a = 4) I I2 → (v.toInt = (oYear s).1 ∧ TX I2 1 (oYear s).2) → K v I2 J) : Cl G mX11_year (n + 2) 0 0 [.ref (gb G + 0)] Z I J (qi Z K) :=
  eX11_year hX (pX9_age (zX_o0 hX) (Or.inl rfl) hW hs.1 hk (fun I2 hW2 hF2 hR2 => hK _ I2 hW2 (Fr.tr Fr.rf hF2 (by intro a k h; omega)) ⟨rfl, hR2, by rw [hF2 1 6 (by omega)]; exact hs.2⟩))
theorem pX12_year_14 {G : jdG} {n rc rs : Nat} {Z : jdL} {J : jdJ} {K : Int32 → jdI → jdJ → Prop} {I0 : jdI} {t : Nat} {x2 : Int32} {R : Sd} {P : Int} (ht : zModel Z t) (hP : P ≤ 7) (h2 : 0 ≤ x2.toInt ∧ x2.toInt < P) (hO : ∀ I2 : jdI, WM 7 t I2 → Fr (fun a k => t + 21 ≤ a ∧ a ≤ t + 28) I0 I2 → RM I2 t R.1 → Jd G mX12_year (jdFm G (qi Z K)) (n + 1) rc rs 4 [(0, .ref (gb G + t)), (1, .int R.2), (2, .int (x2 + 1))] [] Z I2 J) : ∀ f : Nat, ∀ (I : jdI) (x3 : Int32) (s : Sd), WM 7 t I → Fr (fun a k => t + 21 ≤ a ∧ a ≤ t + 28) I0 I → RM I t s.1 → s.1.1 = P → OKT s.1 → 0 ≤ x3.toInt → x3.toInt + (f : Int) = x2.toInt → agR f x2.toInt.toNat x3.toInt.toNat s = R → Jd G mX12_year (jdFm G (qi Z K)) (n + 1) rc rs 14 [(0, .ref (gb G + t)), (1, .int s.2), (2, .int x2), (3, .int x3)] [] Z I J := by
  intro f
  induction f with
  | zero =>
    intro I x3 s hW hF hw hp hk h3 hf hr
    have hr : s = R := hr
    subst hr
    exact rX12_year_14 ht ⟨fun _ => hO I hW hF hw, fun hc => absurd (Int32.le_iff_toInt_le.mpr (by omega)) hc⟩
  | succ f ih =>
    intro I x3 s hW hF hw hp hk h3 hf hr
    have q1 : (1 : Int32).toInt = 1 := rfl
    have q99 : (99 : Int32).toInt = 99 := rfl
    have e3 := i32_add x3 1 (by omega) (by omega)
    have en : (x3 + 1).toInt.toNat = x3.toInt.toNat + 1 := by omega
    have hr : agR f x2.toInt.toNat (x3.toInt.toNat + 1) (agS s x2.toInt.toNat x3.toInt.toNat) = R := hr
    rw [← en] at hr
    have kr := hk.2.2 x2.toInt.toNat x3.toInt.toNat
    have hok := agS_ok (i := x2.toInt.toNat) (j := x3.toInt.toNat) hk
    have hs1 := agS_1 s x2.toInt.toNat x3.toInt.toNat
    have m5 : (I t 15).toInt = s.1.2.2.2.2.1 := hw.2.2.2.1
    have cur : I (t + 21 + Int32.toNatClampNeg x2) (Int32.toNatClampNeg x3) = s.1.2.2.2.2.2 x2.toInt.toNat x3.toInt.toNat := hw.2.2.2.2 x2.toInt.toNat x3.toInt.toNat (by omega) (by omega) (by omega)
    have n2 := tn_eq x2
    have n3 := tn_eq x3
    refine rX12_year_14 ht ⟨fun hc => by have := Int32.le_iff_toInt_le.mp hc; omega, fun _ => ⟨vp_of (by omega) (by omega), vp_of (by omega) (by omega), ?_⟩⟩
    rw [cur]
    refine ⟨fun hv => ?_, fun hv => ⟨fun h99 => ?_, fun h99 => ?_⟩⟩
    · rw [agS_s hv] at hr
      exact ih I (x3 + 1) s hW hF hw hp hk (by omega) (by omega) hr
    · have h99 := Int32.le_iff_toInt_le.mp h99
      have eo : oneM (s.1.2.2.2.2.2 x2.toInt.toNat x3.toInt.toNat) = 99 := if_pos (by omega)
      refine ⟨fun hm => ?_, fun hm => ⟨fun hl => ?_, fun hl => ?_⟩⟩
      · have hm : s.1.2.2.2.2.1 = 0 := by rw [← m5, hm]; rfl
        have e := agS_k hv (Or.inl hm)
        rw [eo] at e
        rw [e] at hr hok hs1
        rw [Int32.add_zero]
        exact pX12_knows ht hW hw ⟨h2.1, by omega⟩ ⟨h3, by omega⟩ (fun I3 hW3 hF3 hR3 => ih I3 (x3 + 1) (tieT s.1 x2.toInt.toNat x3.toInt.toNat 99, s.2) hW3 (Fr.tr hF hF3 (fun _ _ h => h)) hR3 (hs1.trans hp) hok (by omega) (by omega) hr)
      · have hl := Int32.le_iff_toInt_le.mp hl
        have e := agS_k hv (Or.inr (by rw [eo]; omega))
        rw [eo] at e
        rw [e] at hr hok hs1
        rw [Int32.add_zero]
        exact pX12_knows ht hW hw ⟨h2.1, by omega⟩ ⟨h3, by omega⟩ (fun I3 hW3 hF3 hR3 => ih I3 (x3 + 1) (tieT s.1 x2.toInt.toNat x3.toInt.toNat 99, s.2) hW3 (Fr.tr hF hF3 (fun _ _ h => h)) hR3 (hs1.trans hp) hok (by omega) (by omega) hr)
      · have hl := mt Int32.le_iff_toInt_le.mpr hl
        have hm := i1 hm
        have e := agS_f hv (by rw [eo]; omega)
        rw [e] at hr hok hs1
        exact pX12_knows ht hW hw ⟨h2.1, by omega⟩ ⟨h3, by omega⟩ (fun I3 hW3 hF3 hR3 => ih I3 (x3 + 1) _ hW3 (Fr.tr hF hF3 (fun _ _ h => h)) hR3 (hs1.trans hp) hok (by omega) (by omega) hr)
    · have h99 := mt Int32.le_iff_toInt_le.mpr h99
      have eo : oneM (s.1.2.2.2.2.2 x2.toInt.toNat x3.toInt.toNat) = s.1.2.2.2.2.2 x2.toInt.toNat x3.toInt.toNat + 1 := if_neg (by omega)
      refine ⟨fun hm => ?_, fun hm => ⟨fun hl => ?_, fun hl => ?_⟩⟩
      · have hm : s.1.2.2.2.2.1 = 0 := by rw [← m5, hm]; rfl
        have e := agS_k hv (Or.inl hm)
        rw [eo] at e
        rw [e] at hr hok hs1
        rw [Int32.add_zero]
        exact pX12_knows ht hW hw ⟨h2.1, by omega⟩ ⟨h3, by omega⟩ (fun I3 hW3 hF3 hR3 => ih I3 (x3 + 1) (tieT s.1 x2.toInt.toNat x3.toInt.toNat (s.1.2.2.2.2.2 x2.toInt.toNat x3.toInt.toNat + 1), s.2) hW3 (Fr.tr hF hF3 (fun _ _ h => h)) hR3 (hs1.trans hp) hok (by omega) (by omega) hr)
      · have hl := Int32.le_iff_toInt_le.mp hl
        have e := agS_k hv (Or.inr (by rw [eo]; omega))
        rw [eo] at e
        rw [e] at hr hok hs1
        rw [Int32.add_zero]
        exact pX12_knows ht hW hw ⟨h2.1, by omega⟩ ⟨h3, by omega⟩ (fun I3 hW3 hF3 hR3 => ih I3 (x3 + 1) (tieT s.1 x2.toInt.toNat x3.toInt.toNat (s.1.2.2.2.2.2 x2.toInt.toNat x3.toInt.toNat + 1), s.2) hW3 (Fr.tr hF hF3 (fun _ _ h => h)) hR3 (hs1.trans hp) hok (by omega) (by omega) hr)
      · have hl := mt Int32.le_iff_toInt_le.mpr hl
        have hm := i1 hm
        have e := agS_f hv (by rw [eo]; omega)
        rw [e] at hr hok hs1
        exact pX12_knows ht hW hw ⟨h2.1, by omega⟩ ⟨h3, by omega⟩ (fun I3 hW3 hF3 hR3 => ih I3 (x3 + 1) _ hW3 (Fr.tr hF hF3 (fun _ _ h => h)) hR3 (hs1.trans hp) hok (by omega) (by omega) hr)
theorem pX12_year_4 {G : jdG} {n rc rs : Nat} {Z : jdL} {J : jdJ} {K : Int32 → jdI → jdJ → Prop} {I0 : jdI} {t : Nat} {R : Sd} {P : Int} (ht : zModel Z t) (hP : 0 ≤ P ∧ P ≤ 7) (hK : ∀ I2 : jdI, WM 7 t I2 → Fr (fun a k => (a = t ∧ k = 18) ∨ (t + 21 ≤ a ∧ a ≤ t + 28)) I0 I2 → RM I2 t R.1 → K R.2 I2 J) : ∀ f : Nat, ∀ (I : jdI) (x2 : Int32) (s : Sd), WM 7 t I → Fr (fun a k => t + 21 ≤ a ∧ a ≤ t + 28) I0 I → RM I t s.1 → s.1.1 = P → OKT s.1 → 0 ≤ x2.toInt → x2.toInt + (f : Int) = P → agO f x2.toInt.toNat s = R → Jd G mX12_year (jdFm G (qi Z K)) (n + 1) rc rs 4 [(0, .ref (gb G + t)), (1, .int s.2), (2, .int x2)] [] Z I J := by
  intro f
  induction f with
  | zero =>
    intro I x2 s hW hF hw hp hk h2 hf hr
    have hr : s = R := hr
    subst hr
    have h3 : (I t 10).toInt = s.1.1 := hw.1
    have hwm := WM_f hW
    have f0 : Fr (fun a k => a = t ∧ k = 18) I (uI I t 18 ((I t 18) + 1)) := Fr_uI Fr.rf ⟨rfl, rfl⟩
    exact rX12_year_4 ht ⟨fun _ => hK _ (WM_uI hW (by first | exact okMo (by decide) (by decide) (by decide) (by decide) (by decide) | exact okMf (by decide) (by decide) (by decide) (by decide) (by decide) (by decide) (by decide) (by decide) | exact okM30 (by omega) | exact okM42 (by omega) | exact okM33 (by omega) | exact okM10 (by omega) | exact okM8 (by omega) | exact okM22 (by omega) | exact okM24 (by omega) | exact okM14 (by omega) | exact okMa31 (by omega) | exact okMa35 (by omega) | exact okMa36 (by omega) | exact okMa3 (by omega) | exact okMr (by omega) | (unfold okM; refine ⟨?_, ?_, ?_, ?_, ?_, ?_, ?_, ?_, ?_, ?_, ?_, ?_⟩ <;> intro h <;> omega))) (Fr.tr (Fr.tr Fr.rf hF (by intro a k h; omega)) f0 (by intro a k h; omega)) (RM_fr hw (by omega) f0 (by omega) (by omega) (by omega) (by intro a k h1 h2 h3; omega)), fun hc => absurd (Int32.le_iff_toInt_le.mpr (by omega)) hc⟩
  | succ f ih =>
    intro I x2 s hW hF hw hp hk h2 hf hr
    have q1 : (1 : Int32).toInt = 1 := rfl
    have e2 := i32_add x2 1 (by omega) (by omega)
    have en : (x2 + 1).toInt.toNat = x2.toInt.toNat + 1 := by omega
    have hr : agO f (x2.toInt.toNat + 1) (agR x2.toInt.toNat x2.toInt.toNat 0 s) = R := hr
    rw [← en] at hr
    have h3 : (I t 10).toInt = s.1.1 := hw.1
    refine rX12_year_4 ht ⟨fun hc => by have := Int32.le_iff_toInt_le.mp hc; omega, fun _ => ?_⟩
    exact pX12_year_14 (R := agR x2.toInt.toNat x2.toInt.toNat 0 s) ht hP.2 ⟨h2, by omega⟩ (fun I2 hW2 hF2 hR2 => ih I2 (x2 + 1) _ hW2 hF2 hR2 ((agR_1 _ _ _ s).trans hp) (agR_ok _ _ _ s hk) (by omega) (by omega) hr) x2.toInt.toNat I 0 s hW hF hw hp hk (by decide) (by show (0 : Int) + _ = _; omega) rfl
theorem pX12_year {G : jdG} {n : Nat} {Z : jdL} {J : jdJ} {K : Int32 → jdI → jdJ → Prop} {I : jdI} {t : Nat} {s : Sd} (ht : zModel Z t) (hW : WM 7 t I) (hs : TM I t s) (hk : OKT s.1) (hK : ∀ (v : Int32) (I2 : jdI), WM 7 t I2 → Fr (fun a k => (a = t ∧ k = 18) ∨ (t + 21 ≤ a ∧ a ≤ t + 28)) I I2 → (v.toInt = (oYear s).1 ∧ TM I2 t (oYear s).2) → K v I2 J) : Cl G mX12_year (n + 1) 0 0 [.ref (gb G + t)] Z I J (qi Z K) := by
  have hwm := WM_f hW
  have h1 : (I t 10).toInt = s.1.1 := hs.1.1
  refine eX12_year ht ?_
  exact pX12_year_4 (R := ageT s.1) (P := s.1.1) ht ⟨by omega, by omega⟩ (fun I2 hW2 hF2 hR2 => hK _ I2 hW2 hF2 ⟨rfl, hR2, by rw [hF2 t 19 (by omega)]; exact hs.2⟩) s.1.1.toNat I 0 (s.1, 0) hW Fr.rf hs.1 rfl hk (by decide) (by show (0 : Int) + _ = _; omega) rfl
