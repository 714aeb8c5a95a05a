/-! towns that may be; know, meet, year -/
def KK (k : Nat → Nat → Int32) : Prop := (∀ i j, k i j = k j i) ∧ ∀ i j, -1 ≤ (k i j).toInt ∧ (k i j).toInt ≤ 99
def HC (w : Tw) : Prop := ∀ p : Nat, (p : Int) < w.1 → (0 ≤ (w.2.1 p).toInt ∧ (w.2.1 p).toInt < 24) ∧ 0 ≤ (w.2.2.1 p).toInt ∧ (w.2.2.1 p).toInt ≤ 9
/-- hours, costs and years are such as may be, and who knows whom goes both ways -/
def OKT (w : Tw) : Prop := HC w ∧ KK w.2.2.2.2.2
theorem OKT_sy {w : Tw} (h : OKT w) : SYM w := h.2.1
theorem OKT_tie {w : Tw} {a b : Nat} {v : Int32} (h : OKT w) (hv : -1 ≤ v.toInt ∧ v.toInt ≤ 99) : OKT (tieT w a b v) := by
  refine ⟨h.1, fun i j => ?_, fun i j => ?_⟩
  · show (if (i = a ∧ j = b) ∨ (i = b ∧ j = a) then v else w.2.2.2.2.2 i j) = (if (j = a ∧ i = b) ∨ (j = b ∧ i = a) then v else w.2.2.2.2.2 j i)
    by_cases c : (i = a ∧ j = b) ∨ (i = b ∧ j = a)
    · rw [if_pos c, if_pos (by omega)]
    · rw [if_neg c, if_neg (by omega)]
      exact h.2.1 i j
  · show -1 ≤ (if (i = a ∧ j = b) ∨ (i = b ∧ j = a) then v else w.2.2.2.2.2 i j).toInt ∧ (if (i = a ∧ j = b) ∨ (i = b ∧ j = a) then v else w.2.2.2.2.2 i j).toInt ≤ 99
    by_cases c : (i = a ∧ j = b) ∨ (i = b ∧ j = a)
    · rw [if_pos c]
      exact hv
    · rw [if_neg c]
      exact h.2.2 i j
theorem OKT_acq {w : Tw} {s : Int32} (h : OKT w) : OKT (acqT w s) := by
  refine ⟨h.1, fun i j => ?_, fun i j => ?_⟩
  · show (if bt s i = true ∧ bt s j = true then 0 else w.2.2.2.2.2 i j) = (if bt s j = true ∧ bt s i = true then 0 else w.2.2.2.2.2 j i)
    by_cases c : bt s i = true ∧ bt s j = true
    · rw [if_pos c, if_pos ⟨c.2, c.1⟩]
    · rw [if_neg c, if_neg (fun z => c ⟨z.2, z.1⟩)]
      exact h.2.1 i j
  · show -1 ≤ (if bt s i = true ∧ bt s j = true then 0 else w.2.2.2.2.2 i j).toInt ∧ (if bt s i = true ∧ bt s j = true then 0 else w.2.2.2.2.2 i j).toInt ≤ 99
    by_cases c : bt s i = true ∧ bt s j = true
    · rw [if_pos c]
      decide
    · rw [if_neg c]
      exact h.2.2 i j
theorem OKT_add {w : Tw} {x y : Int32} (h : OKT w) (hx : 0 ≤ x.toInt ∧ x.toInt < 24) (hy : 0 ≤ y.toInt ∧ y.toInt ≤ 9) : OKT (addT w x y) := by
  refine ⟨fun p hp => ?_, fun i j => ?_, fun i j => ?_⟩
  · have hp : (p : Int) < w.1 + 1 := hp
    show (0 ≤ (if (p : Int) = w.1 then x else w.2.1 p).toInt ∧ (if (p : Int) = w.1 then x else w.2.1 p).toInt < 24) ∧ 0 ≤ (if (p : Int) = w.1 then y else w.2.2.1 p).toInt ∧ (if (p : Int) = w.1 then y else w.2.2.1 p).toInt ≤ 9
    by_cases c : (p : Int) = w.1
    · rw [if_pos c, if_pos c]
      exact ⟨hx, hy⟩
    · rw [if_neg c, if_neg c]
      exact h.1 p (by omega)
  · show (if (i : Int) = w.1 ∨ (j : Int) = w.1 then -1 else w.2.2.2.2.2 i j) = (if (j : Int) = w.1 ∨ (i : Int) = w.1 then -1 else w.2.2.2.2.2 j i)
    by_cases c : (i : Int) = w.1 ∨ (j : Int) = w.1
    · rw [if_pos c, if_pos (by omega)]
    · rw [if_neg c, if_neg (by omega)]
      exact h.2.1 i j
  · show -1 ≤ (if (i : Int) = w.1 ∨ (j : Int) = w.1 then -1 else w.2.2.2.2.2 i j).toInt ∧ (if (i : Int) = w.1 ∨ (j : Int) = w.1 then -1 else w.2.2.2.2.2 i j).toInt ≤ 99
    by_cases c : (i : Int) = w.1 ∨ (j : Int) = w.1
    · rw [if_pos c]
      decide
    · rw [if_neg c]
      exact h.2.2 i j
theorem OKT_hour {w : Tw} {i : Nat} {v : Int32} (h : OKT w) (hv : 0 ≤ v.toInt ∧ v.toInt < 24) : OKT (hourT w i v) := by
  refine ⟨fun p hp => ⟨?_, (h.1 p hp).2⟩, h.2⟩
  show 0 ≤ (if p = i then v else w.2.1 p).toInt ∧ (if p = i then v else w.2.1 p).toInt < 24
  by_cases c : p = i
  · rw [if_pos c]
    exact hv
  · rw [if_neg c]
    exact (h.1 p hp).1
theorem OKT_cost {w : Tw} {i : Nat} {v : Int32} (h : OKT w) (hv : 0 ≤ v.toInt ∧ v.toInt ≤ 9) : OKT (costT w i v) := by
  refine ⟨fun p hp => ⟨(h.1 p hp).1, ?_⟩, h.2⟩
  show 0 ≤ (if p = i then v else w.2.2.1 p).toInt ∧ (if p = i then v else w.2.2.1 p).toInt ≤ 9
  by_cases c : p = i
  · rw [if_pos c]
    exact hv
  · rw [if_neg c]
    exact (h.1 p hp).2
theorem vd_q (x : Int32) : 0 ≤ ((Int32.toUInt32 x >>> (Int32.toUInt32 16 &&& Int32.toUInt32 31)).toInt32).toInt ∧ ((Int32.toUInt32 x >>> (Int32.toUInt32 16 &&& Int32.toUInt32 31)).toInt32).toInt ≤ 65535 := by
  have e := UInt32.toNat_shiftRight (Int32.toUInt32 x) (Int32.toUInt32 16 &&& Int32.toUInt32 31)
  have e2 : (Int32.toUInt32 16 &&& Int32.toUInt32 31).toNat % 32 = 16 := by decide
  have l := (Int32.toUInt32 x).toNat_lt
  rw [e2, Nat.shiftRight_eq_div_pow] at e
  generalize Int32.toUInt32 x >>> (Int32.toUInt32 16 &&& Int32.toUInt32 31) = u at e ⊢
  have b : u.toInt32.toBitVec.toNat = u.toNat := rfl
  have h2 : u.toInt32.toInt = u.toInt32.toBitVec.toInt := rfl
  have h3 : u.toNat < 65536 := by
    rw [e]
    omega
  rw [h2, BitVec.toInt_eq_toNat_cond, b, if_pos (by omega)]
  omega
theorem vd_24 (x : Int32) : 0 ≤ (vd x 24).toInt ∧ (vd x 24).toInt < 24 := by
  have r := vd_q x
  unfold vd
  generalize (Int32.toUInt32 x >>> (Int32.toUInt32 16 &&& Int32.toUInt32 31)).toInt32 = q at r ⊢
  have q24 : (24 : Int32).toInt = 24 := rfl
  have d : (q / 24).toInt = q.toInt / 24 := by
    rw [Int32.toInt_div_of_ne_right q 24 (by decide), q24]
    exact Int.tdiv_eq_ediv_of_nonneg r.1
  have m := i32_mulc (q / 24) 24 24 rfl (by omega) (by omega)
  have s := i32_sub q (q / 24 * 24) (by omega) (by omega)
  omega
theorem vd_10 (x : Int32) : 0 ≤ (vd x 10).toInt ∧ (vd x 10).toInt ≤ 9 := by
  have r := vd_q x
  unfold vd
  generalize (Int32.toUInt32 x >>> (Int32.toUInt32 16 &&& Int32.toUInt32 31)).toInt32 = q at r ⊢
  have q10 : (10 : Int32).toInt = 10 := rfl
  have d : (q / 10).toInt = q.toInt / 10 := by
    rw [Int32.toInt_div_of_ne_right q 10 (by decide), q10]
    exact Int.tdiv_eq_ediv_of_nonneg r.1
  have m := i32_mulc (q / 10) 10 10 rfl (by omega) (by omega)
  have s := i32_sub q (q / 10 * 10) (by omega) (by omega)
  omega
theorem OKT_drG (g : Int32 → Int32) (b : Int32 → Bool) : ∀ (f j : Nat) (s : Sd), OKT s.1 → OKT (drG g b f j s).1
  | 0, _, s, h => h
  | f + 1, j, s, h => by
    by_cases c : b (g s.2) = true
    · rw [drG_y c]
      exact OKT_drG g b f (j + 1) _ (OKT_tie h (by decide))
    · rw [drG_n c]
      exact OKT_drG g b f (j + 1) _ h
theorem OKT_addD {s : Sd} (h : OKT s.1) : OKT (addD s).1 := OKT_drG nx bz _ _ _ (OKT_add h (vd_24 _) (vd_10 _))
theorem OKT_comeN : ∀ (f : Nat) (s : Sd), OKT s.1 → OKT (comeN f s).1
  | 0, _, h => h
  | f + 1, s, h => OKT_comeN f (addD s) (OKT_addD h)
theorem oPerson_ok {s : Sd} {x1 x2 : Int32} (h : OKT s.1) : OKT (oPerson s x1 x2).2.1 := by
  unfold oPerson
  by_cases c : (0 ≤ x1.toInt ∧ x1.toInt < 24) ∧ 0 ≤ x2.toInt ∧ x2.toInt < 10
  · by_cases d : s.1.1 < 7
    · rw [if_pos c, if_pos d]
      exact OKT_add h c.1 ⟨c.2.1, by omega⟩
    · rw [if_pos c, if_neg d]
      exact h
  · rw [if_neg c]
    exact h
theorem oChange_ok {s : Sd} {x1 x2 x3 : Int32} (h : OKT s.1) : OKT (oChange s x1 x2 x3).2.1 := by
  unfold oChange
  by_cases c : (0 ≤ x1.toInt ∧ x1.toInt < s.1.1) ∧ ((x2.toInt = 0 ∧ 0 ≤ x3.toInt ∧ x3.toInt < 24) ∨ (x2.toInt = 1 ∧ 0 ≤ x3.toInt ∧ x3.toInt < 10))
  · by_cases d : x2.toInt = 0
    · rw [if_pos c, if_pos d]
      exact OKT_hour h (by omega)
    · rw [if_pos c, if_neg d]
      exact OKT_cost h (by omega)
  · rw [if_neg c]
    exact h
theorem oAsk_ok {s : Sd} {x1 x2 : Int32} (h : OKT s.1) : OKT (oAsk s x1 x2).2.1 := by
  unfold oAsk
  split
  · exact h
  · split
    · exact h
    · exact h
theorem oSeed_ok {s : Sd} {x1 : Int32} (h : OKT s.1) : OKT (oSeed s x1).2.1 := h
theorem oCome_ok {s : Sd} {x1 : Int32} (h : OKT s.1) : OKT (oCome s x1).2.1 := by
  unfold oCome
  split
  · split
    · exact OKT_comeN _ _ h
    · exact OKT_comeN _ _ h
  · exact h
theorem nm_rg {T : Nat → Int32} {n lo hi : Int} {q : Q3} {ok : Int → Bool} {a : Int × Q3} (e : nm T n q lo hi ok = .inr a) : lo ≤ a.1 ∧ a.1 ≤ hi := by
  unfold nm at e
  by_cases c : q.1 = 2 ∧ lo ≤ vl T q.2.1 q.2.2 ∧ vl T q.2.1 q.2.2 ≤ hi ∧ ok (vl T q.2.1 q.2.2) = true
  · rw [if_pos c] at e
    injection e with e
    rw [← e]
    exact ⟨c.2.1, c.2.2.1⟩
  · rw [if_neg c] at e
    cases e
theorem ofI_r {v lo hi : Int} (h : lo ≤ v ∧ v ≤ hi) (h1 : -1000 ≤ lo) (h2 : hi ≤ 1000) : lo ≤ (Int32.ofInt v).toInt ∧ (Int32.ofInt v).toInt ≤ hi := by
  rw [Int32.toInt_ofInt_of_le (by omega) (by omega)]
  exact h
/-- what is read into a town that may be is one -/
def OKR (r : Sum Int (Tw × Q3)) : Prop := ∀ w q, r = .inr (w, q) → OKT w
theorem OKR_l {p : Int} : OKR (.inl p) := fun w q e => by cases e
theorem OKR_r {w : Tw} {q : Q3} (h : OKT w) : OKR (.inr (w, q)) := fun w2 q2 e => by
  injection e with e
  injection e with e1 e2
  rw [← e1]
  exact h
theorem stPerson_ok {T : Nat → Int32} {n : Int} {w : Tw} {q : Q3} (h : OKT w) : OKR (stPerson T n w q) := by
  unfold stPerson
  by_cases c : 7 ≤ w.1
  · rw [if_pos c]
    exact OKR_l
  · rw [if_neg c]
    cases ha : nm T n (adv T n q.2.2) 0 23 (fun _ => true) with
    | inl p => exact OKR_l
    | inr a =>
      dsimp only
      cases hb : nm T n a.2 0 9 (fun _ => true) with
      | inl p => exact OKR_l
      | inr b =>
        have r1 := ofI_r (nm_rg ha) (by omega) (by omega)
        exact OKR_r (OKT_add h ⟨r1.1, by omega⟩ (ofI_r (nm_rg hb) (by omega) (by omega)))
theorem stPair_ok {T : Nat → Int32} {n : Int} {w : Tw} {q : Q3} {kn : Bool} (h : OKT w) : OKR (stPair T n w q kn) := by
  unfold stPair
  cases ha : nm T n (adv T n q.2.2) 0 (w.1 - 1) (fun _ => true) with
  | inl p => exact OKR_l
  | inr a =>
    dsimp only
    cases hb : nm T n a.2 0 (w.1 - 1) (fun x => decide (¬ x = a.1)) with
    | inl p => exact OKR_l
    | inr b =>
      dsimp only
      by_cases c : kn = true ∧ WD T b.2.1 b.2.2.1 b.2.2.2 2
      · rw [if_pos c]
        unfold stSince
        cases hd : nm T n (adv T n b.2.2.2) 0 99 (fun _ => true) with
        | inl p => exact OKR_l
        | inr d =>
          have r1 := ofI_r (nm_rg hd) (by omega) (by omega)
          exact OKR_r (OKT_tie h ⟨by omega, r1.2⟩)
      · rw [if_neg c]
        refine OKR_r (OKT_tie h ?_)
        cases kn <;> decide
theorem stSeats_ok {T : Nat → Int32} {n : Int} {w : Tw} {q : Q3} (h : OKT w) : OKR (stSeats T n w q) := by
  unfold stSeats
  cases nm T n (adv T n q.2.2) 2 4 (fun _ => true) with
  | inl p => exact OKR_l
  | inr a => exact OKR_r h
theorem stMemory_ok {T : Nat → Int32} {n : Int} {w : Tw} {q : Q3} (h : OKT w) : OKR (stMemory T n w q) := by
  unfold stMemory
  cases nm T n (adv T n q.2.2) 0 99 (fun _ => true) with
  | inl p => exact OKR_l
  | inr a => exact OKR_r h
theorem stMet_ok {T : Nat → Int32} {n : Int} {w : Tw} {q : Q3} (h : OKT w) : OKR (stMet T n w q) := by
  unfold stMet
  cases nm T n (adv T n q.2.2) 0 (w.1 - 1) (fun _ => true) with
  | inl p => exact OKR_l
  | inr a =>
    dsimp only
    cases metR T n w.1 7 ((1 : Int32) <<< (Int32.ofInt a.1 &&& 31)) a.2 with
    | inl p => exact OKR_l
    | inr b => exact OKR_r (OKT_acq h)
theorem st_ok {T : Nat → Int32} {n : Int} {w : Tw} {q : Q3} (h : OKT w) : OKR (st T n w q) := by
  unfold st
  by_cases c0 : WD T q.1 q.2.1 q.2.2 0
  · rw [if_pos c0]
    exact stPerson_ok h
  · rw [if_neg c0]
    by_cases c1 : WD T q.1 q.2.1 q.2.2 1
    · rw [if_pos c1]
      exact stPair_ok h
    · rw [if_neg c1]
      by_cases c3 : WD T q.1 q.2.1 q.2.2 3
      · rw [if_pos c3]
        exact stPair_ok h
      · rw [if_neg c3]
        by_cases c4 : WD T q.1 q.2.1 q.2.2 4
        · rw [if_pos c4]
          exact stSeats_ok h
        · rw [if_neg c4]
          by_cases c5 : WD T q.1 q.2.1 q.2.2 5
          · rw [if_pos c5]
            exact stMemory_ok h
          · rw [if_neg c5]
            by_cases c6 : WD T q.1 q.2.1 q.2.2 6
            · rw [if_pos c6]
              exact stMet_ok h
            · rw [if_neg c6]
              exact OKR_l
theorem rd_ok (T : Nat → Int32) (n : Int) : ∀ (f : Nat) (w : Tw) (q : Q3) (c : Int) (w2 : Tw) (c2 : Int), OKT w → rd T n f w q c = .inr (w2, c2) → OKT w2
  | 0, w, q, c, w2, c2, h, e => by
    have e : (Sum.inl _ : Rd) = .inr (w2, c2) := e
    cases e
  | f + 1, w, q, c, w2, c2, h, e => by
    cases hs : st T n w q with
    | inl p =>
      rw [rd_e hs] at e
      cases e
    | inr a =>
      have hw : OKT a.1 := st_ok h a.1 a.2 hs
      rw [rd_y (w2 := a.1) (q2 := a.2) hs] at e
      by_cases c0 : a.2.1 = 0
      · rw [rdB_0 c0] at e
        injection e with e
        injection e with e1 e2
        rw [← e1]
        exact hw
      · by_cases c3 : a.2.1 = 3
        · rw [rdB_3 c3] at e
          exact rd_ok T n f a.1 _ _ w2 c2 hw e
        · rw [rdB_x c0 c3] at e
          cases e
/-! refusals -/
theorem refX {G : jdG} {n : Nat} {Z : jdL} {J : jdJ} {K : Int32 → jdI → jdJ → Prop} {I : jdI} {s : Sd} {num : Int32} {P : Nat → Nat → Prop} {o : Int × Sd} (hX : zX Z) (hW : WX I) (hs : TX I 1 s) (e : o = (num.toInt, s)) (hp : ∀ a k, a = 28 → P a k) (hK : ∀ (v : Int32) (I2 : jdI), WX I2 → Fr P I I2 → (v.toInt = o.1 ∧ TX I2 1 o.2) → K v I2 J) : Cl G mX11_refuse n 0 0 [.ref (gb G + 0), .int num] Z I J (qi Z K) :=
  sfX11_refuse hX hW (fun v4 I3 hW3 hF3 hp3 => hK v4 I3 hW3 (Fr.tr Fr.rf hF3 (fun a k h => hp a k h)) (by rw [e, hp3]; exact ⟨rfl, TX_fr hs hF3 (by intro a k h1 h2; omega)⟩))
theorem refM {G : jdG} {n : Nat} {Z : jdL} {J : jdJ} {K : Int32 → jdI → jdJ → Prop} {I : jdI} {t : Nat} {s : Sd} {num : Int32} {P : Nat → Nat → Prop} {o : Int × Sd} (ht : zModel Z t) (hW : WM 7 t I) (hs : TM I t s) (hn : -7 ≤ num.toInt ∧ num.toInt ≤ 0) (e : o = (num.toInt, s)) (hp : ∀ a k, a = t + 17 → P a k) (hK : ∀ (v : Int32) (I2 : jdI), WM 7 t I2 → Fr P I I2 → (v.toInt = o.1 ∧ TM I2 t o.2) → K v I2 J) : Cl G mX12_refuse n 0 0 [.ref (gb G + t), .int num] Z I J (qi Z K) := by
  have h1 := hs.1.1
  have hw := WM_f hW
  exact sfX12_refuse ht (by decide) hW hn (fun v4 I3 hW3 hF3 hp3 => hK v4 I3 hW3 (Fr.tr Fr.rf hF3 (fun a k h => hp a k h)) (by rw [e]; exact ⟨hp3, TM_fr hs (show s.1.1 ≤ 8 by omega) hF3 (by omega) (by omega) (by omega) (by omega) (by intro a k h1 h2 h3; omega)⟩))
/-! know -/
def oKnow (s : Sd) (x1 x2 x3 : Int32) : Int × Sd := if ((0 ≤ x1.toInt ∧ x1.toInt < s.1.1) ∧ (0 ≤ x2.toInt ∧ x2.toInt < s.1.1) ∧ ¬ x1.toInt = x2.toInt) ∧ -1 ≤ x3.toInt ∧ x3.toInt ≤ 99 then ((s.1.2.2.2.2.2 x1.toInt.toNat x2.toInt.toNat).toInt, (tieT s.1 x1.toInt.toNat x2.toInt.toNat x3, s.2)) else (-2, s)
theorem oKnow_ok {s : Sd} {x1 x2 x3 : Int32} (h : OKT s.1) : OKT (oKnow s x1 x2 x3).2.1 := by
  unfold oKnow
  by_cases c : ((0 ≤ x1.toInt ∧ x1.toInt < s.1.1) ∧ (0 ≤ x2.toInt ∧ x2.toInt < s.1.1) ∧ ¬ x1.toInt = x2.toInt) ∧ -1 ≤ x3.toInt ∧ x3.toInt ≤ 99
  · rw [if_pos c]
    exact OKT_tie h c.2
  · rw [if_neg c]
    exact h
theorem pX9_since {G : jdG} {n : Nat} {Z : jdL} {J : jdJ} {K : Int32 → jdI → jdJ → Prop} {I : jdI} {t : Nat} {w : Tw} {x1 x2 : Int32} (ht : zTown Z t) (hts : t = 1 ∨ t = 5 ∨ t = 9) (hW : WX I) (hw : RX I t w) (h1 : 0 ≤ x1.toInt ∧ x1.toInt < w.1) (h2 : 0 ≤ x2.toInt ∧ x2.toInt < w.1) (hne : ¬ x1.toInt = x2.toInt) (hK : K (w.2.2.2.2.2 x1.toInt.toNat x2.toInt.toNat) I J) : Cl G mX9_since n 0 0 [.ref (gb G + t), .int x1, .int x2] Z I J (qi Z K) := by
  have hp := WX_town hW hts
  have hw1 := hw.1
  have m1 := i32_mulc x1 7 7 rfl (by omega) (by omega)
  have a1 := i32_add (x1 * 7) x2 (by omega) (by omega)
  have k1 := tn_eq ((x1 * 7) + x2)
  refine eX9_since ht ⟨vp_of (by omega) (by omega), ?_⟩
  rw [show Int32.toNatClampNeg ((x1 * 7) + x2) = x1.toInt.toNat * 7 + x2.toInt.toNat by omega, hw.2.2.2.2 x1.toInt.toNat x2.toInt.toNat (by omega) (by omega) (by omega)]
  exact hK
theorem pX11_know {G : jdG} {n : Nat} {Z : jdL} {J : jdJ} {K : Int32 → jdI → jdJ → Prop} {I : jdI} {s : Sd} {x1 x2 x3 : Int32} (hX : zX Z) (hW : WX I) (hs : TX I 1 s) (hK : ∀ (v : Int32) (I2 : jdI), WX I2 → Fr (fun a k => a = 4 ∨ a = 28) I I2 → (v.toInt = (oKnow s x1 x2 x3).1 ∧ TX I2 1 (oKnow s x1 x2 x3).2) → K v I2 J) : Cl G mX11_know (n + 2) 0 0 [.ref (gb G + 0), .int x1, .int x2, .int x3] Z I J (qi Z K) := by
  have h1 := hs.1.1
  have hw := WX_f hW
  have qm : (-1 : Int32).toInt = -1 := rfl
  have q99 : (99 : Int32).toInt = 99 := rfl
  refine eX11_know hX ?_
  refine sfX9_hasTwo (zX_o0 hX) (Or.inl rfl) hW (fun v2 p2 => ⟨fun c2 => ?_, fun c2 => ⟨fun c3 => ?_, fun c3 => ⟨fun c4 => ?_, fun c4 => ?_⟩⟩⟩)
  · have c2 := i0 c2
    exact refX hX hW hs (if_neg (by omega)) (by intro a k h; omega) hK
  · have c3 := Int32.lt_iff_toInt_lt.mp c3
    exact refX hX hW hs (if_neg (by omega)) (by intro a k h; omega) hK
  · have c2 := i1 c2
    have c3 := mt Int32.lt_iff_toInt_lt.mpr c3
    have c4 := Int32.le_iff_toInt_le.mp c4
    have e : oKnow s x1 x2 x3 = ((s.1.2.2.2.2.2 x1.toInt.toNat x2.toInt.toNat).toInt, (tieT s.1 x1.toInt.toNat x2.toInt.toNat x3, s.2)) := if_pos (by omega)
    refine pX9_since (zX_o0 hX) (Or.inl rfl) hW hs.1 (by omega) (by omega) (by omega) ?_
    refine pX9_tie (zX_o0 hX) (Or.inl rfl) hW hs.1 (by omega) (by omega) (fun I3 hW3 hF3 hR3 => ?_)
    refine hK _ I3 hW3 (Fr.tr Fr.rf hF3 (by intro a k h; omega)) ?_
    rw [e]
    exact ⟨rfl, hR3, by rw [hF3 1 6 (by omega)]; exact hs.2⟩
  · have c4 := mt Int32.le_iff_toInt_le.mpr c4
    exact refX hX hW hs (if_neg (by omega)) (by intro a k h; omega) hK
theorem pX12_know {G : jdG} {n : Nat} {Z : jdL} {J : jdJ} {K : Int32 → jdI → jdJ → Prop} {I : jdI} {t : Nat} {s : Sd} {x1 x2 x3 : Int32} (ht : zModel Z t) (hW : WM 7 t I) (hs : TM I t s) (hK : ∀ (v : Int32) (I2 : jdI), WM 7 t I2 → Fr (fun a k => (t + 21 ≤ a ∧ a ≤ t + 28) ∨ a = t + 17) I I2 → (v.toInt = (oKnow s x1 x2 x3).1 ∧ TM I2 t (oKnow s x1 x2 x3).2) → K v I2 J) : Cl G mX12_know (n + 3) 0 0 [.ref (gb G + t), .int x1, .int x2, .int x3] Z I J (qi Z K) := by
  have h1 := hs.1.1
  have hw := WM_f hW
  have e3 : (Int32.toInt64 x3).toInt = x3.toInt := Int32.toInt_toInt64 _
  have zm : (-1 : Int64).toInt = -1 := rfl
  have z99 : (99 : Int64).toInt = 99 := rfl
  refine eX12_know ht ?_
  refine sfX12_areTwo ht hW (fun v2 p2 => ⟨fun c2 => ?_, fun c2 => ?_⟩)
  · have c2 := i0 c2
    exact refM ht hW hs (by decide) (if_neg (by omega)) (by intro a k h; omega) hK
  · have c2 := i1 c2
    refine sfX12_in trivial (fun v6 p6 => ⟨fun c6 => ?_, fun c6 => ?_⟩)
    · have c6 := i1 c6
      have e : oKnow s x1 x2 x3 = ((s.1.2.2.2.2.2 x1.toInt.toNat x2.toInt.toNat).toInt, (tieT s.1 x1.toInt.toNat x2.toInt.toNat x3, s.2)) := if_pos (by omega)
      have e9 := hs.1.2.2.2.2 x1.toInt.toNat x2.toInt.toNat (by omega) (by omega) (by omega)
      refine ⟨vp_of (by omega) (by omega), vp_of (by omega) (by omega), ?_⟩
      refine pX12_knows ht hW hs.1 (by omega) (by omega) (fun I3 hW3 hF3 hR3 => ?_)
      refine hK _ I3 hW3 (Fr.tr Fr.rf hF3 (by intro a k h; omega)) ?_
      rw [e]
      exact ⟨congrArg Int32.toInt e9, hR3, by rw [hF3 t 19 (by omega)]; exact hs.2⟩
    · have c6 := i0 c6
      exact refM ht hW hs (by decide) (if_neg (by omega)) (by intro a k h; omega) hK
/-! sets of people; meet -/
theorem pX9_hasAll {G : jdG} {n : Nat} {Z : jdL} {J : jdJ} {K : Int32 → jdI → jdJ → Prop} {I : jdI} {t : Nat} {x1 : Int32} {P : Int} (ht : zTown Z t) (hts : t = 1 ∨ t = 5 ∨ t = 9) (hW : WX I) (hP : (I t 3).toInt = P) (hK : ∀ v : Int32, ((v.toInt = 1 ∧ 0 ≤ x1.toInt ∧ x1.toInt < 2 ^ P.toNat) ∨ (v.toInt = 0 ∧ ¬ (0 ≤ x1.toInt ∧ x1.toInt < 2 ^ P.toNat))) → K v I J) : Cl G mX9_hasAll (n + 1) 0 0 [.ref (gb G + t), .int x1] Z I J (qi Z K) := by
  have hp := WX_town hW hts
  have ev := (ev_of (x := I t 3) (by omega) (by omega)).2
  rw [hP] at ev
  have q0 : (0 : Int32).toInt = 0 := rfl
  refine eX9_hasAll ht ⟨fun c => ?_, fun c => ?_⟩
  · have c := Int32.lt_iff_toInt_lt.mp c
    exact hK 0 (Or.inr ⟨rfl, by omega⟩)
  · have c := mt Int32.lt_iff_toInt_lt.mpr c
    refine eX9_everybody ht ⟨fun d => ?_, fun d => ?_⟩
    · have d := Int32.lt_iff_toInt_lt.mp d
      exact hK 0 (Or.inr ⟨rfl, by omega⟩)
    · have d := mt Int32.lt_iff_toInt_lt.mpr d
      exact hK 1 (Or.inl ⟨rfl, by omega, by omega⟩)
theorem pX12_isSet {G : jdG} {n : Nat} {Z : jdL} {J : jdJ} {K : Int32 → jdI → jdJ → Prop} {I : jdI} {t : Nat} {x1 : Int32} {P : Int} (ht : zModel Z t) (hW : WM 7 t I) (hP : (I t 10).toInt = P) (hK : ∀ v : Int32, ((v.toInt = 1 ∧ 0 ≤ x1.toInt ∧ x1.toInt < 2 ^ P.toNat) ∨ (v.toInt = 0 ∧ ¬ (0 ≤ x1.toInt ∧ x1.toInt < 2 ^ P.toNat))) → K v I J) : Cl G mX12_isSet (n + 1) 0 0 [.ref (gb G + t), .int x1] Z I J (qi Z K) := by
  have hp := WM_f hW
  have ev := (ev_of (x := I t 10) (by omega) (by omega)).2
  rw [hP] at ev
  have e1 : (Int32.toInt64 x1).toInt = x1.toInt := Int32.toInt_toInt64 _
  have z0 : (0 : Int64).toInt = 0 := rfl
  refine eX12_isSet ht (eX12_all ht ?_)
  have e2 := Int32.toInt_toInt64 (((1 : Int32) <<< ((I t 10) &&& 31)) - 1)
  exact sfX12_in trivial (fun v4 p4 => ⟨narrow_b (by omega), hK v4 (by omega)⟩)
def oMeet (s : Sd) (x1 : Int32) : Int × Sd := if 0 ≤ x1.toInt ∧ x1.toInt < 2 ^ s.1.1.toNat then (totc s.1.2.2.2.2.2 x1 s.1.1.toNat, (acqT s.1 x1, s.2)) else (-2, s)
theorem oMeet_ok {s : Sd} {x1 : Int32} (h : OKT s.1) : OKT (oMeet s x1).2.1 := by
  unfold oMeet
  by_cases c : 0 ≤ x1.toInt ∧ x1.toInt < 2 ^ s.1.1.toNat
  · rw [if_pos c]
    exact OKT_acq h
  · rw [if_neg c]
    exact h
theorem pX11_meet {G : jdG} {n : Nat} {Z : jdL} {J : jdJ} {K : Int32 → jdI → jdJ → Prop} {I : jdI} {s : Sd} {x1 : Int32} (hX : zX Z) (hW : WX I) (hs : TX I 1 s) (hK : ∀ (v : Int32) (I2 : jdI), WX I2 → Fr (fun a k => a = 4 ∨ a = 28) I I2 → (v.toInt = (oMeet s x1).1 ∧ TX I2 1 (oMeet s x1).2) → K v I2 J) : Cl G mX11_meet (n + 2) 0 0 [.ref (gb G + 0), .int x1] Z I J (qi Z K) := by
  refine eX11_meet hX ?_
  refine pX9_hasAll (zX_o0 hX) (Or.inl rfl) hW hs.1.1 (fun v2 p2 => ⟨fun c2 => ?_, fun c2 => ?_⟩)
  · have c2 := i0 c2
    exact refX hX hW hs (if_neg (by omega)) (by intro a k h; omega) hK
  · have c2 := i1 c2
    have e : oMeet s x1 = (totc s.1.2.2.2.2.2 x1 s.1.1.toNat, (acqT s.1 x1, s.2)) := if_pos (by omega)
    refine pX9_acquaint (zX_o0 hX) (Or.inl rfl) hW hs.1 (fun v6 I3 hW3 hF3 hR3 hv => ?_)
    refine hK v6 I3 hW3 (Fr.tr Fr.rf hF3 (by intro a k h; omega)) ?_
    rw [e]
    exact ⟨hv, hR3, by rw [hF3 1 6 (by omega)]; exact hs.2⟩
theorem pX12_meet {G : jdG} {n : Nat} {Z : jdL} {J : jdJ} {K : Int32 → jdI → jdJ → Prop} {I : jdI} {t : Nat} {s : Sd} {x1 : Int32} (ht : zModel Z t) (hW : WM 7 t I) (hs : TM I t s) (hK : ∀ (v : Int32) (I2 : jdI), WM 7 t I2 → Fr (fun a k => a = t + 17 ∨ (t + 21 ≤ a ∧ a ≤ t + 28)) I I2 → (v.toInt = (oMeet s x1).1 ∧ TM I2 t (oMeet s x1).2) → K v I2 J) : Cl G mX12_meet (n + 2) 0 0 [.ref (gb G + t), .int x1] Z I J (qi Z K) := by
  refine eX12_meet ht ?_
  refine pX12_isSet ht hW hs.1.1 (fun v2 p2 => ⟨fun c2 => ?_, fun c2 => ?_⟩)
  · have c2 := i0 c2
    exact refM ht hW hs (by decide) (if_neg (by omega)) (by intro a k h; omega) hK
  · have c2 := i1 c2
    have e : oMeet s x1 = (totc s.1.2.2.2.2.2 x1 s.1.1.toNat, (acqT s.1 x1, s.2)) := if_pos (by omega)
    refine pX12_meets ht hW hs.1 (fun v6 I3 hW3 hF3 hR3 hv => ?_)
    refine hK v6 I3 hW3 (Fr.tr Fr.rf hF3 (by intro a k h; omega)) ?_
    rw [e]
    exact ⟨hv, hR3, by rw [hF3 t 19 (by omega)]; exact hs.2⟩
/-! a year -/
def oneM (v : Int32) : Int32 := if 99 ≤ v.toInt then 99 else v + 1
theorem oneM_r {v : Int32} (h : -1 ≤ v.toInt ∧ v.toInt ≤ 99) : 0 ≤ (oneM v).toInt ∧ (oneM v).toInt ≤ 99 := by
  have q1 : (1 : Int32).toInt = 1 := rfl
  have q99 : (99 : Int32).toInt = 99 := rfl
  have e := i32_add v 1 (by omega) (by omega)
  unfold oneM
  by_cases c : 99 ≤ v.toInt
  · rw [if_pos c]
    omega
  · rw [if_neg c]
    omega
theorem oneM_x {v : Int32} (h : -1 ≤ v.toInt ∧ v.toInt ≤ 99) : (if 99 < (v + 1) then 99 else (v + 1)) = oneM v := by
  have q1 : (1 : Int32).toInt = 1 := rfl
  have q99 : (99 : Int32).toInt = 99 := rfl
  have e := i32_add v 1 (by omega) (by omega)
  unfold oneM
  by_cases c : 99 ≤ v.toInt
  · rw [if_pos c, if_pos (Int32.lt_iff_toInt_lt.mpr (by omega))]
  · rw [if_neg c, if_neg (fun z => by have := Int32.lt_iff_toInt_lt.mp z; omega)]
/-- a year for the pair i, j, and how many have forgotten -/
def agS (s : Sd) (i j : Nat) : Sd := if s.1.2.2.2.2.2 i j = -1 then s else if s.1.2.2.2.2.1 = 0 ∨ (oneM (s.1.2.2.2.2.2 i j)).toInt ≤ s.1.2.2.2.2.1 then (tieT s.1 i j (oneM (s.1.2.2.2.2.2 i j)), s.2) else (tieT s.1 i j (-1), s.2 + 1)
theorem agS_s {s : Sd} {i j : Nat} (h : s.1.2.2.2.2.2 i j = -1) : agS s i j = s := if_pos h
theorem agS_k {s : Sd} {i j : Nat} (h : ¬ s.1.2.2.2.2.2 i j = -1) (h2 : s.1.2.2.2.2.1 = 0 ∨ (oneM (s.1.2.2.2.2.2 i j)).toInt ≤ s.1.2.2.2.2.1) : agS s i j = (tieT s.1 i j (oneM (s.1.2.2.2.2.2 i j)), s.2) := by
  unfold agS
  rw [if_neg h, if_pos h2]
theorem agS_f {s : Sd} {i j : Nat} (h : ¬ s.1.2.2.2.2.2 i j = -1) (h2 : ¬ (s.1.2.2.2.2.1 = 0 ∨ (oneM (s.1.2.2.2.2.2 i j)).toInt ≤ s.1.2.2.2.2.1)) : agS s i j = (tieT s.1 i j (-1), s.2 + 1) := by
  unfold agS
  rw [if_neg h, if_neg h2]
theorem agS_1 (s : Sd) (i j : Nat) : (agS s i j).1.1 = s.1.1 := by
  unfold agS
  split
  · rfl
  · split <;> rfl
theorem agS_ok {s : Sd} {i j : Nat} (h : OKT s.1) : OKT (agS s i j).1 := by
  have r := oneM_r (h.2.2 i j)
  unfold agS
  split
  · exact h
  · split
    · exact OKT_tie h ⟨by omega, r.2⟩
    · exact OKT_tie h (by decide)
def agR : Nat → Nat → Nat → Sd → Sd
  | 0, _, _, s => s
  | f + 1, i, j, s => agR f i (j + 1) (agS s i j)
theorem agR_1 : ∀ (f i j : Nat) (s : Sd), (agR f i j s).1.1 = s.1.1
  | 0, _, _, _ => rfl
  | f + 1, i, j, s => (agR_1 f i (j + 1) (agS s i j)).trans (agS_1 s i j)
theorem agR_ok : ∀ (f i j : Nat) (s : Sd), OKT s.1 → OKT (agR f i j s).1
  | 0, _, _, _, h => h
  | f + 1, i, j, s, h => agR_ok f i (j + 1) (agS s i j) (agS_ok h)
def agO : Nat → Nat → Sd → Sd
  | 0, _, s => s
  | f + 1, i, s => agO f (i + 1) (agR i i 0 s)
theorem agO_ok : ∀ (f i : Nat) (s : Sd), OKT s.1 → OKT (agO f i s).1
  | 0, _, _, h => h
  | f + 1, i, s, h => agO_ok f (i + 1) (agR i i 0 s) (agR_ok i i 0 s h)
/-- a town a year on, and how many have forgotten -/
def ageT (w : Tw) : Sd := agO w.1.toNat 0 (w, 0)
def oYear (s : Sd) : Int × Sd := ((ageT s.1).2.toInt, ((ageT s.1).1, s.2))
theorem oYear_ok {s : Sd} (h : OKT s.1) : OKT (oYear s).2.1 := agO_ok _ _ _ h
theorem RX_fk {I I2 : jdI} {t : Nat} {w : Tw} (h : RX I t w) (f0 : Fr (fun a k => a = t ∧ 6 ≤ k) I I2) : RX I2 t w := by
  obtain ⟨w1, w2, w3, w4, w5⟩ := h
  exact ⟨by rw [f0 t 3 (by omega)]; exact w1, fun i hi => by rw [f0 (t + 1) i (by omega), f0 (t + 2) i (by omega)]; exact w2 i hi, by rw [f0 t 4 (by omega)]; exact w3, by rw [f0 t 5 (by omega)]; exact w4, fun i j hi hj hne => by rw [f0 (t + 3) _ (by omega)]; exact w5 i j hi hj hne⟩
theorem pX9_age_24 {G : jdG} {n rc rs : Nat} {Z : jdL} {J : jdJ} {K : Int32 → jdI → jdJ → Prop} {I0 : jdI} {t : Nat} {x2 : Int32} {R : Sd} {P : Int} (ht : zTown Z t) (hts : t = 1 ∨ t = 5 ∨ t = 9) (hP : P ≤ 7) (h2 : 0 ≤ x2.toInt ∧ x2.toInt < P) (hO : ∀ I2 : jdI, WX I2 → Fr (fun a k => a = t + 3) I0 I2 → RX I2 t R.1 → Jd G mX9_age (jdFm G (qi Z K)) (n + 1) rc rs 14 [(0, .ref (gb G + t)), (1, .int R.2), (2, .int (x2 + 1))] [] Z I2 J) : ∀ f : Nat, ∀ (I : jdI) (x3 : Int32) (s : Sd), WX I → Fr (fun a k => a = t + 3) I0 I → RX I t s.1 → s.1.1 = P → OKT s.1 → 0 ≤ x3.toInt → x3.toInt + (f : Int) = x2.toInt → agR f x2.toInt.toNat x3.toInt.toNat s = R → Jd G mX9_age (jdFm G (qi Z K)) (n + 1) rc rs 24 [(0, .ref (gb G + t)), (1, .int s.2), (2, .int x2), (3, .int x3)] [] Z I J := by
  intro f
  induction f with
  | zero =>
    intro I x3 s hW hF hw hp hk h3 hf hr
    have hr : s = R := hr
    subst hr
    exact rX9_age_24 ht ⟨fun _ => hO I hW hF hw, fun hc => absurd (Int32.le_iff_toInt_le.mpr (by omega)) hc⟩
  | succ f ih =>
    intro I x3 s hW hF hw hp hk h3 hf hr
    have q1 : (1 : Int32).toInt = 1 := rfl
    have e3 := i32_add x3 1 (by omega) (by omega)
    have en : (x3 + 1).toInt.toNat = x3.toInt.toNat + 1 := by omega
    have hr : agR f x2.toInt.toNat (x3.toInt.toNat + 1) (agS s x2.toInt.toNat x3.toInt.toNat) = R := hr
    rw [← en] at hr
    have kr := hk.2.2 x2.toInt.toNat x3.toInt.toNat
    have hok := agS_ok (i := x2.toInt.toNat) (j := x3.toInt.toNat) hk
    have hs1 := agS_1 s x2.toInt.toNat x3.toInt.toNat
    have m5 : (I t 5).toInt = s.1.2.2.2.2.1 := hw.2.2.2.1
    refine rX9_age_24 ht ⟨fun hc => by have := Int32.le_iff_toInt_le.mp hc; omega, fun _ => ?_⟩
    refine pX9_since ht hts hW hw ⟨h2.1, by omega⟩ ⟨h3, by omega⟩ (by omega) ⟨fun hv => ?_, fun hv => ?_⟩
    · rw [agS_s hv] at hr
      exact ih I (x3 + 1) s hW hF hw hp hk (by omega) (by omega) hr
    · rw [oneM_x kr]
      refine ⟨fun hm => ?_, fun hm => ⟨fun hl => ?_, fun hl => ?_⟩⟩
      · have hm : s.1.2.2.2.2.1 = 0 := by rw [← m5, hm]; rfl
        have e := agS_k hv (Or.inl hm)
        rw [e] at hr hok hs1
        rw [Int32.add_zero]
        exact pX9_tie ht hts hW hw ⟨h2.1, by omega⟩ ⟨h3, by omega⟩ (fun I3 hW3 hF3 hR3 => ih I3 (x3 + 1) (tieT s.1 x2.toInt.toNat x3.toInt.toNat (oneM (s.1.2.2.2.2.2 x2.toInt.toNat x3.toInt.toNat)), s.2) hW3 (Fr.tr hF hF3 (fun _ _ h => h)) hR3 (hs1.trans hp) hok (by omega) (by omega) hr)
      · have hl := Int32.le_iff_toInt_le.mp hl
        have e := agS_k hv (Or.inr (by omega))
        rw [e] at hr hok hs1
        rw [Int32.add_zero]
        exact pX9_tie ht hts hW hw ⟨h2.1, by omega⟩ ⟨h3, by omega⟩ (fun I3 hW3 hF3 hR3 => ih I3 (x3 + 1) (tieT s.1 x2.toInt.toNat x3.toInt.toNat (oneM (s.1.2.2.2.2.2 x2.toInt.toNat x3.toInt.toNat)), s.2) hW3 (Fr.tr hF hF3 (fun _ _ h => h)) hR3 (hs1.trans hp) hok (by omega) (by omega) hr)
      · have hl := mt Int32.le_iff_toInt_le.mpr hl
        have hm := i1 hm
        have e := agS_f hv (by omega)
        rw [e] at hr hok hs1
        exact pX9_tie ht hts hW hw ⟨h2.1, by omega⟩ ⟨h3, by omega⟩ (fun I3 hW3 hF3 hR3 => ih I3 (x3 + 1) _ hW3 (Fr.tr hF hF3 (fun _ _ h => h)) hR3 (hs1.trans hp) hok (by omega) (by omega) hr)
theorem pX9_age_14 {G : jdG} {n rc rs : Nat} {Z : jdL} {J : jdJ} {K : Int32 → jdI → jdJ → Prop} {I0 : jdI} {t : Nat} {R : Sd} {P : Int} (ht : zTown Z t) (hts : t = 1 ∨ t = 5 ∨ t = 9) (hP : 0 ≤ P ∧ P ≤ 7) (hK : ∀ I2 : jdI, WX I2 → Fr (fun a k => a = t + 3) I0 I2 → RX I2 t R.1 → K R.2 I2 J) : ∀ f : Nat, ∀ (I : jdI) (x2 : Int32) (s : Sd), WX I → Fr (fun a k => a = t + 3) I0 I → RX I t s.1 → s.1.1 = P → OKT s.1 → 0 ≤ x2.toInt → x2.toInt + (f : Int) = P → agO f x2.toInt.toNat s = R → Jd G mX9_age (jdFm G (qi Z K)) (n + 1) rc rs 14 [(0, .ref (gb G + t)), (1, .int s.2), (2, .int x2)] [] Z I J := by
  intro f
  induction f with
  | zero =>
    intro I x2 s hW hF hw hp hk h2 hf hr
    have hr : s = R := hr
    subst hr
    have h3 : (I t 3).toInt = s.1.1 := hw.1
    exact rX9_age_14 ht ⟨fun _ => hK I hW hF hw, fun hc => absurd (Int32.le_iff_toInt_le.mpr (by omega)) hc⟩
  | succ f ih =>
    intro I x2 s hW hF hw hp hk h2 hf hr
    have q1 : (1 : Int32).toInt = 1 := rfl
    have e2 := i32_add x2 1 (by omega) (by omega)
    have en : (x2 + 1).toInt.toNat = x2.toInt.toNat + 1 := by omega
    have hr : agO f (x2.toInt.toNat + 1) (agR x2.toInt.toNat x2.toInt.toNat 0 s) = R := hr
    rw [← en] at hr
    have h3 : (I t 3).toInt = s.1.1 := hw.1
    refine rX9_age_14 ht ⟨fun hc => by have := Int32.le_iff_toInt_le.mp hc; omega, fun _ => ?_⟩
    exact pX9_age_24 (R := agR x2.toInt.toNat x2.toInt.toNat 0 s) ht hts hP.2 ⟨h2, by omega⟩ (fun I2 hW2 hF2 hR2 => ih I2 (x2 + 1) _ hW2 hF2 hR2 ((agR_1 _ _ _ s).trans hp) (agR_ok _ _ _ s hk) (by omega) (by omega) hr) x2.toInt.toNat I 0 s hW hF hw hp hk (by decide) (by show (0 : Int) + _ = _; omega) rfl
theorem pX9_age {G : jdG} {n : Nat} {Z : jdL} {J : jdJ} {K : Int32 → jdI → jdJ → Prop} {I : jdI} {t : Nat} {w : Tw} (ht : zTown Z t) (hts : t = 1 ∨ t = 5 ∨ t = 9) (hW : WX I) (hw : RX I t w) (hk : OKT w) (hK : ∀ I2 : jdI, WX I2 → Fr (fun a k => (a = t ∧ k = 9) ∨ a = t + 3) I I2 → RX I2 t (ageT w).1 → K (ageT w).2 I2 J) : Cl G mX9_age (n + 1) 0 0 [.ref (gb G + t)] Z I J (qi Z K) := by
  have hp := WX_town hW hts
  have h1 : (I t 3).toInt = w.1 := hw.1
  refine eX9_age ht ?_
  have f0 : Fr (fun a k => a = t ∧ k = 9) I (uI I t 9 ((I t 9) + 1)) := Fr_uI Fr.rf ⟨rfl, rfl⟩
  have w1 : WX (uI I t 9 ((I t 9) + 1)) := WX_uI hW (by first | exact okXo (by decide) | (unfold okX; refine ⟨?_, ?_, ?_, ?_, ?_, ?_, ?_, ?_, ?_, ?_⟩ <;> intro h <;> omega))
  exact pX9_age_14 (R := ageT w) (P := w.1) ht hts ⟨by omega, by omega⟩ (fun I2 hW2 hF2 hR2 => hK I2 hW2 (Fr.tr (Fr.tr Fr.rf f0 (by intro a k h; omega)) hF2 (by intro a k h; omega)) hR2) w.1.toNat (uI I t 9 ((I t 9) + 1)) 0 (w, 0) w1 Fr.rf (RX_fk hw (fun a k q => f0 a k (by omega))) rfl hk (by decide) (by show (0 : Int) + _ = _; omega) rfl
theorem pX11_year {G : jdG} {n : Nat} {Z : jdL} {J : jdJ} {K : Int32 → jdI → jdJ → Prop} {I : jdI} {s : Sd} (hX : zX Z) (hW : WX I) (hs : TX I 1 s) (hk : OKT s.1) (hK : ∀ (v : Int32) (I2 : jdI), WX I2 → Fr (fun a k => (a = 1 ∧ k = 9) ∨ a = 4) I I2 → (v.toInt = (oYear s).1 ∧ TX I2 1 (oYear s).2) → K v I2 J) : Cl G mX11_year (n + 2) 0 0 [.ref (gb G + 0)] Z I J (qi Z K) :=
  eX11_year hX (pX9_age (zX_o0 hX) (Or.inl rfl) hW hs.1 hk (fun I2 hW2 hF2 hR2 => hK _ I2 hW2 (Fr.tr Fr.rf hF2 (by intro a k h; omega)) ⟨rfl, hR2, by rw [hF2 1 6 (by omega)]; exact hs.2⟩))
theorem pX12_year_14 {G : jdG} {n rc rs : Nat} {Z : jdL} {J : jdJ} {K : Int32 → jdI → jdJ → Prop} {I0 : jdI} {t : Nat} {x2 : Int32} {R : Sd} {P : Int} (ht : zModel Z t) (hP : P ≤ 7) (h2 : 0 ≤ x2.toInt ∧ x2.toInt < P) (hO : ∀ I2 : jdI, WM 7 t I2 → Fr (fun a k => t + 21 ≤ a ∧ a ≤ t + 28) I0 I2 → RM I2 t R.1 → Jd G mX12_year (jdFm G (qi Z K)) (n + 1) rc rs 4 [(0, .ref (gb G + t)), (1, .int R.2), (2, .int (x2 + 1))] [] Z I2 J) : ∀ f : Nat, ∀ (I : jdI) (x3 : Int32) (s : Sd), WM 7 t I → Fr (fun a k => t + 21 ≤ a ∧ a ≤ t + 28) I0 I → RM I t s.1 → s.1.1 = P → OKT s.1 → 0 ≤ x3.toInt → x3.toInt + (f : Int) = x2.toInt → agR f x2.toInt.toNat x3.toInt.toNat s = R → Jd G mX12_year (jdFm G (qi Z K)) (n + 1) rc rs 14 [(0, .ref (gb G + t)), (1, .int s.2), (2, .int x2), (3, .int x3)] [] Z I J := by
  intro f
  induction f with
  | zero =>
    intro I x3 s hW hF hw hp hk h3 hf hr
    have hr : s = R := hr
    subst hr
    exact rX12_year_14 ht ⟨fun _ => hO I hW hF hw, fun hc => absurd (Int32.le_iff_toInt_le.mpr (by omega)) hc⟩
  | succ f ih =>
    intro I x3 s hW hF hw hp hk h3 hf hr
    have q1 : (1 : Int32).toInt = 1 := rfl
    have q99 : (99 : Int32).toInt = 99 := rfl
    have e3 := i32_add x3 1 (by omega) (by omega)
    have en : (x3 + 1).toInt.toNat = x3.toInt.toNat + 1 := by omega
    have hr : agR f x2.toInt.toNat (x3.toInt.toNat + 1) (agS s x2.toInt.toNat x3.toInt.toNat) = R := hr
    rw [← en] at hr
    have kr := hk.2.2 x2.toInt.toNat x3.toInt.toNat
    have hok := agS_ok (i := x2.toInt.toNat) (j := x3.toInt.toNat) hk
    have hs1 := agS_1 s x2.toInt.toNat x3.toInt.toNat
    have m5 : (I t 15).toInt = s.1.2.2.2.2.1 := hw.2.2.2.1
    have cur : I (t + 21 + Int32.toNatClampNeg x2) (Int32.toNatClampNeg x3) = s.1.2.2.2.2.2 x2.toInt.toNat x3.toInt.toNat := hw.2.2.2.2 x2.toInt.toNat x3.toInt.toNat (by omega) (by omega) (by omega)
    have n2 := tn_eq x2
    have n3 := tn_eq x3
    refine rX12_year_14 ht ⟨fun hc => by have := Int32.le_iff_toInt_le.mp hc; omega, fun _ => ⟨vp_of (by omega) (by omega), vp_of (by omega) (by omega), ?_⟩⟩
    rw [cur]
    refine ⟨fun hv => ?_, fun hv => ⟨fun h99 => ?_, fun h99 => ?_⟩⟩
    · rw [agS_s hv] at hr
      exact ih I (x3 + 1) s hW hF hw hp hk (by omega) (by omega) hr
    · have h99 := Int32.le_iff_toInt_le.mp h99
      have eo : oneM (s.1.2.2.2.2.2 x2.toInt.toNat x3.toInt.toNat) = 99 := if_pos (by omega)
      refine ⟨fun hm => ?_, fun hm => ⟨fun hl => ?_, fun hl => ?_⟩⟩
      · have hm : s.1.2.2.2.2.1 = 0 := by rw [← m5, hm]; rfl
        have e := agS_k hv (Or.inl hm)
        rw [eo] at e
        rw [e] at hr hok hs1
        rw [Int32.add_zero]
        exact pX12_knows ht hW hw ⟨h2.1, by omega⟩ ⟨h3, by omega⟩ (fun I3 hW3 hF3 hR3 => ih I3 (x3 + 1) (tieT s.1 x2.toInt.toNat x3.toInt.toNat 99, s.2) hW3 (Fr.tr hF hF3 (fun _ _ h => h)) hR3 (hs1.trans hp) hok (by omega) (by omega) hr)
      · have hl := Int32.le_iff_toInt_le.mp hl
        have e := agS_k hv (Or.inr (by rw [eo]; omega))
        rw [eo] at e
        rw [e] at hr hok hs1
        rw [Int32.add_zero]
        exact pX12_knows ht hW hw ⟨h2.1, by omega⟩ ⟨h3, by omega⟩ (fun I3 hW3 hF3 hR3 => ih I3 (x3 + 1) (tieT s.1 x2.toInt.toNat x3.toInt.toNat 99, s.2) hW3 (Fr.tr hF hF3 (fun _ _ h => h)) hR3 (hs1.trans hp) hok (by omega) (by omega) hr)
      · have hl := mt Int32.le_iff_toInt_le.mpr hl
        have hm := i1 hm
        have e := agS_f hv (by rw [eo]; omega)
        rw [e] at hr hok hs1
        exact pX12_knows ht hW hw ⟨h2.1, by omega⟩ ⟨h3, by omega⟩ (fun I3 hW3 hF3 hR3 => ih I3 (x3 + 1) _ hW3 (Fr.tr hF hF3 (fun _ _ h => h)) hR3 (hs1.trans hp) hok (by omega) (by omega) hr)
    · have h99 := mt Int32.le_iff_toInt_le.mpr h99
      have eo : oneM (s.1.2.2.2.2.2 x2.toInt.toNat x3.toInt.toNat) = s.1.2.2.2.2.2 x2.toInt.toNat x3.toInt.toNat + 1 := if_neg (by omega)
      refine ⟨fun hm => ?_, fun hm => ⟨fun hl => ?_, fun hl => ?_⟩⟩
      · have hm : s.1.2.2.2.2.1 = 0 := by rw [← m5, hm]; rfl
        have e := agS_k hv (Or.inl hm)
        rw [eo] at e
        rw [e] at hr hok hs1
        rw [Int32.add_zero]
        exact pX12_knows ht hW hw ⟨h2.1, by omega⟩ ⟨h3, by omega⟩ (fun I3 hW3 hF3 hR3 => ih I3 (x3 + 1) (tieT s.1 x2.toInt.toNat x3.toInt.toNat (s.1.2.2.2.2.2 x2.toInt.toNat x3.toInt.toNat + 1), s.2) hW3 (Fr.tr hF hF3 (fun _ _ h => h)) hR3 (hs1.trans hp) hok (by omega) (by omega) hr)
      · have hl := Int32.le_iff_toInt_le.mp hl
        have e := agS_k hv (Or.inr (by rw [eo]; omega))
        rw [eo] at e
        rw [e] at hr hok hs1
        rw [Int32.add_zero]
        exact pX12_knows ht hW hw ⟨h2.1, by omega⟩ ⟨h3, by omega⟩ (fun I3 hW3 hF3 hR3 => ih I3 (x3 + 1) (tieT s.1 x2.toInt.toNat x3.toInt.toNat (s.1.2.2.2.2.2 x2.toInt.toNat x3.toInt.toNat + 1), s.2) hW3 (Fr.tr hF hF3 (fun _ _ h => h)) hR3 (hs1.trans hp) hok (by omega) (by omega) hr)
      · have hl := mt Int32.le_iff_toInt_le.mpr hl
        have hm := i1 hm
        have e := agS_f hv (by rw [eo]; omega)
        rw [e] at hr hok hs1
        exact pX12_knows ht hW hw ⟨h2.1, by omega⟩ ⟨h3, by omega⟩ (fun I3 hW3 hF3 hR3 => ih I3 (x3 + 1) _ hW3 (Fr.tr hF hF3 (fun _ _ h => h)) hR3 (hs1.trans hp) hok (by omega) (by omega) hr)
theorem pX12_year_4 {G : jdG} {n rc rs : Nat} {Z : jdL} {J : jdJ} {K : Int32 → jdI → jdJ → Prop} {I0 : jdI} {t : Nat} {R : Sd} {P : Int} (ht : zModel Z t) (hP : 0 ≤ P ∧ P ≤ 7) (hK : ∀ I2 : jdI, WM 7 t I2 → Fr (fun a k => (a = t ∧ k = 18) ∨ (t + 21 ≤ a ∧ a ≤ t + 28)) I0 I2 → RM I2 t R.1 → K R.2 I2 J) : ∀ f : Nat, ∀ (I : jdI) (x2 : Int32) (s : Sd), WM 7 t I → Fr (fun a k => t + 21 ≤ a ∧ a ≤ t + 28) I0 I → RM I t s.1 → s.1.1 = P → OKT s.1 → 0 ≤ x2.toInt → x2.toInt + (f : Int) = P → agO f x2.toInt.toNat s = R → Jd G mX12_year (jdFm G (qi Z K)) (n + 1) rc rs 4 [(0, .ref (gb G + t)), (1, .int s.2), (2, .int x2)] [] Z I J := by
  intro f
  induction f with
  | zero =>
    intro I x2 s hW hF hw hp hk h2 hf hr
    have hr : s = R := hr
    subst hr
    have h3 : (I t 10).toInt = s.1.1 := hw.1
    have hwm := WM_f hW
    have f0 : Fr (fun a k => a = t ∧ k = 18) I (uI I t 18 ((I t 18) + 1)) := Fr_uI Fr.rf ⟨rfl, rfl⟩
    exact rX12_year_4 ht ⟨fun _ => hK _ (WM_uI hW (by first | exact okMo (by decide) (by decide) (by decide) (by decide) (by decide) | exact okMf (by decide) (by decide) (by decide) (by decide) (by decide) (by decide) (by decide) (by decide) | exact okM30 (by omega) | exact okM42 (by omega) | exact okM33 (by omega) | exact okM10 (by omega) | exact okM8 (by omega) | exact okM22 (by omega) | exact okM24 (by omega) | exact okM14 (by omega) | exact okMa31 (by omega) | exact okMa35 (by omega) | exact okMa36 (by omega) | exact okMa3 (by omega) | exact okMr (by omega) | (unfold okM; refine ⟨?_, ?_, ?_, ?_, ?_, ?_, ?_, ?_, ?_, ?_, ?_, ?_⟩ <;> intro h <;> omega))) (Fr.tr (Fr.tr Fr.rf hF (by intro a k h; omega)) f0 (by intro a k h; omega)) (RM_fr hw (by omega) f0 (by omega) (by omega) (by omega) (by intro a k h1 h2 h3; omega)), fun hc => absurd (Int32.le_iff_toInt_le.mpr (by omega)) hc⟩
  | succ f ih =>
    intro I x2 s hW hF hw hp hk h2 hf hr
    have q1 : (1 : Int32).toInt = 1 := rfl
    have e2 := i32_add x2 1 (by omega) (by omega)
    have en : (x2 + 1).toInt.toNat = x2.toInt.toNat + 1 := by omega
    have hr : agO f (x2.toInt.toNat + 1) (agR x2.toInt.toNat x2.toInt.toNat 0 s) = R := hr
    rw [← en] at hr
    have h3 : (I t 10).toInt = s.1.1 := hw.1
    refine rX12_year_4 ht ⟨fun hc => by have := Int32.le_iff_toInt_le.mp hc; omega, fun _ => ?_⟩
    exact pX12_year_14 (R := agR x2.toInt.toNat x2.toInt.toNat 0 s) ht hP.2 ⟨h2, by omega⟩ (fun I2 hW2 hF2 hR2 => ih I2 (x2 + 1) _ hW2 hF2 hR2 ((agR_1 _ _ _ s).trans hp) (agR_ok _ _ _ s hk) (by omega) (by omega) hr) x2.toInt.toNat I 0 s hW hF hw hp hk (by decide) (by show (0 : Int) + _ = _; omega) rfl
theorem pX12_year {G : jdG} {n : Nat} {Z : jdL} {J : jdJ} {K : Int32 → jdI → jdJ → Prop} {I : jdI} {t : Nat} {s : Sd} (ht : zModel Z t) (hW : WM 7 t I) (hs : TM I t s) (hk : OKT s.1) (hK : ∀ (v : Int32) (I2 : jdI), WM 7 t I2 → Fr (fun a k => (a = t ∧ k = 18) ∨ (t + 21 ≤ a ∧ a ≤ t + 28)) I I2 → (v.toInt = (oYear s).1 ∧ TM I2 t (oYear s).2) → K v I2 J) : Cl G mX12_year (n + 1) 0 0 [.ref (gb G + t)] Z I J (qi Z K) := by
  have hwm := WM_f hW
  have h1 : (I t 10).toInt = s.1.1 := hs.1.1
  refine eX12_year ht ?_
  exact pX12_year_4 (R := ageT s.1) (P := s.1.1) ht ⟨by omega, by omega⟩ (fun I2 hW2 hF2 hR2 => hK _ I2 hW2 hF2 ⟨rfl, hR2, by rw [hF2 t 19 (by omega)]; exact hs.2⟩) s.1.1.toNat I 0 (s.1, 0) hW Fr.rf hs.1 rfl hk (by decide) (by show (0 : Int) + _ = _; omega) rfl
/-! the coachman on a shelf; a day in thought and in truth -/
def dyS (w : Tw) (kd : Int) (a : Int32) : List (Int32 × Int32) × Int32 := dy (rule w.1.toNat (relW w) w.2.2.1 (DL (relW w) w.1.toNat 0 w.2.2.2.1.toNat 0) kd a) w.2.1 (coA w.2.1 w.1.toNat 24 0) (w.1.toNat : Int) [] 0
theorem PT_TL {I : jdI} {w : Tw} (h : TL I w) (hc : (I 13 10).toInt = 0) : PT w.1.toNat w.2.2.2.1.toNat (relW w) w.2.2.1 (DL (relW w) w.1.toNat 0 w.2.2.2.1.toNat 0) I := ⟨⟨h.1.1, h.2.2.1, h.2.2.2, fun z => absurd hc z⟩, h.1, fun p hp => h.2.1 p (by omega)⟩
theorem GM_RM {I : jdI} {t : Nat} {w : Tw} (h : RM I t w) (h0 : 0 ≤ w.1) (h1 : 0 ≤ w.2.2.2.1) : GM I t w.1.toNat w.2.2.2.1.toNat (relW w) := ⟨by rw [h.1]; omega, by rw [h.2.2.1]; omega, fun p q hp hq hne => by rw [h.2.2.2.2 p q (by omega) (by omega) hne]; exact decide_eq_true_iff.symm⟩
theorem pX11_think {G : jdG} {n : Nat} {Z : jdL} {J : jdJ} {K : jdI → jdJ → Prop} {I : jdI} {u1 ci : Nat} {w : Tw} (hX : zX Z) (hz : Z.1 u1 = some (ci + 10, 0)) (hci : ci = 0 ∨ ci = 1 ∨ ci = 3 ∨ ci = 6 ∨ ci = 9) (hu : 44 < u1) (hW : WX I) (hw : RX I 1 w) (hk : OKT w) (hK : ∀ I2, WX I2 → Fr (fun a k => 13 ≤ a ∧ a ≤ 24) I I2 → DX I2 (dyS w (ckI (Z.1 u1)) (I u1 0)).1 (dyS w (ckI (Z.1 u1)) (I u1 0)).2 → K I2 J) : Cl G mX11_think (n + 8) 0 0 [.ref (gb G + 0), .ref (gb G + u1)] Z I J (qv Z K) := by
  have hp := WX_f hW
  have h1 : (I 1 3).toInt = w.1 := hw.1
  have h4 : (I 1 4).toInt = w.2.2.2.1 := hw.2.2.1
  refine eX11_think hX ?_
  refine pX8_load (zX_o3 hX) (zX_o0 hX) (Or.inl rfl) hW hw (OKT_sy hk) (fun I1 hW1 hF1 hT1 hc1 => ?_)
  have e : I1 u1 0 = I u1 0 := hF1 u1 0 (by omega)
  refine pX3_pass (N := w.1.toNat) (hr := w.2.1) (zX_o4 hX) (zX_o0 hX) (Or.inl rfl) (zX_o3 hX) hz hci hu (GG_DL (relW w) (by omega) (by omega)) (by omega) (DL_70 (relW w) (by omega) (by omega)) (by rw [hF1 1 3 (by omega)]; omega) (fun p hp => by rw [hF1 (1 + 1) p (by omega)]; exact (hw.2.1 p (by omega)).1) (fun p hp => (hk.1 p (by omega)).1) hW1 (PT_TL hT1 hc1) (fun I2 hW2 hP2 hF2 hD2 => ?_)
  rw [e] at hD2
  exact hK I2 hW2 (Fr.tr (Fr.tr Fr.rf hF1 (by intro a k h; omega)) hF2 (by intro a k h; omega)) hD2
theorem pX12_goesT {G : jdG} {n : Nat} {Z : jdL} {J : jdJ} {K : jdI → jdJ → Prop} {I : jdI} {t : Nat} {w : Tw} {x1 x2 : Int32} (ht : zModel Z t) (hW : WM 7 t I) (hw : RM I t w) (hk : OKT w) (hK : ∀ I2, WM 7 t I2 → Fr (fun a k => (a = t ∧ (k = 30 ∨ k = 33 ∨ k = 34)) ∨ (t + 30 ≤ a ∧ a ≤ t + 33)) I I2 → DMd I2 t (dyS w x1.toInt x2).1 → I2 t 34 = (dyS w x1.toInt x2).2 → (∀ p, p < w.1.toNat → I2 (t + 33) p = if bt (dyS w x1.toInt x2).2 p = true then w.2.2.1 p * (24 - w.2.1 p) else wtv w.2.2.1 w.2.1 p (dyS w x1.toInt x2).1 (I (t + 33) p)) → K I2 J) : Cl G mX12_goesBy (n + 259) 0 0 [.ref (gb G + t), .int x1, .int x2] Z I J (qv Z K) := by
  have hp := WM_f hW
  have h1 : (I t 10).toInt = w.1 := hw.1
  have h4 : (I t 14).toInt = w.2.2.2.1 := hw.2.2.1
  exact pX12_goesBy (N := w.1.toNat) (st := w.2.2.2.1.toNat) (rel := relW w) (c := w.2.2.1) (hr := w.2.1) ht hW (by omega) ⟨by omega, by omega⟩ (GM_RM hw (by omega) (by omega)) (fun p hp => (hw.2.1 p (by omega)).2) (fun p hp => (hw.2.1 p (by omega)).1) (fun p hp => (hk.1 p (by omega)).1) hK
/-- what a shelf holds where a coachman is wanted: 0, or the refusal -/
def cX (Z : jdL) (I : jdI) (x : Int32) : Int := if 0 ≤ x.toInt ∧ x.toInt < 8 then (if Z.2.1 (29 + 2 * (Int32.toNatClampNeg x)) 3 = none then (if (I (29 + 2 * (Int32.toNatClampNeg x)) 1).toInt = -1 then -4 else -3) else 0) else -2
def cM (I : jdI) (t : Nat) (x : Int32) : Int := if 0 ≤ x.toInt ∧ x.toInt < 8 then (if (I (t + 1) (Int32.toNatClampNeg x)).toInt = 1 then -3 else if (I (t + 1) (Int32.toNatClampNeg x)).toInt = 0 then -4 else 0) else -2
def aX (Z : jdL) (I : jdI) (x : Int32) : Int32 := match Z.2.1 (29 + 2 * (Int32.toNatClampNeg x)) 3 with
  | none => 0
  | some w => I w 0
theorem aX_some {Z : jdL} {I : jdI} {x : Int32} {w : Nat} (h : Z.2.1 (29 + 2 * (Int32.toNatClampNeg x)) 3 = some w) : aX Z I x = I w 0 := by
  unfold aX
  rw [h]
/-- coachmen's cells lie behind the two objects -/
def zHi (Z : jdL) : Prop := ∀ i, i < 8 → ∀ w, Z.2.1 (29 + 2 * i) 3 = some w → 82 < w
theorem pX_man {G : jdG} {n : Nat} {Z : jdL} {J : jdJ} {K : Int32 → jdI → jdJ → Prop} {T : Nat → jdI → jdJ → Prop} {I : jdI} {x1 : Int32} (hX : zX Z) (hW : WX I) (h0 : ∀ (v : Int32) (I2 : jdI), ¬ cX Z I x1 = 0 → WX I2 → Fr (fun a k => a = 28) I I2 → v.toInt = cX Z I x1 → K v I2 J) (h1 : ∀ w, (0 ≤ x1.toInt ∧ x1.toInt < 8) → cX Z I x1 = 0 → Z.2.1 (29 + 2 * (Int32.toNatClampNeg x1)) 3 = some w → T w I J) : Cl G mX11_manIn (n + 1) 0 0 [.ref (gb G + 0), .int x1] Z I J (qm G Z (fun o I1 J1 => (o = none → Cl G mX11_whyNoMan (n + 1) 0 0 [.ref (gb G + 0), .int x1] Z I1 J1 (qi Z (fun v4 I3 J3 => Cl G mX11_refuse (n + 1) 0 0 [.ref (gb G + 0), .int v4] Z I3 J3 (qi Z (fun v6 I5 J5 => K v6 I5 J5))))) ∧ (∀ w2, o = some w2 → T w2 I1 J1))) := by
  have n1 := tn_eq x1
  have why : (¬ (0 ≤ x1.toInt ∧ x1.toInt < 8) ∨ Z.2.1 (29 + 2 * (Int32.toNatClampNeg x1)) 3 = none) → Cl G mX11_whyNoMan (n + 1) 0 0 [.ref (gb G + 0), .int x1] Z I J (qi Z (fun v4 I3 J3 => Cl G mX11_refuse (n + 1) 0 0 [.ref (gb G + 0), .int v4] Z I3 J3 (qi Z (fun v6 I5 J5 => K v6 I5 J5)))) := fun hh => by
    refine eX11_whyNoMan hX ?_
    refine sfX11_isShelf hW (fun v2 p2 => ⟨fun c2 => ?_, fun c2 => ?_⟩)
    · have c2 := i1 c2
      have hn : Z.2.1 (29 + 2 * (Int32.toNatClampNeg x1)) 3 = none := hh.elim (fun z => absurd (by omega) z) id
      refine ⟨vp_of (by omega) (by omega), ?_⟩
      refine sfX6_isRow (zX_shelf hX (i := Int32.toNatClampNeg x1) (by omega)) (by omega) hW (fun v5 p5 => ⟨fun c5 => ?_, fun c5 => ?_⟩)
      · have c5 := i0 c5
        have e : cX Z I x1 = -4 := by
          unfold cX
          rw [if_pos (by omega), if_pos hn, if_pos (by omega)]
        exact sfX11_refuse hX hW (fun v I3 hW3 hF3 hp3 => h0 v I3 (by omega) hW3 hF3 (by rw [hp3, e]; rfl))
      · have c5 := i1 c5
        have e : cX Z I x1 = -3 := by
          unfold cX
          rw [if_pos (by omega), if_pos hn, if_neg (by omega)]
        exact sfX11_refuse hX hW (fun v I3 hW3 hF3 hp3 => h0 v I3 (by omega) hW3 hF3 (by rw [hp3, e]; rfl))
    · have c2 := i0 c2
      have e : cX Z I x1 = -2 := if_neg (by omega)
      exact sfX11_refuse hX hW (fun v I3 hW3 hF3 hp3 => h0 v I3 (by omega) hW3 hF3 (by rw [hp3, e]; rfl))
  refine eX11_manIn hX ?_
  refine sfX11_isShelf hW (fun v2 p2 => ⟨fun c2 => ?_, fun c2 => ?_⟩)
  · have c2 := i0 c2
    exact ⟨none, rfl, rfl, fun _ => why (Or.inl (by omega)), fun w e => (by cases e)⟩
  · have c2 := i1 c2
    refine ⟨vp_of (by omega) (by omega), fun hn => ⟨none, rfl, rfl, fun _ => why (Or.inr hn), fun w e => (by cases e)⟩, fun w5 hw5 => ⟨some w5, rfl, rfl, fun e => (by cases e), fun w e => ?_⟩⟩
    cases e
    refine h1 w5 (by omega) ?_ hw5
    unfold cX
    rw [if_pos (by omega), if_neg (by rw [hw5]; exact fun e => (by cases e))]
theorem pX12_noMan {G : jdG} {n : Nat} {Z : jdL} {J : jdJ} {K : Int32 → jdI → jdJ → Prop} {I : jdI} {t : Nat} {x1 : Int32} (ht : zModel Z t) (hW : WM 7 t I) (hK : ∀ (v : Int32) (I2 : jdI), WM 7 t I2 → Fr (fun a k => a = t + 17) I I2 → v.toInt = cM I t x1 → (cM I t x1 = 0 → 0 ≤ x1.toInt ∧ x1.toInt < 8) → K v I2 J) : Cl G mX12_noMan (n + 1) 0 0 [.ref (gb G + t), .int x1] Z I J (qi Z K) := by
  have n1 := tn_eq x1
  have e1 : (Int32.toInt64 x1).toInt = x1.toInt := Int32.toInt_toInt64 _
  have z0 : (0 : Int64).toInt = 0 := rfl
  have z7 : (7 : Int64).toInt = 7 := rfl
  have q1 : (1 : Int32).toInt = 1 := rfl
  have q0 : (0 : Int32).toInt = 0 := rfl
  refine eX12_noMan ht ?_
  refine sfX12_in trivial (fun v2 p2 => ⟨fun c2 => ?_, fun c2 => ?_⟩)
  · have c2 := i1 c2
    refine ⟨vp_of (by omega) (by omega), fun h1 => ⟨vp_of (by omega) (by omega), fun h0 => ?_, fun h0 => ?_⟩, fun h1 => ?_⟩
    · have h0 := i1 h0
      have h1 : ¬ (I (t + 1) (Int32.toNatClampNeg x1)).toInt = 1 := fun z => h1 (Int32.toInt_inj.mp (z.trans q1.symm))
      have e : cM I t x1 = 0 := by
        unfold cM
        rw [if_pos (by omega), if_neg h1, if_neg h0]
      exact hK 0 I hW Fr.rf (by rw [e]; rfl) (fun _ => by omega)
    · have h0 := i0 h0
      have e : cM I t x1 = -4 := by
        unfold cM
        rw [if_pos (by omega), if_neg (by omega), if_pos h0]
      exact sfX12_refuse ht (by decide) hW (by decide) (fun v I3 hW3 hF3 hp3 => hK v I3 hW3 hF3 (by rw [e]; exact hp3) (fun z => by omega))
    · have h1 : (I (t + 1) (Int32.toNatClampNeg x1)).toInt = 1 := by rw [h1]; rfl
      have e : cM I t x1 = -3 := by
        unfold cM
        rw [if_pos (by omega), if_pos h1]
      exact sfX12_refuse ht (by decide) hW (by decide) (fun v I3 hW3 hF3 hp3 => hK v I3 hW3 hF3 (by rw [e]; exact hp3) (fun z => by omega))
  · have c2 := i0 c2
    have e : cM I t x1 = -2 := if_neg (by omega)
    exact sfX12_refuse ht (by decide) hW (by decide) (fun v I3 hW3 hF3 hp3 => hK v I3 hW3 hF3 (by rw [e]; exact hp3) (fun z => by omega))
/-! a day in truth -/
def acqL (w : Tw) : List Int32 → Tw
  | [] => w
  | g :: L => acqL (acqT w g) L
theorem acqL_ok : ∀ (L : List Int32) (w : Tw), OKT w → OKT (acqL w L)
  | [], _, h => h
  | g :: L, w, h => acqL_ok L (acqT w g) (OKT_acq h)
def oDay (s : Sd) (c kd : Int) (a : Int32) : Int × Sd := if c = 0 then (((dyS s.1 kd a).1.length : Int), (acqL s.1 ((dyS s.1 kd a).1.map Prod.fst), s.2)) else (c, s)
theorem oDay_ok {s : Sd} {c kd : Int} {a : Int32} (h : OKT s.1) : OKT (oDay s c kd a).2.1 := by
  unfold oDay
  by_cases e : c = 0
  · rw [if_pos e]
    exact acqL_ok _ _ h
  · rw [if_neg e]
    exact h
theorem DX_at {I : jdI} {S : List (Int32 × Int32)} {y x : Int32} (h : DX I S y) (h0 : 0 ≤ x.toInt) (h1 : x.toInt < (S.length : Int)) : (S.map Prod.fst).drop x.toInt.toNat = I (20 + 1) (Int32.toNatClampNeg x) :: (S.map Prod.fst).drop (x.toInt.toNat + 1) := LiS_drop h.2.1 (by rw [List.length_map]; omega)
theorem pX11_day_27 {G : jdG} {n rc rs : Nat} {Z : jdL} {J : jdJ} {K : Int32 → jdI → jdJ → Prop} {I0 : jdI} {u2 : Nat} {x1 : Int32} {S : List (Int32 × Int32)} {y : Int32} {R : Tw} (hX : zX Z) (hS : S.length ≤ 7) (hK : ∀ (v : Int32) (I2 : jdI), WX I2 → Fr (fun a k => (a = 1 ∧ (k = 7 ∨ k = 8)) ∨ a = 4) I0 I2 → RX I2 1 R → v.toInt = (S.length : Int) → K v I2 J) : ∀ f : Nat, ∀ (I : jdI) (x3 : Int32) (w : Tw), WX I → Fr (fun a k => a = 4) I0 I → DX I S y → RX I 1 w → 0 ≤ x3.toInt → x3.toInt + (f : Int) = (S.length : Int) → acqL w ((S.map Prod.fst).drop x3.toInt.toNat) = R → Jd G mX11_day (jdFm G (qi Z K)) (n + 2) rc rs 27 [(0, .ref (gb G + 0)), (1, .int x1), (2, .ref (gb G + u2)), (3, .int x3)] [] Z I J := by
  intro f
  induction f with
  | zero =>
    intro I x3 w hW hF hD hw h3 hf hr
    have hl := hD.1
    rw [List.drop_eq_nil_of_le (by rw [List.length_map]; omega)] at hr
    have hr : w = R := hr
    subst hr
    have hwx := WX_f hW
    refine rX11_day_27 hX ⟨fun _ => ?_, fun hc => absurd (Int32.le_iff_toInt_le.mpr (by omega)) hc⟩
    have f0 : Fr (fun a k => a = 1 ∧ (k = 7 ∨ k = 8)) I (uI (uI I 1 7 ((I 1 7) + (I 20 4))) 1 8 ((I 1 8) + 1)) := Fr_uI (Fr_uI Fr.rf (by omega)) (by omega)
    have w1 : WX (uI I 1 7 ((I 1 7) + (I 20 4))) := WX_uI hW (by first | exact okXo (by decide) | (unfold okX; refine ⟨?_, ?_, ?_, ?_, ?_, ?_, ?_, ?_, ?_, ?_⟩ <;> intro h <;> omega))
    refine eX9_endDay (zX_o0 hX) ?_
    refine hK _ _ (WX_uI w1 (by first | exact okXo (by decide) | (unfold okX; refine ⟨?_, ?_, ?_, ?_, ?_, ?_, ?_, ?_, ?_, ?_⟩ <;> intro h <;> omega))) (Fr.tr (Fr.tr Fr.rf hF (by intro a k h; omega)) f0 (by intro a k h; omega)) (RX_fk hw (fun a k q => f0 a k (by omega))) ?_
    rw [f0 20 4 (by omega)]
    exact hl
  | succ f ih =>
    intro I x3 w hW hF hD hw h3 hf hr
    have q1 : (1 : Int32).toInt = 1 := rfl
    have q0 : (0 : Int32).toInt = 0 := rfl
    have hl := hD.1
    have hwx := WX_f hW
    have e3 := i32_add x3 1 (by omega) (by omega)
    have n3 := tn_eq x3
    rw [DX_at hD h3 (by omega)] at hr
    have hr : acqL (acqT w (I (20 + 1) (Int32.toNatClampNeg x3))) ((S.map Prod.fst).drop (x3.toInt.toNat + 1)) = R := hr
    rw [show x3.toInt.toNat + 1 = (x3 + 1).toInt.toNat by omega] at hr
    refine rX11_day_27 hX ⟨fun hc => by have := Int32.le_iff_toInt_le.mp hc; omega, fun _ => ?_⟩
    refine eX3_coachAt (zX_o4 hX) ⟨fun hc => by have := Int32.lt_iff_toInt_lt.mp hc; omega, fun _ => ⟨fun hc => by have := Int32.le_iff_toInt_le.mp hc; omega, fun _ => ⟨vp_of (by omega) (by omega), ?_⟩⟩⟩
    refine pX9_acquaint (zX_o0 hX) (Or.inl rfl) hW hw (fun v6 I3 hW3 hF3 hR3 _ => ?_)
    exact ih I3 (x3 + 1) _ hW3 (Fr.tr hF hF3 (by intro a k h; omega)) ⟨by rw [hF3 20 4 (by omega)]; exact hD.1, LiS_fr hD.2.1 hF3 (by intro k; omega), LiS_fr hD.2.2.1 hF3 (by intro k; omega), by rw [hF3 20 5 (by omega)]; exact hD.2.2.2⟩ hR3 (by omega) (by omega) hr
theorem dyS_len {w : Tw} {kd : Int} {a : Int32} {I : jdI} {y : Int32} (hW : WX I) (h : DX I (dyS w kd a).1 y) : (dyS w kd a).1.length ≤ 7 := by
  have hw := WX_f hW
  have := h.1
  omega
theorem pX11_day {G : jdG} {n : Nat} {Z : jdL} {J : jdJ} {K : Int32 → jdI → jdJ → Prop} {I : jdI} {s : Sd} {x1 : Int32} (hX : zX Z) (hM : zMen Z) (hA : zHi Z) (hW : WX I) (hs : TX I 1 s) (hk : OKT s.1) (hK : ∀ (v : Int32) (I2 : jdI), WX I2 → Fr (fun a k => (a = 1 ∧ (k = 7 ∨ k = 8)) ∨ a = 4 ∨ (13 ≤ a ∧ a ≤ 24) ∨ a = 28) I I2 → (v.toInt = (oDay s (cX Z I x1) (mk Z (Int32.toNatClampNeg x1)) (aX Z I x1)).1 ∧ TX I2 1 (oDay s (cX Z I x1) (mk Z (Int32.toNatClampNeg x1)) (aX Z I x1)).2) → K v I2 J) : Cl G mX11_day (n + 9) 0 0 [.ref (gb G + 0), .int x1] Z I J (qi Z K) := by
  have n1 := tn_eq x1
  refine eX11_day hX (pX_man hX hW (fun v I2 hc hW2 hF2 hv => hK v I2 hW2 (Fr.tr Fr.rf hF2 (by intro a k h; omega)) ?_) (fun w hx hc hw => ?_))
  · have e : oDay s (cX Z I x1) (mk Z (Int32.toNatClampNeg x1)) (aX Z I x1) = (cX Z I x1, s) := if_neg hc
    rw [e]
    exact ⟨hv, TX_fr hs hF2 (by intro a k h1 h2; omega)⟩
  · obtain ⟨ci, hci, hz⟩ := hM _ (by omega) w hw
    have hu := hA _ (by omega) w hw
    refine pX11_think hX hz hci (by omega) hW hs.1 hk (fun I2 hW2 hF2 hD2 => ?_)
    have e : oDay s (cX Z I x1) (mk Z (Int32.toNatClampNeg x1)) (aX Z I x1) = (((dyS s.1 (ckI (Z.1 w)) (I w 0)).1.length : Int), (acqL s.1 ((dyS s.1 (ckI (Z.1 w)) (I w 0)).1.map Prod.fst), s.2)) := by
      rw [mk_some hw, aX_some hw]
      exact if_pos hc
    refine pX11_day_27 (R := acqL s.1 ((dyS s.1 (ckI (Z.1 w)) (I w 0)).1.map Prod.fst)) hX (dyS_len hW2 hD2) (fun v I3 hW3 hF3 hR3 hv => ?_) (dyS s.1 (ckI (Z.1 w)) (I w 0)).1.length I2 0 s.1 hW2 Fr.rf hD2 (RX_fr hs.1 hF2 (by intro a k h1 h2; omega)) (by decide) (by show (0 : Int) + _ = _; omega) rfl
    refine hK v I3 hW3 (Fr.tr (Fr.tr Fr.rf hF2 (by intro a k h; omega)) hF3 (by intro a k h; omega)) ?_
    rw [e]
    exact ⟨hv, hR3, by rw [hF3 1 6 (by omega), hF2 1 6 (by omega)]; exact hs.2⟩
theorem pX12_dayOf_8 {G : jdG} {n rc rs : Nat} {Z : jdL} {J : jdJ} {K : Int32 → jdI → jdJ → Prop} {I0 : jdI} {t : Nat} {x1 x2 : Int32} {S : List (Int32 × Int32)} {R : Tw} (ht : zModel Z t) (hS : S.length ≤ 7) (hK : ∀ (v : Int32) (I2 : jdI), WM 7 t I2 → Fr (fun a k => t + 21 ≤ a ∧ a ≤ t + 28) I0 I2 → RM I2 t R → v.toInt = (S.length : Int) → K v I2 J) : ∀ f : Nat, ∀ (I : jdI) (x3 : Int32) (w : Tw), WM 7 t I → Fr (fun a k => t + 21 ≤ a ∧ a ≤ t + 28) I0 I → DMd I t S → RM I t w → 0 ≤ x3.toInt → x3.toInt + (f : Int) = (S.length : Int) → acqL w ((S.map Prod.fst).drop x3.toInt.toNat) = R → Jd G mX12_dayOf (jdFm G (qi Z K)) (n + 2) rc rs 8 [(0, .ref (gb G + t)), (1, .int x1), (2, .int x2), (3, .int x3)] [] Z I J := by
  intro f
  induction f with
  | zero =>
    intro I x3 w hW hF hD hw h3 hf hr
    have hl := hD.1
    rw [List.drop_eq_nil_of_le (by rw [List.length_map]; omega)] at hr
    have hr : w = R := hr
    subst hr
    exact rX12_dayOf_8 ht ⟨fun _ => hK _ I hW hF hw hl, fun hc => absurd (Int32.le_iff_toInt_le.mpr (by omega)) hc⟩
  | succ f ih =>
    intro I x3 w hW hF hD hw h3 hf hr
    have q1 : (1 : Int32).toInt = 1 := rfl
    have hl := hD.1
    have e3 := i32_add x3 1 (by omega) (by omega)
    have n3 := tn_eq x3
    have ed : (S.map Prod.fst).drop x3.toInt.toNat = I (t + 32) (Int32.toNatClampNeg x3) :: (S.map Prod.fst).drop (x3.toInt.toNat + 1) := LiS_drop hD.2 (by rw [List.length_map]; omega)
    rw [ed] at hr
    have hr : acqL (acqT w (I (t + 32) (Int32.toNatClampNeg x3))) ((S.map Prod.fst).drop (x3.toInt.toNat + 1)) = R := hr
    rw [show x3.toInt.toNat + 1 = (x3 + 1).toInt.toNat by omega] at hr
    refine rX12_dayOf_8 ht ⟨fun hc => by have := Int32.le_iff_toInt_le.mp hc; omega, fun _ => ⟨vp_of (by omega) (by omega), ?_⟩⟩
    refine pX12_meets ht hW hw (fun v6 I3 hW3 hF3 hR3 _ => ?_)
    exact ih I3 (x3 + 1) _ hW3 (Fr.tr hF hF3 (fun _ _ h => h)) (DMd_fr hD hF3 (by omega) (by intro k; omega)) hR3 (by omega) (by omega) hr
theorem DMd_len {t : Nat} {I : jdI} {S : List (Int32 × Int32)} (hW : WM 7 t I) (h : DMd I t S) : S.length ≤ 7 := by
  have hw := WM_f hW
  have := h.1
  omega
theorem pX12_dayOf {G : jdG} {n : Nat} {Z : jdL} {J : jdJ} {K : Int32 → jdI → jdJ → Prop} {I : jdI} {t : Nat} {w : Tw} {x1 x2 : Int32} (ht : zModel Z t) (hW : WM 7 t I) (hw : RM I t w) (hk : OKT w) (hK : ∀ (v : Int32) (I2 : jdI), WM 7 t I2 → Fr (fun a k => (a = t ∧ (k = 30 ∨ k = 33 ∨ k = 34)) ∨ (t + 30 ≤ a ∧ a ≤ t + 33) ∨ (t + 21 ≤ a ∧ a ≤ t + 28)) I I2 → RM I2 t (acqL w ((dyS w x1.toInt x2).1.map Prod.fst)) → v.toInt = ((dyS w x1.toInt x2).1.length : Int) → K v I2 J) : Cl G mX12_dayOf (n + 260) 0 0 [.ref (gb G + t), .int x1, .int x2] Z I J (qi Z K) := by
  have hwm := WM_f hW
  have h1 := hw.1
  refine eX12_dayOf ht ?_
  refine pX12_goesT ht hW hw hk (fun I1 hW1 hF1 hD1 _ _ => ?_)
  exact pX12_dayOf_8 (R := acqL w ((dyS w x1.toInt x2).1.map Prod.fst)) ht (DMd_len hW1 hD1) (fun v I2 hW2 hF2 hR2 hv => hK v I2 hW2 (Fr.tr (Fr.tr Fr.rf hF1 (by intro a k h; omega)) hF2 (by intro a k h; omega)) hR2 hv) (dyS w x1.toInt x2).1.length I1 0 w hW1 Fr.rf hD1 (RM_fr hw (by omega) hF1 (by omega) (by omega) (by omega) (by intro a k h1 h2 h3; omega)) (by decide) (by show (0 : Int) + _ = _; omega) rfl
theorem pX12_day {G : jdG} {n : Nat} {Z : jdL} {J : jdJ} {K : Int32 → jdI → jdJ → Prop} {I : jdI} {t : Nat} {s : Sd} {x1 : Int32} (ht : zModel Z t) (hW : WM 7 t I) (hs : TM I t s) (hk : OKT s.1) (hK : ∀ (v : Int32) (I2 : jdI), WM 7 t I2 → Fr (fun a k => (a = t ∧ (k = 30 ∨ k = 33 ∨ k = 34)) ∨ (t + 30 ≤ a ∧ a ≤ t + 33) ∨ (t + 21 ≤ a ∧ a ≤ t + 28) ∨ a = t + 17 ∨ (a = t ∧ (k = 16 ∨ k = 17))) I I2 → (v.toInt = (oDay s (cM I t x1) (I (t + 14) (Int32.toNatClampNeg x1)).toInt (I (t + 15) (Int32.toNatClampNeg x1))).1 ∧ TM I2 t (oDay s (cM I t x1) (I (t + 14) (Int32.toNatClampNeg x1)).toInt (I (t + 15) (Int32.toNatClampNeg x1))).2) → K v I2 J) : Cl G mX12_day (n + 261) 0 0 [.ref (gb G + t), .int x1] Z I J (qi Z K) := by
  have n1 := tn_eq x1
  have hwm := WM_f hW
  have h1 := hs.1.1
  refine eX12_day ht (pX12_noMan ht hW (fun v2 I1 hW1 hF1 hv hr => ⟨fun c2 => ?_, fun c2 => ?_⟩))
  · have c2 := i0 c2
    have hr := hr (by omega)
    have hs1 := TM_fr hs (show s.1.1 ≤ 8 by omega) hF1 (by omega) (by omega) (by omega) (by omega) (by intro a k h1 h2 h3; omega)
    have e : oDay s (cM I t x1) (I (t + 14) (Int32.toNatClampNeg x1)).toInt (I (t + 15) (Int32.toNatClampNeg x1)) = (((dyS s.1 (I (t + 14) (Int32.toNatClampNeg x1)).toInt (I (t + 15) (Int32.toNatClampNeg x1))).1.length : Int), (acqL s.1 ((dyS s.1 (I (t + 14) (Int32.toNatClampNeg x1)).toInt (I (t + 15) (Int32.toNatClampNeg x1))).1.map Prod.fst), s.2)) := if_pos (by omega)
    refine ⟨vp_of (by omega) (by omega), vp_of (by omega) (by omega), ?_⟩
    rw [hF1 (t + 14) _ (by omega), hF1 (t + 15) _ (by omega)]
    refine pX12_dayOf ht hW1 hs1.1 hk (fun v6 I5 hW5 hF5 hR5 hv5 => ?_)
    have hw5 := WM_f hW5
    have f0 : Fr (fun a k => a = t ∧ (k = 16 ∨ k = 17)) I5 (uI (uI I5 t 16 ((I5 t 16) + v6)) t 17 ((I5 t 17) + 1)) := Fr_uI (Fr_uI Fr.rf (by omega)) (by omega)
    have w1 : WM 7 t (uI I5 t 16 ((I5 t 16) + v6)) := WM_uI hW5 (by first | exact okMo (by decide) (by decide) (by decide) (by decide) (by decide) | exact okMf (by decide) (by decide) (by decide) (by decide) (by decide) (by decide) (by decide) (by decide) | exact okM30 (by omega) | exact okM42 (by omega) | exact okM33 (by omega) | exact okM10 (by omega) | exact okM8 (by omega) | exact okM22 (by omega) | exact okM24 (by omega) | exact okM14 (by omega) | exact okMa31 (by omega) | exact okMa35 (by omega) | exact okMa36 (by omega) | exact okMa3 (by omega) | exact okMr (by omega) | (unfold okM; refine ⟨?_, ?_, ?_, ?_, ?_, ?_, ?_, ?_, ?_, ?_, ?_, ?_⟩ <;> intro h <;> omega))
    have hr5 := hR5.1
    have hR6 := RM_fr hR5 (by omega) f0 (by omega) (by omega) (by omega) (by intro a k h1 h2 h3; omega)
    refine hK v6 _ (WM_uI w1 (by first | exact okMo (by decide) (by decide) (by decide) (by decide) (by decide) | exact okMf (by decide) (by decide) (by decide) (by decide) (by decide) (by decide) (by decide) (by decide) | exact okM30 (by omega) | exact okM42 (by omega) | exact okM33 (by omega) | exact okM10 (by omega) | exact okM8 (by omega) | exact okM22 (by omega) | exact okM24 (by omega) | exact okM14 (by omega) | exact okMa31 (by omega) | exact okMa35 (by omega) | exact okMa36 (by omega) | exact okMa3 (by omega) | exact okMr (by omega) | (unfold okM; refine ⟨?_, ?_, ?_, ?_, ?_, ?_, ?_, ?_, ?_, ?_, ?_, ?_⟩ <;> intro h <;> omega))) (Fr.tr (Fr.tr (Fr.tr Fr.rf hF1 (by intro a k h; omega)) hF5 (by intro a k h; omega)) f0 (by intro a k h; omega)) ?_
    rw [e]
    exact ⟨hv5, hR6, by rw [f0 t 19 (by omega), hF5 t 19 (by omega)]; exact hs1.2⟩
  · have c2 := i1 c2
    have e : oDay s (cM I t x1) (I (t + 14) (Int32.toNatClampNeg x1)).toInt (I (t + 15) (Int32.toNatClampNeg x1)) = (cM I t x1, s) := if_neg (by omega)
    refine hK v2 I1 hW1 (Fr.tr Fr.rf hF1 (by intro a k h; omega)) ?_
    rw [e]
    exact ⟨hv, TM_fr hs (show s.1.1 ≤ 8 by omega) hF1 (by omega) (by omega) (by omega) (by omega) (by intro a k h1 h2 h3; omega)⟩
/-! who is in the list of groups; told days -/
theorem okN_c {rel : Nat → Nat → Bool} {a b : Int32} {p j : Nat} (h : ∀ i, i < j → bt a i = bt b i) : okN rel a p j = okN rel b p j := by
  unfold okN
  exact decide_eq_decide.mpr ⟨fun q i hi hb => q i hi (by rw [h i hi]; exact hb), fun q i hi hb => q i hi (by rw [← h i hi]; exact hb)⟩
/-- how many of p, p + 1 .. (k of them) are in a set -/
def cdR (g : Int32) : Nat → Nat → Nat
  | _, 0 => 0
  | p, k + 1 => (if bt g p = true then 1 else 0) + cdR g (p + 1) k
theorem cdR_z {g : Int32} : ∀ k p, (∀ i, p ≤ i → i < p + k → bt g i = false) → cdR g p k = 0
  | 0, _, _ => rfl
  | k + 1, p, h => by
    show (if bt g p = true then 1 else 0) + cdR g (p + 1) k = 0
    rw [cdR_z k (p + 1) (fun i h1 h2 => h i (by omega) (by omega)), h p (by omega) (by omega)]
    rfl
theorem cdR_n {g : Int32} : ∀ k p, cdR g p k = 0 → ∀ i, p ≤ i → i < p + k → bt g i = false
  | 0, p, _, i, h1, h2 => by omega
  | k + 1, p, h, i, h1, h2 => by
    have h : (if bt g p = true then 1 else 0) + cdR g (p + 1) k = 0 := h
    by_cases c : i = p
    · subst c
      cases e : bt g i with
      | false => rfl
      | true =>
        rw [e] at h
        have e2 : (if true = true then 1 else 0) = 1 := rfl
        omega
    · exact cdR_n k (p + 1) (by omega) i (by omega) (by omega)
theorem cdN_cdR (g : Int32) : ∀ k p, cdN g (p + k) = cdN g p + cdR g p k
  | 0, _ => rfl
  | k + 1, p => by
    have ih := cdN_cdR g k (p + 1)
    have e : cdN g (p + 1) = cdN g p + (if bt g p = true then 1 else 0) := rfl
    show cdN g (p + (k + 1)) = cdN g p + ((if bt g p = true then 1 else 0) + cdR g (p + 1) k)
    rw [show p + (k + 1) = p + 1 + k by omega, ih, e]
    omega
theorem DL_mem (rel : Nat → Nat → Bool) {g : Int32} (hg : 0 ≤ g.toInt ∧ g.toInt ≤ 255) : ∀ (k p m : Nat) (s : Int32), p + k ≤ 8 → 0 ≤ s.toInt ∧ s.toInt ≤ 255 → (∀ i, p ≤ i → i < 8 → bt s i = false) → (g ∈ DL rel k p m s ↔ (∀ i, i < p → bt g i = bt s i) ∧ (∀ i, p + k ≤ i → i < 8 → bt g i = false) ∧ cdR g p k = m ∧ ∀ q, p ≤ q → q < p + k → bt g q = true → okN rel g q q = true)
  | k, p, 0, s, hp, hs, hz => by
    rw [DL_m0, List.mem_singleton]
    refine ⟨fun e => ?_, fun h => ?_⟩
    · rw [e]
      exact ⟨fun i hi => rfl, fun i h1 h2 => hz i (by omega) h2, cdR_z k p (fun i h1 h2 => hz i h1 (by omega)), fun q h1 h2 hb => absurd hb (by rw [hz q h1 (by omega)]; exact fun e => (by cases e))⟩
    · obtain ⟨h1, h2, h3, _⟩ := h
      refine bt_ext ⟨hg.1, by omega⟩ ⟨hs.1, by omega⟩ (fun i hi => ?_)
      by_cases c : i < p
      · exact h1 i c
      · rw [hz i (by omega) hi]
        by_cases d : i < p + k
        · exact cdR_n k p h3 i (by omega) d
        · exact h2 i (by omega) hi
  | 0, p, m + 1, s, hp, hs, hz => by
    rw [DL_k0]
    refine ⟨fun e => (by cases e), fun h => ?_⟩
    have h3 : 0 = m + 1 := h.2.2.1
    omega
  | k + 1, p, m + 1, s, hp, hs, hz => by
    have ih2 := DL_mem rel hg k (p + 1) (m + 1) s (by omega) hs (fun i h1 h2 => hz i (by omega) h2)
    have zp : bt s p = false := hz p (Nat.le_refl _) (by omega)
    have er : cdR g p (k + 1) = (if bt g p = true then 1 else 0) + cdR g (p + 1) k := rfl
    have lo : ∀ i, i < p → bt (s ||| ((1 : Int32) <<< (Int32.ofNat p &&& 31))) i = bt s i := fun i hi => by
      rw [bt_or _ _ _ (by omega), show bt ((1 : Int32) <<< (Int32.ofNat p &&& 31)) i = decide (i = p) from bt_1a ⟨p, by omega⟩ ⟨i, by omega⟩, decide_eq_false (by omega), Bool.or_false]
    have at_p : bt (s ||| ((1 : Int32) <<< (Int32.ofNat p &&& 31))) p = true := by
      rw [bt_or _ _ _ (by omega), show bt ((1 : Int32) <<< (Int32.ofNat p &&& 31)) p = decide (p = p) from bt_1a ⟨p, by omega⟩ ⟨p, by omega⟩, decide_eq_true rfl, Bool.or_true]
    have hi : ∀ i, p + 1 ≤ i → i < 8 → bt (s ||| ((1 : Int32) <<< (Int32.ofNat p &&& 31))) i = false := fun i h1 h2 => by
      rw [bt_or _ _ _ (by omega), show bt ((1 : Int32) <<< (Int32.ofNat p &&& 31)) i = decide (i = p) from bt_1a ⟨p, by omega⟩ ⟨i, by omega⟩, decide_eq_false (by omega), Bool.or_false]
      exact hz i (by omega) h2
    have ih1 := DL_mem rel hg k (p + 1) m (s ||| ((1 : Int32) <<< (Int32.ofNat p &&& 31))) (by omega) (or_r hs (by omega)) hi
    have no : bt g p = false → ((∀ i, i < p + 1 → bt g i = bt s i) ∧ (∀ i, p + 1 + k ≤ i → i < 8 → bt g i = false) ∧ cdR g (p + 1) k = m + 1 ∧ (∀ q, p + 1 ≤ q → q < p + 1 + k → bt g q = true → okN rel g q q = true) ↔ (∀ i, i < p → bt g i = bt s i) ∧ (∀ i, p + (k + 1) ≤ i → i < 8 → bt g i = false) ∧ cdR g p (k + 1) = m + 1 ∧ ∀ q, p ≤ q → q < p + (k + 1) → bt g q = true → okN rel g q q = true) := fun hb => by
      rw [er, hb]
      refine ⟨fun h => ⟨fun i hi => h.1 i (by omega), fun i h1 h2 => h.2.1 i (by omega) h2, by have e0 : (if false = true then 1 else 0) = 0 := rfl; rw [h.2.2.1]; omega, fun q h1 h2 h3 => ?_⟩, fun h => ⟨fun i hi => ?_, fun i h1 h2 => h.2.1 i (by omega) h2, by have := h.2.2.1; have e0 : (if false = true then 1 else 0) = 0 := rfl; omega, fun q h1 h2 h3 => h.2.2.2 q (by omega) (by omega) h3⟩⟩
      · by_cases c : q = p
        · rw [c, hb] at h3
          cases h3
        · exact h.2.2.2 q (by omega) (by omega) h3
      · by_cases c : i = p
        · rw [c, hb, zp]
        · exact h.1 i (by omega)
    by_cases c : okN rel s p p = true
    · rw [DL_y c, List.mem_append, ih1, ih2]
      cases hb : bt g p with
      | false =>
        rw [← no hb]
        refine ⟨fun h => h.elim (fun h => ?_) id, Or.inr⟩
        have := h.1 p (by omega)
        rw [hb, at_p] at this
        cases this
      | true =>
        rw [er, hb]
        have e1 : (if true = true then 1 else 0) = 1 := rfl
        refine ⟨fun h => h.elim (fun h => ⟨fun i hi => (h.1 i (by omega)).trans (lo i hi), fun i h1 h2 => h.2.1 i (by omega) h2, by rw [h.2.2.1]; omega, fun q h1 h2 h3 => ?_⟩) (fun h => ?_), fun h => Or.inl ⟨fun i hi => ?_, fun i h1 h2 => h.2.1 i (by omega) h2, by have := h.2.2.1; omega, fun q h1 h2 h3 => h.2.2.2 q (by omega) (by omega) h3⟩⟩
        · by_cases d : q = p
          · rw [d, okN_c (b := s) (fun i hi => (h.1 i (by omega)).trans (lo i hi))]
            exact c
          · exact h.2.2.2 q (by omega) (by omega) h3
        · have := h.1 p (by omega)
          rw [hb, zp] at this
          cases this
        · by_cases d : i = p
          · rw [d, hb, at_p]
          · rw [lo i (by omega)]
            exact h.1 i (by omega)
    · rw [DL_n c, ih2]
      cases hb : bt g p with
      | false => rw [← no hb]
      | true =>
        refine ⟨fun h => ?_, fun h => ?_⟩
        · have := h.1 p (by omega)
          rw [hb, zp] at this
          cases this
        · have := h.2.2.2 p (Nat.le_refl _) (by omega) hb
          rw [okN_c (b := s) (fun i hi => h.1 i hi)] at this
          exact absurd this c
/-- a set is a group -/
def IG (rel : Nat → Nat → Bool) (N st : Nat) (g : Int32) : Prop := cd g = st ∧ ∀ p, p < N → bt g p = true → okN rel g p p = true
theorem IG_mem (rel : Nat → Nat → Bool) {N st : Nat} {g : Int32} (hN : N ≤ 8) (h0 : 0 ≤ g.toInt) (h1 : g.toInt < 2 ^ N) : g ∈ DL rel N 0 st 0 ↔ IG rel N st g := by
  have hp2 := pw2 ⟨N, by omega⟩
  have hp2 : 1 ≤ (2 : Int) ^ N ∧ (2 : Int) ^ N ≤ 256 := hp2
  have e := DL_mem rel (g := g) ⟨h0, by omega⟩ N 0 st 0 (by omega) (by decide) (fun i _ hi => bt_ze i (by omega))
  have hi : ∀ i, N ≤ i → i < 8 → bt g i = false := fun i h2 h3 => bt_hi2 h0 h1 h2 (by omega)
  have e8 : cd g = cdN g N + cdR g N (8 - N) := by
    have e8 := cdN_cdR g (8 - N) N
    rw [show N + (8 - N) = 8 by omega] at e8
    exact e8
  have eN := cdN_cdR g N 0
  have e0 : cdN g 0 = 0 := rfl
  rw [cdR_z (8 - N) N (fun i h2 h3 => hi i h2 (by omega))] at e8
  rw [Nat.zero_add] at eN
  rw [e]
  refine ⟨fun h => ⟨by have := h.2.2.1; omega, fun p hp hb => h.2.2.2 p (Nat.zero_le _) (by omega) hb⟩, fun h => ⟨fun i hi2 => absurd hi2 (Nat.not_lt_zero _), fun i h2 h3 => hi i (by omega) h3, by have := h.1; omega, fun q _ h2 hb => h.2 q (by omega) hb⟩⟩
theorem bs_cd (x : Int32) : ∀ k, k ≤ 8 → (bs x k).toInt = (cdN x k : Int)
  | 0, _ => rfl
  | k + 1, hk => by
    have ih := bs_cd x k (by omega)
    have hr := bs_r x k (by omega)
    have hki : (Int32.ofNat k).toInt = (k : Int) := ofN_i (by omega)
    have b := bt_iff x (x := Int32.ofNat k) (by omega)
    rw [show (Int32.ofNat k).toInt.toNat = k by omega] at b
    have r := i32_and (x >>> (Int32.ofNat k &&& 31)) 1 (by decide)
    have q1 : (1 : Int32).toInt = 1 := rfl
    have q0 : (0 : Int32).toInt = 0 := rfl
    have e := i32_add (bs x k) ((x >>> (Int32.ofNat k &&& 31)) &&& 1) (by omega) (by omega)
    show (bs x k + ((x >>> (Int32.ofNat k &&& 31)) &&& 1)).toInt = ((cdN x k + (if bt x k = true then 1 else 0) : Nat) : Int)
    rw [e, ih]
    by_cases c : ((x >>> (Int32.ofNat k &&& 31)) &&& 1) = 0
    · rw [if_neg (fun z => b.mp z c), c]
      omega
    · have c2 : ¬ ((x >>> (Int32.ofNat k &&& 31)) &&& 1).toInt = 0 := fun z => c (Int32.toInt_inj.mp (z.trans q0.symm))
      rw [if_pos (b.mpr c)]
      omega
theorem pX8_isOne_2 {G : jdG} {n rc rs : Nat} {Z : jdL} {J : jdJ} {K : Int32 → jdI → jdJ → Prop} {I : jdI} {L : List Int32} {x1 : Int32} (ht : zTies Z 13) (hc : (I 13 8).toInt = (L.length : Int)) (h70 : L.length ≤ 70) (hL : LiS I (13 + 3) L) (hK : ∀ v : Int32, ((v.toInt = 1 ∧ x1 ∈ L) ∨ (v.toInt = 0 ∧ ¬ x1 ∈ L)) → K v I J) : ∀ f : Nat, ∀ x2 : Int32, 0 ≤ x2.toInt → x2.toInt + (f : Int) = (L.length : Int) → (x1 ∈ L ↔ x1 ∈ L.drop x2.toInt.toNat) → Jd G mX8_isOne (jdFm G (qi Z K)) n rc rs 2 [(0, .ref (gb G + 13)), (1, .int x1), (2, .int x2)] [] Z I J := by
  intro f
  induction f with
  | zero =>
    intro x2 h2 hf hm
    rw [drop_end (show L.length ≤ x2.toInt.toNat by omega)] at hm
    exact rX8_isOne_2 ht ⟨fun _ => hK 0 (Or.inr ⟨rfl, fun z => by cases hm.mp z⟩), fun hc2 => absurd (Int32.le_iff_toInt_le.mpr (by omega)) hc2⟩
  | succ f ih =>
    intro x2 h2 hf hm
    have q1 : (1 : Int32).toInt = 1 := rfl
    have e2 := i32_add x2 1 (by omega) (by omega)
    have n2 := tn_eq x2
    have ed := LiS_drop hL (k := x2.toInt.toNat) (by omega)
    rw [ed, List.mem_cons] at hm
    refine rX8_isOne_2 ht ⟨fun hc2 => by have := Int32.le_iff_toInt_le.mp hc2; omega, fun _ => ⟨vp_of (by omega) (by omega), fun hv => ?_, fun hv => ?_⟩⟩
    · refine ih (x2 + 1) (by omega) (by omega) ?_
      rw [show (x2 + 1).toInt.toNat = x2.toInt.toNat + 1 by omega]
      exact hm.trans ⟨fun h => h.elim (fun e => absurd e.symm hv) id, Or.inr⟩
    · exact hK 1 (Or.inl ⟨rfl, hm.mpr (Or.inl hv.symm)⟩)
theorem pX8_isOne {G : jdG} {n : Nat} {Z : jdL} {J : jdJ} {K : Int32 → jdI → jdJ → Prop} {I : jdI} {L : List Int32} {x1 : Int32} (ht : zTies Z 13) (hc : (I 13 8).toInt = (L.length : Int)) (h70 : L.length ≤ 70) (hL : LiS I (13 + 3) L) (hK : ∀ v : Int32, ((v.toInt = 1 ∧ x1 ∈ L) ∨ (v.toInt = 0 ∧ ¬ x1 ∈ L)) → K v I J) : Cl G mX8_isOne n 0 0 [.ref (gb G + 13), .int x1] Z I J (qi Z K) :=
  eX8_isOne ht (pX8_isOne_2 ht hc h70 hL hK L.length 0 (by decide) (by show (0 : Int) + _ = _; omega) Iff.rfl)
theorem pX12_isGroupNow_l {G : jdG} {n rc rs : Nat} {Z : jdL} {J : jdJ} {K : Int32 → jdI → jdJ → Prop} {I : jdI} {t N st : Nat} {rel : Nat → Nat → Bool} {x1 : Int32} (ht : zModel Z t) (hg : GM I t N st rel) (hN : N ≤ 7) (hcd : cd x1 = st) (hK : ∀ v : Int32, ((v.toInt = 1 ∧ IG rel N st x1) ∨ (v.toInt = 0 ∧ ¬ IG rel N st x1)) → K v I J) : ∀ m : Nat,
    (∀ x2 : Int32, 0 ≤ x2.toInt → x2.toInt ≤ (N : Int) → (∀ p : Nat, (p : Int) < x2.toInt → bt x1 p = true → okN rel x1 p p = true) → (8 - x2.toInt) * 10 < (m : Int) → Jd G mX12_isGroupNow (jdFm G (qi Z K)) (n + 1) rc rs 15 [(0, .ref (gb G + t)), (1, .int x1), (2, .int x2)] [] Z I J) ∧
    (∀ x2 x3 : Int32, 0 ≤ x2.toInt → x2.toInt < (N : Int) → 0 ≤ x3.toInt → x3.toInt ≤ x2.toInt → (∀ p : Nat, (p : Int) < x2.toInt → bt x1 p = true → okN rel x1 p p = true) → (bt x1 x2.toInt.toNat = true → okN rel x1 x2.toInt.toNat x3.toInt.toNat = true) → (8 - x2.toInt) * 10 - 1 - x3.toInt < (m : Int) → Jd G mX12_isGroupNow (jdFm G (qi Z K)) (n + 1) rc rs 25 [(0, .ref (gb G + t)), (1, .int x1), (2, .int x2), (3, .int x3)] [] Z I J) := by
  have h10 := hg.1
  intro m
  induction m with
  | zero =>
    refine ⟨fun x2 a1 a2 a3 hm => ?_, fun x2 x3 a1 a2 a3 a4 a5 a6 hm => ?_⟩
    · have hm : (8 - x2.toInt) * 10 < 0 := hm
      omega
    · have hm : (8 - x2.toInt) * 10 - 1 - x3.toInt < 0 := hm
      omega
  | succ m ih =>
    have q1 : (1 : Int32).toInt = 1 := rfl
    have q0 : (0 : Int32).toInt = 0 := rfl
    refine ⟨fun x2 a1 a2 a3 hm => ?_, fun x2 x3 a1 a2 a3 a4 a5 a6 hm => ?_⟩
    · refine rX12_isGroupNow_15 ht ⟨fun hc => ?_, fun hc => ?_⟩
      · have hc := Int32.le_iff_toInt_le.mp hc
        exact hK 1 (Or.inl ⟨rfl, hcd, fun p hp hb => a3 p (by omega) hb⟩)
      · have hc := mt Int32.le_iff_toInt_le.mpr hc
        exact ih.2 x2 0 a1 (by omega) (by decide) a1 a3 (fun _ => okN_0 rel x1 _) (by show _ - 1 - (0 : Int) < _; omega)
    · have e2 := i32_add x2 1 (by omega) (by omega)
      have e3 := i32_add x3 1 (by omega) (by omega)
      have n2 := tn_eq x2
      have n3 := tn_eq x3
      have b2 := bt_iff x1 (x := x2) a1
      have b3 := bt_iff x1 (x := x3) a3
      refine rX12_isGroupNow_25 ht ⟨fun hc => ?_, fun hc => ?_⟩
      · have hc := Int32.le_iff_toInt_le.mp hc
        refine ih.1 (x2 + 1) (by omega) (by omega) (fun p hp hb => ?_) (by omega)
        by_cases c : (p : Int) < x2.toInt
        · exact a5 p c hb
        · have ep : p = x2.toInt.toNat := by omega
          rw [ep] at hb ⊢
          have := a6 hb
          rw [show x3.toInt.toNat = x2.toInt.toNat by omega] at this
          exact this
      · have hc := mt Int32.le_iff_toInt_le.mpr hc
        have go : ∀ _ : (bt x1 x2.toInt.toNat = true → bt x1 x3.toInt.toNat = true → rel x2.toInt.toNat x3.toInt.toNat = true), Jd G mX12_isGroupNow (jdFm G (qi Z K)) (n + 1) rc rs 25 [(0, .ref (gb G + t)), (1, .int x1), (2, .int x2), (3, .int (x3 + 1))] [] Z I J := fun hr => by
          refine ih.2 x2 (x3 + 1) a1 a2 (by omega) (by omega) a5 (fun hb => ?_) (by omega)
          rw [show (x3 + 1).toInt.toNat = x3.toInt.toNat + 1 by omega, okN_s, a6 hb, Bool.true_and]
          cases hb3 : bt x1 x3.toInt.toNat with
          | false => rfl
          | true => rw [hr hb hb3]; rfl
        refine sfX12_has trivial (fun v2 p2 => ⟨fun c2 => ?_, fun c2 => ?_⟩)
        · have c2 := i0 c2
          exact go (fun z => absurd (Int32.toInt_inj.mp (show _ = (0 : Int32).toInt by omega)) (b2.mp z))
        · have c2 := i1 c2
          have hb2 : bt x1 x2.toInt.toNat = true := b2.mpr (fun q => by rw [q] at p2; omega)
          refine sfX12_has trivial (fun v4 p4 => ⟨fun c4 => ?_, fun c4 => ?_⟩)
          · have c4 := i0 c4
            exact go (fun _ z => absurd (Int32.toInt_inj.mp (show _ = (0 : Int32).toInt by omega)) (b3.mp z))
          · have c4 := i1 c4
            have hb3 : bt x1 x3.toInt.toNat = true := b3.mpr (fun q => by rw [q] at p4; omega)
            have hrel := hg.2.2 x2.toInt.toNat x3.toInt.toNat (by omega) (by omega) (by omega)
            refine ⟨vp_of (by omega) (by omega), vp_of (by omega) (by omega), fun hv => go (fun _ _ => hrel.mp hv), fun hv => ?_⟩
            refine hK 0 (Or.inr ⟨rfl, fun z => hv (hrel.mpr ?_)⟩)
            have := z.2 x2.toInt.toNat (by omega) hb2
            exact of_decide_eq_true this x3.toInt.toNat (by omega) hb3
theorem pX12_isGroupNow {G : jdG} {n : Nat} {Z : jdL} {J : jdJ} {K : Int32 → jdI → jdJ → Prop} {I : jdI} {t N st : Nat} {rel : Nat → Nat → Bool} {x1 : Int32} (ht : zModel Z t) (hg : GM I t N st rel) (hN : N ≤ 7) (hK : ∀ v : Int32, ((v.toInt = 1 ∧ IG rel N st x1) ∨ (v.toInt = 0 ∧ ¬ IG rel N st x1)) → K v I J) : Cl G mX12_isGroupNow (n + 1) 0 0 [.ref (gb G + t), .int x1] Z I J (qi Z K) := by
  have h14 := hg.2.1
  refine eX12_isGroupNow ht ?_
  refine sfX12_bits trivial (fun v2 p2 => ?_)
  have e8 : (bs x1 8).toInt = (cd x1 : Int) := bs_cd x1 8 (Nat.le_refl _)
  rw [p2]
  refine ⟨fun c => ?_, fun c => ?_⟩
  · have c := congrArg Int32.toInt c
    exact (pX12_isGroupNow_l ht hg hN (by omega) hK 100).1 0 (by decide) (by show (0 : Int) ≤ _; omega) (fun p hp => by have : (p : Int) < 0 := hp; omega) (by decide)
  · have c : ¬ (bs x1 8).toInt = (I t 14).toInt := fun z => c (Int32.toInt_inj.mp z)
    exact hK 0 (Or.inr ⟨rfl, fun z => by have := z.1; omega⟩)
/-! told days -/
/-- the first wrong coach of a told day, or -1 -/
def wrg (L : List Int32) (N : Nat) (r : Nat → Int64) : Nat → Nat → Int32 → Int
  | 0, _, _ => -1
  | f + 1, i, ro => if (0 ≤ (r i).toInt ∧ (r i).toInt < 2 ^ N) ∧ Int64.toInt32 (r i) ∈ L ∧ (Int64.toInt32 (r i) &&& ro) = 0 then wrg L N r f (i + 1) (ro ||| Int64.toInt32 (r i)) else (i : Int)
theorem wrg_y {L : List Int32} {N : Nat} {r : Nat → Int64} {f i : Nat} {ro : Int32} (h : (0 ≤ (r i).toInt ∧ (r i).toInt < 2 ^ N) ∧ Int64.toInt32 (r i) ∈ L ∧ (Int64.toInt32 (r i) &&& ro) = 0) : wrg L N r (f + 1) i ro = wrg L N r f (i + 1) (ro ||| Int64.toInt32 (r i)) := if_pos h
theorem wrg_n {L : List Int32} {N : Nat} {r : Nat → Int64} {f i : Nat} {ro : Int32} (h : ¬ ((0 ≤ (r i).toInt ∧ (r i).toInt < 2 ^ N) ∧ Int64.toInt32 (r i) ∈ L ∧ (Int64.toInt32 (r i) &&& ro) = 0)) : wrg L N r (f + 1) i ro = (i : Int) := if_neg h
/-- all who rode -/
def roN (r : Nat → Int64) : Nat → Nat → Int32 → Int32
  | 0, _, ro => ro
  | f + 1, i, ro => roN r f (i + 1) (ro ||| Int64.toInt32 (r i))
/-- a told day's coaches -/
def rowL (r : Nat → Int64) : Nat → Nat → List Int32
  | 0, _ => []
  | f + 1, i => Int64.toInt32 (r i) :: rowL r f (i + 1)
theorem wrg_c {L : List Int32} {N : Nat} {r r2 : Nat → Int64} : ∀ (f i : Nat) (ro : Int32), (∀ j, i ≤ j → j < i + f → r j = r2 j) → wrg L N r f i ro = wrg L N r2 f i ro
  | 0, _, _, _ => rfl
  | f + 1, i, ro, h => by
    have e := h i (Nat.le_refl _) (by omega)
    have ih := wrg_c (L := L) (N := N) f (i + 1) (ro ||| Int64.toInt32 (r2 i)) (fun j h1 h2 => h j (by omega) (by omega))
    show (if (0 ≤ (r i).toInt ∧ (r i).toInt < 2 ^ N) ∧ Int64.toInt32 (r i) ∈ L ∧ (Int64.toInt32 (r i) &&& ro) = 0 then wrg L N r f (i + 1) (ro ||| Int64.toInt32 (r i)) else (i : Int)) = (if (0 ≤ (r2 i).toInt ∧ (r2 i).toInt < 2 ^ N) ∧ Int64.toInt32 (r2 i) ∈ L ∧ (Int64.toInt32 (r2 i) &&& ro) = 0 then wrg L N r2 f (i + 1) (ro ||| Int64.toInt32 (r2 i)) else (i : Int))
    rw [e, ih]
theorem rowL_c {r r2 : Nat → Int64} : ∀ (f i : Nat), (∀ j, i ≤ j → j < i + f → r j = r2 j) → rowL r f i = rowL r2 f i
  | 0, _, _ => rfl
  | f + 1, i, h => by
    show Int64.toInt32 (r i) :: rowL r f (i + 1) = Int64.toInt32 (r2 i) :: rowL r2 f (i + 1)
    rw [h i (Nat.le_refl _) (by omega), rowL_c f (i + 1) (fun j h1 h2 => h j (by omega) (by omega))]
theorem i64_sm {y : Int64} (h0 : 0 ≤ y.toInt) (h1 : y.toInt < 256) : (Int64.toInt32 y).toInt = y.toInt := by
  rw [Int64.toInt_toInt32]
  exact Int.bmod_eq_of_le (by omega) (by omega)
theorem pX11_firstWrong_16 {G : jdG} {n rc rs : Nat} {Z : jdL} {J : jdJ} {K : Int32 → jdI → jdJ → Prop} {I : jdI} {N : Nat} {L : List Int32} {x1 x2 : Int32} {R : Int} (hX : zX Z) (hW : WX I) (h3 : (I 1 3).toInt = (N : Int)) (hc : (I 13 8).toInt = (L.length : Int)) (h70 : L.length ≤ 70) (hL : LiS I (13 + 3) L) (hx1 : 0 ≤ x1.toInt ∧ x1.toInt < 8) (hx2 : x2.toInt ≤ 40) (hK : ∀ v : Int32, v.toInt = R → K v I J) : ∀ f : Nat, ∀ x3 x4 : Int32, 0 ≤ x4.toInt → x4.toInt + (f : Int) = x2.toInt → wrg L N (J (29 + 2 * (Int32.toNatClampNeg x1) + 1)) f x4.toInt.toNat x3 = R → Jd G mX11_firstWrong (jdFm G (qi Z K)) (n + 1) rc rs 16 [(0, .ref (gb G + 0)), (1, .int x1), (2, .int x2), (3, .int x3), (4, .int x4)] [] Z I J := by
  have hw := WX_f hW
  have ev := (ev_of (x := I 1 3) (by omega) (by omega)).2
  rw [h3, show ((N : Int)).toNat = N by omega] at ev
  intro f
  induction f with
  | zero =>
    intro x3 x4 h4 hf hr
    have hr : (-1 : Int) = R := hr
    exact rX11_firstWrong_16 hX ⟨fun _ => hK _ (by rw [← hr]; rfl), fun h => absurd (Int32.le_iff_toInt_le.mpr (by omega)) h⟩
  | succ f ih =>
    intro x3 x4 h4 hf hr
    have q1 : (1 : Int32).toInt = 1 := rfl
    have q0 : (0 : Int32).toInt = 0 := rfl
    have z0 : (0 : Int64).toInt = 0 := rfl
    have e4 := i32_add x4 1 (by omega) (by omega)
    have n4 := tn_eq x4
    have n1 := tn_eq x1
    have bad : ¬ ((0 ≤ (J (29 + 2 * (Int32.toNatClampNeg x1) + 1) x4.toInt.toNat).toInt ∧ (J (29 + 2 * (Int32.toNatClampNeg x1) + 1) x4.toInt.toNat).toInt < 2 ^ N) ∧ Int64.toInt32 (J (29 + 2 * (Int32.toNatClampNeg x1) + 1) x4.toInt.toNat) ∈ L ∧ (Int64.toInt32 (J (29 + 2 * (Int32.toNatClampNeg x1) + 1) x4.toInt.toNat) &&& x3) = 0) → K x4 I J := fun hn => hK x4 (by rw [wrg_n hn] at hr; omega)
    refine rX11_firstWrong_16 hX ⟨fun h => by have := Int32.le_iff_toInt_le.mp h; omega, fun _ => ⟨vp_of (by omega) (by omega), vp_of (by omega) (by omega), ?_⟩⟩
    rw [n4]
    have c0 := lg_f (J (29 + 2 * (Int32.toNatClampNeg x1) + 1) x4.toInt.toNat) 0
    refine ⟨fun h => bad (fun z => ?_), fun h => ?_⟩
    · have h := Int32.lt_iff_toInt_lt.mp h
      have := z.1.1
      omega
    · have h := mt Int32.lt_iff_toInt_lt.mpr h
      refine eX9_everybody (zX_o0 hX) ?_
      have ee := Int32.toInt_toInt64 (((1 : Int32) <<< ((I 1 3) &&& 31)) - 1)
      have c1 := lg_f (J (29 + 2 * (Int32.toNatClampNeg x1) + 1) x4.toInt.toNat) (Int32.toInt64 (((1 : Int32) <<< ((I 1 3) &&& 31)) - 1))
      refine ⟨fun h5 => ?_, fun h5 => bad (fun z => ?_)⟩
      · have h5 := Int32.le_iff_toInt_le.mp h5
        refine pX8_isOne (zX_o3 hX) hc h70 hL (fun v6 p6 => ⟨fun c6 => bad (fun z => ?_), fun c6 => ⟨fun h7 => ?_, fun h7 => bad (fun z => h7 z.2.2)⟩⟩)
        · have c6 := i0 c6
          exact (p6.elim (fun q => by omega) (fun q => q.2)) z.2.1
        · have c6 := i1 c6
          have hm : Int64.toInt32 (J (29 + 2 * (Int32.toNatClampNeg x1) + 1) x4.toInt.toNat) ∈ L := p6.elim (fun q => q.2) (fun q => by omega)
          rw [wrg_y ⟨⟨by omega, by omega⟩, hm, h7⟩] at hr
          refine ih _ (x4 + 1) (by omega) (by omega) ?_
          rw [show (x4 + 1).toInt.toNat = x4.toInt.toNat + 1 by omega]
          exact hr
      · have h5 := mt Int32.le_iff_toInt_le.mpr h5
        have := z.1.2
        omega
def LW (w : Tw) : List Int32 := DL (relW w) w.1.toNat 0 w.2.2.2.1.toNat 0
theorem pX11_firstWrong {G : jdG} {n : Nat} {Z : jdL} {J : jdJ} {K : Int32 → jdI → jdJ → Prop} {I : jdI} {w : Tw} {x1 x2 : Int32} (hX : zX Z) (hW : WX I) (hw : RX I 1 w) (hk : OKT w) (hx1 : 0 ≤ x1.toInt ∧ x1.toInt < 8) (hx2 : 0 ≤ x2.toInt ∧ x2.toInt ≤ 40) (hK : ∀ (v : Int32) (I2 : jdI), WX I2 → Fr (fun a k => (a = 13 ∧ (k = 6 ∨ k = 7 ∨ k = 8 ∨ k = 10)) ∨ (14 ≤ a ∧ a ≤ 16)) I I2 → TL I2 w → v.toInt = wrg (LW w) w.1.toNat (J (29 + 2 * (Int32.toNatClampNeg x1) + 1)) x2.toInt.toNat 0 0 → K v I2 J) : Cl G mX11_firstWrong (n + 8) 0 0 [.ref (gb G + 0), .int x1, .int x2] Z I J (qi Z K) := by
  have hp := WX_f hW
  have h1 : (I 1 3).toInt = w.1 := hw.1
  have h4 : (I 1 4).toInt = w.2.2.2.1 := hw.2.2.1
  refine eX11_firstWrong hX ?_
  refine pX8_load (zX_o3 hX) (zX_o0 hX) (Or.inl rfl) hW hw (OKT_sy hk) (fun I1 hW1 hF1 hT1 hc1 => ?_)
  exact pX11_firstWrong_16 (N := w.1.toNat) (L := LW w) (R := wrg (LW w) w.1.toNat (J (29 + 2 * (Int32.toNatClampNeg x1) + 1)) x2.toInt.toNat 0 0) hX hW1 (by rw [hF1 1 3 (by omega)]; omega) hT1.2.2.1 (DL_70 (relW w) (by omega) (by omega)) hT1.2.2.2 hx1 hx2.2 (fun v hv => hK v I1 hW1 hF1 hT1 hv) x2.toInt.toNat 0 0 (by decide) (by show (0 : Int) + _ = _; omega) rfl
/-- a told day's refusal, or 0 -/
def tX (Z : jdL) (I : jdI) (x1 x2 : Int32) : Int := if (0 ≤ x1.toInt ∧ x1.toInt < 8) ∧ 0 ≤ x2.toInt ∧ x2.toInt ≤ 7 then (if (I (29 + 2 * (Int32.toNatClampNeg x1)) 1).toInt = -1 then (if mk Z (Int32.toNatClampNeg x1) = 0 then -4 else -3) else if x2.toInt ≤ (I (29 + 2 * (Int32.toNatClampNeg x1)) 2).toInt then 0 else -2) else -2
def tM (I : jdI) (t : Nat) (x1 x2 : Int32) : Int := if (0 ≤ x1.toInt ∧ x1.toInt < 8) ∧ 0 ≤ x2.toInt ∧ x2.toInt ≤ 7 then (if (I (t + 1) (Int32.toNatClampNeg x1)).toInt = 2 then -3 else if (I (t + 1) (Int32.toNatClampNeg x1)).toInt = 0 then -4 else if x2.toInt ≤ (I (t + 3) (Int32.toNatClampNeg x1)).toInt then 0 else -2) else -2
theorem tX_0 {Z : jdL} {I : jdI} {x1 x2 : Int32} (h : tX Z I x1 x2 = 0) : (0 ≤ x1.toInt ∧ x1.toInt < 8) ∧ 0 ≤ x2.toInt ∧ x2.toInt ≤ 7 := by
  by_cases c : (0 ≤ x1.toInt ∧ x1.toInt < 8) ∧ 0 ≤ x2.toInt ∧ x2.toInt ≤ 7
  · exact c
  · unfold tX at h
    rw [if_neg c] at h
    omega
theorem tM_0 {I : jdI} {t : Nat} {x1 x2 : Int32} (h : tM I t x1 x2 = 0) : (0 ≤ x1.toInt ∧ x1.toInt < 8) ∧ 0 ≤ x2.toInt ∧ x2.toInt ≤ 7 := by
  by_cases c : (0 ≤ x1.toInt ∧ x1.toInt < 8) ∧ 0 ≤ x2.toInt ∧ x2.toInt ≤ 7
  · exact c
  · unfold tM at h
    rw [if_neg c] at h
    omega
theorem pX11_whyNotTold {G : jdG} {n : Nat} {Z : jdL} {J : jdJ} {K : Int32 → jdI → jdJ → Prop} {I : jdI} {x1 x2 : Int32} (hX : zX Z) (hM : zMen Z) (hW : WX I) (hK : ∀ v : Int32, v.toInt = tX Z I x1 x2 → K v I J) : Cl G mX11_whyNotTold (n + 2) 0 0 [.ref (gb G + 0), .int x1, .int x2] Z I J (qi Z K) := by
  have n1 := tn_eq x1
  have q0 : (0 : Int32).toInt = 0 := rfl
  have q7 : (7 : Int32).toInt = 7 := rfl
  have out : ¬ ((0 ≤ x1.toInt ∧ x1.toInt < 8) ∧ 0 ≤ x2.toInt ∧ x2.toInt ≤ 7) → K (-2) I J := fun h => hK (-2) (by unfold tX; rw [if_neg h]; rfl)
  refine eX11_whyNotTold hX ?_
  refine sfX11_isShelf hW (fun v2 p2 => ⟨fun c2 => ?_, fun c2 => ⟨fun c3 => ?_, fun c3 => ⟨fun c4 => ?_, fun c4 => ?_⟩⟩⟩)
  · have c2 := i0 c2
    exact out (by omega)
  · have c3 := Int32.lt_iff_toInt_lt.mp c3
    exact out (by omega)
  · have c2 := i1 c2
    have c3 := mt Int32.lt_iff_toInt_lt.mpr c3
    have c4 := Int32.le_iff_toInt_le.mp c4
    refine sfX11_holdsRow hX hW (fun v4 p4 => ⟨fun c5 => ⟨vp_of (by omega) (by omega), fun c6 => ?_, fun c6 => ?_⟩, fun c5 => ?_⟩)
    · have c5 := i1 c5
      have c6 := Int32.le_iff_toInt_le.mp c6
      refine hK 0 ?_
      unfold tX
      rw [if_pos (by omega), if_neg (by omega), if_pos c6]
      rfl
    · have c5 := i1 c5
      have c6 := mt Int32.le_iff_toInt_le.mpr c6
      refine hK (-2) ?_
      unfold tX
      rw [if_pos (by omega), if_neg (by omega), if_neg c6]
      rfl
    · have c5 := i0 c5
      refine sfX11_whyNoRow hX hW (fun v7 p7 => hK v7 ?_)
      unfold tX
      rw [if_pos (by omega), if_pos (by omega)]
      by_cases d : mk Z (Int32.toNatClampNeg x1) = 0
      · rw [if_pos d]
        omega
      · rw [if_neg d]
        omega
  · have c4 := mt Int32.le_iff_toInt_le.mpr c4
    exact out (by omega)
theorem pX12_noDay {G : jdG} {n : Nat} {Z : jdL} {J : jdJ} {K : Int32 → jdI → jdJ → Prop} {I : jdI} {t : Nat} {x1 x2 : Int32} (ht : zModel Z t) (hW : WM 7 t I) (hK : ∀ (v : Int32) (I2 : jdI), WM 7 t I2 → Fr (fun a k => a = t + 17) I I2 → v.toInt = tM I t x1 x2 → K v I2 J) : Cl G mX12_noDay (n + 2) 0 0 [.ref (gb G + t), .int x1, .int x2] Z I J (qi Z K) := by
  have n1 := tn_eq x1
  have e1 : (Int32.toInt64 x1).toInt = x1.toInt := Int32.toInt_toInt64 _
  have e2 : (Int32.toInt64 x2).toInt = x2.toInt := Int32.toInt_toInt64 _
  have z0 : (0 : Int64).toInt = 0 := rfl
  have z7 : (7 : Int64).toInt = 7 := rfl
  refine eX12_noDay ht ?_
  refine sfX12_in trivial (fun v2 p2 => ⟨fun c2 => ?_, fun c2 => ?_⟩)
  · have c2 := i0 c2
    exact sfX12_refuse ht (by decide) hW (by decide) (fun v I3 hW3 hF3 hp3 => hK v I3 hW3 hF3 (by unfold tM; rw [if_neg (by omega)]; exact hp3))
  · have c2 := i1 c2
    refine sfX12_in trivial (fun v6 p6 => ⟨fun c6 => ?_, fun c6 => ?_⟩)
    · have c6 := i1 c6
      refine sfX12_noRow ht hW (fun v8 I7 hW7 hF7 p8 => ⟨fun c8 => ⟨vp_of (by omega) (by omega), fun c9 => ?_, fun c9 => ?_⟩, fun c8 => ?_⟩)
      · have c8 := i0 c8
        have c9 := Int32.le_iff_toInt_le.mp c9
        rw [hF7 (t + 3) _ (by omega)] at c9
        refine hK 0 I7 hW7 hF7 ?_
        unfold tM
        rw [if_pos (by omega), if_neg (by omega), if_neg (by omega), if_pos c9]
        rfl
      · have c8 := i0 c8
        have c9 := mt Int32.le_iff_toInt_le.mpr c9
        rw [hF7 (t + 3) _ (by omega)] at c9
        refine sfX12_refuse ht (by decide) hW7 (by decide) (fun v I3 hW3 hF3 hp3 => hK v I3 hW3 (Fr.tr hF7 hF3 (fun _ _ h => h)) ?_)
        unfold tM
        rw [if_pos (by omega), if_neg (by omega), if_neg (by omega), if_neg c9]
        exact hp3
      · have c8 := i1 c8
        refine hK v8 I7 hW7 hF7 ?_
        unfold tM
        rw [if_pos (by omega)]
        by_cases d : (I (t + 1) (Int32.toNatClampNeg x1)).toInt = 2
        · rw [if_pos d]
          omega
        · rw [if_neg d, if_pos (by omega)]
          omega
    · have c6 := i0 c6
      exact sfX12_refuse ht (by decide) hW (by decide) (fun v I3 hW3 hF3 hp3 => hK v I3 hW3 hF3 (by unfold tM; rw [if_neg (by omega)]; exact hp3))
theorem pX12_wrongCoach_7 {G : jdG} {n rc rs : Nat} {Z : jdL} {J : jdJ} {K : Int32 → jdI → jdJ → Prop} {I0 : jdI} {t N st n1 u1 : Nat} {rel : Nat → Nat → Bool} {x2 : Int32} {R : Int} {Y : Int32} (ht : zModel Z t) (hu1 : Z.1 u1 = some (1, n1)) (hN : N ≤ 7) (hx2 : x2.toInt ≤ (n1 : Int)) (hn1 : n1 ≤ 1000) (hg0 : GM I0 t N st rel) (hK : ∀ (v : Int32) (I2 : jdI), WM 7 t I2 → Fr (fun a k => a = t ∧ k = 44) I0 I2 → v.toInt = R → (R = -1 → I2 t 44 = Y) → K v I2 J) : ∀ f : Nat, ∀ (I : jdI) (x3 : Int32), WM 7 t I → Fr (fun a k => a = t ∧ k = 44) I0 I → 0 ≤ x3.toInt → x3.toInt + (f : Int) = x2.toInt → wrg (DL rel N 0 st 0) N (J u1) f x3.toInt.toNat (I t 44) = R → roN (J u1) f x3.toInt.toNat (I t 44) = Y → Jd G mX12_wrongCoach (jdFm G (qi Z K)) (n + 2) rc rs 7 [(0, .ref (gb G + t)), (1, .ref (gb G + u1)), (2, .int x2), (3, .int x3)] [] Z I J := by
  intro f
  induction f with
  | zero =>
    intro I x3 hW hF h3 hf hr hy
    have hr : (-1 : Int) = R := hr
    have hy : I t 44 = Y := hy
    exact rX12_wrongCoach_7 ht hu1 ⟨fun _ => hK _ I hW hF (by rw [← hr]; rfl) (fun _ => hy), fun h => absurd (Int32.le_iff_toInt_le.mpr (by omega)) h⟩
  | succ f ih =>
    intro I x3 hW hF h3 hf hr hy
    have hw := WM_f hW
    have q1 : (1 : Int32).toInt = 1 := rfl
    have z0 : (0 : Int64).toInt = 0 := rfl
    have e3 := i32_add x3 1 (by omega) (by omega)
    have n3 := tn_eq x3
    have hg := GM_fr hg0 (by omega) hF (by omega) (by omega) (by intro a k h1 h2; omega)
    have h10 := hg.1
    have ev := (ev_of (x := I t 10) (by omega) (by omega)).2
    rw [h10, show ((N : Int)).toNat = N by omega] at ev
    have hp2 := pw2 ⟨N, by omega⟩
    have hp2 : 1 ≤ (2 : Int) ^ N ∧ (2 : Int) ^ N ≤ 256 := hp2
    have bad : ¬ ((0 ≤ (J u1 x3.toInt.toNat).toInt ∧ (J u1 x3.toInt.toNat).toInt < 2 ^ N) ∧ Int64.toInt32 (J u1 x3.toInt.toNat) ∈ DL rel N 0 st 0 ∧ (Int64.toInt32 (J u1 x3.toInt.toNat) &&& I t 44) = 0) → K x3 I J := fun hn => by
      rw [wrg_n hn] at hr
      exact hK x3 I hW hF (by omega) (fun z => by omega)
    refine rX12_wrongCoach_7 ht hu1 ⟨fun h => by have := Int32.le_iff_toInt_le.mp h; omega, fun _ => ⟨vp_of (by omega) (by omega), ?_⟩⟩
    refine eX12_all ht ?_
    have ee := Int32.toInt_toInt64 (((1 : Int32) <<< ((I t 10) &&& 31)) - 1)
    refine sfX12_in trivial (fun v5 p5 => ?_)
    rw [n3] at p5 ⊢
    refine ⟨fun c5 => bad (fun z => ?_), fun c5 => ⟨vp_of (by omega) (by omega), ?_⟩⟩
    · have c5 := i0 c5
      have := z.1
      omega
    · have c5 := i1 c5
      have hsm := i64_sm (y := J u1 x3.toInt.toNat) (by omega) (by omega)
      have hIG := IG_mem rel (N := N) (st := st) (g := Int64.toInt32 (J u1 x3.toInt.toNat)) (by omega) (by omega) (by omega)
      refine pX12_isGroupNow ht hg hN (fun v8 p8 => ⟨fun c8 => bad (fun z => ?_), fun c8 => ⟨vp_of (by omega) (by omega), fun h9 => ⟨vp_of (by omega) (by omega), ?_⟩, fun h9 => bad (fun z => h9 z.2.2)⟩⟩)
      · have c8 := i0 c8
        exact (p8.elim (fun q => by omega) (fun q => q.2)) (hIG.mp z.2.1)
      · have c8 := i1 c8
        have hm := hIG.mpr (p8.elim (fun q => q.2) (fun q => by omega))
        rw [wrg_y ⟨⟨by omega, by omega⟩, hm, h9⟩] at hr
        have hy : roN (J u1) f (x3.toInt.toNat + 1) (I t 44 ||| Int64.toInt32 (J u1 x3.toInt.toNat)) = Y := hy
        have e44 : (uI I t 44 ((I t 44) ||| (Int64.toInt32 (J u1 x3.toInt.toNat)))) t 44 = (I t 44) ||| (Int64.toInt32 (J u1 x3.toInt.toNat)) := by rw [uI_ap, if_pos ⟨rfl, rfl⟩]
        refine ih _ (x3 + 1) (WM_uI hW (by first | exact okMo (by decide) (by decide) (by decide) (by decide) (by decide) | exact okMf (by decide) (by decide) (by decide) (by decide) (by decide) (by decide) (by decide) (by decide) | exact okM30 (by omega) | exact okM42 (by omega) | exact okM33 (by omega) | exact okM10 (by omega) | exact okM8 (by omega) | exact okM22 (by omega) | exact okM24 (by omega) | exact okM14 (by omega) | exact okMa31 (by omega) | exact okMa35 (by omega) | exact okMa36 (by omega) | exact okMa3 (by omega) | exact okMr (by omega) | (unfold okM; refine ⟨?_, ?_, ?_, ?_, ?_, ?_, ?_, ?_, ?_, ?_, ?_, ?_⟩ <;> intro h <;> omega))) (Fr_uI hF ⟨rfl, rfl⟩) (by omega) (by omega) ?_ ?_
        · rw [e44, show (x3 + 1).toInt.toNat = x3.toInt.toNat + 1 by omega]
          exact hr
        · rw [e44, show (x3 + 1).toInt.toNat = x3.toInt.toNat + 1 by omega]
          exact hy
theorem pX12_wrongCoach {G : jdG} {n : Nat} {Z : jdL} {J : jdJ} {K : Int32 → jdI → jdJ → Prop} {I : jdI} {t n1 u1 : Nat} {w : Tw} {x2 : Int32} (ht : zModel Z t) (hu1 : Z.1 u1 = some (1, n1)) (hW : WM 7 t I) (hw : RM I t w) (h0 : 0 ≤ x2.toInt) (hx2 : x2.toInt ≤ (n1 : Int)) (hn1 : n1 ≤ 1000) (hK : ∀ (v : Int32) (I2 : jdI), WM 7 t I2 → Fr (fun a k => a = t ∧ k = 44) I I2 → v.toInt = wrg (LW w) w.1.toNat (J u1) x2.toInt.toNat 0 0 → (v.toInt = -1 → I2 t 44 = roN (J u1) x2.toInt.toNat 0 0) → K v I2 J) : Cl G mX12_wrongCoach (n + 2) 0 0 [.ref (gb G + t), .ref (gb G + u1), .int x2] Z I J (qi Z K) := by
  have hp := WM_f hW
  have h1 : (I t 10).toInt = w.1 := hw.1
  have h4 : (I t 14).toInt = w.2.2.2.1 := hw.2.2.1
  refine eX12_wrongCoach ht hu1 ?_
  have q0 : (0 : Int32).toInt = 0 := rfl
  have f0 : Fr (fun a k => a = t ∧ k = 44) I (uI I t 44 0) := Fr_uI Fr.rf ⟨rfl, rfl⟩
  have w1 : WM 7 t (uI I t 44 0) := WM_uI hW (by first | exact okMo (by decide) (by decide) (by decide) (by decide) (by decide) | exact okMf (by decide) (by decide) (by decide) (by decide) (by decide) (by decide) (by decide) (by decide) | exact okM30 (by omega) | exact okM42 (by omega) | exact okM33 (by omega) | exact okM10 (by omega) | exact okM8 (by omega) | exact okM22 (by omega) | exact okM24 (by omega) | exact okM14 (by omega) | exact okMa31 (by omega) | exact okMa35 (by omega) | exact okMa36 (by omega) | exact okMa3 (by omega) | exact okMr (by omega) | (unfold okM; refine ⟨?_, ?_, ?_, ?_, ?_, ?_, ?_, ?_, ?_, ?_, ?_, ?_⟩ <;> intro h <;> omega))
  have e44 : (uI I t 44 0) t 44 = 0 := by rw [uI_ap, if_pos ⟨rfl, rfl⟩]
  exact pX12_wrongCoach_7 (N := w.1.toNat) (st := w.2.2.2.1.toNat) (rel := relW w) (R := wrg (LW w) w.1.toNat (J u1) x2.toInt.toNat 0 0) (Y := roN (J u1) x2.toInt.toNat 0 0) ht hu1 (by omega) hx2 hn1 (GM_RM hw (by omega) (by omega)) (fun v I2 hW2 hF2 hv hy => hK v I2 hW2 hF2 hv (fun z => hy (by omega))) x2.toInt.toNat (uI I t 44 0) 0 w1 f0 (by decide) (by show (0 : Int) + _ = _; omega) (by rw [e44]; rfl) (by rw [e44]; rfl)
def oRides (s : Sd) (c : Int) (r : Nat → Int64) (m : Nat) : Int × Sd := if c = 0 then (if wrg (LW s.1) s.1.1.toNat r m 0 0 = -1 then ((m : Int), (acqL s.1 (rowL r m 0), s.2)) else (-5, s)) else (c, s)
theorem oRides_ok {s : Sd} {c : Int} {r : Nat → Int64} {m : Nat} (h : OKT s.1) : OKT (oRides s c r m).2.1 := by
  unfold oRides
  by_cases e : c = 0
  · by_cases d : wrg (LW s.1) s.1.1.toNat r m 0 0 = -1
    · rw [if_pos e, if_pos d]
      exact acqL_ok _ _ h
    · rw [if_pos e, if_neg d]
      exact h
  · rw [if_neg e]
    exact h
theorem pX11_whyNotRidden {G : jdG} {n : Nat} {Z : jdL} {J : jdJ} {K : Int32 → jdI → jdJ → Prop} {I : jdI} {s : Sd} {x1 x2 : Int32} (hX : zX Z) (hM : zMen Z) (hW : WX I) (hs : TX I 1 s) (hk : OKT s.1) (hK : ∀ (v : Int32) (I2 : jdI), WX I2 → Fr (fun a k => 13 ≤ a ∧ a ≤ 24) I I2 → v.toInt = (if tX Z I x1 x2 = 0 then (if wrg (LW s.1) s.1.1.toNat (J (29 + 2 * (Int32.toNatClampNeg x1) + 1)) x2.toInt.toNat 0 0 = -1 then 0 else -5) else tX Z I x1 x2) → (v.toInt = 0 → TL I2 s.1) → K v I2 J) : Cl G mX11_whyNotRidden (n + 9) 0 0 [.ref (gb G + 0), .int x1, .int x2] Z I J (qi Z K) := by
  have qm : (-1 : Int32).toInt = -1 := rfl
  refine eX11_whyNotRidden hX ?_
  refine pX11_whyNotTold hX hM hW (fun v2 p2 => ⟨fun c2 => ?_, fun c2 => ?_⟩)
  · have c2 := i0 c2
    have hr := tX_0 (by omega : tX Z I x1 x2 = 0)
    refine pX11_firstWrong hX hW hs.1 hk hr.1 ⟨hr.2.1, by omega⟩ (fun v I2 hW2 hF2 hT2 hv => ⟨fun c => ?_, fun c => ?_⟩)
    · have c : v.toInt = -1 := by rw [c]; rfl
      refine hK 0 I2 hW2 (Fr.tr Fr.rf hF2 (by intro a k h; omega)) ?_ (fun _ => hT2)
      rw [if_pos (by omega), if_pos (by omega)]
      rfl
    · have c : ¬ v.toInt = -1 := fun z => c (Int32.toInt_inj.mp (z.trans qm.symm))
      refine hK (-5) I2 hW2 (Fr.tr Fr.rf hF2 (by intro a k h; omega)) ?_ (fun z => absurd z (by decide))
      rw [if_pos (by omega), if_neg (by omega)]
      rfl
  · have c2 := i1 c2
    refine hK v2 I hW Fr.rf ?_ (fun z => absurd z c2)
    rw [if_neg (by omega)]
    exact p2
theorem pX11_rides_20 {G : jdG} {n rc rs : Nat} {Z : jdL} {J : jdJ} {K : Int32 → jdI → jdJ → Prop} {I0 : jdI} {x1 x2 x3 : Int32} {R : Tw} (hX : zX Z) (hx1 : 0 ≤ x1.toInt ∧ x1.toInt < 8) (hx2 : x2.toInt ≤ 7) (hK : ∀ (I2 : jdI), WX I2 → Fr (fun a k => (a = 1 ∧ (k = 7 ∨ k = 8)) ∨ a = 4) I0 I2 → RX I2 1 R → K x2 I2 J) : ∀ f : Nat, ∀ (I : jdI) (x4 : Int32) (w : Tw), WX I → Fr (fun a k => a = 4) I0 I → RX I 1 w → 0 ≤ x4.toInt → x4.toInt + (f : Int) = x2.toInt → acqL w (rowL (J (29 + 2 * (Int32.toNatClampNeg x1) + 1)) f x4.toInt.toNat) = R → Jd G mX11_rides (jdFm G (qi Z K)) (n + 2) rc rs 20 [(0, .ref (gb G + 0)), (1, .int x1), (2, .int x2), (3, .int x3), (4, .int x4)] [] Z I J := by
  intro f
  induction f with
  | zero =>
    intro I x4 w hW hF hw h4 hf hr
    have hr : w = R := hr
    subst hr
    have hwx := WX_f hW
    refine rX11_rides_20 hX ⟨fun _ => ?_, fun hc => absurd (Int32.le_iff_toInt_le.mpr (by omega)) hc⟩
    have f0 : Fr (fun a k => a = 1 ∧ (k = 7 ∨ k = 8)) I (uI (uI I 1 7 ((I 1 7) + x2)) 1 8 ((I 1 8) + 1)) := Fr_uI (Fr_uI Fr.rf (by omega)) (by omega)
    have w1 : WX (uI I 1 7 ((I 1 7) + x2)) := WX_uI hW (by first | exact okXo (by decide) | (unfold okX; refine ⟨?_, ?_, ?_, ?_, ?_, ?_, ?_, ?_, ?_, ?_⟩ <;> intro h <;> omega))
    exact eX9_endDay (zX_o0 hX) (hK _ (WX_uI w1 (by first | exact okXo (by decide) | (unfold okX; refine ⟨?_, ?_, ?_, ?_, ?_, ?_, ?_, ?_, ?_, ?_⟩ <;> intro h <;> omega))) (Fr.tr (Fr.tr Fr.rf hF (by intro a k h; omega)) f0 (by intro a k h; omega)) (RX_fk hw (fun a k q => f0 a k (by omega))))
  | succ f ih =>
    intro I x4 w hW hF hw h4 hf hr
    have q1 : (1 : Int32).toInt = 1 := rfl
    have e4 := i32_add x4 1 (by omega) (by omega)
    have n4 := tn_eq x4
    have n1 := tn_eq x1
    have hr : acqL (acqT w (Int64.toInt32 (J (29 + 2 * (Int32.toNatClampNeg x1) + 1) x4.toInt.toNat))) (rowL (J (29 + 2 * (Int32.toNatClampNeg x1) + 1)) f (x4.toInt.toNat + 1)) = R := hr
    rw [show x4.toInt.toNat + 1 = (x4 + 1).toInt.toNat by omega] at hr
    refine rX11_rides_20 hX ⟨fun hc => by have := Int32.le_iff_toInt_le.mp hc; omega, fun _ => ⟨vp_of (by omega) (by omega), vp_of (by omega) (by omega), ?_⟩⟩
    exact pX9_acquaint (zX_o0 hX) (Or.inl rfl) hW hw (fun v6 I3 hW3 hF3 hR3 _ => ih I3 (x4 + 1) _ hW3 (Fr.tr hF hF3 (by intro a k h; omega)) hR3 (by omega) (by omega) hr)
theorem pX11_rides {G : jdG} {n : Nat} {Z : jdL} {J : jdJ} {K : Int32 → jdI → jdJ → Prop} {I : jdI} {s : Sd} {x1 x2 : Int32} (hX : zX Z) (hM : zMen Z) (hW : WX I) (hs : TX I 1 s) (hk : OKT s.1) (hK : ∀ (v : Int32) (I2 : jdI), WX I2 → Fr (fun a k => (a = 1 ∧ (k = 7 ∨ k = 8)) ∨ a = 4 ∨ (13 ≤ a ∧ a ≤ 24) ∨ a = 28) I I2 → (v.toInt = (oRides s (tX Z I x1 x2) (J (29 + 2 * (Int32.toNatClampNeg x1) + 1)) x2.toInt.toNat).1 ∧ TX I2 1 (oRides s (tX Z I x1 x2) (J (29 + 2 * (Int32.toNatClampNeg x1) + 1)) x2.toInt.toNat).2) → K v I2 J) : Cl G mX11_rides (n + 10) 0 0 [.ref (gb G + 0), .int x1, .int x2] Z I J (qi Z K) := by
  refine eX11_rides hX ?_
  refine pX11_whyNotRidden hX hM hW hs hk (fun v2 I1 hW1 hF1 hv _ => ⟨fun c2 => ?_, fun c2 => ?_⟩)
  · have c2 := i0 c2
    have hc : tX Z I x1 x2 = 0 := by
      by_cases c : tX Z I x1 x2 = 0
      · exact c
      · rw [if_neg c] at hv
        omega
    have hd : wrg (LW s.1) s.1.1.toNat (J (29 + 2 * (Int32.toNatClampNeg x1) + 1)) x2.toInt.toNat 0 0 = -1 := by
      by_cases d : wrg (LW s.1) s.1.1.toNat (J (29 + 2 * (Int32.toNatClampNeg x1) + 1)) x2.toInt.toNat 0 0 = -1
      · exact d
      · rw [if_pos hc, if_neg d] at hv
        omega
    have hr := tX_0 hc
    have e : oRides s (tX Z I x1 x2) (J (29 + 2 * (Int32.toNatClampNeg x1) + 1)) x2.toInt.toNat = ((x2.toInt.toNat : Int), (acqL s.1 (rowL (J (29 + 2 * (Int32.toNatClampNeg x1) + 1)) x2.toInt.toNat 0), s.2)) := by
      unfold oRides
      rw [if_pos hc, if_pos hd]
    refine pX11_rides_20 (R := acqL s.1 (rowL (J (29 + 2 * (Int32.toNatClampNeg x1) + 1)) x2.toInt.toNat 0)) hX hr.1 hr.2.2 (fun I3 hW3 hF3 hR3 => ?_) x2.toInt.toNat I1 0 s.1 hW1 Fr.rf (RX_fr hs.1 hF1 (by intro a k h1 h2; omega)) (by decide) (by show (0 : Int) + _ = _; omega) rfl
    refine hK x2 I3 hW3 (Fr.tr (Fr.tr Fr.rf hF1 (by intro a k h; omega)) hF3 (by intro a k h; omega)) ?_
    rw [e]
    exact ⟨by show x2.toInt = (x2.toInt.toNat : Int); omega, hR3, by rw [hF3 1 6 (by omega), hF1 1 6 (by omega)]; exact hs.2⟩
  · have c2 := i1 c2
    refine sfX11_refuse hX hW1 (fun v I3 hW3 hF3 hp3 => hK v I3 hW3 (Fr.tr (Fr.tr Fr.rf hF1 (by intro a k h; omega)) hF3 (by intro a k h; omega)) ?_)
    have hs3 := TX_fr (TX_fr hs hF1 (by intro a k h1 h2; omega)) hF3 (by intro a k h1 h2; omega)
    unfold oRides
    by_cases c : tX Z I x1 x2 = 0
    · by_cases d : wrg (LW s.1) s.1.1.toNat (J (29 + 2 * (Int32.toNatClampNeg x1) + 1)) x2.toInt.toNat 0 0 = -1
      · rw [if_pos c, if_pos d] at hv
        omega
      · rw [if_pos c, if_neg d] at hv
        rw [if_pos c, if_neg d, hp3]
        exact ⟨hv, hs3⟩
    · rw [if_neg c] at hv
      rw [if_neg c, hp3]
      exact ⟨hv, hs3⟩
theorem pX12_rides_38 {G : jdG} {n rc rs : Nat} {Z : jdL} {J : jdJ} {K : Int32 → jdI → jdJ → Prop} {I0 : jdI} {t : Nat} {x1 x2 x3 : Int32} {R : Tw} (ht : zModel Z t) (hx1 : 0 ≤ x1.toInt ∧ x1.toInt < 8) (hx2 : x2.toInt ≤ 7) (hK : ∀ (I2 : jdI), WM 7 t I2 → Fr (fun a k => (a = t ∧ (k = 16 ∨ k = 17)) ∨ (t + 21 ≤ a ∧ a ≤ t + 28)) I0 I2 → RM I2 t R → K x2 I2 J) : ∀ f : Nat, ∀ (I : jdI) (x4 : Int32) (w : Tw), WM 7 t I → Fr (fun a k => t + 21 ≤ a ∧ a ≤ t + 28) I0 I → RM I t w → 0 ≤ x4.toInt → x4.toInt + (f : Int) = x2.toInt → acqL w (rowL (J (t + 5 + (Int32.toNatClampNeg x1))) f x4.toInt.toNat) = R → Jd G mX12_rides (jdFm G (qi Z K)) (n + 2) rc rs 38 [(0, .ref (gb G + t)), (1, .int x1), (2, .int x2), (3, .int x3), (4, .int x4)] [] Z I J := by
  intro f
  induction f with
  | zero =>
    intro I x4 w hW hF hw h4 hf hr
    have hr : w = R := hr
    subst hr
    have hwm := WM_f hW
    have h1 := hw.1
    have f0 : Fr (fun a k => a = t ∧ (k = 16 ∨ k = 17)) I (uI (uI I t 16 ((I t 16) + x2)) t 17 ((I t 17) + 1)) := Fr_uI (Fr_uI Fr.rf (by omega)) (by omega)
    have w1 : WM 7 t (uI I t 16 ((I t 16) + x2)) := WM_uI hW (by first | exact okMo (by decide) (by decide) (by decide) (by decide) (by decide) | exact okMf (by decide) (by decide) (by decide) (by decide) (by decide) (by decide) (by decide) (by decide) | exact okM30 (by omega) | exact okM42 (by omega) | exact okM33 (by omega) | exact okM10 (by omega) | exact okM8 (by omega) | exact okM22 (by omega) | exact okM24 (by omega) | exact okM14 (by omega) | exact okMa31 (by omega) | exact okMa35 (by omega) | exact okMa36 (by omega) | exact okMa3 (by omega) | exact okMr (by omega) | (unfold okM; refine ⟨?_, ?_, ?_, ?_, ?_, ?_, ?_, ?_, ?_, ?_, ?_, ?_⟩ <;> intro h <;> omega))
    exact rX12_rides_38 ht ⟨fun _ => hK _ (WM_uI w1 (by first | exact okMo (by decide) (by decide) (by decide) (by decide) (by decide) | exact okMf (by decide) (by decide) (by decide) (by decide) (by decide) (by decide) (by decide) (by decide) | exact okM30 (by omega) | exact okM42 (by omega) | exact okM33 (by omega) | exact okM10 (by omega) | exact okM8 (by omega) | exact okM22 (by omega) | exact okM24 (by omega) | exact okM14 (by omega) | exact okMa31 (by omega) | exact okMa35 (by omega) | exact okMa36 (by omega) | exact okMa3 (by omega) | exact okMr (by omega) | (unfold okM; refine ⟨?_, ?_, ?_, ?_, ?_, ?_, ?_, ?_, ?_, ?_, ?_, ?_⟩ <;> intro h <;> omega))) (Fr.tr (Fr.tr Fr.rf hF (by intro a k h; omega)) f0 (by intro a k h; omega)) (RM_fr hw (by omega) f0 (by omega) (by omega) (by omega) (by intro a k h1 h2 h3; omega)), fun hc => absurd (Int32.le_iff_toInt_le.mpr (by omega)) hc⟩
  | succ f ih =>
    intro I x4 w hW hF hw h4 hf hr
    have q1 : (1 : Int32).toInt = 1 := rfl
    have e4 := i32_add x4 1 (by omega) (by omega)
    have n4 := tn_eq x4
    have n1 := tn_eq x1
    have hr : acqL (acqT w (Int64.toInt32 (J (t + 5 + (Int32.toNatClampNeg x1)) x4.toInt.toNat))) (rowL (J (t + 5 + (Int32.toNatClampNeg x1))) f (x4.toInt.toNat + 1)) = R := hr
    rw [show x4.toInt.toNat + 1 = (x4 + 1).toInt.toNat by omega] at hr
    refine rX12_rides_38 ht ⟨fun hc => by have := Int32.le_iff_toInt_le.mp hc; omega, fun _ => ⟨vp_of (by omega) (by omega), vp_of (by omega) (by omega), ?_⟩⟩
    exact pX12_meets ht hW hw (fun v6 I3 hW3 hF3 hR3 _ => ih I3 (x4 + 1) _ hW3 (Fr.tr hF hF3 (fun _ _ h => h)) hR3 (by omega) (by omega) hr)
theorem pX12_rides {G : jdG} {n : Nat} {Z : jdL} {J : jdJ} {K : Int32 → jdI → jdJ → Prop} {I : jdI} {t : Nat} {s : Sd} {x1 x2 : Int32} (ht : zModel Z t) (hW : WM 7 t I) (hs : TM I t s) (hK : ∀ (v : Int32) (I2 : jdI), WM 7 t I2 → Fr (fun a k => (a = t ∧ (k = 44 ∨ k = 16 ∨ k = 17)) ∨ a = t + 17 ∨ (t + 21 ≤ a ∧ a ≤ t + 28)) I I2 → (v.toInt = (oRides s (tM I t x1 x2) (J (t + 5 + (Int32.toNatClampNeg x1))) x2.toInt.toNat).1 ∧ TM I2 t (oRides s (tM I t x1 x2) (J (t + 5 + (Int32.toNatClampNeg x1))) x2.toInt.toNat).2) → K v I2 J) : Cl G mX12_rides (n + 3) 0 0 [.ref (gb G + t), .int x1, .int x2] Z I J (qi Z K) := by
  have n1 := tn_eq x1
  have hwm := WM_f hW
  have h1 := hs.1.1
  have qm : (-1 : Int32).toInt = -1 := rfl
  refine eX12_rides ht ?_
  refine pX12_noDay ht hW (fun v2 I1 hW1 hF1 hv => ⟨fun c2 => ?_, fun c2 => ?_⟩)
  · have c2 := i0 c2
    have hc : tM I t x1 x2 = 0 := by omega
    have hr := tM_0 hc
    have hs1 := TM_fr hs (show s.1.1 ≤ 8 by omega) hF1 (by omega) (by omega) (by omega) (by omega) (by intro a k h1 h2 h3; omega)
    refine ⟨vp_of (by omega) (by omega), ?_⟩
    refine pX12_wrongCoach ht (zModel_rowsA ht (i := Int32.toNatClampNeg x1) (by omega)) hW1 hs1.1 hr.2.1 (by omega) (by decide) (fun v5 I4 hW4 hF4 hv4 _ => ?_)
    have hs4 := TM_fr hs1 (show s.1.1 ≤ 8 by omega) hF4 (by omega) (by omega) (by omega) (by omega) (by intro a k h1 h2 h3; omega)
    refine ⟨fun c5 => ?_, fun c5 => ?_⟩
    · have c5 : v5.toInt = -1 := by rw [c5]; rfl
      have e : oRides s (tM I t x1 x2) (J (t + 5 + (Int32.toNatClampNeg x1))) x2.toInt.toNat = ((x2.toInt.toNat : Int), (acqL s.1 (rowL (J (t + 5 + (Int32.toNatClampNeg x1))) x2.toInt.toNat 0), s.2)) := by
        unfold oRides
        rw [if_pos hc, if_pos (by omega)]
      refine pX12_rides_38 (R := acqL s.1 (rowL (J (t + 5 + (Int32.toNatClampNeg x1))) x2.toInt.toNat 0)) ht hr.1 hr.2.2 (fun I3 hW3 hF3 hR3 => ?_) x2.toInt.toNat I4 0 s.1 hW4 Fr.rf hs4.1 (by decide) (by show (0 : Int) + _ = _; omega) rfl
      refine hK x2 I3 hW3 (Fr.tr (Fr.tr (Fr.tr Fr.rf hF1 (by intro a k h; omega)) hF4 (by intro a k h; omega)) hF3 (by intro a k h; omega)) ?_
      rw [e]
      exact ⟨by show x2.toInt = (x2.toInt.toNat : Int); omega, hR3, by rw [hF3 t 19 (by omega)]; exact hs4.2⟩
    · have c5 : ¬ v5.toInt = -1 := fun z => c5 (Int32.toInt_inj.mp (z.trans qm.symm))
      have e : oRides s (tM I t x1 x2) (J (t + 5 + (Int32.toNatClampNeg x1))) x2.toInt.toNat = (-5, s) := by
        unfold oRides
        rw [if_pos hc, if_neg (by omega)]
      refine sfX12_refuse ht (by decide) hW4 (by decide) (fun v I3 hW3 hF3 hp3 => hK v I3 hW3 (Fr.tr (Fr.tr (Fr.tr Fr.rf hF1 (by intro a k h; omega)) hF4 (by intro a k h; omega)) hF3 (by intro a k h; omega)) ?_)
      rw [e]
      exact ⟨hp3, TM_fr hs4 (show s.1.1 ≤ 8 by omega) hF3 (by omega) (by omega) (by omega) (by omega) (by intro a k h1 h2 h3; omega)⟩
  · have c2 := i1 c2
    have e : oRides s (tM I t x1 x2) (J (t + 5 + (Int32.toNatClampNeg x1))) x2.toInt.toNat = (tM I t x1 x2, s) := if_neg (by omega)
    refine hK v2 I1 hW1 (Fr.tr Fr.rf hF1 (by intro a k h; omega)) ?_
    rw [e]
    exact ⟨hv, TM_fr hs (show s.1.1 ≤ 8 by omega) hF1 (by omega) (by omega) (by omega) (by omega) (by intro a k h1 h2 h3; omega)⟩
/-! who waited how long; the best coachman -/
def wu (p : Nat) : List (Int32 × Int32) → Int32 → Int32
  | [], u => u
  | a :: S, u => wu p S (if bt a.1 p = true then a.2 else u)
/-- the waiting of one on a day -/
def wv (w : Tw) (S : List (Int32 × Int32)) (p : Nat) : Int32 := w.2.2.1 p * (wu p S 24 - w.2.1 p)
def wsum (g : Nat → Int32) : Nat → Nat → Int32 → Int32
  | 0, _, x => x
  | f + 1, i, x => wsum g f (i + 1) (x + g i)
def wAll (w : Tw) (kd : Int) (a : Int32) : Int32 := wsum (wv w (dyS w kd a).1) w.1.toNat 0 0
/-- the shelf with the least waiting, of several the first -/
def hd (g : Nat → Option Int32) : Nat → Nat → Int32 → Int32 → Int32
  | 0, _, b, _ => b
  | f + 1, i, b, m => match g i with
    | none => hd g f (i + 1) b m
    | some v => if b = -1 ∨ ¬ m.toInt ≤ v.toInt then hd g f (i + 1) (Int32.ofNat i) v else hd g f (i + 1) b m
def gX (Z : jdL) (I : jdI) (w : Tw) (i : Nat) : Option Int32 := match Z.2.1 (29 + 2 * i) 3 with
  | none => none
  | some u => some (wAll w (ckI (Z.1 u)) (I u 0))
