/-! what a first meeting closes -/
theorem DL_sup (rel : Nat → Nat → Bool) : ∀ (k p m : Nat) (s : Int32), ∀ g ∈ DL rel k p m s, ∀ i, i < 32 → bt s i = true → bt g i = true := by
  intro k
  induction k with
  | zero =>
    intro p m s g hg i hi h
    cases m with
    | zero =>
      rw [DL_m0] at hg
      rw [List.mem_singleton.mp hg]
      exact h
    | succ m =>
      rw [DL_k0] at hg
      cases hg
  | succ k ih =>
    intro p m s g hg i hi h
    cases m with
    | zero =>
      rw [DL_m0] at hg
      rw [List.mem_singleton.mp hg]
      exact h
    | succ m =>
      by_cases o : okN rel s p p = true
      · rw [DL_y o] at hg
        rcases List.mem_append.mp hg with hg | hg
        · exact ih _ _ _ g hg i hi (by rw [bt_or _ _ _ hi, h]; rfl)
        · exact ih _ _ _ g hg i hi h
      · rw [DL_n o] at hg
        exact ih _ _ _ g hg i hi h
theorem bt_p (s : Int32) {p i : Nat} (hp : p < 8) (hi : i < 8) : bt (s ||| ((1 : Int32) <<< (Int32.ofNat p &&& 31))) i = (bt s i || decide (i = p)) := by
  rw [bt_or _ _ _ (by omega), bt_1a ⟨p, hp⟩ ⟨i, hi⟩]
/-- the groups that stay when a and b have met -/
theorem DL_fil {rel rel2 : Nat → Nat → Bool} {a b : Nat} (hab : a ≠ b) (ha : a < 8) (hb : b < 8) (hr : ∀ p q, rel2 p q = (rel p q && !(decide ((p = a ∧ q = b) ∨ (p = b ∧ q = a))))) : ∀ (k p m : Nat) (s : Int32), p + k ≤ 8 → (∀ i, p ≤ i → i < 8 → bt s i = false) → ¬ (bt s a = true ∧ bt s b = true) → DL rel2 k p m s = (DL rel k p m s).filter (fun g => !(bt g a && bt g b)) := by
  intro k
  induction k with
  | zero =>
    intro p m s hk hs hn
    cases m with
    | zero =>
      rw [DL_m0, DL_m0]
      have e : (!(bt s a && bt s b)) = true := by
        cases h1 : bt s a
        · rfl
        · cases h2 : bt s b
          · rfl
          · exact absurd ⟨h1, h2⟩ hn
      rw [List.filter_cons_of_pos (by rw [e]), List.filter_nil]
    | succ m =>
      rw [DL_k0, DL_k0]
      rfl
  | succ k ih =>
    intro p m s hk hs hn
    cases m with
    | zero =>
      rw [DL_m0, DL_m0]
      have e : (!(bt s a && bt s b)) = true := by
        cases h1 : bt s a
        · rfl
        · cases h2 : bt s b
          · rfl
          · exact absurd ⟨h1, h2⟩ hn
      rw [List.filter_cons_of_pos (by rw [e]), List.filter_nil]
    | succ m =>
      have hs1 : ∀ i, p + 1 ≤ i → i < 8 → bt s i = false := fun i h1 h2 => hs i (by omega) h2
      by_cases o1 : okN rel s p p = true
      · have o9 : ∀ q, q < p → bt s q = true → rel p q = true := of_decide_eq_true o1
        by_cases bad : (p = a ∧ bt s b = true) ∨ (p = b ∧ bt s a = true)
        · have o2 : ¬ okN rel2 s p p = true := fun z => by
            have z9 : ∀ q, q < p → bt s q = true → rel2 p q = true := of_decide_eq_true z
            rcases bad with ⟨e, h⟩ | ⟨e, h⟩
            · have hl : b < p := Nat.lt_of_not_le (fun q => by rw [hs b q hb] at h; cases h)
              have := z9 b hl h
              rw [hr, decide_eq_true (Or.inl ⟨e, rfl⟩), Bool.not_true, Bool.and_false] at this
              cases this
            · have hl : a < p := Nat.lt_of_not_le (fun q => by rw [hs a q ha] at h; cases h)
              have := z9 a hl h
              rw [hr, decide_eq_true (Or.inr ⟨e, rfl⟩), Bool.not_true, Bool.and_false] at this
              cases this
          have hz : (DL rel k (p + 1) m (s ||| ((1 : Int32) <<< (Int32.ofNat p &&& 31)))).filter (fun g => !(bt g a && bt g b)) = [] := List.filter_eq_nil_iff.mpr (fun g hg => by
            have u := DL_sup rel k (p + 1) m _ g hg
            have ua := u a (by omega) (by
              rw [bt_p s (by omega) ha]
              rcases bad with ⟨e, h⟩ | ⟨e, h⟩
              · rw [decide_eq_true e.symm, Bool.or_true]
              · rw [h, Bool.true_or])
            have ub := u b (by omega) (by
              rw [bt_p s (by omega) hb]
              rcases bad with ⟨e, h⟩ | ⟨e, h⟩
              · rw [h, Bool.true_or]
              · rw [decide_eq_true e.symm, Bool.or_true])
            rw [ua, ub]
            decide)
          rw [DL_n o2, DL_y o1, List.filter_append, hz, List.nil_append]
          exact ih _ _ _ (by omega) hs1 hn
        · have o2 : okN rel2 s p p = true := decide_eq_true (fun q hq hbq => by
            rw [hr, o9 q hq hbq]
            have nb : ¬ ((p = a ∧ q = b) ∨ (p = b ∧ q = a)) := fun z => by
              rcases z with ⟨e1, e2⟩ | ⟨e1, e2⟩
              · exact bad (Or.inl ⟨e1, by rw [← e2]; exact hbq⟩)
              · exact bad (Or.inr ⟨e1, by rw [← e2]; exact hbq⟩)
            rw [decide_eq_false nb]
            rfl)
          rw [DL_y o2, DL_y o1, List.filter_append]
          rw [ih (p + 1) m _ (by omega) (fun i h1 h2 => by rw [bt_p s (by omega) h2, hs i (by omega) h2, decide_eq_false (by omega)]; rfl) (fun z => ?_), ih (p + 1) (m + 1) s (by omega) hs1 hn]
          obtain ⟨h1, h2⟩ := z
          rw [bt_p s (by omega) ha] at h1
          rw [bt_p s (by omega) hb] at h2
          by_cases ea : a = p
          · rw [decide_eq_false (by omega), Bool.or_false] at h2
            exact bad (Or.inl ⟨ea.symm, h2⟩)
          · rw [decide_eq_false ea, Bool.or_false] at h1
            by_cases eb : b = p
            · exact bad (Or.inr ⟨eb.symm, h1⟩)
            · rw [decide_eq_false eb, Bool.or_false] at h2
              exact hn ⟨h1, h2⟩
      · have o2 : ¬ okN rel2 s p p = true := fun z => o1 (decide_eq_true (fun q hq hbq => by
          have z9 : ∀ q, q < p → bt s q = true → rel2 p q = true := of_decide_eq_true z
          have := z9 q hq hbq
          rw [hr] at this
          exact (Bool.and_eq_true_iff.mp this).1))
        rw [DL_n o1, DL_n o2]
        exact ih _ _ _ (by omega) hs1 hn
theorem LW_ev {w : Tw} (hb : (0 ≤ w.1 ∧ w.1 ≤ 7) ∧ 2 ≤ w.2.2.2.1 ∧ w.2.2.2.1 ≤ 4) : ∀ g ∈ LW w, sbs (evW w) g = true := fun g hg => by
  have hr := LW_g hb g hg
  have hm := ((DL_mem (relW w) (g := g) ⟨by omega, by omega⟩ w.1.toNat 0 w.2.2.2.1.toNat 0 (by omega) (by decide) (fun i _ h => bt_ze i (by omega))).mp hg).2.1
  refine decide_eq_true (bt_ext ?_ ⟨by omega, by omega⟩ (fun i hi => ?_))
  · have r9 := i32_and' g (evW w) (by omega)
    exact ⟨r9.1, by omega⟩
  · rw [bt_an _ _ _ (by omega)]
    cases e : bt g i
    · rfl
    · have hl : i < w.1.toNat := Nat.lt_of_not_le (fun q => by rw [hm i (by omega) hi] at e; cases e)
      have q : (Int32.ofInt w.1).toInt = w.1 := Int32.toInt_ofInt_of_le (by omega) (by omega)
      unfold evW
      rw [bt_ev (by omega) hi, q, decide_eq_true hl]
      rfl
theorem cnt_len {s : Int32} : ∀ (L : List Int32) (c : Int32), 0 ≤ c.toInt → c.toInt + (L.length : Int) ≤ 1000 → (cnt s L c).toInt = c.toInt + ((L.filter (sbs s)).length : Int)
  | [], c, _, _ => by show c.toInt = c.toInt + 0; omega
  | g :: L, c, h0, h1 => by
    rw [List.length_cons] at h1
    have q1 : (1 : Int32).toInt = 1 := rfl
    have e := i32_add c 1 (by omega) (by omega)
    by_cases h : sbs s g = true
    · rw [cnt_y h, cnt_len L (c + 1) (by omega) (by omega), List.filter_cons_of_pos h, List.length_cons]
      omega
    · rw [cnt_n h, cnt_len L c h0 (by omega), List.filter_cons_of_neg h]
def cw (P : Int32 → Bool) : List Int32 → Int32 → Int32
  | [], c => c
  | g :: L, c => if P g = true then cw P L (c + 1) else cw P L c
theorem cw_y {P : Int32 → Bool} {g c : Int32} {L : List Int32} (h : P g = true) : cw P (g :: L) c = cw P L (c + 1) := if_pos h
theorem cw_n {P : Int32 → Bool} {g c : Int32} {L : List Int32} (h : ¬ P g = true) : cw P (g :: L) c = cw P L c := if_neg h
theorem cw_len {P : Int32 → Bool} : ∀ (L : List Int32) (c : Int32), 0 ≤ c.toInt → c.toInt + (L.length : Int) ≤ 1000 → (cw P L c).toInt = c.toInt + ((L.filter P).length : Int)
  | [], c, _, _ => by show c.toInt = c.toInt + 0; omega
  | g :: L, c, h0, h1 => by
    rw [List.length_cons] at h1
    have q1 : (1 : Int32).toInt = 1 := rfl
    have e := i32_add c 1 (by omega) (by omega)
    by_cases h : P g = true
    · rw [cw_y h, cw_len L (c + 1) (by omega) (by omega), List.filter_cons_of_pos h, List.length_cons]
      omega
    · rw [cw_n h, cw_len L c h0 (by omega), List.filter_cons_of_neg h]
theorem fil_split {P : Int32 → Bool} : ∀ L : List Int32, (L.filter (fun g => !(P g))).length + (L.filter P).length = L.length
  | [] => rfl
  | g :: L => by
    have e := fil_split (P := P) L
    by_cases h : P g = true
    · rw [List.filter_cons_of_pos h, List.filter_cons_of_neg (by rw [h]; decide), List.length_cons, List.length_cons]
      omega
    · rw [List.filter_cons_of_neg h, List.filter_cons_of_pos (by rw [Bool.eq_false_iff.mpr h]; rfl), List.length_cons, List.length_cons]
      omega
def tw (a b g : Int32) : Bool := bt g a.toInt.toNat && bt g b.toInt.toNat
theorem two_ra : ∀ p : Fin 8, ∀ q : Fin 8, 0 ≤ (((1 : Int32) <<< (Int32.ofNat p.val &&& 31)) ||| ((1 : Int32) <<< (Int32.ofNat q.val &&& 31))).toInt ∧ (((1 : Int32) <<< (Int32.ofNat p.val &&& 31)) ||| ((1 : Int32) <<< (Int32.ofNat q.val &&& 31))).toInt < 256 := by decide +kernel
theorem two_r {a b : Int32} (ha : 0 ≤ a.toInt ∧ a.toInt < 8) (hb : 0 ≤ b.toInt ∧ b.toInt < 8) : 0 ≤ (((1 : Int32) <<< (a &&& 31)) ||| ((1 : Int32) <<< (b &&& 31))).toInt ∧ (((1 : Int32) <<< (a &&& 31)) ||| ((1 : Int32) <<< (b &&& 31))).toInt < 256 := by
  have e := two_ra ⟨a.toInt.toNat, by omega⟩ ⟨b.toInt.toNat, by omega⟩
  rw [← i32_ofNat ha.1, ← i32_ofNat hb.1] at e
  exact e
theorem two_iff {a b g : Int32} (ha : 0 ≤ a.toInt ∧ a.toInt < 8) (hb : 0 ≤ b.toInt ∧ b.toInt < 8) : (g &&& (((1 : Int32) <<< (a &&& 31)) ||| ((1 : Int32) <<< (b &&& 31)))) = (((1 : Int32) <<< (a &&& 31)) ||| ((1 : Int32) <<< (b &&& 31))) ↔ tw a b g = true := by
  have hr := two_r ha hb
  have bit : ∀ i, i < 8 → bt (((1 : Int32) <<< (a &&& 31)) ||| ((1 : Int32) <<< (b &&& 31))) i = (decide (i = a.toInt.toNat) || decide (i = b.toInt.toNat)) := fun i hi => by rw [bt_or _ _ _ (by omega), bt_1 ha hi, bt_1 hb hi]
  constructor
  · intro h
    have h1 := congrArg (fun z => bt z a.toInt.toNat) h
    have h2 := congrArg (fun z => bt z b.toInt.toNat) h
    have h1 : bt (g &&& (((1 : Int32) <<< (a &&& 31)) ||| ((1 : Int32) <<< (b &&& 31)))) a.toInt.toNat = bt (((1 : Int32) <<< (a &&& 31)) ||| ((1 : Int32) <<< (b &&& 31))) a.toInt.toNat := h1
    have h2 : bt (g &&& (((1 : Int32) <<< (a &&& 31)) ||| ((1 : Int32) <<< (b &&& 31)))) b.toInt.toNat = bt (((1 : Int32) <<< (a &&& 31)) ||| ((1 : Int32) <<< (b &&& 31))) b.toInt.toNat := h2
    rw [bt_an _ _ _ (by omega), bit _ (by omega), decide_eq_true (rfl : a.toInt.toNat = a.toInt.toNat), Bool.true_or, Bool.and_true] at h1
    rw [bt_an _ _ _ (by omega), bit _ (by omega), decide_eq_true (rfl : b.toInt.toNat = b.toInt.toNat), Bool.or_true, Bool.and_true] at h2
    unfold tw
    rw [h1, h2]
    rfl
  · intro h
    obtain ⟨h1, h2⟩ := Bool.and_eq_true_iff.mp h
    refine bt_all (fun i hi => ?_)
    rw [bt_an _ _ _ hi]
    by_cases h8 : i < 8
    · rw [bit i h8]
      by_cases ea : i = a.toInt.toNat
      · rw [ea, h1, Bool.true_and]
      · by_cases eb : i = b.toInt.toNat
        · rw [eb, h2, Bool.true_and]
        · rw [decide_eq_false ea, decide_eq_false eb, Bool.or_false, Bool.and_false]
    · rw [bt_hi hr (by omega) hi, Bool.and_false]
theorem pX8_countWith_4 {G : jdG} {n rc rs : Nat} {Z : jdL} {J : jdJ} {K : Int32 → jdI → jdJ → Prop} {I : jdI} {L : List Int32} {P : Int32 → Bool} {x1 R : Int32} (ht : zTies Z 13) (hP : ∀ g, (g &&& x1) = x1 ↔ P g = true) (hc : (I 13 8).toInt = (L.length : Int)) (h70 : L.length ≤ 70) (hL : LiS I (13 + 3) L) (hK : K R I J) : ∀ f : Nat, ∀ x2 x3 : Int32, 0 ≤ x3.toInt → x3.toInt + (f : Int) = (L.length : Int) → cw P (L.drop x3.toInt.toNat) x2 = R → Jd G mX8_countWith (jdFm G (qi Z K)) n rc rs 4 [(0, .ref (gb G + 13)), (1, .int x1), (2, .int x2), (3, .int x3)] [] Z I J := by
  intro f
  induction f with
  | zero =>
    intro x2 x3 h3 hf hr
    rw [drop_end (show L.length ≤ x3.toInt.toNat by omega)] at hr
    have hr : x2 = R := hr
    subst hr
    exact rX8_countWith_4 ht ⟨fun _ => hK, fun h => absurd (Int32.le_iff_toInt_le.mpr (by omega)) h⟩
  | succ f ih =>
    intro x2 x3 h3 hf hr
    have q1 : (1 : Int32).toInt = 1 := rfl
    have e3 := i32_add x3 1 (by omega) (by omega)
    have n3 := tn_eq x3
    rw [LiS_drop hL (k := x3.toInt.toNat) (by omega)] at hr
    have en : (x3 + 1).toInt.toNat = x3.toInt.toNat + 1 := by omega
    refine rX8_countWith_4 ht ⟨fun h => by have := Int32.le_iff_toInt_le.mp h; omega, fun _ => ⟨vp_of (by omega) (by omega), fun hv => ?_, fun hv => ?_⟩⟩
    · rw [Int32.add_zero]
      rw [n3] at hv
      rw [cw_n (fun z => hv ((hP _).mpr z)), ← en] at hr
      exact ih _ (x3 + 1) (by omega) (by omega) hr
    · rw [n3] at hv
      rw [cw_y ((hP _).mp hv), ← en] at hr
      exact ih _ (x3 + 1) (by omega) (by omega) hr
/-- the groups of today that have both a and b in them -/
def cls (w : Tw) (a b : Int32) : Int := (((LW w).filter (tw a b)).length : Int)
theorem pX8_countWith {G : jdG} {n : Nat} {Z : jdL} {J : jdJ} {K : Int32 → jdI → jdJ → Prop} {I : jdI} {w : Tw} {a b : Int32} (ht : zTies Z 13) (ha : 0 ≤ a.toInt ∧ a.toInt < 8) (hb : 0 ≤ b.toInt ∧ b.toInt < 8) (h70 : (LW w).length ≤ 70) (hT : TL I w) (hK : ∀ v : Int32, v.toInt = cls w a b → K v I J) : Cl G mX8_countWith n 0 0 [.ref (gb G + 13), .int (((1 : Int32) <<< (a &&& 31)) ||| ((1 : Int32) <<< (b &&& 31)))] Z I J (qi Z K) := by
  have e := cw_len (P := tw a b) (LW w) 0 (by decide) (by show (0 : Int) + _ ≤ 1000; omega)
  have q0 : (0 : Int32).toInt = 0 := rfl
  refine eX8_countWith ht (pX8_countWith_4 (L := LW w) (P := tw a b) ht (fun g => two_iff ha hb) hT.2.2.1 h70 hT.2.2.2 (hK _ ?_) (LW w).length 0 0 (by decide) (by show (0 : Int) + _ = _; omega) rfl)
  show (cw (tw a b) (LW w) 0).toInt = cls w a b
  rw [e, q0, Int.zero_add]
  rfl
def TwoP (w : Tw) (x1 x2 : Int32) : Prop := (0 ≤ x1.toInt ∧ x1.toInt < w.1) ∧ (0 ≤ x2.toInt ∧ x2.toInt < w.1) ∧ ¬ x1.toInt = x2.toInt
def TwoD (w : Tw) (x1 x2 : Int32) : Decidable (TwoP w x1 x2) := by
  unfold TwoP
  exact inferInstance
def oCloses (w : Tw) (x1 x2 : Int32) : Int := @ite _ (TwoP w x1 x2) (TwoD w x1 x2) (cls w x1 x2) (-2)
theorem oCloses_y {w : Tw} {x1 x2 : Int32} (h : TwoP w x1 x2) : oCloses w x1 x2 = cls w x1 x2 := if_pos h
theorem oCloses_n {w : Tw} {x1 x2 : Int32} (h : ¬ TwoP w x1 x2) : oCloses w x1 x2 = -2 := if_neg h
theorem pX11_closes {G : jdG} {n : Nat} {Z : jdL} {J : jdJ} {K : Int32 → jdI → jdJ → Prop} {I : jdI} {s : Sd} {x1 x2 : Int32} (hX : zX Z) (hW : WX I) (hs : TX I 1 s) (hk : OKT s.1) (hK : ∀ (v : Int32) (I2 : jdI), WX I2 → Fr (fun a k => (13 ≤ a ∧ a ≤ 24) ∨ a = 28) I I2 → v.toInt = oCloses s.1 x1 x2 → K v I2 J) : Cl G mX11_closes (n + 8) 0 0 [.ref (gb G + 0), .int x1, .int x2] Z I J (qi Z K) := by
  have hb := RX_b hW hs.1
  have h1 := hs.1.1
  refine eX11_closes hX ?_
  refine sfX9_hasTwo (zX_o0 hX) (Or.inl rfl) hW (fun v2 p2 => ⟨fun c2 => ?_, fun c2 => ?_⟩)
  · have c2 := i1 c2
    have ok : TwoP s.1 x1 x2 := by unfold TwoP; omega
    refine pX8_load (zX_o3 hX) (zX_o0 hX) (Or.inl rfl) hW hs.1 (OKT_sy hk) (fun I2 hW2 hF2 hT2 _ => ?_)
    exact pX8_countWith (zX_o3 hX) (by omega) (by omega) (LW_70 hb) hT2 (fun v hv => hK v I2 hW2 (Fr.tr Fr.rf hF2 (by intro a k h; omega)) (hv.trans (oCloses_y ok).symm))
  · have c2 := i0 c2
    exact rfX hX hW (oCloses_n (by unfold TwoP; omega)) (by intro a k h; omega) hK
theorem relW_tie (w : Tw) (a b p q : Nat) : relW (tieT w a b 0) p q = (relW w p q && !(decide ((p = a ∧ q = b) ∨ (p = b ∧ q = a)))) := by
  unfold relW
  show decide ((if (p = a ∧ q = b) ∨ (p = b ∧ q = a) then (0 : Int32) else w.2.2.2.2.2 p q) = -1) = _
  by_cases h : (p = a ∧ q = b) ∨ (p = b ∧ q = a)
  · rw [if_pos h, decide_eq_true h, decide_eq_false (by decide), Bool.not_true, Bool.and_false]
  · rw [if_neg h, decide_eq_false h, Bool.not_false, Bool.and_true]
theorem LW_tie {w : Tw} {a b : Int32} (hb : (0 ≤ w.1 ∧ w.1 ≤ 7) ∧ 2 ≤ w.2.2.2.1 ∧ w.2.2.2.1 ≤ 4) (h : TwoP w a b) : LW (tieT w (Int32.toNatClampNeg a) (Int32.toNatClampNeg b) 0) = (LW w).filter (fun g => !(tw a b g)) := by
  have n1 := tn_eq a
  have n2 := tn_eq b
  obtain ⟨h1, h2, h3⟩ := h
  have e1 : Int32.toNatClampNeg a = a.toInt.toNat := by omega
  have e2 : Int32.toNatClampNeg b = b.toInt.toNat := by omega
  rw [e1, e2]
  exact DL_fil (rel := relW w) (rel2 := relW (tieT w a.toInt.toNat b.toInt.toNat 0)) (a := a.toInt.toNat) (b := b.toInt.toNat) (by omega) (by omega) (by omega) (relW_tie w _ _) w.1.toNat 0 w.2.2.2.1.toNat 0 (by omega) (fun i _ hi => bt_ze i (by omega)) (fun z => by rw [bt_ze _ (by omega)] at z; cases z.1)
theorem cnt_all {s : Int32} {L : List Int32} (h70 : L.length ≤ 70) (h : ∀ g ∈ L, sbs s g = true) : (cnt s L 0).toInt = (L.length : Int) := by
  have q0 : (0 : Int32).toInt = 0 := rfl
  rw [cnt_len L 0 (by decide) (by omega), List.filter_eq_self.mpr h]
  omega
theorem cls_m {w : Tw} {a b : Int32} (hb : (0 ≤ w.1 ∧ w.1 ≤ 7) ∧ 2 ≤ w.2.2.2.1 ∧ w.2.2.2.1 ≤ 4) (h : TwoP w a b) : (cnt (evW w) (LW w) 0 - cnt (evW w) (LW (tieT w (Int32.toNatClampNeg a) (Int32.toNatClampNeg b) 0)) 0).toInt = cls w a b := by
  have l := LW_70 hb
  have sp := fil_split (P := tw a b) (LW w)
  have e1 := cnt_all l (LW_ev hb)
  have e2 : (cnt (evW w) (LW (tieT w (Int32.toNatClampNeg a) (Int32.toNatClampNeg b) 0)) 0).toInt = (((LW w).filter (fun g => !(tw a b g))).length : Int) := by
    rw [LW_tie hb h]
    exact cnt_all (by omega) (fun g hg => LW_ev hb g (List.mem_filter.mp hg).1)
  have e3 := i32_sub (cnt (evW w) (LW w) 0) (cnt (evW w) (LW (tieT w (Int32.toNatClampNeg a) (Int32.toNatClampNeg b) 0)) 0) (by omega) (by omega)
  unfold cls
  omega
theorem pqX12_closesOf {G : jdG} {n : Nat} {Z : jdL} {I : jdI} {J : jdJ} {Q : jdQ} {t : Nat} {w : Tw} {x1 x2 : Int32} {sA sV : Nat → Nat} (hG : gOK G sA sV) (hM : MI Z I t) (hw : RM I t w) (h : TwoP w x1 x2) (hQ : ∀ (v : Int32) (Z2 : jdL) (I2 : jdI) (J2 : jdJ), ST t 21 20 Z I J Z2 I2 J2 → (∃ u, Z2.2.1 t 21 = some u) → v.toInt = cls w x1 x2 → Q (some (.int v)) Z2 I2 J2) : Cl G mX12_closesOf (n + 12) (fC Z t) (fS Z t) [.ref (gb G + t), .int x1, .int x2] Z I J Q := by
  have hb := RM_b hM.2.1 hw
  have hMs := hM.2.2.1
  refine eX12_closesOf hM.1 ⟨fC Z t, fS Z t, 0, 0, Nat.le_refl _, Nat.le_refl _, ?_⟩
  refine qX12_fresh hG hM (fun u Z1 I1 J1 hS hu c0 c2 c3 hU hF1 hC1 => ⟨u, rfl, hS.1.1, c0, ?_⟩)
  have r1 := RM_fr hw (by omega) hF1 (by omega) (by omega) (by omega) (by intro a k h1 h2 h3; omega)
  have ru := RM_cm hw (by omega) hC1
  refine pX12_knows c0 hU ru h.1 h.2.1 (fun I2 hW2 hF2 ru2 => ?_)
  have hS2 := ST_u hS hu (WM_mono hW2 (by decide)) hF2 (by intro a k h; omega)
  have r2 := RM_fr r1 (by omega) hF2 (by omega) (by omega) (by omega) (by intro a k h1 h2 h3; omega)
  refine eX12_all hS2.1.1 ?_
  rw [evM r2]
  refine pX12_groupsOf hS2.1.1 hS2.1.2.1 (GM_RM r2 (by omega) (by omega)) (by omega) (by omega) (fun I6 hW6 hF6 => ?_)
  have hS6 := ST_t hS2 hW6 hF6 (by intro a k h; omega)
  have hU6 : WM 7 u I6 := WM_fr hW2 hF6 (by intro a k h1 h2 h3; omega)
  have r6 := RM_fr r2 (by omega) hF6 (by omega) (by omega) (by omega) (by intro a k h1 h2 h3; omega)
  have ru6 := RM_fr ru2 (show w.1 ≤ 8 by omega) hF6 (by omega) (by omega) (by omega) (by intro a k h1 h2 h3; omega)
  refine eX12_all hS6.1.1 ?_
  rw [evM r6]
  refine pX12_groupsOf c0 hU6 (GM_RM ru6 (show 0 ≤ w.1 by omega) (show 0 ≤ w.2.2.2.1 by omega)) (show w.1.toNat ≤ 8 by omega) (show w.2.2.2.1.toNat ≤ 4 by omega) (fun I10 hW10 hF10 => ?_)
  exact hQ _ _ _ _ (ST_u hS6 hu (WM_mono hW10 (by decide)) hF10 (by intro a k h; omega)) ⟨u, hu⟩ (cls_m hb h)
theorem pqX12_closes {G : jdG} {n : Nat} {Z : jdL} {I : jdI} {J : jdJ} {Q : jdQ} {t : Nat} {s : Sd} {x1 x2 : Int32} {sA sV : Nat → Nat} (hG : gOK G sA sV) (hM : MI Z I t) (hs : TM I t s) (hQ : ∀ (v : Int32) (Z2 : jdL) (I2 : jdI) (J2 : jdJ), ST t 21 20 Z I J Z2 I2 J2 → v.toInt = oCloses s.1 x1 x2 → Q (some (.int v)) Z2 I2 J2) : Cl G mX12_closes (n + 13) (fC Z t) (fS Z t) [.ref (gb G + t), .int x1, .int x2] Z I J Q := by
  have h1 := hs.1.1
  refine eX12_closes hM.1 ?_
  refine sfX12_areTwo hM.1 hM.2.1 (fun v hp => ⟨fun hc => ?_, fun hc => ?_⟩)
  · have hc := i0 hc
    exact sfX12_refuse hM.1 (by decide) hM.2.1 (by decide) (fun v5 I4 hW4 hF4 hp4 => hQ _ _ _ _ (ST_t (ST.rf hM) hW4 hF4 (by intro a k h; omega)) (hp4.trans (oCloses_n (by unfold TwoP; omega)).symm))
  · have hc := i1 hc
    have ok : TwoP s.1 x1 x2 := by unfold TwoP; omega
    refine ⟨fC Z t, fS Z t, 0, 0, Nat.le_refl _, Nat.le_refl _, ?_⟩
    exact pqX12_closesOf hG hM hs.1 ok (fun v Z2 I2 J2 hS _ hv => ⟨v, rfl, hS.1.1, hQ _ _ _ _ hS (hv.trans (oCloses_y ok).symm)⟩)
/-! the dearest pair to bring together -/
def wsI (w : Tw) (p : Nat) : Nat → Nat → Int × Int → Int × Int
  | 0, _, z => z
  | k + 1, q, z => wsI w p k (q + 1) (if relW w p q = true then (if cls w (Int32.ofNat p) (Int32.ofNat q) ≤ z.2 then z else (10 * (p : Int) + (q : Int), cls w (Int32.ofNat p) (Int32.ofNat q))) else z)
def wsO (w : Tw) : Nat → Nat → Int × Int → Int × Int
  | 0, _, z => z
  | k + 1, p, z => wsO w k (p + 1) (wsI w p (w.1.toNat - (p + 1)) (p + 1) z)
def oWorst (w : Tw) : Int := if (wsO w w.1.toNat 0 (-1, -1)).1 = -1 then -5 else (wsO w w.1.toNat 0 (-1, -1)).1
theorem wsI_n {w : Tw} {p k q : Nat} {z : Int × Int} (h : ¬ relW w p q = true) : wsI w p (k + 1) q z = wsI w p k (q + 1) z := by
  show wsI w p k (q + 1) _ = _
  rw [if_neg h]
theorem wsI_k {w : Tw} {p k q : Nat} {z : Int × Int} (h : relW w p q = true) (h2 : cls w (Int32.ofNat p) (Int32.ofNat q) ≤ z.2) : wsI w p (k + 1) q z = wsI w p k (q + 1) z := by
  show wsI w p k (q + 1) _ = _
  rw [if_pos h, if_pos h2]
theorem wsI_y {w : Tw} {p k q : Nat} {z : Int × Int} (h : relW w p q = true) (h2 : ¬ cls w (Int32.ofNat p) (Int32.ofNat q) ≤ z.2) : wsI w p (k + 1) q z = wsI w p k (q + 1) (10 * (p : Int) + (q : Int), cls w (Int32.ofNat p) (Int32.ofNat q)) := by
  show wsI w p k (q + 1) _ = _
  rw [if_pos h, if_neg h2]
theorem pX8_closest_l {G : jdG} {n rc rs : Nat} {Z : jdL} {J : jdJ} {K : Int32 → jdI → jdJ → Prop} {I : jdI} {w : Tw} {R : Int × Int} (ht : zTies Z 13) (hb : (0 ≤ w.1 ∧ w.1 ≤ 7) ∧ 2 ≤ w.2.2.2.1 ∧ w.2.2.2.1 ≤ 4) (hT : TL I w) (hK : ∀ v : Int32, v.toInt = R.1 → K v I J) : ∀ m : Nat,
    (∀ (x1 x2 x3 : Int32), 0 ≤ x3.toInt → x3.toInt ≤ w.1 → wsO w (w.1.toNat - x3.toInt.toNat) x3.toInt.toNat (x1.toInt, x2.toInt) = R → (8 - x3.toInt) * 10 < (m : Int) → Jd G mX8_closest (jdFm G (qi Z K)) (n + 1) rc rs 6 [(0, .ref (gb G + 13)), (1, .int x1), (2, .int x2), (3, .int x3)] [] Z I J) ∧
    (∀ (x1 x2 x3 x4 : Int32), 0 ≤ x3.toInt → x3.toInt < w.1 → x3.toInt < x4.toInt → x4.toInt ≤ w.1 → wsO w (w.1.toNat - (x3.toInt.toNat + 1)) (x3.toInt.toNat + 1) (wsI w x3.toInt.toNat (w.1.toNat - x4.toInt.toNat) x4.toInt.toNat (x1.toInt, x2.toInt)) = R → (8 - x3.toInt) * 10 - x4.toInt < (m : Int) → Jd G mX8_closest (jdFm G (qi Z K)) (n + 1) rc rs 19 [(0, .ref (gb G + 13)), (1, .int x1), (2, .int x2), (3, .int x3), (4, .int x4)] [] Z I J) := by
  intro m
  induction m with
  | zero =>
    refine ⟨fun x1 x2 x3 h0 h1 hr hm => ?_, fun x1 x2 x3 x4 h0 h1 h2 h3 hr hm => ?_⟩ <;> omega
  | succ m ih =>
    have q1 : (1 : Int32).toInt = 1 := rfl
    have q10 : (10 : Int32).toInt = 10 := rfl
    have hN : (I 13 6).toInt = w.1 := by have := hT.1.1; omega
    refine ⟨fun x1 x2 x3 h0 h1 hr hm => ?_, fun x1 x2 x3 x4 h0 h1 h2 h3 hr hm => ?_⟩
    · have e1 := i32_add x3 1 (by omega) (by omega)
      refine rX8_closest_6 ht ⟨fun hc => ?_, fun hc => ?_⟩
      · have hc := Int32.le_iff_toInt_le.mp hc
        rw [show w.1.toNat - x3.toInt.toNat = 0 by omega] at hr
        have hr : (x1.toInt, x2.toInt) = R := hr
        exact hK x1 (by rw [← hr])
      · have hc := mt Int32.le_iff_toInt_le.mpr hc
        rw [show w.1.toNat - x3.toInt.toNat = (w.1.toNat - (x3.toInt.toNat + 1)) + 1 by omega] at hr
        have hr : wsO w (w.1.toNat - (x3.toInt.toNat + 1)) (x3.toInt.toNat + 1) (wsI w x3.toInt.toNat (w.1.toNat - (x3.toInt.toNat + 1)) (x3.toInt.toNat + 1) (x1.toInt, x2.toInt)) = R := hr
        exact ih.2 x1 x2 x3 (x3 + 1) h0 (by omega) (by omega) (by omega) (by rw [show (x3 + 1).toInt.toNat = x3.toInt.toNat + 1 by omega]; exact hr) (by omega)
    · have e1 := i32_add x3 1 (by omega) (by omega)
      have e2 := i32_add x4 1 (by omega) (by omega)
      have n3 := tn_eq x3
      refine rX8_closest_19 ht ⟨fun hc => ?_, fun hc => ?_⟩
      · have hc := Int32.le_iff_toInt_le.mp hc
        rw [show w.1.toNat - x4.toInt.toNat = 0 by omega] at hr
        have hr : wsO w (w.1.toNat - (x3.toInt.toNat + 1)) (x3.toInt.toNat + 1) (x1.toInt, x2.toInt) = R := hr
        exact ih.1 x1 x2 (x3 + 1) (by omega) (by omega) (by rw [show (x3 + 1).toInt.toNat = x3.toInt.toNat + 1 by omega]; exact hr) (by omega)
      · have hc := mt Int32.le_iff_toInt_le.mpr hc
        rw [show w.1.toNat - x4.toInt.toNat = (w.1.toNat - (x4 + 1).toInt.toNat) + 1 by omega] at hr
        have en : x4.toInt.toNat + 1 = (x4 + 1).toInt.toNat := by omega
        have bt9 := GX_bt hT.1 (by omega) (p := x3.toInt.toNat) (q := x4.toInt.toNat) (by omega) (by omega)
        rw [decide_eq_true (show x4.toInt.toNat < w.1.toNat by omega), decide_eq_true (show x4.toInt.toNat ≠ x3.toInt.toNat by omega), Bool.true_and, Bool.true_and] at bt9
        have et : Int32.toNatClampNeg x3 = x3.toInt.toNat := by omega
        refine ⟨vp_of (by omega) (by omega), fun hv => ?_, fun hv => ?_⟩
        · rw [et] at hv
          have hn : ¬ relW w x3.toInt.toNat x4.toInt.toNat = true := fun z => (bt_iff (I (13 + 1) x3.toInt.toNat) (x := x4) (by omega)).mp (bt9.trans z) hv
          rw [wsI_n hn, en] at hr
          exact ih.2 x1 x2 x3 (x4 + 1) h0 h1 (by omega) (by omega) hr (by omega)
        · rw [et] at hv
          have hy : relW w x3.toInt.toNat x4.toInt.toNat = true := bt9.symm.trans ((bt_iff (I (13 + 1) x3.toInt.toNat) (x := x4) (by omega)).mpr hv)
          have i3 : Int32.ofNat x3.toInt.toNat = x3 := (i32_ofNat h0).symm
          have i4 : Int32.ofNat x4.toInt.toNat = x4 := (i32_ofNat (by omega)).symm
          refine pX8_countWith ht (by omega) (by omega) (LW_70 hb) hT (fun v hv9 => ⟨fun c3 => ?_, fun c3 => ?_⟩)
          · have c3 := Int32.le_iff_toInt_le.mp c3
            rw [wsI_k hy (by rw [i3, i4]; show _ ≤ x2.toInt; omega), en] at hr
            exact ih.2 x1 x2 x3 (x4 + 1) h0 h1 (by omega) (by omega) hr (by omega)
          · have c3 := mt Int32.le_iff_toInt_le.mpr c3
            have m1 : ((10 : Int32) * x3).toInt = 10 * x3.toInt := by
              have m0 := i32_mul 10 x3 (by rw [q10]; omega) (by rw [q10]; omega)
              rw [q10] at m0
              exact m0
            have m2 := i32_add (10 * x3) x4 (by omega) (by omega)
            rw [wsI_y hy (by rw [i3, i4]; show ¬ _ ≤ x2.toInt; omega), en, i3, i4, ← hv9, show 10 * (x3.toInt.toNat : Int) + (x4.toInt.toNat : Int) = ((10 * x3) + x4).toInt by omega] at hr
            exact ih.2 _ v x3 (x4 + 1) h0 h1 (by omega) (by omega) hr (by omega)
theorem pX11_worst {G : jdG} {n : Nat} {Z : jdL} {J : jdJ} {K : Int32 → jdI → jdJ → Prop} {I : jdI} {s : Sd} (hX : zX Z) (hW : WX I) (hs : TX I 1 s) (hk : OKT s.1) (hK : ∀ (v : Int32) (I2 : jdI), WX I2 → Fr (fun a k => (13 ≤ a ∧ a ≤ 24) ∨ a = 28) I I2 → v.toInt = oWorst s.1 → K v I2 J) : Cl G mX11_worst (n + 8) 0 0 [.ref (gb G + 0)] Z I J (qi Z K) := by
  have hb := RX_b hW hs.1
  refine eX11_worst hX ?_
  refine pX8_load (zX_o3 hX) (zX_o0 hX) (Or.inl rfl) hW hs.1 (OKT_sy hk) (fun I2 hW2 hF2 hT2 _ => ?_)
  refine eX8_closest (zX_o3 hX) ((pX8_closest_l (R := wsO s.1 s.1.1.toNat 0 (-1, -1)) (zX_o3 hX) hb hT2 (fun v hv => ?_) 81).1 (-1) (-1) 0 (by decide) (by show (0 : Int) ≤ _; omega) rfl (by decide))
  have qm : (-1 : Int32).toInt = -1 := rfl
  refine ⟨fun c => ?_, fun c => ?_⟩
  · refine hK v I2 hW2 (Fr.tr Fr.rf hF2 (by intro a k h; omega)) ?_
    have c : ¬ v.toInt = -1 := fun z => c (Int32.toInt_inj.mp (z.trans qm.symm))
    unfold oWorst
    rw [if_neg (by omega)]
    exact hv
  · have c : v.toInt = -1 := by rw [c]; rfl
    refine rfX (P := fun a k => (13 ≤ a ∧ a ≤ 24) ∨ a = 28) hX hW2 (o := oWorst s.1) (by unfold oWorst; rw [if_pos (by omega)]; rfl) (by intro a k h; omega) (fun v4 I3 hW3 hF3 hv3 => hK v4 I3 hW3 (Fr.tr (Fr.tr Fr.rf hF2 (by intro a k h; omega)) hF3 (by intro a k h; omega)) hv3)
theorem pqX12_worst_l {G : jdG} {n : Nat} {Z0 : jdL} {I0 : jdI} {J0 : jdJ} {Q : jdQ} {t : Nat} {w : Tw} {R : Int × Int} {sA sV : Nat → Nat} (hG : gOK G sA sV) (hw0 : RM I0 t w) (hZ0 : t + 38 ≤ Z0.2.2) (hb : (0 ≤ w.1 ∧ w.1 ≤ 7) ∧ 2 ≤ w.2.2.2.1 ∧ w.2.2.2.1 ≤ 4) (hQ : ∀ (v : Int32) (Z2 : jdL) (I2 : jdI) (J2 : jdJ), ST t 21 20 Z0 I0 J0 Z2 I2 J2 → v.toInt = (if R.1 = -1 then -5 else R.1) → Q (some (.int v)) Z2 I2 J2) : ∀ m : Nat,
    (∀ (Z : jdL) (I : jdI) (J : jdJ) (rc rs : Nat) (x1 x2 x3 : Int32), ST t 21 20 Z0 I0 J0 Z I J → fC Z t ≤ rc → fS Z t ≤ rs → 0 ≤ x3.toInt → x3.toInt ≤ w.1 → wsO w (w.1.toNat - x3.toInt.toNat) x3.toInt.toNat (x1.toInt, x2.toInt) = R → (8 - x3.toInt) * 10 < (m : Int) → Jd G mX12_worst (jdFm G Q) (n + 13) rc rs 6 [(0, .ref (gb G + t)), (1, .int x1), (2, .int x2), (3, .int x3)] [] Z I J) ∧
    (∀ (Z : jdL) (I : jdI) (J : jdJ) (rc rs : Nat) (x1 x2 x3 x4 : Int32), ST t 21 20 Z0 I0 J0 Z I J → fC Z t ≤ rc → fS Z t ≤ rs → 0 ≤ x3.toInt → x3.toInt < w.1 → x3.toInt < x4.toInt → x4.toInt ≤ w.1 → wsO w (w.1.toNat - (x3.toInt.toNat + 1)) (x3.toInt.toNat + 1) (wsI w x3.toInt.toNat (w.1.toNat - x4.toInt.toNat) x4.toInt.toNat (x1.toInt, x2.toInt)) = R → (8 - x3.toInt) * 10 - x4.toInt < (m : Int) → Jd G mX12_worst (jdFm G Q) (n + 13) rc rs 19 [(0, .ref (gb G + t)), (1, .int x1), (2, .int x2), (3, .int x3), (4, .int x4)] [] Z I J) := by
  intro m
  induction m with
  | zero =>
    refine ⟨fun Z I J rc rs x1 x2 x3 hS g1 g2 h0 h1 hr hm => ?_, fun Z I J rc rs x1 x2 x3 x4 hS g1 g2 h0 h1 h2 h3 hr hm => ?_⟩ <;> omega
  | succ m ih =>
    have q1 : (1 : Int32).toInt = 1 := rfl
    have q10 : (10 : Int32).toInt = 10 := rfl
    have qm : (-1 : Int32).toInt = -1 := rfl
    refine ⟨fun Z I J rc rs x1 x2 x3 hS g1 g2 h0 h1 hr hm => ?_, fun Z I J rc rs x1 x2 x3 x4 hS g1 g2 h0 h1 h2 h3 hr hm => ?_⟩
    · have e1 := i32_add x3 1 (by omega) (by omega)
      have hF := hS.2.2.2.2.1
      have hwt : RM I t w := RM_fr hw0 (by omega) hF (by omega) (by omega) (by omega) (by intro a k h1 h2 h3 h4; omega)
      have hN := hwt.1
      refine rX12_worst_6 hS.1.1 ⟨fun hc => ?_, fun hc => ?_⟩
      · have hc := Int32.le_iff_toInt_le.mp hc
        rw [show w.1.toNat - x3.toInt.toNat = 0 by omega] at hr
        have hr : (x1.toInt, x2.toInt) = R := hr
        have hr1 : x1.toInt = R.1 := by rw [← hr]
        refine ⟨fun c => hQ x1 _ _ _ hS ?_, fun c => ?_⟩
        · have c : ¬ x1.toInt = -1 := fun z => c (Int32.toInt_inj.mp (z.trans qm.symm))
          rw [if_neg (by omega)]
          exact hr1
        · have c : x1.toInt = -1 := by rw [c]; rfl
          refine sfX12_refuse hS.1.1 (by decide) hS.1.2.1 (by decide) (fun v5 I4 hW4 hF4 hp4 => hQ _ _ _ _ (ST_t hS hW4 hF4 (by intro a k h; omega)) ?_)
          rw [if_pos (by omega)]
          exact hp4
      · have hc := mt Int32.le_iff_toInt_le.mpr hc
        rw [show w.1.toNat - x3.toInt.toNat = (w.1.toNat - (x3.toInt.toNat + 1)) + 1 by omega] at hr
        have hr : wsO w (w.1.toNat - (x3.toInt.toNat + 1)) (x3.toInt.toNat + 1) (wsI w x3.toInt.toNat (w.1.toNat - (x3.toInt.toNat + 1)) (x3.toInt.toNat + 1) (x1.toInt, x2.toInt)) = R := hr
        exact ih.2 Z I J rc rs x1 x2 x3 (x3 + 1) hS g1 g2 h0 (by omega) (by omega) (by omega) (by rw [show (x3 + 1).toInt.toNat = x3.toInt.toNat + 1 by omega]; exact hr) (by omega)
    · have e1 := i32_add x3 1 (by omega) (by omega)
      have e2 := i32_add x4 1 (by omega) (by omega)
      have n3 := tn_eq x3
      have n4 := tn_eq x4
      have hF := hS.2.2.2.2.1
      have hwt : RM I t w := RM_fr hw0 (by omega) hF (by omega) (by omega) (by omega) (by intro a k h1 h2 h3 h4; omega)
      have hN := hwt.1
      refine rX12_worst_19 hS.1.1 ⟨fun hc => ?_, fun hc => ?_⟩
      · have hc := Int32.le_iff_toInt_le.mp hc
        rw [show w.1.toNat - x4.toInt.toNat = 0 by omega] at hr
        have hr : wsO w (w.1.toNat - (x3.toInt.toNat + 1)) (x3.toInt.toNat + 1) (x1.toInt, x2.toInt) = R := hr
        exact ih.1 Z I J rc rs x1 x2 (x3 + 1) hS g1 g2 (by omega) (by omega) (by rw [show (x3 + 1).toInt.toNat = x3.toInt.toNat + 1 by omega]; exact hr) (by omega)
      · have hc := mt Int32.le_iff_toInt_le.mpr hc
        rw [show w.1.toNat - x4.toInt.toNat = (w.1.toNat - (x4 + 1).toInt.toNat) + 1 by omega] at hr
        have en : x4.toInt.toNat + 1 = (x4 + 1).toInt.toNat := by omega
        have bt9 := hwt.2.2.2.2 x3.toInt.toNat x4.toInt.toNat (by omega) (by omega) (by omega)
        have et : Int32.toNatClampNeg x3 = x3.toInt.toNat := by omega
        have ef : Int32.toNatClampNeg x4 = x4.toInt.toNat := by omega
        refine ⟨vp_of (by omega) (by omega), vp_of (by omega) (by omega), fun hv => ?_, fun hv => ?_⟩
        · rw [et, ef, bt9] at hv
          have hn : ¬ relW w x3.toInt.toNat x4.toInt.toNat = true := fun z => hv (of_decide_eq_true z)
          rw [wsI_n hn, en] at hr
          exact ih.2 Z I J rc rs x1 x2 x3 (x4 + 1) hS g1 g2 h0 h1 (by omega) (by omega) hr (by omega)
        · rw [et, ef, bt9] at hv
          have hy : relW w x3.toInt.toNat x4.toInt.toNat = true := decide_eq_true hv
          have i3 : Int32.ofNat x3.toInt.toNat = x3 := (i32_ofNat h0).symm
          have i4 : Int32.ofNat x4.toInt.toNat = x4 := (i32_ofNat (by omega)).symm
          refine ⟨fC Z t, fS Z t, 0, 0, by omega, by omega, ?_⟩
          refine pqX12_closesOf hG hS.1 hwt (show TwoP w x3 x4 by unfold TwoP; omega) (fun v Z2 I2 J2 hS2 hu hv9 => ⟨v, rfl, hS2.1.1, ?_⟩)
          have hS3 := ST.tr hS hS2
          obtain ⟨u, hu⟩ := hu
          have hfc := fC_some hu
          refine ⟨fun c3 => ?_, fun c3 => ?_⟩
          · have c3 := Int32.le_iff_toInt_le.mp c3
            rw [wsI_k hy (by rw [i3, i4]; show _ ≤ x2.toInt; omega), en] at hr
            exact ih.2 Z2 I2 J2 0 0 x1 x2 x3 (x4 + 1) hS3 (by omega) (by omega) h0 h1 (by omega) (by omega) hr (by omega)
          · have c3 := mt Int32.le_iff_toInt_le.mpr c3
            have m1 : ((10 : Int32) * x3).toInt = 10 * x3.toInt := by
              have m0 := i32_mul 10 x3 (by rw [q10]; omega) (by rw [q10]; omega)
              rw [q10] at m0
              exact m0
            have m2 := i32_add (10 * x3) x4 (by omega) (by omega)
            rw [wsI_y hy (by rw [i3, i4]; show ¬ _ ≤ x2.toInt; omega), en, i3, i4, ← hv9, show 10 * (x3.toInt.toNat : Int) + (x4.toInt.toNat : Int) = ((10 * x3) + x4).toInt by omega] at hr
            exact ih.2 Z2 I2 J2 0 0 _ v x3 (x4 + 1) hS3 (by omega) (by omega) h0 h1 (by omega) (by omega) hr (by omega)
theorem pqX12_worst {G : jdG} {n : Nat} {Z : jdL} {I : jdI} {J : jdJ} {Q : jdQ} {t : Nat} {s : Sd} {sA sV : Nat → Nat} (hG : gOK G sA sV) (hM : MI Z I t) (hs : TM I t s) (hQ : ∀ (v : Int32) (Z2 : jdL) (I2 : jdI) (J2 : jdJ), ST t 21 20 Z I J Z2 I2 J2 → v.toInt = oWorst s.1 → Q (some (.int v)) Z2 I2 J2) : Cl G mX12_worst (n + 13) (fC Z t) (fS Z t) [.ref (gb G + t)] Z I J Q := by
  have hb := RM_b hM.2.1 hs.1
  refine eX12_worst hM.1 ?_
  exact (pqX12_worst_l (R := wsO s.1 s.1.1.toNat 0 (-1, -1)) hG hs.1 hM.2.2.1 hb hQ 81).1 Z I J _ _ (-1) (-1) 0 (ST.rf hM) (Nat.le_refl _) (Nat.le_refl _) (by decide) (by show (0 : Int) ≤ _; omega) rfl (by decide)
