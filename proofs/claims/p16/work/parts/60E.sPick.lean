/-! who is chosen -/
theorem bt_m1 : ∀ q : Fin 32, bt (-1) q.val = true := by decide +kernel
theorem xo_m1 (x : Int32) : x ^^^ (-1) = ~~~x := bt_all (fun i hi => by
  rw [bt_xo _ _ _ hi, bt_no _ _ hi, bt_m1 ⟨i, hi⟩]
  simp)
def sbs (s g : Int32) : Bool := decide ((g &&& s) = g)
theorem sbs_x {s g : Int32} : (g &&& s) = g ↔ sbs s g = true := decide_eq_true_iff.symm
theorem sbs_m {s g : Int32} : (g &&& (s ^^^ (-1))) = 0 ↔ sbs s g = true := by
  rw [xo_m1, ← sbs_x]
  constructor
  · intro h
    refine bt_all (fun i hi => ?_)
    have e := congrArg (fun x => bt x i) h
    have e : bt (g &&& ~~~s) i = bt 0 i := e
    rw [bt_an _ _ _ hi, bt_no _ _ hi, bt_ze _ hi] at e
    rw [bt_an _ _ _ hi]
    cases a : bt g i <;> cases b : bt s i <;> rw [a, b] at e <;> first | rfl | cases e
  · intro h
    refine bt_all (fun i hi => ?_)
    have e := congrArg (fun x => bt x i) h
    have e : bt (g &&& s) i = bt g i := e
    rw [bt_an _ _ _ hi] at e
    rw [bt_an _ _ _ hi, bt_no _ _ hi, bt_ze _ hi]
    cases a : bt g i <;> cases b : bt s i <;> rw [a, b] at e <;> first | rfl | cases e
theorem LiS_drop {I : jdI} {b k : Nat} {L : List Int32} (h : LiS I b L) (hk : k < L.length) : L.drop k = I b k :: L.drop (k + 1) := by
  have e := h k hk
  rw [List.getElem?_eq_getElem hk] at e
  injection e with e
  rw [List.drop_eq_getElem_cons hk, e]
theorem drop_end {L : List Int32} {k : Nat} (h : L.length ≤ k) : L.drop k = [] := List.drop_eq_nil_of_le h
def fstIn (s : Int32) : List Int32 → Int32
  | [] => 0
  | g :: L => if sbs s g = true then g else fstIn s L
theorem pX8_firstIn_2 {G : jdG} {n rc rs : Nat} {Z : jdL} {J : jdJ} {K : Int32 → jdI → jdJ → Prop} {I : jdI}  {L : List Int32} {x1 : Int32} (ht : zTies Z 13) (hc : (I 13 8).toInt = (L.length : Int)) (h70 : L.length ≤ 70) (hL : LiS I (13 + 3) L) (hK : K (fstIn x1 L) I J) : ∀ f : Nat, ∀ x2 : Int32, 0 ≤ x2.toInt → x2.toInt + (f : Int) = (L.length : Int) → fstIn x1 (L.drop x2.toInt.toNat) = fstIn x1 L → Jd G mX8_firstIn (jdFm G (qi Z K)) n rc rs 2 [(0, .ref (gb G + 13)), (1, .int x1), (2, .int x2)] [] Z I J := by
  intro f
  induction f with
  | zero =>
    intro x2 h2 hf hr
    refine rX8_firstIn_2 ht ⟨fun _ => ?_, fun hx => absurd (Int32.le_iff_toInt_le.mpr (by omega)) hx⟩
    rw [drop_end (by omega)] at hr
    rw [← hr] at hK
    exact hK
  | succ f ih =>
    intro x2 h2 hf hr
    have q1 : (1 : Int32).toInt = 1 := rfl
    have e2 := i32_add x2 1 (by omega) (by omega)
    have n2 := tn_eq x2
    rw [LiS_drop hL (show x2.toInt.toNat < L.length by omega)] at hr
    have hr : (if sbs x1 (I (13 + 3) (Int32.toNatClampNeg x2)) = true then I (13 + 3) (Int32.toNatClampNeg x2) else fstIn x1 (L.drop (x2.toInt.toNat + 1))) = fstIn x1 L := hr
    refine rX8_firstIn_2 ht ⟨fun hx => by have := Int32.le_iff_toInt_le.mp hx; omega, fun _ => ⟨vp_of (by omega) (by omega), vp_of (by omega) (by omega), fun hz => ?_, fun hz => ⟨vp_of (by omega) (by omega), ?_⟩⟩⟩
    · refine ih (x2 + 1) (by omega) (by omega) ?_
      rw [if_neg (fun z => hz (sbs_x.mpr z))] at hr
      rw [show (x2 + 1).toInt.toNat = x2.toInt.toNat + 1 by omega]
      exact hr
    · rw [if_pos (sbs_x.mp hz)] at hr
      rw [← hr] at hK
      exact hK
theorem pX8_firstIn {G : jdG} {n : Nat} {Z : jdL} {J : jdJ} {K : Int32 → jdI → jdJ → Prop} {I : jdI}  {L : List Int32} {x1 : Int32} (ht : zTies Z 13) (hc : (I 13 8).toInt = (L.length : Int)) (h70 : L.length ≤ 70) (hL : LiS I (13 + 3) L) (hK : K (fstIn x1 L) I J) : Cl G mX8_firstIn n 0 0 [.ref (gb G + 13), .int x1] Z I J (qi Z K) :=
  eX8_firstIn ht (pX8_firstIn_2 ht hc h70 hL hK L.length 0 (by decide) (by show (0 : Int) + _ = _; omega) rfl)
theorem pX12_firstIn_2 {G : jdG} {n rc rs : Nat} {Z : jdL} {J : jdJ} {K : Int32 → jdI → jdJ → Prop} {I : jdI} {t : Nat} {L : List Int32} {x1 : Int32} (ht : zModel Z t) (hc : (I t 30).toInt = (L.length : Int)) (h70 : L.length ≤ 70) (hL : LiS I (t + 30) L) (hK : K (fstIn x1 L) I J) : ∀ f : Nat, ∀ x2 : Int32, 0 ≤ x2.toInt → x2.toInt + (f : Int) = (L.length : Int) → fstIn x1 (L.drop x2.toInt.toNat) = fstIn x1 L → Jd G mX12_firstIn (jdFm G (qi Z K)) n rc rs 2 [(0, .ref (gb G + t)), (1, .int x1), (2, .int x2)] [] Z I J := by
  intro f
  induction f with
  | zero =>
    intro x2 h2 hf hr
    refine rX12_firstIn_2 ht ⟨fun _ => ?_, fun hx => absurd (Int32.le_iff_toInt_le.mpr (by omega)) hx⟩
    rw [drop_end (by omega)] at hr
    rw [← hr] at hK
    exact hK
  | succ f ih =>
    intro x2 h2 hf hr
    have q1 : (1 : Int32).toInt = 1 := rfl
    have e2 := i32_add x2 1 (by omega) (by omega)
    have n2 := tn_eq x2
    rw [LiS_drop hL (show x2.toInt.toNat < L.length by omega)] at hr
    have hr : (if sbs x1 (I (t + 30) (Int32.toNatClampNeg x2)) = true then I (t + 30) (Int32.toNatClampNeg x2) else fstIn x1 (L.drop (x2.toInt.toNat + 1))) = fstIn x1 L := hr
    refine rX12_firstIn_2 ht ⟨fun hx => by have := Int32.le_iff_toInt_le.mp hx; omega, fun _ => ⟨vp_of (by omega) (by omega), fun hz => ?_, fun hz => ⟨vp_of (by omega) (by omega), ?_⟩⟩⟩
    · refine ih (x2 + 1) (by omega) (by omega) ?_
      rw [if_neg (fun z => hz (sbs_m.mpr z))] at hr
      rw [show (x2 + 1).toInt.toNat = x2.toInt.toNat + 1 by omega]
      exact hr
    · rw [if_pos (sbs_m.mp hz)] at hr
      rw [← hr] at hK
      exact hK
theorem pX12_firstIn {G : jdG} {n : Nat} {Z : jdL} {J : jdJ} {K : Int32 → jdI → jdJ → Prop} {I : jdI} {t : Nat} {L : List Int32} {x1 : Int32} (ht : zModel Z t) (hc : (I t 30).toInt = (L.length : Int)) (h70 : L.length ≤ 70) (hL : LiS I (t + 30) L) (hK : K (fstIn x1 L) I J) : Cl G mX12_firstIn n 0 0 [.ref (gb G + t), .int x1] Z I J (qi Z K) :=
  eX12_firstIn ht (pX12_firstIn_2 ht hc h70 hL hK L.length 0 (by decide) (by show (0 : Int) + _ = _; omega) rfl)
/-- the sum of c over a set, below k -/
def csum (c : Nat → Int32) (s : Int32) : Nat → Int32
  | 0 => 0
  | k + 1 => csum c s k + (if bt s k = true then c k else 0)
theorem bit_mul (s : Int32) {x : Int32} (h : 0 ≤ x.toInt) (c : Int32) : ((s >>> (x &&& 31)) &&& 1) * c = if bt s x.toInt.toNat = true then c else 0 := by
  have b := bt_iff s h
  have r := i32_and (s >>> (x &&& 31)) 1 (by decide)
  have q1 : (1 : Int32).toInt = 1 := rfl
  have q0 : (0 : Int32).toInt = 0 := rfl
  by_cases g : ((s >>> (x &&& 31)) &&& 1) = 0
  · rw [if_neg (fun z => b.mp z g), g, Int32.zero_mul]
  · have e : ((s >>> (x &&& 31)) &&& 1) = 1 := Int32.toInt_inj.mp (by have : ¬ ((s >>> (x &&& 31)) &&& 1).toInt = 0 := fun z => g (Int32.toInt_inj.mp (z.trans q0.symm)); omega)
    rw [if_pos (b.mpr g), e, Int32.one_mul]
def bcE (x0 : Int32) : Int32 := ((((((((x0 - ((Int32.toUInt32 x0 >>> (Int32.toUInt32 1 &&& Int32.toUInt32 31)).toInt32 &&& 1431655765)) &&& 858993459) + ((Int32.toUInt32 (x0 - ((Int32.toUInt32 x0 >>> (Int32.toUInt32 1 &&& Int32.toUInt32 31)).toInt32 &&& 1431655765)) >>> (Int32.toUInt32 2 &&& Int32.toUInt32 31)).toInt32 &&& 858993459)) + (Int32.toUInt32 (((x0 - ((Int32.toUInt32 x0 >>> (Int32.toUInt32 1 &&& Int32.toUInt32 31)).toInt32 &&& 1431655765)) &&& 858993459) + ((Int32.toUInt32 (x0 - ((Int32.toUInt32 x0 >>> (Int32.toUInt32 1 &&& Int32.toUInt32 31)).toInt32 &&& 1431655765)) >>> (Int32.toUInt32 2 &&& Int32.toUInt32 31)).toInt32 &&& 858993459)) >>> (Int32.toUInt32 4 &&& Int32.toUInt32 31)).toInt32) &&& 252645135) + (Int32.toUInt32 (((((x0 - ((Int32.toUInt32 x0 >>> (Int32.toUInt32 1 &&& Int32.toUInt32 31)).toInt32 &&& 1431655765)) &&& 858993459) + ((Int32.toUInt32 (x0 - ((Int32.toUInt32 x0 >>> (Int32.toUInt32 1 &&& Int32.toUInt32 31)).toInt32 &&& 1431655765)) >>> (Int32.toUInt32 2 &&& Int32.toUInt32 31)).toInt32 &&& 858993459)) + (Int32.toUInt32 (((x0 - ((Int32.toUInt32 x0 >>> (Int32.toUInt32 1 &&& Int32.toUInt32 31)).toInt32 &&& 1431655765)) &&& 858993459) + ((Int32.toUInt32 (x0 - ((Int32.toUInt32 x0 >>> (Int32.toUInt32 1 &&& Int32.toUInt32 31)).toInt32 &&& 1431655765)) >>> (Int32.toUInt32 2 &&& Int32.toUInt32 31)).toInt32 &&& 858993459)) >>> (Int32.toUInt32 4 &&& Int32.toUInt32 31)).toInt32) &&& 252645135) >>> (Int32.toUInt32 8 &&& Int32.toUInt32 31)).toInt32) + (Int32.toUInt32 ((((((x0 - ((Int32.toUInt32 x0 >>> (Int32.toUInt32 1 &&& Int32.toUInt32 31)).toInt32 &&& 1431655765)) &&& 858993459) + ((Int32.toUInt32 (x0 - ((Int32.toUInt32 x0 >>> (Int32.toUInt32 1 &&& Int32.toUInt32 31)).toInt32 &&& 1431655765)) >>> (Int32.toUInt32 2 &&& Int32.toUInt32 31)).toInt32 &&& 858993459)) + (Int32.toUInt32 (((x0 - ((Int32.toUInt32 x0 >>> (Int32.toUInt32 1 &&& Int32.toUInt32 31)).toInt32 &&& 1431655765)) &&& 858993459) + ((Int32.toUInt32 (x0 - ((Int32.toUInt32 x0 >>> (Int32.toUInt32 1 &&& Int32.toUInt32 31)).toInt32 &&& 1431655765)) >>> (Int32.toUInt32 2 &&& Int32.toUInt32 31)).toInt32 &&& 858993459)) >>> (Int32.toUInt32 4 &&& Int32.toUInt32 31)).toInt32) &&& 252645135) + (Int32.toUInt32 (((((x0 - ((Int32.toUInt32 x0 >>> (Int32.toUInt32 1 &&& Int32.toUInt32 31)).toInt32 &&& 1431655765)) &&& 858993459) + ((Int32.toUInt32 (x0 - ((Int32.toUInt32 x0 >>> (Int32.toUInt32 1 &&& Int32.toUInt32 31)).toInt32 &&& 1431655765)) >>> (Int32.toUInt32 2 &&& Int32.toUInt32 31)).toInt32 &&& 858993459)) + (Int32.toUInt32 (((x0 - ((Int32.toUInt32 x0 >>> (Int32.toUInt32 1 &&& Int32.toUInt32 31)).toInt32 &&& 1431655765)) &&& 858993459) + ((Int32.toUInt32 (x0 - ((Int32.toUInt32 x0 >>> (Int32.toUInt32 1 &&& Int32.toUInt32 31)).toInt32 &&& 1431655765)) >>> (Int32.toUInt32 2 &&& Int32.toUInt32 31)).toInt32 &&& 858993459)) >>> (Int32.toUInt32 4 &&& Int32.toUInt32 31)).toInt32) &&& 252645135) >>> (Int32.toUInt32 8 &&& Int32.toUInt32 31)).toInt32) >>> (Int32.toUInt32 16 &&& Int32.toUInt32 31)).toInt32) &&& 63)
theorem bc_all : ∀ s : Fin 256, bcE (Int32.ofNat s.val) = bs (Int32.ofNat s.val) 8 := by decide +kernel
theorem bc_bs {x : Int32} (h : 0 ≤ x.toInt ∧ x.toInt ≤ 255) : bcE x = bs x 8 := by
  have e := bc_all ⟨x.toInt.toNat, by omega⟩
  rw [← i32_ofNat h.1] at e
  exact e
theorem pJ6_bitCount {G : jdG} {n : Nat} {Z : jdL} {J : jdJ} {K : Int32 → jdI → jdJ → Prop} {I : jdI} {x0 : Int32} (h : 0 ≤ x0.toInt ∧ x0.toInt ≤ 255) (hK : K (bs x0 8) I J) : Cl G mJ6_bitCount_0f7a4 n 0 0 [.int x0] Z I J (qi Z K) := by
  refine eJ6_bitCount_0f7a4 ?_
  rw [← bc_bs h] at hK
  exact hK
def deg (rel : Nat → Nat → Bool) (n p : Nat) : Int32 := bs (sset rel p n) 8
theorem pX8_costTogether {G : jdG} {n : Nat} {Z : jdL} {J : jdJ} {K : Int32 → jdI → jdJ → Prop} {I : jdI} {N : Nat} {c : Nat → Int32} {x1 : Int32} (ht : zTies Z 13) (h6 : (I 13 6).toInt = (N : Int)) (hN : N ≤ 8) (hc : ∀ p, p < N → I (13 + 2) p = c p) (hK : K (csum c x1 N) I J) : Cl G mX8_costTogether n 0 0 [.ref (gb G + 13), .int x1] Z I J (qi Z K) := by
  have lp : ∀ f : Nat, ∀ (x2 x3 : Int32), 0 ≤ x3.toInt → x3.toInt + (f : Int) = (N : Int) → x2 = csum c x1 x3.toInt.toNat → Jd G mX8_costTogether (jdFm G (qi Z K)) n 0 0 4 [(0, .ref (gb G + 13)), (1, .int x1), (2, .int x2), (3, .int x3)] [] Z I J := by
    intro f
    induction f with
    | zero =>
      intro x2 x3 h3 hf h2
      refine rX8_costTogether_4 ht ⟨fun _ => ?_, fun hx => absurd (Int32.le_iff_toInt_le.mpr (by omega)) hx⟩
      rw [h2, show x3.toInt.toNat = N by omega]
      exact hK
    | succ f ih =>
      intro x2 x3 h3 hf h2
      have q1 : (1 : Int32).toInt = 1 := rfl
      have e3 := i32_add x3 1 (by omega) (by omega)
      have n3 := tn_eq x3
      refine rX8_costTogether_4 ht ⟨fun hx => by have := Int32.le_iff_toInt_le.mp hx; omega, fun _ => ⟨vp_of (by omega) (by omega), ?_⟩⟩
      refine ih _ (x3 + 1) (by omega) (by omega) ?_
      rw [bit_mul x1 h3, show Int32.toNatClampNeg x3 = x3.toInt.toNat from rfl, hc _ (by omega), show (x3 + 1).toInt.toNat = x3.toInt.toNat + 1 by omega, h2]
      rfl
  exact eX8_costTogether ht (lp N 0 0 (by decide) (by show (0 : Int) + _ = _; omega) rfl)
theorem pX8_strangersTogether {G : jdG} {n : Nat} {Z : jdL} {J : jdJ} {K : Int32 → jdI → jdJ → Prop} {I : jdI} {N st : Nat} {rel : Nat → Nat → Bool} {x1 : Int32} (ht : zTies Z 13) (hg : GX I N st rel) (hN : N ≤ 8) (hK : K (csum (deg rel N) x1 N) I J) : Cl G mX8_strangersTogether (n + 1) 0 0 [.ref (gb G + 13), .int x1] Z I J (qi Z K) := by
  have h6 := hg.1
  have lp : ∀ f : Nat, ∀ (x2 x3 : Int32), 0 ≤ x3.toInt → x3.toInt + (f : Int) = (N : Int) → x2 = csum (deg rel N) x1 x3.toInt.toNat → Jd G mX8_strangersTogether (jdFm G (qi Z K)) (n + 1) 0 0 4 [(0, .ref (gb G + 13)), (1, .int x1), (2, .int x2), (3, .int x3)] [] Z I J := by
    intro f
    induction f with
    | zero =>
      intro x2 x3 h3 hf h2
      refine rX8_strangersTogether_4 ht ⟨fun _ => ?_, fun hx => absurd (Int32.le_iff_toInt_le.mpr (by omega)) hx⟩
      rw [h2, show x3.toInt.toNat = N by omega]
      exact hK
    | succ f ih =>
      intro x2 x3 h3 hf h2
      have q1 : (1 : Int32).toInt = 1 := rfl
      have e3 := i32_add x3 1 (by omega) (by omega)
      have n3 := tn_eq x3
      have es : I (13 + 1) (Int32.toNatClampNeg x3) = sset rel x3.toInt.toNat N := hg.2.2 x3.toInt.toNat (by omega)
      refine rX8_strangersTogether_4 ht ⟨fun hx => by have := Int32.le_iff_toInt_le.mp hx; omega, fun _ => ⟨vp_of (by omega) (by omega), ?_⟩⟩
      refine pJ6_bitCount (by rw [es]; exact sset_r rel _ N hN) ?_
      refine ih _ (x3 + 1) (by omega) (by omega) ?_
      rw [bit_mul x1 h3, es, show (x3 + 1).toInt.toNat = x3.toInt.toNat + 1 by omega, h2]
      rfl
  exact eX8_strangersTogether ht (lp N 0 0 (by decide) (by show (0 : Int) + _ = _; omega) rfl)
theorem pX12_costOf {G : jdG} {n : Nat} {Z : jdL} {J : jdJ} {K : Int32 → jdI → jdJ → Prop} {I : jdI} {t N : Nat} {c : Nat → Int32} {x1 : Int32} (ht : zModel Z t) (h10 : (I t 10).toInt = (N : Int)) (hN : N ≤ 8) (hc : ∀ p, p < N → I (t + 19) p = c p) (hK : K (csum c x1 N) I J) : Cl G mX12_costOf (n + 1) 0 0 [.ref (gb G + t), .int x1] Z I J (qi Z K) := by
  have lp : ∀ f : Nat, ∀ (x2 x3 : Int32), 0 ≤ x3.toInt → x3.toInt + (f : Int) = (N : Int) → x2 = csum c x1 x3.toInt.toNat → Jd G mX12_costOf (jdFm G (qi Z K)) (n + 1) 0 0 4 [(0, .ref (gb G + t)), (1, .int x1), (2, .int x2), (3, .int x3)] [] Z I J := by
    intro f
    induction f with
    | zero =>
      intro x2 x3 h3 hf h2
      refine rX12_costOf_4 ht ⟨fun _ => ?_, fun hx => absurd (Int32.le_iff_toInt_le.mpr (by omega)) hx⟩
      rw [h2, show x3.toInt.toNat = N by omega]
      exact hK
    | succ f ih =>
      intro x2 x3 h3 hf h2
      have q1 : (1 : Int32).toInt = 1 := rfl
      have q0 : (0 : Int32).toInt = 0 := rfl
      have e3 := i32_add x3 1 (by omega) (by omega)
      have n3 := tn_eq x3
      have b := bt_iff x1 h3
      have en : (x3 + 1).toInt.toNat = x3.toInt.toNat + 1 := by omega
      have es : csum c x1 (x3.toInt.toNat + 1) = csum c x1 x3.toInt.toNat + (if bt x1 x3.toInt.toNat = true then c x3.toInt.toNat else 0) := rfl
      refine rX12_costOf_4 ht ⟨fun hx => by have := Int32.le_iff_toInt_le.mp hx; omega, fun _ => ?_⟩
      refine sfX12_has trivial (fun v4 p4 => ⟨fun hv => ?_, fun hv => ⟨vp_of (by omega) (by omega), ?_⟩⟩)
      · have hv := i0 hv
        refine ih _ (x3 + 1) (by omega) (by omega) ?_
        rw [en, es, if_neg (fun z => b.mp z (Int32.toInt_inj.mp (show _ = (0 : Int32).toInt by omega))), h2]
      · have hv := i1 hv
        refine ih _ (x3 + 1) (by omega) (by omega) ?_
        rw [en, es, if_pos (b.mpr (fun z => by rw [z] at p4; omega)), h2, show Int32.toNatClampNeg x3 = x3.toInt.toNat from rfl, hc _ (by omega)]
  exact eX12_costOf ht (lp N 0 0 (by decide) (by show (0 : Int) + _ = _; omega) rfl)
theorem pX12_meetsOf {G : jdG} {n : Nat} {Z : jdL} {J : jdJ} {K : Int32 → jdI → jdJ → Prop} {I : jdI} {t N st : Nat} {rel : Nat → Nat → Bool} {x1 : Int32} (ht : zModel Z t) (hg : GM I t N st rel) (hN : N ≤ 8) (hK : K (csum (deg rel N) x1 N) I J) : Cl G mX12_meetsOf (n + 1) 0 0 [.ref (gb G + t), .int x1] Z I J (qi Z K) := by
  have h10 := hg.1
  have lp : ∀ f : Nat, ∀ (x2 x3 : Int32), 0 ≤ x3.toInt → x3.toInt + (f : Int) = (N : Int) → x2 = csum (deg rel N) x1 x3.toInt.toNat → Jd G mX12_meetsOf (jdFm G (qi Z K)) (n + 1) 0 0 4 [(0, .ref (gb G + t)), (1, .int x1), (2, .int x2), (3, .int x3)] [] Z I J := by
    intro f
    induction f with
    | zero =>
      intro x2 x3 h3 hf h2
      refine rX12_meetsOf_4 ht ⟨fun _ => ?_, fun hx => absurd (Int32.le_iff_toInt_le.mpr (by omega)) hx⟩
      rw [h2, show x3.toInt.toNat = N by omega]
      exact hK
    | succ f ih =>
      intro x2 x3 h3 hf h2
      have q1 : (1 : Int32).toInt = 1 := rfl
      have q0 : (0 : Int32).toInt = 0 := rfl
      have e3 := i32_add x3 1 (by omega) (by omega)
      have n3 := tn_eq x3
      have b := bt_iff x1 h3
      have en : (x3 + 1).toInt.toNat = x3.toInt.toNat + 1 := by omega
      have es : csum (deg rel N) x1 (x3.toInt.toNat + 1) = csum (deg rel N) x1 x3.toInt.toNat + (if bt x1 x3.toInt.toNat = true then deg rel N x3.toInt.toNat else 0) := rfl
      refine rX12_meetsOf_4 ht ⟨fun hx => by have := Int32.le_iff_toInt_le.mp hx; omega, fun _ => ?_⟩
      refine sfX12_has trivial (fun v4 p4 => ⟨fun hv => ?_, fun hv => ?_⟩)
      · have hv := i0 hv
        refine ih _ (x3 + 1) (by omega) (by omega) ?_
        rw [en, es, if_neg (fun z => b.mp z (Int32.toInt_inj.mp (show _ = (0 : Int32).toInt by omega))), h2]
      · have hv := i1 hv
        refine pX12_strangersOf (a := x3.toInt.toNat) ht hg hN (by omega) (by omega) ?_
        refine sfX12_bits trivial (fun v6 p6 => ?_)
        refine ih _ (x3 + 1) (by omega) (by omega) ?_
        rw [en, es, if_pos (b.mpr (fun z => by rw [z] at p4; omega)), h2, p6]
        rfl
  exact eX12_meetsOf ht (lp N 0 0 (by decide) (by show (0 : Int) + _ = _; omega) rfl)
/-- the first of those of greatest worth, behind c of worth w -/
def chs (f : Int32 → Int32) (y : Int32) : List Int32 → Int32 → Int32 → Int32
  | [], c, _ => c
  | g :: L, c, w => if sbs y g = true then (if c = 0 ∨ w.toInt < (f g).toInt then chs f y L g (f g) else chs f y L c w) else chs f y L c w
theorem chs_n {f : Int32 → Int32} {y g c w : Int32} {L : List Int32} (h : ¬ sbs y g = true) : chs f y (g :: L) c w = chs f y L c w := if_neg h
theorem chs_y {f : Int32 → Int32} {y g c w : Int32} {L : List Int32} (h : sbs y g = true) (h2 : c = 0 ∨ w.toInt < (f g).toInt) : chs f y (g :: L) c w = chs f y L g (f g) := by
  show (if sbs y g = true then (if c = 0 ∨ w.toInt < (f g).toInt then chs f y L g (f g) else chs f y L c w) else chs f y L c w) = _
  rw [if_pos h, if_pos h2]
theorem chs_k {f : Int32 → Int32} {y g c w : Int32} {L : List Int32} (h : sbs y g = true) (h2 : ¬ (c = 0 ∨ w.toInt < (f g).toInt)) : chs f y (g :: L) c w = chs f y L c w := by
  show (if sbs y g = true then (if c = 0 ∨ w.toInt < (f g).toInt then chs f y L g (f g) else chs f y L c w) else chs f y L c w) = _
  rw [if_pos h, if_neg h2]
theorem pX1_pick_9 {G : jdG} {n rc rs : Nat} {Z : jdL} {J : jdJ} {K : Int32 → jdI → jdJ → Prop} {I0 : jdI} {t : Nat} {L : List Int32} {fw : Int32 → Int32} {R x2 x3 : Int32} {P : jdI → Prop} (ht : zCho Z t) (hu1 : zTies Z 13) (h70 : L.length ≤ 70) (hI : ∀ I, P I → (I 13 8).toInt = (L.length : Int) ∧ LiS I (13 + 3) L)
    (hV : ∀ (I : jdI) (K2 : Int32 → jdI → jdJ → Prop) (g : Int32), P I → WX I → g ∈ L → sbs x2 g = true → (∀ I2, WX I2 → P I2 → Fr (fun a k => (a = 13 ∧ k = 10) ∨ a = 13 + 5) I I2 → K2 (fw g) I2 J) → ∀ q ∈ a_worth, Z.1 t = some (q.1 + 10, 0) → Cl G q.2 n 0 0 [.ref (gb G + t), .ref (gb G + 13), .int x2, .int g] Z I J (qi Z K2))
    (hK : ∀ I2, WX I2 → P I2 → Fr (fun a k => (a = 13 ∧ k = 10) ∨ a = 13 + 5) I0 I2 → K R I2 J) : ∀ f : Nat, ∀ (I : jdI) (x4 x5 x6 : Int32), WX I → P I → Fr (fun a k => (a = 13 ∧ k = 10) ∨ a = 13 + 5) I0 I → 0 ≤ x6.toInt → x6.toInt + (f : Int) = (L.length : Int) → chs fw x2 (L.drop x6.toInt.toNat) x4 x5 = R → Jd G mX1_pick (jdFm G (qi Z K)) (n + 1) rc rs 9 [(0, .ref (gb G + t)), (1, .ref (gb G + 13)), (2, .int x2), (3, .int x3), (4, .int x4), (5, .int x5), (6, .int x6)] [] Z I J := by
  intro f
  induction f with
  | zero =>
    intro I x4 x5 x6 hW hP hF h6 hf hr
    obtain ⟨hc, hL⟩ := hI I hP
    refine rX1_pick_9 ht hu1 ⟨fun _ => ?_, fun hx => absurd (Int32.le_iff_toInt_le.mpr (by omega)) hx⟩
    rw [drop_end (by omega)] at hr
    have hr : x4 = R := hr
    rw [hr]
    exact hK I hW hP hF
  | succ f ih =>
    intro I x4 x5 x6 hW hP hF h6 hf hr
    obtain ⟨hc, hL⟩ := hI I hP
    have q1 : (1 : Int32).toInt = 1 := rfl
    have e6 := i32_add x6 1 (by omega) (by omega)
    have n6 := tn_eq x6
    have en : (x6 + 1).toInt.toNat = x6.toInt.toNat + 1 := by omega
    have hd := LiS_drop hL (show x6.toInt.toNat < L.length by omega)
    rw [hd] at hr
    have hr : chs fw x2 (I (13 + 3) (Int32.toNatClampNeg x6) :: L.drop (x6.toInt.toNat + 1)) x4 x5 = R := hr
    have hm : I (13 + 3) (Int32.toNatClampNeg x6) ∈ L := List.mem_of_mem_drop (i := x6.toInt.toNat) (by rw [hd]; exact List.mem_cons_self)
    refine rX1_pick_9 ht hu1 ⟨fun hx => by have := Int32.le_iff_toInt_le.mp hx; omega, fun _ => ⟨vp_of (by omega) (by omega), fun hz => ?_, fun hz => ?_⟩⟩
    · refine ih I x4 x5 (x6 + 1) hW hP hF (by omega) (by omega) ?_
      rw [chs_n (fun z => hz (sbs_x.mpr z))] at hr
      rw [en]
      exact hr
    · have hb := sbs_x.mp hz
      refine hV I _ _ hP hW hm hb (fun I2 hW2 hP2 hF2 => ⟨fun h4 => ?_, fun h4 => ⟨fun h5 => ?_, fun h5 => ?_⟩⟩)
      · refine ih I2 _ _ (x6 + 1) hW2 hP2 (Fr.tr hF hF2 (fun _ _ h => h)) (by omega) (by omega) ?_
        rw [chs_y hb (Or.inl h4)] at hr
        rw [en]
        exact hr
      · have h5 := Int32.le_iff_toInt_le.mp h5
        refine ih I2 x4 x5 (x6 + 1) hW2 hP2 (Fr.tr hF hF2 (fun _ _ h => h)) (by omega) (by omega) ?_
        rw [chs_k hb (fun z => z.elim h4 (fun z => by omega))] at hr
        rw [en]
        exact hr
      · have h5 := mt Int32.le_iff_toInt_le.mpr h5
        refine ih I2 _ _ (x6 + 1) hW2 hP2 (Fr.tr hF hF2 (fun _ _ h => h)) (by omega) (by omega) ?_
        rw [chs_y hb (Or.inr (by omega))] at hr
        rw [en]
        exact hr
theorem pX1_pick {G : jdG} {n : Nat} {Z : jdL} {J : jdJ} {K : Int32 → jdI → jdJ → Prop} {I : jdI} {t : Nat} {L : List Int32} {fw : Int32 → Int32} {x2 x3 : Int32} {P : jdI → Prop} (ht : zCho Z t) (hu1 : zTies Z 13) (h70 : L.length ≤ 70) (hI : ∀ I, P I → (I 13 8).toInt = (L.length : Int) ∧ LiS I (13 + 3) L)
    (hV : ∀ (I : jdI) (K2 : Int32 → jdI → jdJ → Prop) (g : Int32), P I → WX I → g ∈ L → sbs x2 g = true → (∀ I2, WX I2 → P I2 → Fr (fun a k => (a = 13 ∧ k = 10) ∨ a = 13 + 5) I I2 → K2 (fw g) I2 J) → ∀ q ∈ a_worth, Z.1 t = some (q.1 + 10, 0) → Cl G q.2 n 0 0 [.ref (gb G + t), .ref (gb G + 13), .int x2, .int g] Z I J (qi Z K2))
    (hW : WX I) (hP : P I) (hK : ∀ I2, WX I2 → P I2 → Fr (fun a k => (a = 13 ∧ k = 10) ∨ a = 13 + 5) I I2 → K (chs fw x2 L 0 0) I2 J) : Cl G mX1_pick (n + 1) 0 0 [.ref (gb G + t), .ref (gb G + 13), .int x2, .int x3] Z I J (qi Z K) :=
  eX1_pick ht hu1 (pX1_pick_9 ht hu1 h70 hI hV hK L.length I 0 0 0 hW hP Fr.rf (by decide) (by show (0 : Int) + _ = _; omega) rfl)
theorem pX12_sentBy_62 {G : jdG} {n rc rs : Nat} {Z : jdL} {J : jdJ} {K : Int32 → jdI → jdJ → Prop} {I : jdI} {t N st : Nat} {c : Nat → Int32} {rel : Nat → Nat → Bool} {L : List Int32} {fw : Int32 → Int32} {R x1 x2 x3 x4 : Int32} (ht : zModel Z t) (hg : GM I t N st rel) (hN : N ≤ 8) (hcs : ∀ p, p < N → I (t + 19) p = c p) (hc : (I t 30).toInt = (L.length : Int)) (h70 : L.length ≤ 70) (hL : LiS I (t + 30) L) (hk : (x1 = 2 ∧ ∀ g, fw g = csum c g N) ∨ (¬ x1 = 2 ∧ ∀ g, (fw g).toInt = -(csum (deg rel N) g N).toInt)) (hK : K R I J) : ∀ f : Nat, ∀ (x5 x6 : Int32) (w : Int32), 0 ≤ x6.toInt → x6.toInt + (f : Int) = (L.length : Int) → (x5 = 0 ∨ w = fw x5) → chs fw x3 (L.drop x6.toInt.toNat) x5 w = R → Jd G mX12_sentBy (jdFm G (qi Z K)) (n + 2) rc rs 62 [(0, .ref (gb G + t)), (1, .int x1), (2, .int x2), (3, .int x3), (4, .int x4), (5, .int x5), (6, .int x6)] [] Z I J := by
  have h10 := hg.1
  intro f
  induction f with
  | zero =>
    intro x5 x6 w h6 hf hw hr
    refine rX12_sentBy_62 ht ⟨fun _ => ?_, fun hx => absurd (Int32.le_iff_toInt_le.mpr (by omega)) hx⟩
    rw [drop_end (by omega)] at hr
    have hr : x5 = R := hr
    rw [hr]
    exact hK
  | succ f ih =>
    intro x5 x6 w h6 hf hw hr
    have q1 : (1 : Int32).toInt = 1 := rfl
    have e6 := i32_add x6 1 (by omega) (by omega)
    have n6 := tn_eq x6
    have en : (x6 + 1).toInt.toNat = x6.toInt.toNat + 1 := by omega
    have hd := LiS_drop hL (show x6.toInt.toNat < L.length by omega)
    rw [hd] at hr
    have hr : chs fw x3 (I (t + 30) (Int32.toNatClampNeg x6) :: L.drop (x6.toInt.toNat + 1)) x5 w = R := hr
    have keep : ∀ w2, (x5 = 0 ∨ w2 = fw x5) → chs fw x3 (L.drop (x6.toInt.toNat + 1)) x5 w2 = R → Jd G mX12_sentBy (jdFm G (qi Z K)) (n + 2) rc rs 62 [(0, .ref (gb G + t)), (1, .int x1), (2, .int x2), (3, .int x3), (4, .int x4), (5, .int x5), (6, .int (x6 + 1))] [] Z I J := fun w2 hw2 hr2 => ih x5 (x6 + 1) w2 (by omega) (by omega) hw2 (by rw [en]; exact hr2)
    have take : chs fw x3 (L.drop (x6.toInt.toNat + 1)) (I (t + 30) (Int32.toNatClampNeg x6)) (fw (I (t + 30) (Int32.toNatClampNeg x6))) = R → Jd G mX12_sentBy (jdFm G (qi Z K)) (n + 2) rc rs 62 [(0, .ref (gb G + t)), (1, .int x1), (2, .int x2), (3, .int x3), (4, .int x4), (5, .int (I (t + 30) (Int32.toNatClampNeg x6))), (6, .int (x6 + 1))] [] Z I J := fun hr2 => ih _ (x6 + 1) _ (by omega) (by omega) (Or.inr rfl) (by rw [en]; exact hr2)
    have v6 : vp_in x6 70 := vp_of (by omega) (by omega)
    refine rX12_sentBy_62 ht ⟨fun hx => by have := Int32.le_iff_toInt_le.mp hx; omega, fun _ => ⟨v6, fun hz => ?_, fun hz => ?_⟩⟩
    · rw [chs_n (fun z => hz (sbs_m.mpr z))] at hr
      exact keep w hw hr
    · have hb := sbs_m.mp hz
      refine ⟨fun hx => ⟨v6, ?_⟩, fun hx => ⟨v6, ?_⟩⟩
      · rcases hk with hk | hk
        · exact absurd hk.1 hx
        · refine pX12_meetsOf ht hg hN (pX12_meetsOf ht hg hN ?_)
          have f1 := hk.2 (I (t + 30) (Int32.toNatClampNeg x6))
          have f2 := hk.2 x5
          refine ⟨fun hv => ⟨fun h5 => ⟨v6, ?_⟩, fun h5 => ?_⟩, fun hv => ⟨fun h5 => ⟨v6, ?_⟩, fun h5 => ⟨v6, ?_⟩⟩⟩
          · rw [chs_y hb (Or.inl h5)] at hr
            exact take hr
          · have hv := Int32.le_iff_toInt_le.mp hv
            have hw5 : w = fw x5 := hw.elim (fun z => absurd z h5) id
            rw [chs_k hb (fun z => z.elim h5 (fun z => by rw [hw5] at z; omega))] at hr
            exact keep w hw hr
          · rw [chs_y hb (Or.inl h5)] at hr
            exact take hr
          · have hv := mt Int32.le_iff_toInt_le.mpr hv
            have hw5 : w = fw x5 := hw.elim (fun z => absurd z h5) id
            rw [chs_y hb (Or.inr (by rw [hw5]; omega))] at hr
            exact take hr
      · rcases hk with hk | hk
        · refine pX12_costOf ht h10 hN hcs (pX12_costOf ht h10 hN hcs ?_)
          have f1 := hk.2 (I (t + 30) (Int32.toNatClampNeg x6))
          have f2 := hk.2 x5
          rw [← f1, ← f2]
          refine ⟨fun hv => ⟨fun h5 => ⟨v6, ?_⟩, fun h5 => ?_⟩, fun hv => ⟨fun h5 => ⟨v6, ?_⟩, fun h5 => ⟨v6, ?_⟩⟩⟩
          · rw [chs_y hb (Or.inl h5)] at hr
            exact take hr
          · have hv := Int32.le_iff_toInt_le.mp hv
            have hw5 : w = fw x5 := hw.elim (fun z => absurd z h5) id
            rw [chs_k hb (fun z => z.elim h5 (fun z => by rw [hw5] at z; omega))] at hr
            exact keep w hw hr
          · rw [chs_y hb (Or.inl h5)] at hr
            exact take hr
          · have hv := mt Int32.le_iff_toInt_le.mpr hv
            have hw5 : w = fw x5 := hw.elim (fun z => absurd z h5) id
            rw [chs_y hb (Or.inr (by rw [hw5]; omega))] at hr
            exact take hr
        · exact absurd hx hk.1
theorem bs_r (x : Int32) : ∀ k, k ≤ 8 → 0 ≤ (bs x k).toInt ∧ (bs x k).toInt ≤ (k : Int)
  | 0, _ => ⟨Int.le_refl _, Int.le_refl _⟩
  | k + 1, hk => by
    have h := bs_r x k (by omega)
    have r := i32_and (x >>> (Int32.ofNat k &&& 31)) 1 (by decide)
    have q1 : (1 : Int32).toInt = 1 := rfl
    have e := i32_add (bs x k) ((x >>> (Int32.ofNat k &&& 31)) &&& 1) (by omega) (by omega)
    show 0 ≤ (bs x k + ((x >>> (Int32.ofNat k &&& 31)) &&& 1)).toInt ∧ (bs x k + ((x >>> (Int32.ofNat k &&& 31)) &&& 1)).toInt ≤ _
    omega
theorem csum_r {c : Nat → Int32} (hc : ∀ p, 0 ≤ (c p).toInt ∧ (c p).toInt ≤ 8) (s : Int32) : ∀ k, k ≤ 8 → 0 ≤ (csum c s k).toInt ∧ (csum c s k).toInt ≤ 8 * (k : Int)
  | 0, _ => ⟨Int.le_refl _, Int.le_refl _⟩
  | k + 1, hk => by
    have h := csum_r hc s k (by omega)
    have hk2 := hc k
    have q0 : (0 : Int32).toInt = 0 := rfl
    show 0 ≤ (csum c s k + (if bt s k = true then c k else 0)).toInt ∧ (csum c s k + (if bt s k = true then c k else 0)).toInt ≤ _
    split
    · have e := i32_add (csum c s k) (c k) (by omega) (by omega)
      omega
    · have e := i32_add (csum c s k) 0 (by omega) (by omega)
      omega
theorem deg_r (rel : Nat → Nat → Bool) (n p : Nat) : 0 ≤ (deg rel n p).toInt ∧ (deg rel n p).toInt ≤ 8 := bs_r _ 8 (Nat.le_refl _)
theorem neg_deg (rel : Nat → Nat → Bool) {N : Nat} (hN : N ≤ 8) (g : Int32) : (-(csum (deg rel N) g N)).toInt = -(csum (deg rel N) g N).toInt := by
  have h := csum_r (deg_r rel N) g N hN
  exact i32_neg _ (by omega)
