/-! who is chosen -/
theorem bt_m1 : ∀ q : Fin 32, bt (-1) q.val = true := by decide +kernel
theorem xo_m1 (x : Int32) : x ^^^ (-1) = ~~~x := bt_all (fun i hi => by
  rw [bt_xo _ _ _ hi, bt_no _ _ hi, bt_m1 ⟨i, hi⟩]
  simp)
def sbs (s g : Int32) : Bool := decide ((g &&& s) = g)
theorem sbs_x {s g : Int32} : (g &&& s) = g ↔ sbs s g = true := decide_eq_true_iff.symm
theorem sbs_m {s g : Int32} : (g &&& (s ^^^ (-1))) = 0 ↔ sbs s g = true := by
  rw [xo_m1, ← sbs_x]
  constructor
  · intro h
    refine bt_all (fun i hi => ?_)
    have e := congrArg (fun x => bt x i) h
    have e : bt (g &&& ~~~s) i = bt 0 i := e
    rw [bt_an _ _ _ hi, bt_no _ _ hi, bt_ze _ hi] at e
    rw [bt_an _ _ _ hi]
    cases a : bt g i <;> cases b : bt s i <;> rw [a, b] at e <;> first | rfl | cases e
  · intro h
    refine bt_all (fun i hi => ?_)
    have e := congrArg (fun x => bt x i) h
    have e : bt (g &&& s) i = bt g i := e
    rw [bt_an _ _ _ hi] at e
    rw [bt_an _ _ _ hi, bt_no _ _ hi, bt_ze _ hi]
    cases a : bt g i <;> cases b : bt s i <;> rw [a, b] at e <;> first | rfl | cases e
theorem LiS_drop {I : jdI} {b k : Nat} {L : List Int32} (h : LiS I b L) (hk : k < L.length) : L.drop k = I b k :: L.drop (k + 1) := by
  have e := h k hk
  rw [List.getElem?_eq_getElem hk] at e
  injection e with e
  rw [List.drop_eq_getElem_cons hk, e]
theorem drop_end {L : List Int32} {k : Nat} (h : L.length ≤ k) : L.drop k = [] := List.drop_eq_nil_of_le h
def fstIn (s : Int32) : List Int32 → Int32
  | [] => 0
  | g :: L => if sbs s g = true then g else fstIn s L
theorem pX8_firstIn_2 {G : jdG} {n rc rs : Nat} {Z : jdL} {J : jdJ} {K : Int32 → jdI → jdJ → Prop} {I : jdI}  {L : List Int32} {x1 : Int32} (ht : zTies Z 13) (hc : (I 13 8).toInt = (L.length : Int)) (h70 : L.length ≤ 70) (hL : LiS I (13 + 3) L) (hK : K (fstIn x1 L) I J) : ∀ f : Nat, ∀ x2 : Int32, 0 ≤ x2.toInt → x2.toInt + (f : Int) = (L.length : Int) → fstIn x1 (L.drop x2.toInt.toNat) = fstIn x1 L → Jd G mX8_firstIn (jdFm G (qi Z K)) n rc rs 2 [(0, .ref (gb G + 13)), (1, .int x1), (2, .int x2)] [] Z I J := by
  intro f
  induction f with
  | zero =>
    intro x2 h2 hf hr
    refine rX8_firstIn_2 ht ⟨fun _ => ?_, fun hx => absurd (Int32.le_iff_toInt_le.mpr (by omega)) hx⟩
    rw [drop_end (by omega)] at hr
    rw [← hr] at hK
    exact hK
  | succ f ih =>
    intro x2 h2 hf hr
    have q1 : (1 : Int32).toInt = 1 := rfl
    have e2 := i32_add x2 1 (by omega) (by omega)
    have n2 := tn_eq x2
    rw [LiS_drop hL (show x2.toInt.toNat < L.length by omega)] at hr
    have hr : (if sbs x1 (I (13 + 3) (Int32.toNatClampNeg x2)) = true then I (13 + 3) (Int32.toNatClampNeg x2) else fstIn x1 (L.drop (x2.toInt.toNat + 1))) = fstIn x1 L := hr
    refine rX8_firstIn_2 ht ⟨fun hx => by have := Int32.le_iff_toInt_le.mp hx; omega, fun _ => ⟨vp_of (by omega) (by omega), vp_of (by omega) (by omega), fun hz => ?_, fun hz => ⟨vp_of (by omega) (by omega), ?_⟩⟩⟩
    · refine ih (x2 + 1) (by omega) (by omega) ?_
      rw [if_neg (fun z => hz (sbs_x.mpr z))] at hr
      rw [show (x2 + 1).toInt.toNat = x2.toInt.toNat + 1 by omega]
      exact hr
    · rw [if_pos (sbs_x.mp hz)] at hr
      rw [← hr] at hK
      exact hK
theorem pX8_firstIn {G : jdG} {n : Nat} {Z : jdL} {J : jdJ} {K : Int32 → jdI → jdJ → Prop} {I : jdI}  {L : List Int32} {x1 : Int32} (ht : zTies Z 13) (hc : (I 13 8).toInt = (L.length : Int)) (h70 : L.length ≤ 70) (hL : LiS I (13 + 3) L) (hK : K (fstIn x1 L) I J) : Cl G mX8_firstIn n 0 0 [.ref (gb G + 13), .int x1] Z I J (qi Z K) :=
  eX8_firstIn ht (pX8_firstIn_2 ht hc h70 hL hK L.length 0 (by decide) (by show (0 : Int) + _ = _; omega) rfl)
theorem pX12_firstIn_2 {G : jdG} {n rc rs : Nat} {Z : jdL} {J : jdJ} {K : Int32 → jdI → jdJ → Prop} {I : jdI} {t : Nat} {L : List Int32} {x1 : Int32} (ht : zModel Z t) (hc : (I t 30).toInt = (L.length : Int)) (h70 : L.length ≤ 70) (hL : LiS I (t + 30) L) (hK : K (fstIn x1 L) I J) : ∀ f : Nat, ∀ x2 : Int32, 0 ≤ x2.toInt → x2.toInt + (f : Int) = (L.length : Int) → fstIn x1 (L.drop x2.toInt.toNat) = fstIn x1 L → Jd G mX12_firstIn (jdFm G (qi Z K)) n rc rs 2 [(0, .ref (gb G + t)), (1, .int x1), (2, .int x2)] [] Z I J := by
  intro f
  induction f with
  | zero =>
    intro x2 h2 hf hr
    refine rX12_firstIn_2 ht ⟨fun _ => ?_, fun hx => absurd (Int32.le_iff_toInt_le.mpr (by omega)) hx⟩
    rw [drop_end (by omega)] at hr
    rw [← hr] at hK
    exact hK
  | succ f ih =>
    intro x2 h2 hf hr
    have q1 : (1 : Int32).toInt = 1 := rfl
    have e2 := i32_add x2 1 (by omega) (by omega)
    have n2 := tn_eq x2
    rw [LiS_drop hL (show x2.toInt.toNat < L.length by omega)] at hr
    have hr : (if sbs x1 (I (t + 30) (Int32.toNatClampNeg x2)) = true then I (t + 30) (Int32.toNatClampNeg x2) else fstIn x1 (L.drop (x2.toInt.toNat + 1))) = fstIn x1 L := hr
    refine rX12_firstIn_2 ht ⟨fun hx => by have := Int32.le_iff_toInt_le.mp hx; omega, fun _ => ⟨vp_of (by omega) (by omega), fun hz => ?_, fun hz => ⟨vp_of (by omega) (by omega), ?_⟩⟩⟩
    · refine ih (x2 + 1) (by omega) (by omega) ?_
      rw [if_neg (fun z => hz (sbs_m.mpr z))] at hr
      rw [show (x2 + 1).toInt.toNat = x2.toInt.toNat + 1 by omega]
      exact hr
    · rw [if_pos (sbs_m.mp hz)] at hr
      rw [← hr] at hK
      exact hK
theorem pX12_firstIn {G : jdG} {n : Nat} {Z : jdL} {J : jdJ} {K : Int32 → jdI → jdJ → Prop} {I : jdI} {t : Nat} {L : List Int32} {x1 : Int32} (ht : zModel Z t) (hc : (I t 30).toInt = (L.length : Int)) (h70 : L.length ≤ 70) (hL : LiS I (t + 30) L) (hK : K (fstIn x1 L) I J) : Cl G mX12_firstIn n 0 0 [.ref (gb G + t), .int x1] Z I J (qi Z K) :=
  eX12_firstIn ht (pX12_firstIn_2 ht hc h70 hL hK L.length 0 (by decide) (by show (0 : Int) + _ = _; omega) rfl)
/-- the sum of c over a set, below k -/
def csum (c : Nat → Int32) (s : Int32) : Nat → Int32
  | 0 => 0
  | k + 1 => csum c s k + (if bt s k = true then c k else 0)
theorem bit_mul (s : Int32) {x : Int32} (h : 0 ≤ x.toInt) (c : Int32) : ((s >>> (x &&& 31)) &&& 1) * c = if bt s x.toInt.toNat = true then c else 0 := by
  have b := bt_iff s h
  have r := i32_and (s >>> (x &&& 31)) 1 (by decide)
  have q1 : (1 : Int32).toInt = 1 := rfl
  have q0 : (0 : Int32).toInt = 0 := rfl
  by_cases g : ((s >>> (x &&& 31)) &&& 1) = 0
  · rw [if_neg (fun z => b.mp z g), g, Int32.zero_mul]
  · have e : ((s >>> (x &&& 31)) &&& 1) = 1 := Int32.toInt_inj.mp (by have : ¬ ((s >>> (x &&& 31)) &&& 1).toInt = 0 := fun z => g (Int32.toInt_inj.mp (z.trans q0.symm)); omega)
    rw [if_pos (b.mpr g), e, Int32.one_mul]
def bcE (x0 : Int32) : Int32 := ((((((((x0 - ((Int32.toUInt32 x0 >>> (Int32.toUInt32 1 &&& Int32.toUInt32 31)).toInt32 &&& 1431655765)) &&& 858993459) + ((Int32.toUInt32 (x0 - ((Int32.toUInt32 x0 >>> (Int32.toUInt32 1 &&& Int32.toUInt32 31)).toInt32 &&& 1431655765)) >>> (Int32.toUInt32 2 &&& Int32.toUInt32 31)).toInt32 &&& 858993459)) + (Int32.toUInt32 (((x0 - ((Int32.toUInt32 x0 >>> (Int32.toUInt32 1 &&& Int32.toUInt32 31)).toInt32 &&& 1431655765)) &&& 858993459) + ((Int32.toUInt32 (x0 - ((Int32.toUInt32 x0 >>> (Int32.toUInt32 1 &&& Int32.toUInt32 31)).toInt32 &&& 1431655765)) >>> (Int32.toUInt32 2 &&& Int32.toUInt32 31)).toInt32 &&& 858993459)) >>> (Int32.toUInt32 4 &&& Int32.toUInt32 31)).toInt32) &&& 252645135) + (Int32.toUInt32 (((((x0 - ((Int32.toUInt32 x0 >>> (Int32.toUInt32 1 &&& Int32.toUInt32 31)).toInt32 &&& 1431655765)) &&& 858993459) + ((Int32.toUInt32 (x0 - ((Int32.toUInt32 x0 >>> (Int32.toUInt32 1 &&& Int32.toUInt32 31)).toInt32 &&& 1431655765)) >>> (Int32.toUInt32 2 &&& Int32.toUInt32 31)).toInt32 &&& 858993459)) + (Int32.toUInt32 (((x0 - ((Int32.toUInt32 x0 >>> (Int32.toUInt32 1 &&& Int32.toUInt32 31)).toInt32 &&& 1431655765)) &&& 858993459) + ((Int32.toUInt32 (x0 - ((Int32.toUInt32 x0 >>> (Int32.toUInt32 1 &&& Int32.toUInt32 31)).toInt32 &&& 1431655765)) >>> (Int32.toUInt32 2 &&& Int32.toUInt32 31)).toInt32 &&& 858993459)) >>> (Int32.toUInt32 4 &&& Int32.toUInt32 31)).toInt32) &&& 252645135) >>> (Int32.toUInt32 8 &&& Int32.toUInt32 31)).toInt32) + (Int32.toUInt32 ((((((x0 - ((Int32.toUInt32 x0 >>> (Int32.toUInt32 1 &&& Int32.toUInt32 31)).toInt32 &&& 1431655765)) &&& 858993459) + ((Int32.toUInt32 (x0 - ((Int32.toUInt32 x0 >>> (Int32.toUInt32 1 &&& Int32.toUInt32 31)).toInt32 &&& 1431655765)) >>> (Int32.toUInt32 2 &&& Int32.toUInt32 31)).toInt32 &&& 858993459)) + (Int32.toUInt32 (((x0 - ((Int32.toUInt32 x0 >>> (Int32.toUInt32 1 &&& Int32.toUInt32 31)).toInt32 &&& 1431655765)) &&& 858993459) + ((Int32.toUInt32 (x0 - ((Int32.toUInt32 x0 >>> (Int32.toUInt32 1 &&& Int32.toUInt32 31)).toInt32 &&& 1431655765)) >>> (Int32.toUInt32 2 &&& Int32.toUInt32 31)).toInt32 &&& 858993459)) >>> (Int32.toUInt32 4 &&& Int32.toUInt32 31)).toInt32) &&& 252645135) + (Int32.toUInt32 (((((x0 - ((Int32.toUInt32 x0 >>> (Int32.toUInt32 1 &&& Int32.toUInt32 31)).toInt32 &&& 1431655765)) &&& 858993459) + ((Int32.toUInt32 (x0 - ((Int32.toUInt32 x0 >>> (Int32.toUInt32 1 &&& Int32.toUInt32 31)).toInt32 &&& 1431655765)) >>> (Int32.toUInt32 2 &&& Int32.toUInt32 31)).toInt32 &&& 858993459)) + (Int32.toUInt32 (((x0 - ((Int32.toUInt32 x0 >>> (Int32.toUInt32 1 &&& Int32.toUInt32 31)).toInt32 &&& 1431655765)) &&& 858993459) + ((Int32.toUInt32 (x0 - ((Int32.toUInt32 x0 >>> (Int32.toUInt32 1 &&& Int32.toUInt32 31)).toInt32 &&& 1431655765)) >>> (Int32.toUInt32 2 &&& Int32.toUInt32 31)).toInt32 &&& 858993459)) >>> (Int32.toUInt32 4 &&& Int32.toUInt32 31)).toInt32) &&& 252645135) >>> (Int32.toUInt32 8 &&& Int32.toUInt32 31)).toInt32) >>> (Int32.toUInt32 16 &&& Int32.toUInt32 31)).toInt32) &&& 63)
theorem bc_all : ∀ s : Fin 256, bcE (Int32.ofNat s.val) = bs (Int32.ofNat s.val) 8 := by decide +kernel
theorem bc_bs {x : Int32} (h : 0 ≤ x.toInt ∧ x.toInt ≤ 255) : bcE x = bs x 8 := by
  have e := bc_all ⟨x.toInt.toNat, by omega⟩
  rw [← i32_ofNat h.1] at e
  exact e
theorem pJ6_bitCount {G : jdG} {n : Nat} {Z : jdL} {J : jdJ} {K : Int32 → jdI → jdJ → Prop} {I : jdI} {x0 : Int32} (h : 0 ≤ x0.toInt ∧ x0.toInt ≤ 255) (hK : K (bs x0 8) I J) : Cl G mJ6_bitCount_0f7a4 n 0 0 [.int x0] Z I J (qi Z K) := by
  refine eJ6_bitCount_0f7a4 ?_
  rw [← bc_bs h] at hK
  exact hK
def deg (rel : Nat → Nat → Bool) (n p : Nat) : Int32 := bs (sset rel p n) 8
theorem pX8_costTogether {G : jdG} {n : Nat} {Z : jdL} {J : jdJ} {K : Int32 → jdI → jdJ → Prop} {I : jdI} {N : Nat} {c : Nat → Int32} {x1 : Int32} (ht : zTies Z 13) (h6 : (I 13 6).toInt = (N : Int)) (hN : N ≤ 8) (hc : ∀ p, p < N → I (13 + 2) p = c p) (hK : K (csum c x1 N) I J) : Cl G mX8_costTogether n 0 0 [.ref (gb G + 13), .int x1] Z I J (qi Z K) := by
  have lp : ∀ f : Nat, ∀ (x2 x3 : Int32), 0 ≤ x3.toInt → x3.toInt + (f : Int) = (N : Int) → x2 = csum c x1 x3.toInt.toNat → Jd G mX8_costTogether (jdFm G (qi Z K)) n 0 0 4 [(0, .ref (gb G + 13)), (1, .int x1), (2, .int x2), (3, .int x3)] [] Z I J := by
    intro f
    induction f with
    | zero =>
      intro x2 x3 h3 hf h2
      refine rX8_costTogether_4 ht ⟨fun _ => ?_, fun hx => absurd (Int32.le_iff_toInt_le.mpr (by omega)) hx⟩
      rw [h2, show x3.toInt.toNat = N by omega]
      exact hK
    | succ f ih =>
      intro x2 x3 h3 hf h2
      have q1 : (1 : Int32).toInt = 1 := rfl
      have e3 := i32_add x3 1 (by omega) (by omega)
      have n3 := tn_eq x3
      refine rX8_costTogether_4 ht ⟨fun hx => by have := Int32.le_iff_toInt_le.mp hx; omega, fun _ => ⟨vp_of (by omega) (by omega), ?_⟩⟩
      refine ih _ (x3 + 1) (by omega) (by omega) ?_
      rw [bit_mul x1 h3, show Int32.toNatClampNeg x3 = x3.toInt.toNat from rfl, hc _ (by omega), show (x3 + 1).toInt.toNat = x3.toInt.toNat + 1 by omega, h2]
      rfl
  exact eX8_costTogether ht (lp N 0 0 (by decide) (by show (0 : Int) + _ = _; omega) rfl)
theorem pX8_strangersTogether {G : jdG} {n : Nat} {Z : jdL} {J : jdJ} {K : Int32 → jdI → jdJ → Prop} {I : jdI} {N st : Nat} {rel : Nat → Nat → Bool} {x1 : Int32} (ht : zTies Z 13) (hg : GX I N st rel) (hN : N ≤ 8) (hK : K (csum (deg rel N) x1 N) I J) : Cl G mX8_strangersTogether (n + 1) 0 0 [.ref (gb G + 13), .int x1] Z I J (qi Z K) := by
  have h6 := hg.1
  have lp : ∀ f : Nat, ∀ (x2 x3 : Int32), 0 ≤ x3.toInt → x3.toInt + (f : Int) = (N : Int) → x2 = csum (deg rel N) x1 x3.toInt.toNat → Jd G mX8_strangersTogether (jdFm G (qi Z K)) (n + 1) 0 0 4 [(0, .ref (gb G + 13)), (1, .int x1), (2, .int x2), (3, .int x3)] [] Z I J := by
    intro f
    induction f with
    | zero =>
      intro x2 x3 h3 hf h2
      refine rX8_strangersTogether_4 ht ⟨fun _ => ?_, fun hx => absurd (Int32.le_iff_toInt_le.mpr (by omega)) hx⟩
      rw [h2, show x3.toInt.toNat = N by omega]
      exact hK
    | succ f ih =>
      intro x2 x3 h3 hf h2
      have q1 : (1 : Int32).toInt = 1 := rfl
      have e3 := i32_add x3 1 (by omega) (by omega)
      have n3 := tn_eq x3
      have es : I (13 + 1) (Int32.toNatClampNeg x3) = sset rel x3.toInt.toNat N := hg.2.2 x3.toInt.toNat (by omega)
      refine rX8_strangersTogether_4 ht ⟨fun hx => by have := Int32.le_iff_toInt_le.mp hx; omega, fun _ => ⟨vp_of (by omega) (by omega), ?_⟩⟩
      refine pJ6_bitCount (by rw [es]; exact sset_r rel _ N hN) ?_
      refine ih _ (x3 + 1) (by omega) (by omega) ?_
      rw [bit_mul x1 h3, es, show (x3 + 1).toInt.toNat = x3.toInt.toNat + 1 by omega, h2]
      rfl
  exact eX8_strangersTogether ht (lp N 0 0 (by decide) (by show (0 : Int) + _ = _; omega) rfl)
theorem pX12_costOf {G : jdG} {n : Nat} {Z : jdL} {J : jdJ} {K : Int32 → jdI → jdJ → Prop} {I : jdI} {t N : Nat} {c : Nat → Int32} {x1 : Int32} (ht : zModel Z t) (h10 : (I t 10).toInt = (N : Int)) (hN : N ≤ 8) (hc : ∀ p, p < N → I (t + 19) p = c p) (hK : K (csum c x1 N) I J) : Cl G mX12_costOf (n + 1) 0 0 [.ref (gb G + t), .int x1] Z I J (qi Z K) := by
  have lp : ∀ f : Nat, ∀ (x2 x3 : Int32), 0 ≤ x3.toInt → x3.toInt + (f : Int) = (N : Int) → x2 = csum c x1 x3.toInt.toNat → Jd G mX12_costOf (jdFm G (qi Z K)) (n + 1) 0 0 4 [(0, .ref (gb G + t)), (1, .int x1), (2, .int x2), (3, .int x3)] [] Z I J := by
    intro f
    induction f with
    | zero =>
      intro x2 x3 h3 hf h2
      refine rX12_costOf_4 ht ⟨fun _ => ?_, fun hx => absurd (Int32.le_iff_toInt_le.mpr (by omega)) hx⟩
      rw [h2, show x3.toInt.toNat = N by omega]
      exact hK
    | succ f ih =>
      intro x2 x3 h3 hf h2
      have q1 : (1 : Int32).toInt = 1 := rfl
      have q0 : (0 : Int32).toInt = 0 := rfl
      have e3 := i32_add x3 1 (by omega) (by omega)
      have n3 := tn_eq x3
      have b := bt_iff x1 h3
      have en : (x3 + 1).toInt.toNat = x3.toInt.toNat + 1 := by omega
      have es : csum c x1 (x3.toInt.toNat + 1) = csum c x1 x3.toInt.toNat + (if bt x1 x3.toInt.toNat = true then c x3.toInt.toNat else 0) := rfl
      refine rX12_costOf_4 ht ⟨fun hx => by have := Int32.le_iff_toInt_le.mp hx; omega, fun _ => ?_⟩
      refine sfX12_has trivial (fun v4 p4 => ⟨fun hv => ?_, fun hv => ⟨vp_of (by omega) (by omega), ?_⟩⟩)
      · have hv := i0 hv
        refine ih _ (x3 + 1) (by omega) (by omega) ?_
        rw [en, es, if_neg (fun z => b.mp z (Int32.toInt_inj.mp (show _ = (0 : Int32).toInt by omega))), h2]
      · have hv := i1 hv
        refine ih _ (x3 + 1) (by omega) (by omega) ?_
        rw [en, es, if_pos (b.mpr (fun z => by rw [z] at p4; omega)), h2, show Int32.toNatClampNeg x3 = x3.toInt.toNat from rfl, hc _ (by omega)]
  exact eX12_costOf ht (lp N 0 0 (by decide) (by show (0 : Int) + _ = _; omega) rfl)
theorem pX12_meetsOf {G : jdG} {n : Nat} {Z : jdL} {J : jdJ} {K : Int32 → jdI → jdJ → Prop} {I : jdI} {t N st : Nat} {rel : Nat → Nat → Bool} {x1 : Int32} (ht : zModel Z t) (hg : GM I t N st rel) (hN : N ≤ 8) (hK : K (csum (deg rel N) x1 N) I J) : Cl G mX12_meetsOf (n + 1) 0 0 [.ref (gb G + t), .int x1] Z I J (qi Z K) := by
  have h10 := hg.1
  have lp : ∀ f : Nat, ∀ (x2 x3 : Int32), 0 ≤ x3.toInt → x3.toInt + (f : Int) = (N : Int) → x2 = csum (deg rel N) x1 x3.toInt.toNat → Jd G mX12_meetsOf (jdFm G (qi Z K)) (n + 1) 0 0 4 [(0, .ref (gb G + t)), (1, .int x1), (2, .int x2), (3, .int x3)] [] Z I J := by
    intro f
    induction f with
    | zero =>
      intro x2 x3 h3 hf h2
      refine rX12_meetsOf_4 ht ⟨fun _ => ?_, fun hx => absurd (Int32.le_iff_toInt_le.mpr (by omega)) hx⟩
      rw [h2, show x3.toInt.toNat = N by omega]
      exact hK
    | succ f ih =>
      intro x2 x3 h3 hf h2
      have q1 : (1 : Int32).toInt = 1 := rfl
      have q0 : (0 : Int32).toInt = 0 := rfl
      have e3 := i32_add x3 1 (by omega) (by omega)
      have n3 := tn_eq x3
      have b := bt_iff x1 h3
      have en : (x3 + 1).toInt.toNat = x3.toInt.toNat + 1 := by omega
      have es : csum (deg rel N) x1 (x3.toInt.toNat + 1) = csum (deg rel N) x1 x3.toInt.toNat + (if bt x1 x3.toInt.toNat = true then deg rel N x3.toInt.toNat else 0) := rfl
      refine rX12_meetsOf_4 ht ⟨fun hx => by have := Int32.le_iff_toInt_le.mp hx; omega, fun _ => ?_⟩
      refine sfX12_has trivial (fun v4 p4 => ⟨fun hv => ?_, fun hv => ?_⟩)
      · have hv := i0 hv
        refine ih _ (x3 + 1) (by omega) (by omega) ?_
        rw [en, es, if_neg (fun z => b.mp z (Int32.toInt_inj.mp (show _ = (0 : Int32).toInt by omega))), h2]
      · have hv := i1 hv
        refine pX12_strangersOf (a := x3.toInt.toNat) ht hg hN (by omega) (by omega) ?_
        refine sfX12_bits trivial (fun v6 p6 => ?_)
        refine ih _ (x3 + 1) (by omega) (by omega) ?_
        rw [en, es, if_pos (b.mpr (fun z => by rw [z] at p4; omega)), h2, p6]
        rfl
  exact eX12_meetsOf ht (lp N 0 0 (by decide) (by show (0 : Int) + _ = _; omega) rfl)
/-- the first of those of greatest worth, behind c of worth w -/
def chs (f : Int32 → Int32) (y : Int32) : List Int32 → Int32 → Int32 → Int32
  | [], c, _ => c
  | g :: L, c, w => if sbs y g = true then (if c = 0 ∨ w.toInt < (f g).toInt then chs f y L g (f g) else chs f y L c w) else chs f y L c w
theorem chs_n {f : Int32 → Int32} {y g c w : Int32} {L : List Int32} (h : ¬ sbs y g = true) : chs f y (g :: L) c w = chs f y L c w := if_neg h
theorem chs_y {f : Int32 → Int32} {y g c w : Int32} {L : List Int32} (h : sbs y g = true) (h2 : c = 0 ∨ w.toInt < (f g).toInt) : chs f y (g :: L) c w = chs f y L g (f g) := by
  show (if sbs y g = true then (if c = 0 ∨ w.toInt < (f g).toInt then chs f y L g (f g) else chs f y L c w) else chs f y L c w) = _
  rw [if_pos h, if_pos h2]
theorem chs_k {f : Int32 → Int32} {y g c w : Int32} {L : List Int32} (h : sbs y g = true) (h2 : ¬ (c = 0 ∨ w.toInt < (f g).toInt)) : chs f y (g :: L) c w = chs f y L c w := by
  show (if sbs y g = true then (if c = 0 ∨ w.toInt < (f g).toInt then chs f y L g (f g) else chs f y L c w) else chs f y L c w) = _
  rw [if_pos h, if_neg h2]
theorem pX1_pick_9 {G : jdG} {n rc rs : Nat} {Z : jdL} {J : jdJ} {K : Int32 → jdI → jdJ → Prop} {I0 : jdI} {t : Nat} {L : List Int32} {fw : Int32 → Int32} {R x2 x3 : Int32} {P : jdI → Prop} (ht : zCho Z t) (hu1 : zTies Z 13) (h70 : L.length ≤ 70) (hI : ∀ I, P I → (I 13 8).toInt = (L.length : Int) ∧ LiS I (13 + 3) L)
    (hV : ∀ (I : jdI) (K2 : Int32 → jdI → jdJ → Prop) (g : Int32), P I → WX I → g ∈ L → sbs x2 g = true → (∀ I2, WX I2 → P I2 → Fr (fun a k => (a = 13 ∧ k = 10) ∨ a = 13 + 5) I I2 → K2 (fw g) I2 J) → ∀ q ∈ a_worth, Z.1 t = some (q.1 + 10, 0) → Cl G q.2 n 0 0 [.ref (gb G + t), .ref (gb G + 13), .int x2, .int g] Z I J (qi Z K2))
    (hK : ∀ I2, WX I2 → P I2 → Fr (fun a k => (a = 13 ∧ k = 10) ∨ a = 13 + 5) I0 I2 → K R I2 J) : ∀ f : Nat, ∀ (I : jdI) (x4 x5 x6 : Int32), WX I → P I → Fr (fun a k => (a = 13 ∧ k = 10) ∨ a = 13 + 5) I0 I → 0 ≤ x6.toInt → x6.toInt + (f : Int) = (L.length : Int) → chs fw x2 (L.drop x6.toInt.toNat) x4 x5 = R → Jd G mX1_pick (jdFm G (qi Z K)) (n + 1) rc rs 9 [(0, .ref (gb G + t)), (1, .ref (gb G + 13)), (2, .int x2), (3, .int x3), (4, .int x4), (5, .int x5), (6, .int x6)] [] Z I J := by
  intro f
  induction f with
  | zero =>
    intro I x4 x5 x6 hW hP hF h6 hf hr
    obtain ⟨hc, hL⟩ := hI I hP
    refine rX1_pick_9 ht hu1 ⟨fun _ => ?_, fun hx => absurd (Int32.le_iff_toInt_le.mpr (by omega)) hx⟩
    rw [drop_end (by omega)] at hr
    have hr : x4 = R := hr
    rw [hr]
    exact hK I hW hP hF
  | succ f ih =>
    intro I x4 x5 x6 hW hP hF h6 hf hr
    obtain ⟨hc, hL⟩ := hI I hP
    have q1 : (1 : Int32).toInt = 1 := rfl
    have e6 := i32_add x6 1 (by omega) (by omega)
    have n6 := tn_eq x6
    have en : (x6 + 1).toInt.toNat = x6.toInt.toNat + 1 := by omega
    have hd := LiS_drop hL (show x6.toInt.toNat < L.length by omega)
    rw [hd] at hr
    have hr : chs fw x2 (I (13 + 3) (Int32.toNatClampNeg x6) :: L.drop (x6.toInt.toNat + 1)) x4 x5 = R := hr
    have hm : I (13 + 3) (Int32.toNatClampNeg x6) ∈ L := List.mem_of_mem_drop (i := x6.toInt.toNat) (by rw [hd]; exact List.mem_cons_self)
    refine rX1_pick_9 ht hu1 ⟨fun hx => by have := Int32.le_iff_toInt_le.mp hx; omega, fun _ => ⟨vp_of (by omega) (by omega), fun hz => ?_, fun hz => ?_⟩⟩
    · refine ih I x4 x5 (x6 + 1) hW hP hF (by omega) (by omega) ?_
      rw [chs_n (fun z => hz (sbs_x.mpr z))] at hr
      rw [en]
      exact hr
    · have hb := sbs_x.mp hz
      refine hV I _ _ hP hW hm hb (fun I2 hW2 hP2 hF2 => ⟨fun h4 => ?_, fun h4 => ⟨fun h5 => ?_, fun h5 => ?_⟩⟩)
      · refine ih I2 _ _ (x6 + 1) hW2 hP2 (Fr.tr hF hF2 (fun _ _ h => h)) (by omega) (by omega) ?_
        rw [chs_y hb (Or.inl h4)] at hr
        rw [en]
        exact hr
      · have h5 := Int32.le_iff_toInt_le.mp h5
        refine ih I2 x4 x5 (x6 + 1) hW2 hP2 (Fr.tr hF hF2 (fun _ _ h => h)) (by omega) (by omega) ?_
        rw [chs_k hb (fun z => z.elim h4 (fun z => by omega))] at hr
        rw [en]
        exact hr
      · have h5 := mt Int32.le_iff_toInt_le.mpr h5
        refine ih I2 _ _ (x6 + 1) hW2 hP2 (Fr.tr hF hF2 (fun _ _ h => h)) (by omega) (by omega) ?_
        rw [chs_y hb (Or.inr (by omega))] at hr
        rw [en]
        exact hr
theorem pX1_pick {G : jdG} {n : Nat} {Z : jdL} {J : jdJ} {K : Int32 → jdI → jdJ → Prop} {I : jdI} {t : Nat} {L : List Int32} {fw : Int32 → Int32} {x2 x3 : Int32} {P : jdI → Prop} (ht : zCho Z t) (hu1 : zTies Z 13) (h70 : L.length ≤ 70) (hI : ∀ I, P I → (I 13 8).toInt = (L.length : Int) ∧ LiS I (13 + 3) L)
    (hV : ∀ (I : jdI) (K2 : Int32 → jdI → jdJ → Prop) (g : Int32), P I → WX I → g ∈ L → sbs x2 g = true → (∀ I2, WX I2 → P I2 → Fr (fun a k => (a = 13 ∧ k = 10) ∨ a = 13 + 5) I I2 → K2 (fw g) I2 J) → ∀ q ∈ a_worth, Z.1 t = some (q.1 + 10, 0) → Cl G q.2 n 0 0 [.ref (gb G + t), .ref (gb G + 13), .int x2, .int g] Z I J (qi Z K2))
    (hW : WX I) (hP : P I) (hK : ∀ I2, WX I2 → P I2 → Fr (fun a k => (a = 13 ∧ k = 10) ∨ a = 13 + 5) I I2 → K (chs fw x2 L 0 0) I2 J) : Cl G mX1_pick (n + 1) 0 0 [.ref (gb G + t), .ref (gb G + 13), .int x2, .int x3] Z I J (qi Z K) :=
  eX1_pick ht hu1 (pX1_pick_9 ht hu1 h70 hI hV hK L.length I 0 0 0 hW hP Fr.rf (by decide) (by show (0 : Int) + _ = _; omega) rfl)
theorem pX12_sentBy_62 {G : jdG} {n rc rs : Nat} {Z : jdL} {J : jdJ} {K : Int32 → jdI → jdJ → Prop} {I : jdI} {t N st : Nat} {c : Nat → Int32} {rel : Nat → Nat → Bool} {L : List Int32} {fw : Int32 → Int32} {R x1 x2 x3 x4 : Int32} (ht : zModel Z t) (hg : GM I t N st rel) (hN : N ≤ 8) (hcs : ∀ p, p < N → I (t + 19) p = c p) (hc : (I t 30).toInt = (L.length : Int)) (h70 : L.length ≤ 70) (hL : LiS I (t + 30) L) (hk : (x1 = 2 ∧ ∀ g, fw g = csum c g N) ∨ (¬ x1 = 2 ∧ ∀ g, (fw g).toInt = -(csum (deg rel N) g N).toInt)) (hK : K R I J) : ∀ f : Nat, ∀ (x5 x6 : Int32) (w : Int32), 0 ≤ x6.toInt → x6.toInt + (f : Int) = (L.length : Int) → (x5 = 0 ∨ w = fw x5) → chs fw x3 (L.drop x6.toInt.toNat) x5 w = R → Jd G mX12_sentBy (jdFm G (qi Z K)) (n + 2) rc rs 62 [(0, .ref (gb G + t)), (1, .int x1), (2, .int x2), (3, .int x3), (4, .int x4), (5, .int x5), (6, .int x6)] [] Z I J := by
  have h10 := hg.1
  intro f
  induction f with
  | zero =>
    intro x5 x6 w h6 hf hw hr
    refine rX12_sentBy_62 ht ⟨fun _ => ?_, fun hx => absurd (Int32.le_iff_toInt_le.mpr (by omega)) hx⟩
    rw [drop_end (by omega)] at hr
    have hr : x5 = R := hr
    rw [hr]
    exact hK
  | succ f ih =>
    intro x5 x6 w h6 hf hw hr
    have q1 : (1 : Int32).toInt = 1 := rfl
    have e6 := i32_add x6 1 (by omega) (by omega)
    have n6 := tn_eq x6
    have en : (x6 + 1).toInt.toNat = x6.toInt.toNat + 1 := by omega
    have hd := LiS_drop hL (show x6.toInt.toNat < L.length by omega)
    rw [hd] at hr
    have hr : chs fw x3 (I (t + 30) (Int32.toNatClampNeg x6) :: L.drop (x6.toInt.toNat + 1)) x5 w = R := hr
    have keep : ∀ w2, (x5 = 0 ∨ w2 = fw x5) → chs fw x3 (L.drop (x6.toInt.toNat + 1)) x5 w2 = R → Jd G mX12_sentBy (jdFm G (qi Z K)) (n + 2) rc rs 62 [(0, .ref (gb G + t)), (1, .int x1), (2, .int x2), (3, .int x3), (4, .int x4), (5, .int x5), (6, .int (x6 + 1))] [] Z I J := fun w2 hw2 hr2 => ih x5 (x6 + 1) w2 (by omega) (by omega) hw2 (by rw [en]; exact hr2)
    have take : chs fw x3 (L.drop (x6.toInt.toNat + 1)) (I (t + 30) (Int32.toNatClampNeg x6)) (fw (I (t + 30) (Int32.toNatClampNeg x6))) = R → Jd G mX12_sentBy (jdFm G (qi Z K)) (n + 2) rc rs 62 [(0, .ref (gb G + t)), (1, .int x1), (2, .int x2), (3, .int x3), (4, .int x4), (5, .int (I (t + 30) (Int32.toNatClampNeg x6))), (6, .int (x6 + 1))] [] Z I J := fun hr2 => ih _ (x6 + 1) _ (by omega) (by omega) (Or.inr rfl) (by rw [en]; exact hr2)
    have v6 : vp_in x6 70 := vp_of (by omega) (by omega)
    refine rX12_sentBy_62 ht ⟨fun hx => by have := Int32.le_iff_toInt_le.mp hx; omega, fun _ => ⟨v6, fun hz => ?_, fun hz => ?_⟩⟩
    · rw [chs_n (fun z => hz (sbs_m.mpr z))] at hr
      exact keep w hw hr
    · have hb := sbs_m.mp hz
      refine ⟨fun hx => ⟨v6, ?_⟩, fun hx => ⟨v6, ?_⟩⟩
      · rcases hk with hk | hk
        · exact absurd hk.1 hx
        · refine pX12_meetsOf ht hg hN (pX12_meetsOf ht hg hN ?_)
          have f1 := hk.2 (I (t + 30) (Int32.toNatClampNeg x6))
          have f2 := hk.2 x5
          refine ⟨fun hv => ⟨fun h5 => ⟨v6, ?_⟩, fun h5 => ?_⟩, fun hv => ⟨fun h5 => ⟨v6, ?_⟩, fun h5 => ⟨v6, ?_⟩⟩⟩
          · rw [chs_y hb (Or.inl h5)] at hr
            exact take hr
          · have hv := Int32.le_iff_toInt_le.mp hv
            have hw5 : w = fw x5 := hw.elim (fun z => absurd z h5) id
            rw [chs_k hb (fun z => z.elim h5 (fun z => by rw [hw5] at z; omega))] at hr
            exact keep w hw hr
          · rw [chs_y hb (Or.inl h5)] at hr
            exact take hr
          · have hv := mt Int32.le_iff_toInt_le.mpr hv
            have hw5 : w = fw x5 := hw.elim (fun z => absurd z h5) id
            rw [chs_y hb (Or.inr (by rw [hw5]; omega))] at hr
            exact take hr
      · rcases hk with hk | hk
        · refine pX12_costOf ht h10 hN hcs (pX12_costOf ht h10 hN hcs ?_)
          have f1 := hk.2 (I (t + 30) (Int32.toNatClampNeg x6))
          have f2 := hk.2 x5
          rw [← f1, ← f2]
          refine ⟨fun hv => ⟨fun h5 => ⟨v6, ?_⟩, fun h5 => ?_⟩, fun hv => ⟨fun h5 => ⟨v6, ?_⟩, fun h5 => ⟨v6, ?_⟩⟩⟩
          · rw [chs_y hb (Or.inl h5)] at hr
            exact take hr
          · have hv := Int32.le_iff_toInt_le.mp hv
            have hw5 : w = fw x5 := hw.elim (fun z => absurd z h5) id
            rw [chs_k hb (fun z => z.elim h5 (fun z => by rw [hw5] at z; omega))] at hr
            exact keep w hw hr
          · rw [chs_y hb (Or.inl h5)] at hr
            exact take hr
          · have hv := mt Int32.le_iff_toInt_le.mpr hv
            have hw5 : w = fw x5 := hw.elim (fun z => absurd z h5) id
            rw [chs_y hb (Or.inr (by rw [hw5]; omega))] at hr
            exact take hr
        · exact absurd hx hk.1
theorem bs_r (x : Int32) : ∀ k, k ≤ 8 → 0 ≤ (bs x k).toInt ∧ (bs x k).toInt ≤ (k : Int)
  | 0, _ => ⟨Int.le_refl _, Int.le_refl _⟩
  | k + 1, hk => by
    have h := bs_r x k (by omega)
    have r := i32_and (x >>> (Int32.ofNat k &&& 31)) 1 (by decide)
    have q1 : (1 : Int32).toInt = 1 := rfl
    have e := i32_add (bs x k) ((x >>> (Int32.ofNat k &&& 31)) &&& 1) (by omega) (by omega)
    show 0 ≤ (bs x k + ((x >>> (Int32.ofNat k &&& 31)) &&& 1)).toInt ∧ (bs x k + ((x >>> (Int32.ofNat k &&& 31)) &&& 1)).toInt ≤ _
    omega
theorem csum_r {c : Nat → Int32} (hc : ∀ p, 0 ≤ (c p).toInt ∧ (c p).toInt ≤ 8) (s : Int32) : ∀ k, k ≤ 8 → 0 ≤ (csum c s k).toInt ∧ (csum c s k).toInt ≤ 8 * (k : Int)
  | 0, _ => ⟨Int.le_refl _, Int.le_refl _⟩
  | k + 1, hk => by
    have h := csum_r hc s k (by omega)
    have hk2 := hc k
    have q0 : (0 : Int32).toInt = 0 := rfl
    show 0 ≤ (csum c s k + (if bt s k = true then c k else 0)).toInt ∧ (csum c s k + (if bt s k = true then c k else 0)).toInt ≤ _
    split
    · have e := i32_add (csum c s k) (c k) (by omega) (by omega)
      omega
    · have e := i32_add (csum c s k) 0 (by omega) (by omega)
      omega
theorem deg_r (rel : Nat → Nat → Bool) (n p : Nat) : 0 ≤ (deg rel n p).toInt ∧ (deg rel n p).toInt ≤ 8 := bs_r _ 8 (Nat.le_refl _)
theorem neg_deg (rel : Nat → Nat → Bool) {N : Nat} (hN : N ≤ 8) (g : Int32) : (-(csum (deg rel N) g N)).toInt = -(csum (deg rel N) g N).toInt := by
  have h := csum_r (deg_r rel N) g N hN
  exact i32_neg _ (by omega)
/-! the most groups of a set -/
def dl (s g : Int32) : Int32 := s &&& ~~~g
theorem dl_bt (s g : Int32) {i : Nat} (hi : i < 32) : bt (dl s g) i = (bt s i && !(bt g i)) := by
  unfold dl
  rw [bt_an _ _ _ hi, bt_no _ _ hi]
theorem sbs_bt {s g : Int32} : sbs s g = true ↔ ∀ i, i < 32 → bt g i = true → bt s i = true := by
  rw [← sbs_x]
  constructor
  · intro h i hi hg
    have e : bt (g &&& s) i = bt g i := congrArg (fun x => bt x i) h
    rw [bt_an _ _ _ hi, hg, Bool.true_and] at e
    exact e
  · intro h
    refine bt_all (fun i hi => ?_)
    rw [bt_an _ _ _ hi]
    cases a : bt g i with
    | false => rfl
    | true => rw [h i hi a]; rfl
theorem dl_comm (s g h : Int32) : dl (dl s g) h = dl (dl s h) g := bt_all (fun i hi => by
  rw [dl_bt _ _ hi, dl_bt _ _ hi, dl_bt _ _ hi, dl_bt _ _ hi]
  cases bt s i <;> cases bt g i <;> cases bt h i <;> rfl)
theorem dl_r {s g : Int32} (h : 0 ≤ s.toInt) : 0 ≤ (dl s g).toInt ∧ (dl s g).toInt ≤ s.toInt := i32_and' s (~~~g) h
theorem dl_lt {s g : Int32} (h : 0 ≤ s.toInt) (hs : sbs s g = true) (hg : ¬ g = 0) : (dl s g).toInt < s.toInt := by
  have r := dl_r (g := g) h
  by_cases c : dl s g = s
  · exfalso
    apply hg
    refine bt_all (fun i hi => ?_)
    rw [bt_ze i hi]
    have e : bt (dl s g) i = bt s i := congrArg (fun x => bt x i) c
    rw [dl_bt _ _ hi] at e
    cases a : bt g i with
    | false => rfl
    | true =>
      have b := sbs_bt.mp hs i hi a
      rw [a, b] at e
      cases e
  · have : ¬ (dl s g).toInt = s.toInt := fun z => c (Int32.toInt_inj.mp z)
    omega
theorem dl_sub {s s2 g : Int32} (h : sbs s s2 = true) : sbs (dl s g) (dl s2 g) = true := sbs_bt.mpr (fun i hi a => by
  rw [dl_bt _ _ hi] at a ⊢
  rw [Bool.and_eq_true] at a ⊢
  exact ⟨sbs_bt.mp h i hi a.1, a.2⟩)
theorem sbs_tr {a b c : Int32} (h : sbs b a = true) (h2 : sbs c b = true) : sbs c a = true := sbs_bt.mpr (fun i hi g => sbs_bt.mp h2 i hi (sbs_bt.mp h i hi g))
theorem dl_le (s g : Int32) : sbs s (dl s g) = true := sbs_bt.mpr (fun i hi a => by
  rw [dl_bt _ _ hi, Bool.and_eq_true] at a
  exact a.1)
theorem sbs_dl {s g h : Int32} (hg : sbs s g = true) (hn : ∀ i, i < 32 → bt g i = true → bt h i = false) : sbs (dl s h) g = true := sbs_bt.mpr (fun i hi a => by
  rw [dl_bt _ _ hi, sbs_bt.mp hg i hi a, hn i hi a]
  rfl)
/-- the greatest of h over those of a list with p, and b -/
def mxl (p : Int32 → Bool) (h : Int32 → Int) : List Int32 → Int → Int
  | [], b => b
  | g :: L, b => mxl p h L (if p g = true ∧ b < h g then h g else b)
theorem mxl_ge (p : Int32 → Bool) (h : Int32 → Int) : ∀ (L : List Int32) (b : Int), b ≤ mxl p h L b ∧ ∀ g ∈ L, p g = true → h g ≤ mxl p h L b
  | [], b => ⟨Int.le_refl _, fun g hg => by cases hg⟩
  | g :: L, b => by
    have ih := mxl_ge p h L (if p g = true ∧ b < h g then h g else b)
    show b ≤ mxl p h L (if p g = true ∧ b < h g then h g else b) ∧ _
    by_cases c : p g = true ∧ b < h g
    · rw [if_pos c] at ih
      refine ⟨by rw [if_pos c]; have := ih.1; omega, fun x hx hp => ?_⟩
      show h x ≤ mxl p h L (if p g = true ∧ b < h g then h g else b)
      rw [if_pos c]
      rcases List.mem_cons.mp hx with rfl | hx
      · exact ih.1
      · exact ih.2 x hx hp
    · rw [if_neg c] at ih
      refine ⟨by rw [if_neg c]; exact ih.1, fun x hx hp => ?_⟩
      show h x ≤ mxl p h L (if p g = true ∧ b < h g then h g else b)
      rw [if_neg c]
      rcases List.mem_cons.mp hx with rfl | hx
      · have : ¬ b < h x := fun z => c ⟨hp, z⟩
        have := ih.1
        omega
      · exact ih.2 x hx hp
theorem mxl_ex (p : Int32 → Bool) (h : Int32 → Int) : ∀ (L : List Int32) (b : Int), mxl p h L b = b ∨ ∃ g ∈ L, p g = true ∧ mxl p h L b = h g
  | [], b => Or.inl rfl
  | g :: L, b => by
    show mxl p h L (if p g = true ∧ b < h g then h g else b) = b ∨ ∃ x ∈ g :: L, p x = true ∧ mxl p h L (if p g = true ∧ b < h g then h g else b) = h x
    by_cases c : p g = true ∧ b < h g
    · rw [if_pos c]
      rcases mxl_ex p h L (h g) with e | ⟨x, hx, hp, e⟩
      · exact Or.inr ⟨g, List.mem_cons_self, c.1, e⟩
      · exact Or.inr ⟨x, List.mem_cons_of_mem _ hx, hp, e⟩
    · rw [if_neg c]
      rcases mxl_ex p h L b with e | ⟨x, hx, hp, e⟩
      · exact Or.inl e
      · exact Or.inr ⟨x, List.mem_cons_of_mem _ hx, hp, e⟩
theorem mxl_c {p : Int32 → Bool} {h h2 : Int32 → Int} : ∀ (L : List Int32) (b : Int), (∀ g ∈ L, p g = true → h g = h2 g) → mxl p h L b = mxl p h2 L b
  | [], b, _ => rfl
  | g :: L, b, e => by
    show mxl p h L (if p g = true ∧ b < h g then h g else b) = mxl p h2 L (if p g = true ∧ b < h2 g then h2 g else b)
    rw [mxl_c L _ (fun x hx => e x (List.mem_cons_of_mem _ hx))]
    by_cases c : p g = true
    · rw [e g List.mem_cons_self c]
    · rw [if_neg (fun z => c z.1), if_neg (fun z => c z.1)]
def mst (L : List Int32) : Nat → Int32 → Int
  | 0, _ => 0
  | k + 1, s => mxl (sbs s) (fun g => 1 + mst L k (dl s g)) L 0
/-- the groups of a list are sets of somebody -/
def GG (L : List Int32) : Prop := ∀ g ∈ L, 0 < g.toInt ∧ g.toInt ≤ 255
theorem GG_n {L : List Int32} (h : GG L) {g : Int32} (hg : g ∈ L) : ¬ g = 0 := fun e => by
  have := (h g hg).1
  rw [e] at this
  exact absurd this (by decide)
theorem sbs_0 {g : Int32} (h : ¬ g = 0) : ¬ sbs 0 g = true := fun e => h (by
  have := sbs_x.mpr e
  rw [Int32.and_zero] at this
  exact this.symm)
theorem mst_st {L : List Int32} (hL : GG L) : ∀ (k : Nat) (s : Int32), 0 ≤ s.toInt → s.toInt ≤ (k : Int) → mst L (k + 1) s = mst L k s
  | 0, s, h0, h1 => by
    have e : s = 0 := Int32.toInt_inj.mp (show s.toInt = (0 : Int32).toInt by have : (0 : Int32).toInt = 0 := rfl; omega)
    rw [e]
    show mxl (sbs 0) _ L 0 = 0
    rcases mxl_ex (sbs 0) (fun g => 1 + mst L 0 (dl 0 g)) L 0 with q | ⟨g, hg, hp, _⟩
    · exact q
    · exact absurd hp (sbs_0 (GG_n hL hg))
  | k + 1, s, h0, h1 => by
    show mxl (sbs s) (fun g => 1 + mst L (k + 1) (dl s g)) L 0 = mxl (sbs s) (fun g => 1 + mst L k (dl s g)) L 0
    refine mxl_c L 0 (fun g hg hp => ?_)
    have r := dl_r (g := g) h0
    have l := dl_lt h0 hp (GG_n hL hg)
    show 1 + mst L (k + 1) (dl s g) = 1 + mst L k (dl s g)
    rw [mst_st hL k (dl s g) r.1 (by omega)]
def MS (L : List Int32) (s : Int32) : Int := mst L 255 s
theorem MS_r {L : List Int32} (hL : GG L) {s : Int32} (h0 : 0 ≤ s.toInt) (h1 : s.toInt ≤ 255) : MS L s = mxl (sbs s) (fun g => 1 + MS L (dl s g)) L 0 := (mst_st hL 255 s h0 h1).symm
theorem MS_nn {L : List Int32} (hL : GG L) {s : Int32} (h0 : 0 ≤ s.toInt) (h1 : s.toInt ≤ 255) : 0 ≤ MS L s := by
  rw [MS_r hL h0 h1]
  exact (mxl_ge _ _ L 0).1
theorem MS_le {L : List Int32} (hL : GG L) : ∀ (k : Nat) (s : Int32), 0 ≤ s.toInt → s.toInt ≤ 255 → s.toInt ≤ (k : Int) → MS L s ≤ s.toInt
  | 0, s, h0, h1, hk => by
    have e : s = 0 := Int32.toInt_inj.mp (show s.toInt = (0 : Int32).toInt by have : (0 : Int32).toInt = 0 := rfl; omega)
    rw [MS_r hL h0 h1]
    rcases mxl_ex (sbs s) (fun g => 1 + MS L (dl s g)) L 0 with q | ⟨g, hg, hp, _⟩
    · omega
    · rw [e] at hp
      exact absurd hp (sbs_0 (GG_n hL hg))
  | k + 1, s, h0, h1, hk => by
    rw [MS_r hL h0 h1]
    rcases mxl_ex (sbs s) (fun g => 1 + MS L (dl s g)) L 0 with q | ⟨g, hg, hp, q⟩
    · omega
    · rw [q]
      have r := dl_r (g := g) h0
      have l := dl_lt h0 hp (GG_n hL hg)
      have ih := MS_le hL k (dl s g) r.1 (by omega) (by omega)
      show 1 + MS L (dl s g) ≤ _
      omega
theorem MS_1 {L : List Int32} (hL : GG L) {s g : Int32} (h0 : 0 ≤ s.toInt) (h1 : s.toInt ≤ 255) (hg : g ∈ L) (hp : sbs s g = true) : 1 + MS L (dl s g) ≤ MS L s := by
  rw [MS_r hL h0 h1]
  exact (mxl_ge (sbs s) (fun g => 1 + MS L (dl s g)) L 0).2 g hg hp
theorem MS_mo {L : List Int32} (hL : GG L) : ∀ (k : Nat) (s s2 : Int32), 0 ≤ s.toInt → s.toInt ≤ 255 → 0 ≤ s2.toInt → s2.toInt ≤ 255 → s2.toInt ≤ (k : Int) → sbs s s2 = true → MS L s2 ≤ MS L s
  | 0, s, s2, a0, a1, b0, b1, hk, h => by
    have := MS_le hL 0 s2 b0 b1 hk
    have := MS_nn hL a0 a1
    omega
  | k + 1, s, s2, a0, a1, b0, b1, hk, h => by
    rw [MS_r hL b0 b1]
    rcases mxl_ex (sbs s2) (fun g => 1 + MS L (dl s2 g)) L 0 with q | ⟨g, hg, hp, q⟩
    · rw [q]
      exact MS_nn hL a0 a1
    · rw [q]
      have r := dl_r (g := g) b0
      have r2 := dl_r (g := g) a0
      have l := dl_lt b0 hp (GG_n hL hg)
      have ih := MS_mo hL k (dl s g) (dl s2 g) r2.1 (by omega) r.1 (by omega) (by omega) (dl_sub h)
      have := MS_1 hL a0 a1 hg (sbs_tr hp h)
      show 1 + MS L (dl s2 g) ≤ _
      omega
/-- those of s with somebody x, of a list -/
def pw (s : Int32) (x : Nat) (g : Int32) : Bool := sbs s g && bt g x
theorem MS_dp {L : List Int32} (hL : GG L) {x : Nat} {e : Int32} (hx : x < 8) (he : ∀ i, i < 32 → bt e i = decide (i = x)) : ∀ (k : Nat) (s : Int32), 0 ≤ s.toInt → s.toInt ≤ 255 → s.toInt ≤ (k : Int) → bt s x = true → MS L s = mxl (pw s x) (fun g => 1 + MS L (dl s g)) L (MS L (dl s e))
  | 0, s, h0, h1, hk, hb => by
    have z : s = 0 := Int32.toInt_inj.mp (show s.toInt = (0 : Int32).toInt by have : (0 : Int32).toInt = 0 := rfl; omega)
    rw [z, bt_ze x (by omega)] at hb
    cases hb
  | k + 1, s, h0, h1, hk, hb => by
    have ge := mxl_ge (pw s x) (fun g => 1 + MS L (dl s g)) L (MS L (dl s e))
    have re := dl_r (g := e) h0
    have nn := MS_nn hL re.1 (show (dl s e).toInt ≤ 255 by omega)
    apply Int.le_antisymm
    · have ms := MS_r hL h0 h1
      rcases mxl_ex (sbs s) (fun g => 1 + MS L (dl s g)) L 0 with q | ⟨g, hg, hp, q⟩
      · rw [ms, q]
        exact Int.le_trans nn ge.1
      · rw [ms, q]
        show 1 + MS L (dl s g) ≤ _
        by_cases c : bt g x = true
        · exact ge.2 g hg (by unfold pw; rw [hp, c]; rfl)
        · have r := dl_r (g := g) h0
          have l := dl_lt h0 hp (GG_n hL hg)
          have cx : bt g x = false := Bool.eq_false_iff.mpr c
          have hb2 : bt (dl s g) x = true := by rw [dl_bt _ _ (by omega), hb, cx]; rfl
          have ih := MS_dp hL hx he k (dl s g) r.1 (by omega) (by omega) hb2
          rcases mxl_ex (pw (dl s g) x) (fun h => 1 + MS L (dl (dl s g) h)) L (MS L (dl (dl s g) e)) with q2 | ⟨h, hh, hp2, q2⟩
          · rw [q2] at ih
            rw [ih, dl_comm]
            have sg : sbs (dl s e) g = true := sbs_dl hp (fun i hi a => by
              rw [he i hi]
              exact decide_eq_false (fun z => by rw [z, cx] at a; cases a))
            exact Int.le_trans (MS_1 hL re.1 (by omega) hg sg) ge.1
          · rw [q2] at ih
            unfold pw at hp2
            rw [Bool.and_eq_true] at hp2
            have hs : sbs s h = true := sbs_tr hp2.1 (dl_le s g)
            have rh := dl_r (g := h) h0
            have hgx : sbs (dl s h) g = true := sbs_dl hp (fun i hi a => by
              cases b : bt h i with
              | false => rfl
              | true =>
                have := sbs_bt.mp hp2.1 i hi b
                rw [dl_bt _ _ hi, a] at this
                rw [Bool.not_true, Bool.and_false] at this
                cases this)
            have a1 := MS_1 hL rh.1 (show (dl s h).toInt ≤ 255 by omega) hg hgx
            have a2 := ge.2 h hh (by unfold pw; rw [hs, hp2.2]; rfl)
            have a2 : 1 + MS L (dl s h) ≤ _ := a2
            rw [ih]
            show 1 + (1 + MS L (dl (dl s g) h)) ≤ _
            rw [dl_comm]
            omega
    · rcases mxl_ex (pw s x) (fun g => 1 + MS L (dl s g)) L (MS L (dl s e)) with q | ⟨g, hg, hp, q⟩
      · rw [q]
        exact MS_mo hL 255 s (dl s e) h0 h1 re.1 (by omega) (by omega) (dl_le s e)
      · rw [q]
        unfold pw at hp
        rw [Bool.and_eq_true] at hp
        exact MS_1 hL h0 h1 hg hp.1
theorem pX12_mostIn_4 {G : jdG} {n rc rs : Nat} {Z : jdL} {J : jdJ} {K : Int32 → jdI → jdJ → Prop} {I : jdI} {t : Nat} {L : List Int32} {s : Int32} (ht : zModel Z t) (hG : GG L) (h0 : 0 ≤ s.toInt) (h1 : s.toInt ≤ 255) (hc : (I t 30).toInt = (L.length : Int)) (h70 : L.length ≤ 70) (hL : LiS I (t + 30) L)
    (hR : ∀ (K2 : Int32 → jdI → jdJ → Prop) (g : Int32), g ∈ L → sbs s g = true → (∀ v : Int32, v.toInt = MS L (dl s g) → K2 v I J) → Cl G mX12_mostIn n 0 0 [.ref (gb G + t), .int (dl s g)] Z I J (qi Z K2))
    (hK : ∀ v : Int32, v.toInt = MS L s → K v I J) : ∀ f : Nat, ∀ (x2 x3 : Int32), 0 ≤ x3.toInt → x3.toInt + (f : Int) = (L.length : Int) → 0 ≤ x2.toInt ∧ x2.toInt ≤ 256 → mxl (sbs s) (fun g => 1 + MS L (dl s g)) (L.drop x3.toInt.toNat) x2.toInt = MS L s → Jd G mX12_mostIn (jdFm G (qi Z K)) (n + 1) rc rs 4 [(0, .ref (gb G + t)), (1, .int s), (2, .int x2), (3, .int x3)] [] Z I J := by
  intro f
  induction f with
  | zero =>
    intro x2 x3 h3 hf h2 hr
    refine rX12_mostIn_4 ht ⟨fun _ => ?_, fun hx => absurd (Int32.le_iff_toInt_le.mpr (by omega)) hx⟩
    rw [drop_end (by omega)] at hr
    exact hK x2 hr
  | succ f ih =>
    intro x2 x3 h3 hf h2 hr
    have q1 : (1 : Int32).toInt = 1 := rfl
    have e3 := i32_add x3 1 (by omega) (by omega)
    have n3 := tn_eq x3
    have en : (x3 + 1).toInt.toNat = x3.toInt.toNat + 1 := by omega
    have hd := LiS_drop hL (show x3.toInt.toNat < L.length by omega)
    have hm : I (t + 30) (Int32.toNatClampNeg x3) ∈ L := List.mem_of_mem_drop (i := x3.toInt.toNat) (by rw [hd]; exact List.mem_cons_self)
    rw [hd] at hr
    have hr : mxl (sbs s) (fun g => 1 + MS L (dl s g)) (L.drop (x3.toInt.toNat + 1)) (if sbs s (I (t + 30) (Int32.toNatClampNeg x3)) = true ∧ x2.toInt < 1 + MS L (dl s (I (t + 30) (Int32.toNatClampNeg x3))) then 1 + MS L (dl s (I (t + 30) (Int32.toNatClampNeg x3))) else x2.toInt) = MS L s := hr
    refine rX12_mostIn_4 ht ⟨fun hx => by have := Int32.le_iff_toInt_le.mp hx; omega, fun _ => ⟨vp_of (by omega) (by omega), fun hz => ?_, fun hz => ⟨vp_of (by omega) (by omega), ?_⟩⟩⟩
    · rw [if_neg (fun z => hz (sbs_m.mpr z.1))] at hr
      refine ih x2 (x3 + 1) (by omega) (by omega) h2 ?_
      rw [en]
      exact hr
    · have hb := sbs_m.mp hz
      have r := dl_r (g := I (t + 30) (Int32.toNatClampNeg x3)) h0
      have l1 := MS_le hG 255 _ r.1 (show _ ≤ (255 : Int) by omega) (by omega)
      have l2 := MS_nn hG r.1 (show (dl s (I (t + 30) (Int32.toNatClampNeg x3))).toInt ≤ 255 by omega)
      rw [xo_m1]
      refine hR _ _ hm hb (fun v hv => ?_)
      have e1 := i32_add 1 v (by omega) (by omega)
      refine ⟨fun hx => ?_, fun hx => ?_⟩
      · have hx := Int32.le_iff_toInt_le.mp hx
        rw [if_neg (fun z => by have := z.2; omega)] at hr
        refine ih x2 (x3 + 1) (by omega) (by omega) h2 ?_
        rw [en]
        exact hr
      · have hx := mt Int32.le_iff_toInt_le.mpr hx
        rw [if_pos ⟨hb, by omega⟩] at hr
        refine ih (1 + v) (x3 + 1) (by omega) (by omega) (by omega) ?_
        rw [en, e1, hv, q1]
        exact hr
theorem pX12_mostIn {G : jdG} {Z : jdL} {J : jdJ} {I : jdI} {t : Nat} {L : List Int32} (ht : zModel Z t) (hG : GG L) (hc : (I t 30).toInt = (L.length : Int)) (h70 : L.length ≤ 70) (hL : LiS I (t + 30) L) : ∀ (k n : Nat) (K : Int32 → jdI → jdJ → Prop) (s : Int32), 0 ≤ s.toInt → s.toInt ≤ 255 → s.toInt ≤ (k : Int) → (∀ v : Int32, v.toInt = MS L s → K v I J) → Cl G mX12_mostIn (n + 1 + k) 0 0 [.ref (gb G + t), .int s] Z I J (qi Z K) := by
  intro k
  induction k with
  | zero =>
    intro n K s h0 h1 hk hK
    have z : s = 0 := Int32.toInt_inj.mp (show s.toInt = (0 : Int32).toInt by have : (0 : Int32).toInt = 0 := rfl; omega)
    refine eX12_mostIn ht ?_
    exact pX12_mostIn_4 ht hG h0 h1 hc h70 hL (fun K2 g hg hb => by rw [z] at hb; exact absurd hb (sbs_0 (GG_n hG hg))) hK L.length 0 0 (by decide) (by show (0 : Int) + _ = _; omega) (by decide) (MS_r hG h0 h1).symm
  | succ k ih =>
    intro n K s h0 h1 hk hK
    refine eX12_mostIn ht ?_
    refine pX12_mostIn_4 ht hG h0 h1 hc h70 hL (fun K2 g hg hb hK2 => ?_) hK L.length 0 0 (by decide) (by show (0 : Int) + _ = _; omega) (by decide) (MS_r hG h0 h1).symm
    have r := dl_r (g := g) h0
    have l := dl_lt h0 hb (GG_n hG hg)
    exact ih n K2 (dl s g) r.1 (by omega) (by omega) hK2
/-- the first group without which one fewer could go -/
def bst (L : List Int32) (s : Int32) : List Int32 → Int32
  | [] => 0
  | g :: M => if sbs s g = true ∧ MS L (dl s g) = MS L s - 1 then g else bst L s M
theorem pX12_bestIn {G : jdG} {n : Nat} {Z : jdL} {J : jdJ} {K : Int32 → jdI → jdJ → Prop} {I : jdI} {t : Nat} {L : List Int32} {s : Int32} (ht : zModel Z t) (hG : GG L) (h0 : 0 ≤ s.toInt) (h1 : s.toInt ≤ 255) (hc : (I t 30).toInt = (L.length : Int)) (h70 : L.length ≤ 70) (hL : LiS I (t + 30) L) (hK : K (bst L s L) I J) : Cl G mX12_bestIn (n + 257) 0 0 [.ref (gb G + t), .int s] Z I J (qi Z K) := by
  have lp : ∀ x2 : Int32, x2.toInt = MS L s → ∀ f : Nat, ∀ x3 : Int32, 0 ≤ x3.toInt → x3.toInt + (f : Int) = (L.length : Int) → bst L s (L.drop x3.toInt.toNat) = bst L s L → Jd G mX12_bestIn (jdFm G (qi Z K)) (n + 257) 0 0 8 [(0, .ref (gb G + t)), (1, .int s), (2, .int x2), (3, .int x3)] [] Z I J := by
    intro x2 h2 f
    induction f with
    | zero =>
      intro x3 h3 hf hr
      refine rX12_bestIn_8 ht ⟨fun _ => ?_, fun hx => absurd (Int32.le_iff_toInt_le.mpr (by omega)) hx⟩
      rw [drop_end (by omega)] at hr
      rw [← hr] at hK
      exact hK
    | succ f ih =>
      intro x3 h3 hf hr
      have q1 : (1 : Int32).toInt = 1 := rfl
      have e3 := i32_add x3 1 (by omega) (by omega)
      have n3 := tn_eq x3
      have en : (x3 + 1).toInt.toNat = x3.toInt.toNat + 1 := by omega
      have ls := MS_le hG 255 s h0 h1 (by omega)
      have ln := MS_nn hG h0 h1
      have e2 := i32_sub x2 1 (by omega) (by omega)
      have hd := LiS_drop hL (show x3.toInt.toNat < L.length by omega)
      rw [hd] at hr
      have hr : (if sbs s (I (t + 30) (Int32.toNatClampNeg x3)) = true ∧ MS L (dl s (I (t + 30) (Int32.toNatClampNeg x3))) = MS L s - 1 then I (t + 30) (Int32.toNatClampNeg x3) else bst L s (L.drop (x3.toInt.toNat + 1))) = bst L s L := hr
      refine rX12_bestIn_8 ht ⟨fun hx => by have := Int32.le_iff_toInt_le.mp hx; omega, fun _ => ⟨vp_of (by omega) (by omega), fun hz => ?_, fun hz => ⟨vp_of (by omega) (by omega), ?_⟩⟩⟩
      · rw [if_neg (fun z => hz (sbs_m.mpr z.1))] at hr
        refine ih (x3 + 1) (by omega) (by omega) ?_
        rw [en]
        exact hr
      · have hb := sbs_m.mp hz
        have r := dl_r (g := I (t + 30) (Int32.toNatClampNeg x3)) h0
        rw [xo_m1]
        refine pX12_mostIn ht hG hc h70 hL 255 n _ _ r.1 (show (dl s (I (t + 30) (Int32.toNatClampNeg x3))).toInt ≤ 255 by omega) (show (dl s (I (t + 30) (Int32.toNatClampNeg x3))).toInt ≤ ((255 : Nat) : Int) by omega) (fun v hv => ?_)
        have hv : v.toInt = MS L (dl s (I (t + 30) (Int32.toNatClampNeg x3))) := hv
        refine ⟨fun hx => ?_, fun hx => ⟨vp_of (by omega) (by omega), ?_⟩⟩
        · rw [if_neg (fun z => hx (Int32.toInt_inj.mp (by have := z.2; omega)))] at hr
          refine ih (x3 + 1) (by omega) (by omega) ?_
          rw [en]
          exact hr
        · have hx := congrArg Int32.toInt hx
          rw [if_pos ⟨hb, by omega⟩] at hr
          rw [← hr] at hK
          exact hK
  refine eX12_bestIn ht ?_
  refine pX12_mostIn ht hG hc h70 hL 255 n _ s h0 h1 h1 (fun v hv => ?_)
  exact lp v hv L.length 0 (by decide) (by show (0 : Int) + _ = _; omega) rfl
/-! X's table -/
theorem low_all : ∀ s : Fin 256, s.val ≠ 0 → ∃ x : Fin 8, bt (Int32.ofNat s.val) x.val = true ∧ (Int32.ofNat s.val &&& (-(Int32.ofNat s.val))) = (1 : Int32) <<< (Int32.ofNat x.val &&& 31) := by decide +kernel
theorem bt_1b : ∀ p : Fin 8, ∀ q : Fin 32, bt ((1 : Int32) <<< (Int32.ofNat p.val &&& 31)) q.val = decide (q.val = p.val) := by decide +kernel
theorem low {s : Int32} (h0 : 0 < s.toInt) (h1 : s.toInt ≤ 255) : ∃ x, x < 8 ∧ bt s x = true ∧ ∀ i, i < 32 → bt (s &&& (-s)) i = decide (i = x) := by
  obtain ⟨x, hb, he⟩ := low_all ⟨s.toInt.toNat, by omega⟩ (show s.toInt.toNat ≠ 0 by omega)
  rw [← i32_ofNat (show 0 ≤ s.toInt by omega)] at hb he
  exact ⟨x.val, x.isLt, hb, fun i hi => by rw [he]; exact bt_1b x ⟨i, hi⟩⟩
theorem xor_dl {s g : Int32} (h : sbs s g = true) : s ^^^ g = dl s g := bt_all (fun i hi => by
  rw [bt_xo _ _ _ hi, dl_bt _ _ hi]
  cases a : bt g i with
  | false => cases bt s i <;> rfl
  | true => rw [sbs_bt.mp h i hi a]; rfl)
theorem and_e {g e : Int32} {x : Nat} (hx : x < 32) (he : ∀ i, i < 32 → bt e i = decide (i = x)) : (g &&& e) = 0 ↔ bt g x = false := by
  constructor
  · intro h
    have q : bt (g &&& e) x = bt 0 x := congrArg (fun z => bt z x) h
    rw [bt_an _ _ _ hx, he x hx, decide_eq_true rfl, Bool.and_true, bt_ze x hx] at q
    exact q
  · intro h
    refine bt_all (fun i hi => ?_)
    rw [bt_an _ _ _ hi, he i hi, bt_ze i hi]
    by_cases c : i = x
    · rw [c, h, Bool.false_and]
    · rw [decide_eq_false c, Bool.and_false]
def TB (I : jdI) (L : List Int32) (b : Nat) : Prop := ∀ v : Nat, v < b → (I (13 + 5) v).toInt = MS L (Int32.ofNat v)
theorem ofN_i {v : Nat} (h : v < 1000) : (Int32.ofNat v).toInt = (v : Int) := nI_toInt (by omega)
theorem pw2 : ∀ N : Fin 9, 1 ≤ (2 : Int) ^ N.val ∧ (2 : Int) ^ N.val ≤ 256 := by decide
theorem TB_at {I : jdI} {L : List Int32} {b : Nat} (h : TB I L b) {x : Int32} (h0 : 0 ≤ x.toInt) (h1 : x.toInt < (b : Int)) : (I (13 + 5) (Int32.toNatClampNeg x)).toInt = MS L x := by
  have e := h x.toInt.toNat (by omega)
  rw [← i32_ofNat h0] at e
  exact e
theorem pX8_countMost_36 {G : jdG} {n rc rs : Nat} {Z : jdL} {J : jdJ} {K : jdI → jdJ → Prop} {I : jdI} {L : List Int32} {x : Nat} {x1 x2 : Int32} (ht : zTies Z 13) (hG : GG L) (h0 : 0 < x1.toInt) (h1 : x1.toInt ≤ 255) (hx : x < 8) (he : ∀ i, i < 32 → bt x2 i = decide (i = x)) (hc : (I 13 8).toInt = (L.length : Int)) (h70 : L.length ≤ 70) (hL : LiS I (13 + 3) L) (hT : TB I L x1.toInt.toNat)
    (hO : ∀ x3 : Int32, x3.toInt = MS L x1 → Jd G mX8_countMost (jdFm G (qv Z K)) n rc rs 9 [(0, .ref (gb G + 13)), (1, .int (x1 + 1))] [] Z (uI I (13 + 5) (Int32.toNatClampNeg x1) x3) J) : ∀ f : Nat, ∀ (x3 x4 : Int32), 0 ≤ x4.toInt → x4.toInt + (f : Int) = (L.length : Int) → 0 ≤ x3.toInt ∧ x3.toInt ≤ 256 → mxl (pw x1 x) (fun g => 1 + MS L (dl x1 g)) (L.drop x4.toInt.toNat) x3.toInt = MS L x1 → Jd G mX8_countMost (jdFm G (qv Z K)) n rc rs 36 [(0, .ref (gb G + 13)), (1, .int x1), (2, .int x2), (3, .int x3), (4, .int x4)] [] Z I J := by
  intro f
  induction f with
  | zero =>
    intro x3 x4 h4 hf h3 hr
    refine rX8_countMost_36 ht ⟨fun _ => ⟨vp_of (by omega) (by omega), ?_⟩, fun hz => absurd (Int32.le_iff_toInt_le.mpr (by omega)) hz⟩
    rw [drop_end (by omega)] at hr
    exact hO x3 hr
  | succ f ih =>
    intro x3 x4 h4 hf h3 hr
    have q1 : (1 : Int32).toInt = 1 := rfl
    have e4 := i32_add x4 1 (by omega) (by omega)
    have n4 := tn_eq x4
    have en : (x4 + 1).toInt.toNat = x4.toInt.toNat + 1 := by omega
    have hd := LiS_drop hL (show x4.toInt.toNat < L.length by omega)
    have hm : I (13 + 3) (Int32.toNatClampNeg x4) ∈ L := List.mem_of_mem_drop (i := x4.toInt.toNat) (by rw [hd]; exact List.mem_cons_self)
    rw [hd] at hr
    have hr : mxl (pw x1 x) (fun g => 1 + MS L (dl x1 g)) (L.drop (x4.toInt.toNat + 1)) (if pw x1 x (I (13 + 3) (Int32.toNatClampNeg x4)) = true ∧ x3.toInt < 1 + MS L (dl x1 (I (13 + 3) (Int32.toNatClampNeg x4))) then 1 + MS L (dl x1 (I (13 + 3) (Int32.toNatClampNeg x4))) else x3.toInt) = MS L x1 := hr
    have skip : ¬ (pw x1 x (I (13 + 3) (Int32.toNatClampNeg x4)) = true ∧ x3.toInt < 1 + MS L (dl x1 (I (13 + 3) (Int32.toNatClampNeg x4)))) → Jd G mX8_countMost (jdFm G (qv Z K)) n rc rs 36 [(0, .ref (gb G + 13)), (1, .int x1), (2, .int x2), (3, .int x3), (4, .int (x4 + 1))] [] Z I J := fun hz => by
      rw [if_neg hz] at hr
      refine ih x3 (x4 + 1) (by omega) (by omega) h3 ?_
      rw [en]
      exact hr
    have ae := and_e (g := I (13 + 3) (Int32.toNatClampNeg x4)) (show x < 32 by omega) he
    refine rX8_countMost_36 ht ⟨fun hz => by have := Int32.le_iff_toInt_le.mp hz; omega, fun _ => ⟨vp_of (by omega) (by omega), fun hz => skip (fun z => ?_), fun hz => ⟨fun hz2 => skip (fun z => ?_), fun hz2 => ?_⟩⟩⟩
    · have z := z.1
      unfold pw at z
      rw [ae.mp hz, Bool.and_false] at z
      cases z
    · have z := z.1
      unfold pw at z
      rw [Bool.and_eq_true] at z
      exact hz2 (sbs_x.mpr z.1)
    · have hb := sbs_x.mp hz2
      have hbx : bt (I (13 + 3) (Int32.toNatClampNeg x4)) x = true := by
        cases c : bt (I (13 + 3) (Int32.toNatClampNeg x4)) x with
        | true => rfl
        | false => exact absurd (ae.mpr c) hz
      have r := dl_r (g := I (13 + 3) (Int32.toNatClampNeg x4)) (show 0 ≤ x1.toInt by omega)
      have l := dl_lt (show 0 ≤ x1.toInt by omega) hb (GG_n hG hm)
      have tb := TB_at hT r.1 (by omega)
      have l1 := MS_le hG 255 _ r.1 (show _ ≤ (255 : Int) by omega) (by omega)
      have l2 := MS_nn hG r.1 (show (dl x1 (I (13 + 3) (Int32.toNatClampNeg x4))).toInt ≤ 255 by omega)
      have hpw : pw x1 x (I (13 + 3) (Int32.toNatClampNeg x4)) = true := by
        unfold pw
        rw [hb, hbx]
        rfl
      rw [xor_dl hb]
      refine ⟨vp_of (by omega) (by omega), fun hv => skip (fun z => ?_), fun hv => ⟨vp_of (by omega) (by omega), ?_⟩⟩
      · have hv := Int32.lt_iff_toInt_lt.mp hv
        have := z.2
        omega
      · have hv := mt Int32.lt_iff_toInt_lt.mpr hv
        have e1 := i32_add 1 (I (13 + 5) (Int32.toNatClampNeg (dl x1 (I (13 + 3) (Int32.toNatClampNeg x4))))) (by omega) (by omega)
        rw [if_pos ⟨hpw, by omega⟩] at hr
        refine ih _ (x4 + 1) (by omega) (by omega) (by omega) ?_
        rw [en, e1, tb, q1]
        exact hr
theorem pX8_countMost_9 {G : jdG} {n rc rs : Nat} {Z : jdL} {J : jdJ} {K : jdI → jdJ → Prop} {I0 : jdI} {L : List Int32} {N B : Nat} (ht : zTies Z 13) (hG : GG L) (hN : N ≤ 8) (hB : (B : Int) = 2 ^ N) (h70 : L.length ≤ 70) (hK : ∀ I2 : jdI, WX I2 → Fr (fun a _ => a = 13 + 5) I0 I2 → TB I2 L B → K I2 J) : ∀ f : Nat, ∀ (I : jdI) (x1 : Int32), WX I → Fr (fun a _ => a = 13 + 5) I0 I → (I 13 6).toInt = (N : Int) → (I 13 8).toInt = (L.length : Int) → LiS I (13 + 3) L → 1 ≤ x1.toInt → x1.toInt + (f : Int) = (B : Int) → TB I L x1.toInt.toNat → Jd G mX8_countMost (jdFm G (qv Z K)) n rc rs 9 [(0, .ref (gb G + 13)), (1, .int x1)] [] Z I J := by
  have hp2 := pw2 ⟨N, by omega⟩
  have hp2 : 1 ≤ (2 : Int) ^ N ∧ (2 : Int) ^ N ≤ 256 := hp2
  intro f
  induction f with
  | zero =>
    intro I x1 hW hF h6 hc hL h1 hf hT
    have ev := ev_of (x := I 13 6) (by omega) (by omega)
    have ev1 : ((1 : Int32) <<< ((I 13 6) &&& 31)).toInt = 2 ^ N := by rw [ev.1, show (I 13 6).toInt.toNat = N by omega]
    refine rX8_countMost_9 ht ⟨fun _ => ?_, fun hz => absurd (Int32.le_iff_toInt_le.mpr (by omega)) hz⟩
    rw [show x1.toInt.toNat = B by omega] at hT
    exact hK I hW hF hT
  | succ f ih =>
    intro I x1 hW hF h6 hc hL h1 hf hT
    have ev := ev_of (x := I 13 6) (by omega) (by omega)
    have ev1 : ((1 : Int32) <<< ((I 13 6) &&& 31)).toInt = 2 ^ N := by rw [ev.1, show (I 13 6).toInt.toNat = N by omega]
    have q1 : (1 : Int32).toInt = 1 := rfl
    have e1 := i32_add x1 1 (by omega) (by omega)
    have n1 := tn_eq x1
    obtain ⟨x, hx, hb, he⟩ := low (s := x1) (by omega) (by omega)
    have hs : sbs x1 (x1 &&& (-x1)) = true := sbs_bt.mpr (fun i hi a => by
      rw [he i hi, decide_eq_true_iff] at a
      rw [a]
      exact hb)
    have hne : ¬ (x1 &&& (-x1)) = 0 := fun z => by
      have := he x (by omega)
      rw [z, bt_ze x (by omega), decide_eq_true rfl] at this
      cases this
    have r := dl_r (g := x1 &&& (-x1)) (show 0 ≤ x1.toInt by omega)
    have l := dl_lt (show 0 ≤ x1.toInt by omega) hs hne
    have tb := TB_at hT r.1 (by omega)
    have l1 := MS_le hG 255 _ r.1 (show _ ≤ (255 : Int) by omega) (by omega)
    have l2 := MS_nn hG r.1 (show (dl x1 (x1 &&& (-x1))).toInt ≤ 255 by omega)
    refine rX8_countMost_9 ht ⟨fun hz => by have := Int32.le_iff_toInt_le.mp hz; omega, fun _ => ?_⟩
    rw [xor_dl hs]
    refine ⟨vp_of (by omega) (by omega), ?_⟩
    refine pX8_countMost_36 ht hG (by omega) (by omega) hx he hc h70 hL hT (fun x3 h3 => ?_) L.length _ 0 (by decide) (by show (0 : Int) + _ = _; omega) (by omega) ?_
    · have f0 : Fr (fun a _ => a = 13 + 5) I (uI I (13 + 5) (Int32.toNatClampNeg x1) x3) := Fr_uI Fr.rf rfl
      have hw := WX_f hW
      refine ih _ (x1 + 1) (WX_uI hW (by first | exact okXo (by decide) | (unfold okX; refine ⟨?_, ?_, ?_, ?_, ?_, ?_, ?_, ?_, ?_, ?_⟩ <;> intro h <;> omega))) (Fr.tr hF f0 (fun _ _ h => h)) (by rw [f0 13 6 (by omega)]; exact h6) (by rw [f0 13 8 (by omega)]; exact hc) (LiS_fr hL f0 (by intro k; omega)) (by omega) (by omega) (fun v hv => ?_)
      rw [uI_ap]
      by_cases c : v = Int32.toNatClampNeg x1
      · rw [if_pos ⟨rfl, c⟩, h3, show v = x1.toInt.toNat by omega, ← i32_ofNat (show 0 ≤ x1.toInt by omega)]
      · rw [if_neg (fun z => c z.2)]
        exact hT v (by omega)
    · rw [tb, show (0 : Int32).toInt.toNat = 0 from rfl, List.drop_zero]
      exact (MS_dp hG hx he 255 x1 (by omega) (by omega) (by omega) hb).symm
theorem pX8_countMost {G : jdG} {n : Nat} {Z : jdL} {J : jdJ} {K : jdI → jdJ → Prop} {I : jdI} {L : List Int32} {N B : Nat} (ht : zTies Z 13) (hW : WX I) (hG : GG L) (hN : N ≤ 8) (hB : (B : Int) = 2 ^ N) (h70 : L.length ≤ 70) (h6 : (I 13 6).toInt = (N : Int)) (hc : (I 13 8).toInt = (L.length : Int)) (hL : LiS I (13 + 3) L) (hK : ∀ I2 : jdI, WX I2 → Fr (fun a _ => a = 13 + 5) I I2 → TB I2 L B → K I2 J) : Cl G mX8_countMost n 0 0 [.ref (gb G + 13)] Z I J (qv Z K) := by
  have hp2 := pw2 ⟨N, by omega⟩
  have hp2 : 1 ≤ (2 : Int) ^ N ∧ (2 : Int) ^ N ≤ 256 := hp2
  have hw := WX_f hW
  refine eX8_countMost ht ?_
  have f0 : Fr (fun a _ => a = 13 + 5) I (uI I (13 + 5) 0 0) := Fr_uI Fr.rf rfl
  refine pX8_countMost_9 ht hG hN hB h70 hK (B - 1) _ 1 (WX_uI hW (by first | exact okXo (by decide) | (unfold okX; refine ⟨?_, ?_, ?_, ?_, ?_, ?_, ?_, ?_, ?_, ?_⟩ <;> intro h <;> omega))) f0 (by rw [f0 13 6 (by omega)]; exact h6) (by rw [f0 13 8 (by omega)]; exact hc) (LiS_fr hL f0 (by intro k; omega)) (by decide) (by show (1 : Int) + _ = _; omega) (fun v hv => ?_)
  have hv : v < 1 := hv
  rw [show v = 0 by omega, uI_ap, if_pos ⟨rfl, rfl⟩]
  have z : MS L (Int32.ofNat 0) = 0 := by
    have a := MS_le hG 0 0 (by decide) (by decide) (by decide)
    have b := MS_nn hG (s := 0) (by decide) (by decide)
    have q0 : (0 : Int32).toInt = 0 := rfl
    show MS L 0 = 0
    omega
  rw [z]
  rfl
def PB (N : Nat) (L : List Int32) (I : jdI) : Prop := (I 13 6).toInt = (N : Int) ∧ (I 13 8).toInt = (L.length : Int) ∧ LiS I (13 + 3) L ∧ (¬ (I 13 10).toInt = 0 → TB I L (2 ^ N))
theorem bt_hi2 {x : Int32} {N i : Nat} (h0 : 0 ≤ x.toInt) (h1 : x.toInt < 2 ^ N) (hi : N ≤ i) (h : i < 32) : bt x i = false := by
  rw [bt_lsb _ _ h]
  have e := i32_nat x h0
  have hp : (2 : Int) ^ N = ((2 ^ N : Nat) : Int) := by simp
  exact Nat.testBit_lt_two_pow (Nat.lt_of_lt_of_le (show x.toBitVec.toNat < 2 ^ N by omega) (Nat.pow_le_pow_right (by omega) hi))
theorem and_ev {x y : Int32} {N : Nat} (hN : N ≤ 8) (hy : y.toInt = (N : Int)) (h0 : 0 ≤ x.toInt) (h1 : x.toInt < 2 ^ N) : x &&& (((1 : Int32) <<< (y &&& 31)) - 1) = x := bt_all (fun i hi => by
  rw [bt_an _ _ _ hi]
  by_cases c : i < N
  · rw [bt_ev (x := y) ⟨by omega, by omega⟩ (show i < 8 by omega), decide_eq_true (show i < y.toInt.toNat by omega), Bool.and_true]
  · rw [bt_hi2 h0 h1 (by omega) hi, Bool.false_and])
theorem pX8_mostFrom {G : jdG} {n : Nat} {Z : jdL} {J : jdJ} {K : Int32 → jdI → jdJ → Prop} {I : jdI} {L : List Int32} {N : Nat} {x1 : Int32} (ht : zTies Z 13) (hW : WX I) (hP : PB N L I) (hG : GG L) (hN : N ≤ 8) (h70 : L.length ≤ 70) (h0 : 0 ≤ x1.toInt) (h1 : x1.toInt < 2 ^ N) (hK : ∀ (v : Int32) (I2 : jdI), WX I2 → PB N L I2 → Fr (fun a k => (a = 13 ∧ k = 10) ∨ a = 13 + 5) I I2 → v.toInt = MS L x1 → K v I2 J) : Cl G mX8_mostFrom (n + 1) 0 0 [.ref (gb G + 13), .int x1] Z I J (qi Z K) := by
  have hp2 := pw2 ⟨N, by omega⟩
  have hp2 : 1 ≤ (2 : Int) ^ N ∧ (2 : Int) ^ N ≤ 256 := hp2
  have hpn : ((2 ^ N : Nat) : Int) = 2 ^ N := by simp
  obtain ⟨p1, p2, p3, p4⟩ := hP
  refine eX8_mostFrom ht ⟨fun hz => ?_, fun hz => ?_⟩
  · have hz := i1 hz
    refine eX8_everybody ht ?_
    rw [and_ev hN p1 h0 h1]
    exact ⟨vp_of (by omega) (by omega), hK _ I hW ⟨p1, p2, p3, p4⟩ Fr.rf (TB_at (p4 hz) h0 (by omega))⟩
  · refine pX8_countMost ht hW hG hN hpn h70 p1 p2 p3 (fun I4 hW4 hF4 hT4 => ?_)
    have f0 : Fr (fun a k => a = 13 ∧ k = 10) I4 (uI I4 13 10 1) := Fr_uI Fr.rf ⟨rfl, rfl⟩
    have hw4 := WX_f hW4
    have w1 : WX (uI I4 13 10 1) := WX_uI hW4 (by first | exact okXo (by decide) | (unfold okX; refine ⟨?_, ?_, ?_, ?_, ?_, ?_, ?_, ?_, ?_, ?_⟩ <;> intro h <;> omega))
    have tb : TB (uI I4 13 10 1) L (2 ^ N) := fun v hv => by rw [uI_n _ _ _ (by omega)]; exact hT4 v hv
    have e6 : ((uI I4 13 10 1) 13 6).toInt = (N : Int) := by rw [f0 13 6 (by omega), hF4 13 6 (by omega)]; exact p1
    have e8 : ((uI I4 13 10 1) 13 8).toInt = (L.length : Int) := by rw [f0 13 8 (by omega), hF4 13 8 (by omega)]; exact p2
    have eL := LiS_fr (LiS_fr p3 hF4 (by intro k; omega)) f0 (by intro k; omega)
    generalize (uI I4 13 10 1) = I6 at f0 w1 tb e6 e8 eL ⊢
    refine eX8_everybody ht ?_
    rw [and_ev hN e6 h0 h1]
    exact ⟨vp_of (by omega) (by omega), hK _ I6 w1 ⟨e6, e8, eL, fun _ => tb⟩ (Fr.tr (Fr.tr Fr.rf hF4 (by intro a k h; omega)) f0 (by intro a k h; omega)) (TB_at tb h0 (by omega))⟩
/-! what a coachman sends -/
theorem chs_A {L : List Int32} {s : Int32} {fw : Int32 → Int32} (hG : GG L) (h0 : 0 ≤ s.toInt) (h1 : s.toInt ≤ 255) (hf : ∀ g, g ∈ L → sbs s g = true → (fw g).toInt = MS L (dl s g)) : ∀ (M : List Int32) (c w : Int32), ¬ c = 0 → w.toInt = MS L s - 1 → (∀ g ∈ M, g ∈ L) → chs fw s M c w = c
  | [], c, w, hc, hw, hM => rfl
  | g :: M, c, w, hc, hw, hM => by
    by_cases hb : sbs s g = true
    · have hg := hM g List.mem_cons_self
      have := MS_1 hG h0 h1 hg hb
      have := hf g hg hb
      rw [chs_k hb (fun z => z.elim hc (fun z => by omega))]
      exact chs_A hG h0 h1 hf M c w hc hw (fun x hx => hM x (List.mem_cons_of_mem _ hx))
    · rw [chs_n hb]
      exact chs_A hG h0 h1 hf M c w hc hw (fun x hx => hM x (List.mem_cons_of_mem _ hx))
theorem bst_n {L M : List Int32} {s g : Int32} (h : ¬ (sbs s g = true ∧ MS L (dl s g) = MS L s - 1)) : bst L s (g :: M) = bst L s M := if_neg h
theorem bst_y {L M : List Int32} {s g : Int32} (h : sbs s g = true ∧ MS L (dl s g) = MS L s - 1) : bst L s (g :: M) = g := if_pos h
theorem chs_B {L : List Int32} {s : Int32} {fw : Int32 → Int32} (hG : GG L) (h0 : 0 ≤ s.toInt) (h1 : s.toInt ≤ 255) (hf : ∀ g, g ∈ L → sbs s g = true → (fw g).toInt = MS L (dl s g)) : ∀ (M : List Int32) (c w : Int32), (c = 0 ∨ w.toInt < MS L s - 1) → (∀ g ∈ M, g ∈ L) → (∃ g ∈ M, sbs s g = true ∧ MS L (dl s g) = MS L s - 1) → chs fw s M c w = bst L s M
  | [], c, w, hc, hM, he => by
    obtain ⟨g, hg, _⟩ := he
    cases hg
  | g :: M, c, w, hc, hM, he => by
    have hg := hM g List.mem_cons_self
    have hM2 : ∀ x ∈ M, x ∈ L := fun x hx => hM x (List.mem_cons_of_mem _ hx)
    by_cases hb : sbs s g = true
    · have f1 := hf g hg hb
      have l1 := MS_1 hG h0 h1 hg hb
      by_cases hy : MS L (dl s g) = MS L s - 1
      · rw [bst_y ⟨hb, hy⟩, chs_y hb (hc.elim Or.inl (fun z => Or.inr (by omega)))]
        exact chs_A hG h0 h1 hf M g (fw g) (GG_n hG hg) (by omega) hM2
      · have he2 : ∃ g ∈ M, sbs s g = true ∧ MS L (dl s g) = MS L s - 1 := by
          obtain ⟨x, hx, hx2, hx3⟩ := he
          rcases List.mem_cons.mp hx with rfl | hx
          · exact absurd hx3 hy
          · exact ⟨x, hx, hx2, hx3⟩
        rw [bst_n (fun z => hy z.2)]
        by_cases hk : c = 0 ∨ w.toInt < (fw g).toInt
        · rw [chs_y hb hk]
          exact chs_B hG h0 h1 hf M g (fw g) (Or.inr (by omega)) hM2 he2
        · rw [chs_k hb hk]
          exact chs_B hG h0 h1 hf M c w hc hM2 he2
    · have he2 : ∃ g ∈ M, sbs s g = true ∧ MS L (dl s g) = MS L s - 1 := by
        obtain ⟨x, hx, hx2, hx3⟩ := he
        rcases List.mem_cons.mp hx with rfl | hx
        · exact absurd hx2 hb
        · exact ⟨x, hx, hx2, hx3⟩
      rw [chs_n hb, bst_n (fun z => hb z.1)]
      exact chs_B hG h0 h1 hf M c w hc hM2 he2
theorem chs_C {L : List Int32} {s : Int32} {fw : Int32 → Int32} : ∀ (M : List Int32) (c w : Int32), (∀ g ∈ M, ¬ sbs s g = true) → chs fw s M c w = c ∧ bst L s M = 0
  | [], c, w, _ => ⟨rfl, rfl⟩
  | g :: M, c, w, h => by
    have hb := h g List.mem_cons_self
    rw [chs_n hb, bst_n (fun z => hb z.1)]
    exact chs_C M c w (fun x hx => h x (List.mem_cons_of_mem _ hx))
theorem chs_bst {L : List Int32} {s : Int32} {fw : Int32 → Int32} (hG : GG L) (h0 : 0 ≤ s.toInt) (h1 : s.toInt ≤ 255) (hf : ∀ g, g ∈ L → sbs s g = true → (fw g).toInt = MS L (dl s g)) : chs fw s L 0 0 = bst L s L := by
  by_cases c : ∃ g ∈ L, sbs s g = true
  · obtain ⟨g, hg, hb⟩ := c
    refine chs_B hG h0 h1 hf L 0 0 (Or.inl rfl) (fun _ h => h) ?_
    have l1 := MS_1 hG h0 h1 hg hb
    have r := dl_r (g := g) h0
    have nn := MS_nn hG r.1 (show (dl s g).toInt ≤ 255 by omega)
    rcases mxl_ex (sbs s) (fun g => 1 + MS L (dl s g)) L 0 with q | ⟨x, hx, hp, q⟩
    · have := MS_r hG h0 h1
      omega
    · have := MS_r hG h0 h1
      have q : mxl (sbs s) (fun g => 1 + MS L (dl s g)) L 0 = 1 + MS L (dl s x) := q
      exact ⟨x, hx, hp, by omega⟩
  · have e := chs_C (L := L) (s := s) (fw := fw) L 0 0 (fun g hg hb => c ⟨g, hg, hb⟩)
    rw [e.1, e.2]
def pk (N : Nat) (rel : Nat → Nat → Bool) (c : Nat → Int32) (L : List Int32) (kind : Int) (a yard : Int32) (toCome : Int) : Int32 := if kind = 3 ∧ ¬ toCome ≤ 0 ∧ (bs yard 8).toInt < a.toInt then 0 else if kind = 1 ∨ kind = 3 then fstIn yard L else if kind = 2 then chs (fun g => csum c g N) yard L 0 0 else if kind = 4 then chs (fun g => -(csum (deg rel N) g N)) yard L 0 0 else bst L yard L
/-- the ties' state for picking -/
def PT (N st : Nat) (rel : Nat → Nat → Bool) (c : Nat → Int32) (L : List Int32) (I : jdI) : Prop := PB N L I ∧ GX I N st rel ∧ ∀ p, p < N → I (13 + 2) p = c p

theorem PT_fr {N st : Nat} {rel : Nat → Nat → Bool} {c : Nat → Int32} {L : List Int32} {I I2 : jdI} (h : PT N st rel c L I) (hP : PB N L I2) (hF : Fr (fun a k => (a = 13 ∧ k = 10) ∨ a = 13 + 5) I I2) : PT N st rel c L I2 := ⟨hP, GX_fr h.2.1 hF (by omega) (by omega) (by intro k; omega), fun p hp => by rw [hF (13 + 2) p (by omega)]; exact h.2.2 p hp⟩
theorem p_worth {G : jdG} {n : Nat} {Z : jdL} {J : jdJ} {t N st ci : Nat} {rel : Nat → Nat → Bool} {c : Nat → Int32} {L : List Int32} {y : Int32} (hT : zTies Z 13) (hz : Z.1 t = some (ci + 10, 0)) (hG : GG L) (hN : N ≤ 8) (h70 : L.length ≤ 70) (h0 : 0 ≤ y.toInt) (h1 : y.toInt < 2 ^ N) (fw : Int32 → Int32) (hk : (ci = 1 ∧ fw = fun g => csum c g N) ∨ (ci = 6 ∧ fw = fun g => -(csum (deg rel N) g N)) ∨ (ci = 0 ∧ fw = fun g => Int32.ofInt (MS L (dl y g)))) : ∀ (I : jdI) (K2 : Int32 → jdI → jdJ → Prop) (g : Int32), PT N st rel c L I → WX I → g ∈ L → sbs y g = true → (∀ I2, WX I2 → PT N st rel c L I2 → Fr (fun a k => (a = 13 ∧ k = 10) ∨ a = 13 + 5) I I2 → K2 (fw g) I2 J) → ∀ q ∈ a_worth, Z.1 t = some (q.1 + 10, 0) → Cl G q.2 (n + 2) 0 0 [.ref (gb G + t), .ref (gb G + 13), .int y, .int g] Z I J (qi Z K2) := by
  intro I K2 g hP hW hg hb hK q hq hq2
  have hci : q.1 = ci := by
    rw [hz] at hq2
    injection hq2 with hq2
    injection hq2 with hq2
    omega
  simp only [a_worth, List.mem_cons, List.not_mem_nil, or_false] at hq
  rcases hq with rfl | rfl | rfl
  · have hci : 0 = ci := hci
    rcases hk with hk | hk | hk
    · omega
    · omega
    · refine eX0_worth hq2 hT ?_
      rw [xo_m1]
      have r := dl_r (g := g) h0
      refine pX8_mostFrom hT hW hP.1 hG hN h70 (show 0 ≤ (dl y g).toInt from r.1) (show (dl y g).toInt < 2 ^ N by omega) (fun v I2 hW2 hP2 hF2 hv => ?_)
      have hv : v.toInt = MS L (dl y g) := hv
      have e := hK I2 hW2 (PT_fr hP hP2 hF2) hF2
      rw [hk.2] at e
      have e : K2 (Int32.ofInt (MS L (dl y g))) I2 J := e
      rw [← hv, ofI] at e
      exact e
  · have hci : 1 = ci := hci
    rcases hk with hk | hk | hk
    · refine eX1_worth hq2 hT (pX8_costTogether hT hP.2.1.1 hN hP.2.2 ?_)
      have e := hK I hW hP Fr.rf
      rw [hk.2] at e
      exact e
    · omega
    · omega
  · have hci : 6 = ci := hci
    rcases hk with hk | hk | hk
    · omega
    · refine eX7_worth hq2 hT (pX8_strangersTogether hT hP.2.1 hN ?_)
      have e := hK I hW hP Fr.rf
      rw [hk.2] at e
      exact e
    · omega
theorem p_pick {G : jdG} {n : Nat} {Z : jdL} {J : jdJ} {K : Int32 → jdI → jdJ → Prop} {I : jdI} {t N st ci : Nat} {rel : Nat → Nat → Bool} {c : Nat → Int32} {L : List Int32} {y x3 : Int32} (hT : zTies Z 13) (hz : Z.1 t = some (ci + 10, 0)) (hci : ci = 0 ∨ ci = 1 ∨ ci = 3 ∨ ci = 6 ∨ ci = 9) (hG : GG L) (hN : N ≤ 8) (h70 : L.length ≤ 70) (h0 : 0 ≤ y.toInt) (h1 : y.toInt < 2 ^ N) (h3 : 0 ≤ x3.toInt) (hW : WX I) (hP : PT N st rel c L I) (hK : ∀ I2, WX I2 → PT N st rel c L I2 → Fr (fun a k => (a = 13 ∧ k = 10) ∨ a = 13 + 5) I I2 → K (pk N rel c L (ckI (Z.1 t)) (I t 0) y x3.toInt) I2 J) : ∀ q ∈ a_pick, Z.1 t = some (q.1 + 10, 0) → Cl G q.2 (n + 3) 0 0 [.ref (gb G + t), .ref (gb G + 13), .int y, .int x3] Z I J (qi Z K) := by
  intro q hq hq2
  have hp2 := pw2 ⟨N, by omega⟩
  have hp2 : 1 ≤ (2 : Int) ^ N ∧ (2 : Int) ^ N ≤ 256 := hp2
  have hpb := hP.1
  have hqc : q.1 = ci := by
    rw [hz] at hq2
    injection hq2 with hq2
    injection hq2 with hq2
    omega
  have cho : ∀ fw : Int32 → Int32, ((ci = 1 ∧ fw = fun g => csum c g N) ∨ (ci = 6 ∧ fw = fun g => -(csum (deg rel N) g N)) ∨ (ci = 0 ∧ fw = fun g => Int32.ofInt (MS L (dl y g)))) → pk N rel c L (ckI (Z.1 t)) (I t 0) y x3.toInt = chs fw y L 0 0 → Cl G mX1_pick (n + 3) 0 0 [.ref (gb G + t), .ref (gb G + 13), .int y, .int x3] Z I J (qi Z K) := fun fw hk he => by
    refine pX1_pick (P := PT N st rel c L) (fw := fw) ⟨ci, by omega, hz⟩ hT h70 (fun I hP => ⟨hP.1.2.1, hP.1.2.2.1⟩) (p_worth hT hz hG hN h70 h0 h1 fw hk) hW hP (fun I2 hW2 hP2 hF2 => ?_)
    have e := hK I2 hW2 hP2 hF2
    rw [he] at e
    exact e
  simp only [a_pick, List.mem_cons, List.not_mem_nil, or_false] at hq
  rcases hq with rfl | rfl | rfl | rfl | rfl
  · have hqc : 0 = ci := hqc
    refine cho _ (Or.inr (Or.inr ⟨hqc.symm, rfl⟩)) ?_
    have ek : ckI (Z.1 t) = 5 := by rw [hz, ← hqc]; rfl
    unfold pk
    rw [ek, if_neg (by omega), if_neg (by omega), if_neg (by omega), if_neg (by omega)]
    refine (chs_bst hG h0 (by omega) (fun g hg hb => ?_)).symm
    have r := dl_r (g := g) h0
    have l1 := MS_le hG 255 _ r.1 (show (dl y g).toInt ≤ 255 by omega) (by omega)
    have l2 := MS_nn hG r.1 (show (dl y g).toInt ≤ 255 by omega)
    exact Int32.toInt_ofInt_of_le (by omega) (by omega)
  · have hqc : 1 = ci := hqc
    refine cho _ (Or.inl ⟨hqc.symm, rfl⟩) ?_
    have ek : ckI (Z.1 t) = 2 := by rw [hz, ← hqc]; rfl
    unfold pk
    rw [ek, if_neg (by omega), if_neg (by omega), if_pos rfl]
  · have hqc : 3 = ci := hqc
    have ek : ckI (Z.1 t) = 1 := by rw [hz, ← hqc]; rfl
    refine eX4_pick hq2 hT (pX8_firstIn hT hpb.2.1 h70 hpb.2.2.1 ?_)
    have e := hK I hW hP Fr.rf
    unfold pk at e
    rw [ek, if_neg (by omega), if_pos (Or.inl rfl)] at e
    exact e
  · have hqc : 6 = ci := hqc
    refine cho _ (Or.inr (Or.inl ⟨hqc.symm, rfl⟩)) ?_
    have ek : ckI (Z.1 t) = 4 := by rw [hz, ← hqc]; rfl
    unfold pk
    rw [ek, if_neg (by omega), if_neg (by omega), if_neg (by omega), if_pos rfl]
  · have hqc : 9 = ci := hqc
    have ek : ckI (Z.1 t) = 3 := by rw [hz, ← hqc]; rfl
    have e := hK I hW hP Fr.rf
    unfold pk at e
    rw [ek] at e
    refine eX10_pick hq2 hT ⟨fun hx => pX8_firstIn hT hpb.2.1 h70 hpb.2.2.1 ?_, fun hx => ?_⟩
    · rw [if_neg (fun z => z.2.1 (by rw [hx]; decide)), if_pos (Or.inr rfl)] at e
      exact e
    · have hx := i1 hx
      refine pJ6_bitCount ⟨h0, by omega⟩ ?_
      refine v_number ⟨9, by omega, hq2⟩ ⟨fun hv => ?_, fun hv => pX8_firstIn hT hpb.2.1 h70 hpb.2.2.1 ?_⟩
      · have hv := Int32.lt_iff_toInt_lt.mp hv
        rw [if_pos ⟨rfl, by omega, hv⟩] at e
        exact e
      · have hv := mt Int32.lt_iff_toInt_lt.mpr hv
        rw [if_neg (fun z => hv z.2.2), if_pos (Or.inr rfl)] at e
        exact e
theorem DL_gg (rel : Nat → Nat → Bool) : ∀ (k p m : Nat) (s g : Int32), p + k ≤ 8 → 0 ≤ s.toInt ∧ s.toInt ≤ 255 → (¬ s = 0 ∨ 0 < m) → g ∈ DL rel k p m s → 0 < g.toInt ∧ g.toInt ≤ 255
  | k, p, 0, s, g, hp, hs, hn, hg => by
    rw [DL_m0, List.mem_singleton] at hg
    rw [hg]
    have : ¬ s.toInt = 0 := fun z => hn.elim (fun h => h (Int32.toInt_inj.mp z)) (fun h => absurd h (Nat.lt_irrefl 0))
    omega
  | 0, p, m + 1, s, g, hp, hs, hn, hg => by
    rw [DL_k0] at hg
    cases hg
  | k + 1, p, m + 1, s, g, hp, hs, hn, hg => by
    by_cases c : okN rel s p p = true
    · rw [DL_y c, List.mem_append] at hg
      rcases hg with hg | hg
      · refine DL_gg rel k (p + 1) m _ g (by omega) (or_r hs (by omega)) (Or.inl (fun z => ?_)) hg
        have : bt (s ||| ((1 : Int32) <<< (Int32.ofNat p &&& 31))) p = true := by
          rw [bt_or _ _ _ (by omega), show bt ((1 : Int32) <<< (Int32.ofNat p &&& 31)) p = decide (p = p) from bt_1a ⟨p, by omega⟩ ⟨p, by omega⟩, decide_eq_true rfl, Bool.or_true]
        rw [z, bt_ze p (by omega)] at this
        cases this
      · exact DL_gg rel k (p + 1) (m + 1) s g (by omega) hs (Or.inr (by omega)) hg
    · rw [DL_n c] at hg
      exact DL_gg rel k (p + 1) (m + 1) s g (by omega) hs (Or.inr (by omega)) hg
theorem GG_DL (rel : Nat → Nat → Bool) {N st : Nat} (hN : N ≤ 8) (hs : 0 < st) : GG (DL rel N 0 st 0) := fun g hg => DL_gg rel N 0 st 0 g (by omega) (by decide) (Or.inr hs) hg
theorem DL_70 (rel : Nat → Nat → Bool) {N st : Nat} (hN : N ≤ 8) (hs : st ≤ 4) : (DL rel N 0 st 0).length ≤ 70 := Nat.le_trans (DL_len rel N 0 st 0) (cb_70 ⟨N, by omega⟩ ⟨st, by omega⟩)
theorem pX12_sentBy {G : jdG} {n : Nat} {Z : jdL} {J : jdJ} {K : Int32 → jdI → jdJ → Prop} {I : jdI} {t N st : Nat} {rel : Nat → Nat → Bool} {c : Nat → Int32} {x1 x2 x3 x4 : Int32} (ht : zModel Z t) (hW : WM 7 t I) (hg : GM I t N st rel) (hN : N ≤ 8) (hst : 0 < st ∧ st ≤ 4) (hcs : ∀ p, p < N → I (t + 19) p = c p) (h0 : 0 ≤ x3.toInt) (hx : x3.toInt ≤ 255) (hK : ∀ I2 : jdI, WM 7 t I2 → Fr (fun a k => (a = t ∧ k = 30) ∨ a = t + 30) I I2 → K (pk N rel c (DL rel N 0 st 0) x1.toInt x2 x3 x4.toInt) I2 J) : Cl G mX12_sentBy (n + 258) 0 0 [.ref (gb G + t), .int x1, .int x2, .int x3, .int x4] Z I J (qi Z K) := by
  have n1 : ¬ x1 = 1 → ¬ x1.toInt = 1 := fun h z => h (Int32.toInt_inj.mp z)
  have n2 : ¬ x1 = 2 → ¬ x1.toInt = 2 := fun h z => h (Int32.toInt_inj.mp z)
  have n3 : ¬ x1 = 3 → ¬ x1.toInt = 3 := fun h z => h (Int32.toInt_inj.mp z)
  have n4 : ¬ x1 = 4 → ¬ x1.toInt = 4 := fun h z => h (Int32.toInt_inj.mp z)
  have q0 : (0 : Int32).toInt = 0 := rfl
  have hG := GG_DL rel (N := N) (st := st) hN hst.1
  have h70 := DL_70 rel (N := N) (st := st) hN hst.2
  generalize hLe : DL rel N 0 st 0 = L at hK hG h70
  refine eX12_sentBy ht ?_
  refine pX12_listAll ht hW hg hN hst.2 (fun I1 hW1 hF1 hl hL => ?_)
  rw [hLe] at hl hL
  have hg1 := GM_fr hg hN hF1 (by omega) (by omega) (by intro a k h1 h2; omega)
  have hc1 : ∀ p, p < N → I1 (t + 19) p = c p := fun p hp => by rw [hF1 (t + 19) p (by omega)]; exact hcs p hp
  have e := hK I1 hW1 hF1
  unfold pk at e
  refine ⟨fun h3o => ?_, fun h3o => ⟨fun h4o => ?_, fun h4o => ?_⟩⟩
  · have h3i := n3 h3o
    refine ⟨fun h1 => ?_, fun h1 => ⟨fun h3 => ⟨fun h2 => ?_, fun h2 => ⟨fun h4 => ?_, fun h4 => ?_⟩⟩, fun h3 => ?_⟩⟩
    · have h1 : x1.toInt = 1 := by rw [h1]; rfl
      rw [if_neg (fun z => h3i z.1), if_pos (Or.inl h1)] at e
      exact pX12_firstIn ht hl h70 hL e
    · have h3 := n3 h3
      have h1 := n1 h1
      have h2i : x1.toInt = 2 := by rw [h2]; rfl
      rw [if_neg (fun z => h3i z.1), if_neg (by omega), if_pos h2i] at e
      exact pX12_sentBy_62 (fw := fun g => csum c g N) (w := 0) ht hg1 hN hc1 hl h70 hL (Or.inl ⟨h2, fun g => rfl⟩) e L.length 0 0 (by decide) (by show (0 : Int) + _ = _; omega) (Or.inl rfl) rfl
    · have h3 := n3 h3
      have h1 := n1 h1
      have h4i : x1.toInt = 4 := by rw [h4]; rfl
      rw [if_neg (fun z => h3i z.1), if_neg (by omega), if_neg (by omega), if_pos h4i] at e
      exact pX12_sentBy_62 (fw := fun g => -(csum (deg rel N) g N)) (w := 0) ht hg1 hN hc1 hl h70 hL (Or.inr ⟨h2, fun g => neg_deg rel hN g⟩) e L.length 0 0 (by decide) (by show (0 : Int) + _ = _; omega) (Or.inl rfl) rfl
    · have h3 := n3 h3
      have h1 := n1 h1
      have h2 := n2 h2
      have h4 := n4 h4
      rw [if_neg (fun z => h3i z.1), if_neg (by omega), if_neg h2, if_neg h4] at e
      exact pX12_bestIn ht hG h0 hx hl h70 hL e
    · have h3 : x1.toInt = 3 := by rw [h3]; rfl
      rw [if_neg (fun z => h3i z.1), if_pos (Or.inr h3)] at e
      exact pX12_firstIn ht hl h70 hL e
  · have h4o := Int32.le_iff_toInt_le.mp h4o
    refine ⟨fun h1 => ?_, fun h1 => ⟨fun h3 => ⟨fun h2 => ?_, fun h2 => ⟨fun h4 => ?_, fun h4 => ?_⟩⟩, fun h3 => ?_⟩⟩
    · have h1 : x1.toInt = 1 := by rw [h1]; rfl
      rw [if_neg (fun z => z.2.1 (by omega)), if_pos (Or.inl h1)] at e
      exact pX12_firstIn ht hl h70 hL e
    · have h3 := n3 h3
      have h1 := n1 h1
      have h2i : x1.toInt = 2 := by rw [h2]; rfl
      rw [if_neg (fun z => z.2.1 (by omega)), if_neg (by omega), if_pos h2i] at e
      exact pX12_sentBy_62 (fw := fun g => csum c g N) (w := 0) ht hg1 hN hc1 hl h70 hL (Or.inl ⟨h2, fun g => rfl⟩) e L.length 0 0 (by decide) (by show (0 : Int) + _ = _; omega) (Or.inl rfl) rfl
    · have h3 := n3 h3
      have h1 := n1 h1
      have h4i : x1.toInt = 4 := by rw [h4]; rfl
      rw [if_neg (fun z => z.2.1 (by omega)), if_neg (by omega), if_neg (by omega), if_pos h4i] at e
      exact pX12_sentBy_62 (fw := fun g => -(csum (deg rel N) g N)) (w := 0) ht hg1 hN hc1 hl h70 hL (Or.inr ⟨h2, fun g => neg_deg rel hN g⟩) e L.length 0 0 (by decide) (by show (0 : Int) + _ = _; omega) (Or.inl rfl) rfl
    · have h3 := n3 h3
      have h1 := n1 h1
      have h2 := n2 h2
      have h4 := n4 h4
      rw [if_neg (fun z => z.2.1 (by omega)), if_neg (by omega), if_neg h2, if_neg h4] at e
      exact pX12_bestIn ht hG h0 hx hl h70 hL e
    · have h3 : x1.toInt = 3 := by rw [h3]; rfl
      rw [if_neg (fun z => z.2.1 (by omega)), if_pos (Or.inr h3)] at e
      exact pX12_firstIn ht hl h70 hL e
  · have h4o := mt Int32.le_iff_toInt_le.mpr h4o
    have h3i : x1.toInt = 3 := by rw [h3o]; rfl
    refine sfX12_bits trivial (fun v16 p16 => ⟨fun hv => ?_, fun hv => ?_⟩)
    · have hv := Int32.le_iff_toInt_le.mp hv
      rw [p16] at hv
      refine ⟨fun h1 => ?_, fun h1 => ⟨fun h3 => ⟨fun h2 => ?_, fun h2 => ⟨fun h4 => ?_, fun h4 => ?_⟩⟩, fun h3 => ?_⟩⟩
      · have h1 : x1.toInt = 1 := by rw [h1]; rfl
        rw [if_neg (fun z => by have := z.2.2; omega), if_pos (Or.inl h1)] at e
        exact pX12_firstIn ht hl h70 hL e
      · have h3 := n3 h3
        have h1 := n1 h1
        have h2i : x1.toInt = 2 := by rw [h2]; rfl
        rw [if_neg (fun z => by have := z.2.2; omega), if_neg (by omega), if_pos h2i] at e
        exact pX12_sentBy_62 (fw := fun g => csum c g N) (w := 0) ht hg1 hN hc1 hl h70 hL (Or.inl ⟨h2, fun g => rfl⟩) e L.length 0 0 (by decide) (by show (0 : Int) + _ = _; omega) (Or.inl rfl) rfl
      · have h3 := n3 h3
        have h1 := n1 h1
        have h4i : x1.toInt = 4 := by rw [h4]; rfl
        rw [if_neg (fun z => by have := z.2.2; omega), if_neg (by omega), if_neg (by omega), if_pos h4i] at e
        exact pX12_sentBy_62 (fw := fun g => -(csum (deg rel N) g N)) (w := 0) ht hg1 hN hc1 hl h70 hL (Or.inr ⟨h2, fun g => neg_deg rel hN g⟩) e L.length 0 0 (by decide) (by show (0 : Int) + _ = _; omega) (Or.inl rfl) rfl
      · have h3 := n3 h3
        have h1 := n1 h1
        have h2 := n2 h2
        have h4 := n4 h4
        rw [if_neg (fun z => by have := z.2.2; omega), if_neg (by omega), if_neg h2, if_neg h4] at e
        exact pX12_bestIn ht hG h0 hx hl h70 hL e
      · have h3 : x1.toInt = 3 := by rw [h3]; rfl
        rw [if_neg (fun z => by have := z.2.2; omega), if_pos (Or.inr h3)] at e
        exact pX12_firstIn ht hl h70 hL e
    · have hv := mt Int32.le_iff_toInt_le.mpr hv
      rw [p16] at hv
      rw [if_pos ⟨h3i, by omega, by omega⟩] at e
      exact e
/-! a day -/
def cdN (y : Int32) : Nat → Nat
  | 0 => 0
  | k + 1 => cdN y k + (if bt y k = true then 1 else 0)
/-- how many are in a set -/
def cd (y : Int32) : Nat := cdN y 8
theorem cdN_dl {y g : Int32} (h : sbs y g = true) : ∀ k, k ≤ 8 → cdN (dl y g) k + cdN g k = cdN y k
  | 0, _ => rfl
  | k + 1, hk => by
    have ih := cdN_dl h k (by omega)
    show cdN (dl y g) k + (if bt (dl y g) k = true then 1 else 0) + (cdN g k + (if bt g k = true then 1 else 0)) = cdN y k + (if bt y k = true then 1 else 0)
    rw [dl_bt _ _ (show k < 32 by omega)]
    cases a : bt g k with
    | false =>
      rw [Bool.not_false, Bool.and_true]
      have : (if false = true then 1 else 0) = 0 := rfl
      omega
    | true =>
      rw [sbs_bt.mp h k (by omega) a]
      have e1 : (if (true && !true) = true then 1 else 0) = 0 := rfl
      have e2 : (if true = true then 1 else 0) = 1 := rfl
      omega
theorem cdN_0 {y : Int32} : ∀ k, cdN y k = 0 → ∀ i, i < k → bt y i = false
  | 0, _, i, hi => absurd hi (Nat.not_lt_zero i)
  | k + 1, h, i, hi => by
    have h : cdN y k + (if bt y k = true then 1 else 0) = 0 := h
    by_cases c : i = k
    · subst c
      cases a : bt y i with
      | false => rfl
      | true =>
        rw [a] at h
        have e2 : (if true = true then 1 else 0) = 1 := rfl
        omega
    · exact cdN_0 k (by omega) i (by omega)
theorem cd_0 {y : Int32} (h0 : 0 ≤ y.toInt) (h1 : y.toInt ≤ 255) (h : cd y = 0) : y = 0 := bt_ext ⟨h0, by omega⟩ (by decide) (fun i hi => by
  rw [cdN_0 8 h i hi, bt_ze i (by omega)])
theorem cd_dl {y g : Int32} (hs : sbs y g = true) (h0 : 0 < g.toInt) (h1 : g.toInt ≤ 255) : cd (dl y g) < cd y := by
  have e := cdN_dl hs 8 (Nat.le_refl _)
  have : ¬ cd g = 0 := fun z => by
    have := cd_0 (by omega) h1 z
    rw [this] at h0
    exact absurd h0 (by decide)
  unfold cd at *
  omega
theorem cdN_or (y e : Int32) {p : Nat} (he : ∀ i, i < 8 → bt e i = decide (i = p)) : ∀ k, k ≤ 8 → cdN (y ||| e) k ≤ cdN y k + (if p < k then 1 else 0)
  | 0, _ => Nat.zero_le _
  | k + 1, hk => by
    have ih := cdN_or y e he k (by omega)
    show cdN (y ||| e) k + (if bt (y ||| e) k = true then 1 else 0) ≤ cdN y k + (if bt y k = true then 1 else 0) + (if p < k + 1 then 1 else 0)
    rw [bt_or _ _ _ (show k < 32 by omega), he k (by omega)]
    by_cases c : k = p
    · rw [decide_eq_true c, Bool.or_true]
      have e2 : (if true = true then 1 else 0) = 1 := rfl
      rw [if_neg (show ¬ p < k by omega)] at ih
      rw [if_pos (show p < k + 1 by omega)]
      omega
    · rw [decide_eq_false c, Bool.or_false]
      by_cases d : p < k
      · rw [if_pos d] at ih
        rw [if_pos (show p < k + 1 by omega)]
        omega
      · rw [if_neg d] at ih
        rw [if_neg (show ¬ p < k + 1 by omega)]
        omega
theorem cd_or {y : Int32} {x : Int32} (hx : 0 ≤ x.toInt ∧ x.toInt < 8) : cd (y ||| ((1 : Int32) <<< (x &&& 31))) ≤ cd y + 1 := by
  have e := cdN_or y ((1 : Int32) <<< (x &&& 31)) (p := x.toInt.toNat) (fun i hi => bt_1 hx hi) 8 (Nat.le_refl _)
  rw [if_pos (by omega)] at e
  exact e
theorem fstIn_m {y : Int32} : ∀ L : List Int32, fstIn y L = 0 ∨ (fstIn y L ∈ L ∧ sbs y (fstIn y L) = true)
  | [] => Or.inl rfl
  | g :: L => by
    show (if sbs y g = true then g else fstIn y L) = 0 ∨ ((if sbs y g = true then g else fstIn y L) ∈ g :: L ∧ sbs y (if sbs y g = true then g else fstIn y L) = true)
    by_cases c : sbs y g = true
    · rw [if_pos c]
      exact Or.inr ⟨List.mem_cons_self, c⟩
    · rw [if_neg c]
      exact (fstIn_m L).elim Or.inl (fun h => Or.inr ⟨List.mem_cons_of_mem _ h.1, h.2⟩)
theorem chs_m {f : Int32 → Int32} {y : Int32} : ∀ (L : List Int32) (c w : Int32), chs f y L c w = c ∨ (chs f y L c w ∈ L ∧ sbs y (chs f y L c w) = true)
  | [], c, w => Or.inl rfl
  | g :: L, c, w => by
    by_cases hb : sbs y g = true
    · by_cases hk : c = 0 ∨ w.toInt < (f g).toInt
      · rw [chs_y hb hk]
        rcases chs_m L g (f g) with e | e
        · rw [e]
          exact Or.inr ⟨List.mem_cons_self, hb⟩
        · exact Or.inr ⟨List.mem_cons_of_mem _ e.1, e.2⟩
      · rw [chs_k hb hk]
        exact (chs_m L c w).elim Or.inl (fun h => Or.inr ⟨List.mem_cons_of_mem _ h.1, h.2⟩)
    · rw [chs_n hb]
      exact (chs_m L c w).elim Or.inl (fun h => Or.inr ⟨List.mem_cons_of_mem _ h.1, h.2⟩)
theorem bst_m {L : List Int32} {y : Int32} : ∀ M : List Int32, bst L y M = 0 ∨ (bst L y M ∈ M ∧ sbs y (bst L y M) = true)
  | [] => Or.inl rfl
  | g :: M => by
    by_cases c : sbs y g = true ∧ MS L (dl y g) = MS L y - 1
    · rw [bst_y c]
      exact Or.inr ⟨List.mem_cons_self, c.1⟩
    · rw [bst_n c]
      exact (bst_m M).elim Or.inl (fun h => Or.inr ⟨List.mem_cons_of_mem _ h.1, h.2⟩)
theorem pk_m (N : Nat) (rel : Nat → Nat → Bool) (c : Nat → Int32) (L : List Int32) (kind : Int) (a y : Int32) (tc : Int) : pk N rel c L kind a y tc = 0 ∨ (pk N rel c L kind a y tc ∈ L ∧ sbs y (pk N rel c L kind a y tc) = true) := by
  unfold pk
  split
  · exact Or.inl rfl
  · split
    · exact fstIn_m L
    · split
      · exact chs_m L 0 0
      · split
        · exact chs_m L 0 0
        · exact bst_m L
/-- a rule of sending: nothing, or a group of the yard -/
def PK (L : List Int32) (f : Int32 → Int32) : Prop := ∀ y, f y = 0 ∨ (f y ∈ L ∧ sbs y (f y) = true)
/-- what is sent one after the other, and who is left -/
def sa (f : Int32 → Int32) : Nat → Int32 → List Int32 × Int32
  | 0, y => ([], y)
  | k + 1, y => if f y = 0 then ([], y) else (f y :: (sa f k (dl y (f y))).1, (sa f k (dl y (f y))).2)
theorem sa_0 {f : Int32 → Int32} {k : Nat} {y : Int32} (h : f y = 0) : sa f (k + 1) y = ([], y) := if_pos h
theorem sa_s {f : Int32 → Int32} {k : Nat} {y : Int32} (h : ¬ f y = 0) : sa f (k + 1) y = (f y :: (sa f k (dl y (f y))).1, (sa f k (dl y (f y))).2) := if_neg h
theorem pk_e {L : List Int32} {f : Int32 → Int32} (hG : GG L) (hf : PK L f) : f 0 = 0 := by
  rcases hf 0 with h | h
  · exact h
  · exact absurd h.2 (sbs_0 (GG_n hG h.1))
theorem sa_cd {L : List Int32} {f : Int32 → Int32} (hG : GG L) (hf : PK L f) : ∀ (k : Nat) (y : Int32), 0 ≤ y.toInt → y.toInt ≤ 255 → (sa f k y).1.length + cd (sa f k y).2 ≤ cd y ∧ 0 ≤ (sa f k y).2.toInt ∧ (sa f k y).2.toInt ≤ y.toInt
  | 0, y, h0, h1 => by
    show 0 + cd y ≤ cd y ∧ 0 ≤ y.toInt ∧ y.toInt ≤ y.toInt
    omega
  | k + 1, y, h0, h1 => by
    by_cases c : f y = 0
    · rw [sa_0 c]
      show 0 + cd y ≤ cd y ∧ 0 ≤ y.toInt ∧ y.toInt ≤ y.toInt
      omega
    · rw [sa_s c]
      have hm := (hf y).elim (fun z => absurd z c) id
      have r := dl_r (g := f y) h0
      have g := hG _ hm.1
      have l := cd_dl hm.2 g.1 g.2
      have ih := sa_cd hG hf k (dl y (f y)) r.1 (by omega)
      show (sa f k (dl y (f y))).1.length + 1 + cd (sa f k (dl y (f y))).2 ≤ cd y ∧ 0 ≤ (sa f k (dl y (f y))).2.toInt ∧ (sa f k (dl y (f y))).2.toInt ≤ y.toInt
      omega
/-- X's day: who went (with the hour), who is in the yard -/
def DX (I : jdI) (S : List (Int32 × Int32)) (y : Int32) : Prop := (I 20 4).toInt = (S.length : Int) ∧ LiS I (20 + 1) (S.map Prod.fst) ∧ LiS I (20 + 2) (S.map Prod.snd) ∧ I 20 5 = y
def ta (r : List Int32) (h : Int32) : List (Int32 × Int32) := r.map (fun g => (g, h))
theorem pX3_sendAll_3 {G : jdG} {n rc rs : Nat} {Z : jdL} {J : jdJ} {K : jdI → jdJ → Prop} {I0 : jdI} {u2 N st ci : Nat} {rel : Nat → Nat → Bool} {c : Nat → Int32} {L : List Int32} {a x3 x4 Y : Int32} {R : List (Int32 × Int32)} {f : Int32 → Int32} (ht : zDay Z 20) (hT : zTies Z 13) (hz : Z.1 u2 = some (ci + 10, 0)) (hci : ci = 0 ∨ ci = 1 ∨ ci = 3 ∨ ci = 6 ∨ ci = 9) (hu : 44 < u2) (hG : GG L) (hN : N ≤ 8) (h70 : L.length ≤ 70) (h4 : 0 ≤ x4.toInt) (ha : I0 u2 0 = a) (hf : f = fun y => pk N rel c L (ckI (Z.1 u2)) a y x4.toInt) (hK : ∀ I2, WX I2 → PT N st rel c L I2 → Fr (fun a k => (a = 13 ∧ k = 10) ∨ a = 13 + 5 ∨ (a = 20 ∧ (k = 4 ∨ k = 5)) ∨ a = 20 + 1 ∨ a = 20 + 2) I0 I2 → DX I2 R Y → K I2 J) : ∀ k : Nat, ∀ (I : jdI) (x5 y : Int32) (S : List (Int32 × Int32)), WX I → PT N st rel c L I → Fr (fun a k => (a = 13 ∧ k = 10) ∨ a = 13 + 5 ∨ (a = 20 ∧ (k = 4 ∨ k = 5)) ∨ a = 20 + 1 ∨ a = 20 + 2) I0 I → DX I S y → 0 ≤ y.toInt → y.toInt < 2 ^ N → 0 ≤ x5.toInt → x5.toInt + (k : Int) = 7 → x5.toInt + (cd y : Int) ≤ 7 → S.length + cd y ≤ 7 → S ++ ta (sa f (k + 1) y).1 x3 = R → (sa f (k + 1) y).2 = Y → Jd G mX3_sendAll (jdFm G (qv Z K)) (n + 4) rc rs 3 [(0, .ref (gb G + 20)), (1, .ref (gb G + 13)), (2, .ref (gb G + u2)), (3, .int x3), (4, .int x4), (5, .int x5)] [] Z I J := by
  have hp2 := pw2 ⟨N, by omega⟩
  have hp2 : 1 ≤ (2 : Int) ^ N ∧ (2 : Int) ^ N ≤ 256 := hp2
  have q7 : (7 : Int32).toInt = 7 := rfl
  have hPK : PK L f := fun y => by rw [hf]; exact pk_m N rel c L _ a y _
  intro k
  induction k with
  | zero =>
    intro I x5 y S hW hP hF hD hy0 hy1 h5 hk hcd hsc hR hY
    have y0 := cd_0 hy0 (by omega) (show cd y = 0 by omega)
    have e0 : f y = 0 := by rw [y0]; exact pk_e hG hPK
    rw [sa_0 e0] at hR hY
    have hR : S ++ [] = R := hR
    have hY : y = Y := hY
    rw [List.append_nil] at hR
    rw [hR, hY] at hD
    refine rX3_sendAll_3 ht hT ⟨fun _ => hK I hW hP hF hD, fun hx => absurd (Int32.le_iff_toInt_le.mpr (by omega)) hx⟩
  | succ k ih =>
    intro I x5 y S hW hP hF hD hy0 hy1 h5 hk hcd hsc hR hY
    have hw := WX_f hW
    obtain ⟨d1, d2, d3, d4⟩ := hD
    have q1 : (1 : Int32).toInt = 1 := rfl
    have e5 := i32_add x5 1 (by omega) (by omega)
    refine rX3_sendAll_3 ht hT ⟨fun hx => by have := Int32.le_iff_toInt_le.mp hx; omega, fun _ => ⟨fun hx => ?_, fun hx => ⟨⟨ci, hci, hz⟩, ?_⟩⟩⟩
    · have hx := Int32.le_iff_toInt_le.mp hx
      have y0 := cd_0 hy0 (by omega) (show cd y = 0 by omega)
      have e0 : f y = 0 := by rw [y0]; exact pk_e hG hPK
      rw [sa_0 e0] at hR hY
      have hR : S ++ [] = R := hR
      have hY : y = Y := hY
      rw [List.append_nil] at hR
      rw [← hR, ← hY] at hK
      exact hK I hW hP hF ⟨d1, d2, d3, d4⟩
    · have hx := mt Int32.le_iff_toInt_le.mpr hx
      rw [d4]
      refine p_pick hT hz hci hG hN h70 hy0 hy1 h4 hW hP (fun I1 hW1 hP1 hF1 => ?_)
      have ea : I u2 0 = a := by rw [hF u2 0 (by omega)]; exact ha
      have ef : pk N rel c L (ckI (Z.1 u2)) (I u2 0) y x4.toInt = f y := by rw [ea, hf]
      rw [ef]
      have hF1' := Fr.tr hF hF1 (p2 := (fun a k => (a = 13 ∧ k = 10) ∨ a = 13 + 5)) (by intro a k h; omega)
      have g4 : (I1 20 4).toInt = (S.length : Int) := by rw [hF1 20 4 (by omega)]; exact d1
      have g5 : I1 20 5 = y := by rw [hF1 20 5 (by omega)]; exact d4
      have g1 := LiS_fr d2 hF1 (by intro k; omega)
      have g2 := LiS_fr d3 hF1 (by intro k; omega)
      refine ⟨fun hv => ⟨vp_of (by omega) (by omega), vp_of (by omega) (by omega), ?_⟩, fun hv => ?_⟩
      · have hm := (hPK y).elim (fun z => absurd z hv) id
        have r := dl_r (g := f y) hy0
        have gg := hG _ hm.1
        have l := cd_dl hm.2 gg.1 gg.2
        rw [sa_s hv] at hR hY
        rw [g5, xo_m1]
        show Jd G mX3_sendAll (jdFm G (qv Z K)) (n + 4) rc rs 3 [(0, .ref (gb G + 20)), (1, .ref (gb G + 13)), (2, .ref (gb G + u2)), (3, .int x3), (4, .int x4), (5, .int (x5 + 1))] [] Z (uI (uI (uI (uI I1 20 5 (dl y (f y))) (20 + 1) (Int32.toNatClampNeg (I1 20 4)) (f y)) (20 + 2) (Int32.toNatClampNeg (I1 20 4)) x3) 20 4 ((I1 20 4) + 1)) J
        have n4 := tn_eq (I1 20 4)
        have e4 := i32_add (I1 20 4) 1 (by omega) (by omega)
        have w1 : WX (uI I1 20 5 (dl y (f y))) := WX_uI hW1 (by first | exact okXo (by decide) | (unfold okX; refine ⟨?_, ?_, ?_, ?_, ?_, ?_, ?_, ?_, ?_, ?_⟩ <;> intro h <;> omega))
        have w2 : WX (uI (uI I1 20 5 (dl y (f y))) (20 + 1) (Int32.toNatClampNeg (I1 20 4)) (f y)) := WX_uI w1 (by first | exact okXo (by decide) | (unfold okX; refine ⟨?_, ?_, ?_, ?_, ?_, ?_, ?_, ?_, ?_, ?_⟩ <;> intro h <;> omega))
        have w3 : WX (uI (uI (uI I1 20 5 (dl y (f y))) (20 + 1) (Int32.toNatClampNeg (I1 20 4)) (f y)) (20 + 2) (Int32.toNatClampNeg (I1 20 4)) x3) := WX_uI w2 (by first | exact okXo (by decide) | (unfold okX; refine ⟨?_, ?_, ?_, ?_, ?_, ?_, ?_, ?_, ?_, ?_⟩ <;> intro h <;> omega))
        have fD : Fr (fun a k => (a = 20 ∧ (k = 4 ∨ k = 5)) ∨ a = 20 + 1 ∨ a = 20 + 2) I1 (uI (uI (uI (uI I1 20 5 (dl y (f y))) (20 + 1) (Int32.toNatClampNeg (I1 20 4)) (f y)) (20 + 2) (Int32.toNatClampNeg (I1 20 4)) x3) 20 4 ((I1 20 4) + 1)) := Fr_uI (Fr_uI (Fr_uI (Fr_uI Fr.rf (by omega)) (by omega)) (by omega)) (by omega)
        have hP2 : PT N st rel c L (uI (uI (uI (uI I1 20 5 (dl y (f y))) (20 + 1) (Int32.toNatClampNeg (I1 20 4)) (f y)) (20 + 2) (Int32.toNatClampNeg (I1 20 4)) x3) 20 4 ((I1 20 4) + 1)) := by
          obtain ⟨⟨p1, p2, p3, p4⟩, p5, p6⟩ := hP1
          refine ⟨⟨by rw [fD 13 6 (by omega)]; exact p1, by rw [fD 13 8 (by omega)]; exact p2, LiS_fr p3 fD (by intro k; omega), fun hz => ?_⟩, GX_fr p5 fD (by omega) (by omega) (by intro k; omega), fun p hp => by rw [fD (13 + 2) p (by omega)]; exact p6 p hp⟩
          rw [fD 13 10 (by omega)] at hz
          exact fun v hv => by rw [fD (13 + 5) v (by omega)]; exact p4 hz v hv
        have hlen : (S ++ [(f y, x3)]).length = S.length + 1 := by rw [List.length_append]; rfl
        refine ih _ (x5 + 1) (dl y (f y)) (S ++ [(f y, x3)]) (WX_uI w3 (by first | exact okXo (by decide) | (unfold okX; refine ⟨?_, ?_, ?_, ?_, ?_, ?_, ?_, ?_, ?_, ?_⟩ <;> intro h <;> omega))) hP2 (Fr.tr hF1' fD (by intro a k h; omega)) ⟨?_, ?_, ?_, ?_⟩ r.1 (by omega) (by omega) (by omega) (by omega) (by rw [hlen]; omega) ?_ hY
        · rw [uI_ap, if_pos ⟨rfl, rfl⟩, hlen]
          omega
        · rw [List.map_append]
          have e := LiS_push (I := uI I1 20 5 (dl y (f y))) (b := 20 + 1) (x := f y) (fun k hk => by rw [uI_n _ _ _ (by omega)]; exact g1 k hk) (show Int32.toNatClampNeg (I1 20 4) = (S.map Prod.fst).length by rw [List.length_map]; omega)
          exact fun k hk => by
            rw [uI_n _ _ _ (by omega), uI_n _ _ _ (by omega)]
            exact e k hk
        · rw [List.map_append]
          have e := LiS_push (I := uI (uI I1 20 5 (dl y (f y))) (20 + 1) (Int32.toNatClampNeg (I1 20 4)) (f y)) (b := 20 + 2) (x := x3) (fun k hk => by rw [uI_n _ _ _ (by omega), uI_n _ _ _ (by omega)]; exact g2 k hk) (show Int32.toNatClampNeg (I1 20 4) = (S.map Prod.snd).length by rw [List.length_map]; omega)
          exact fun k hk => by
            rw [uI_n _ _ _ (by omega)]
            exact e k hk
        · rw [uI_ap, if_neg (by omega), uI_ap, if_neg (by omega), uI_ap, if_neg (by omega), uI_ap, if_pos ⟨rfl, rfl⟩]
        · rw [List.append_assoc]
          exact hR
      · rw [sa_0 hv] at hR hY
        have hR : S ++ [] = R := hR
        have hY : y = Y := hY
        rw [List.append_nil] at hR
        rw [← hR, ← hY] at hK
        exact hK I1 hW1 hP1 hF1' ⟨g4, g1, g2, g5⟩
theorem pX3_sendAll {G : jdG} {n : Nat} {Z : jdL} {J : jdJ} {K : jdI → jdJ → Prop} {I : jdI} {u2 N st ci : Nat} {rel : Nat → Nat → Bool} {c : Nat → Int32} {L : List Int32} {x3 x4 y : Int32} {S : List (Int32 × Int32)} {f : Int32 → Int32} (ht : zDay Z 20) (hT : zTies Z 13) (hz : Z.1 u2 = some (ci + 10, 0)) (hci : ci = 0 ∨ ci = 1 ∨ ci = 3 ∨ ci = 6 ∨ ci = 9) (hu : 44 < u2) (hG : GG L) (hN : N ≤ 8) (h70 : L.length ≤ 70) (h4 : 0 ≤ x4.toInt) (hf : f = fun y => pk N rel c L (ckI (Z.1 u2)) (I u2 0) y x4.toInt) (hW : WX I) (hP : PT N st rel c L I) (hD : DX I S y) (hy0 : 0 ≤ y.toInt) (hy1 : y.toInt < 2 ^ N) (hsc : S.length + cd y ≤ 7) (hK : ∀ I2, WX I2 → PT N st rel c L I2 → Fr (fun a k => (a = 13 ∧ k = 10) ∨ a = 13 + 5 ∨ (a = 20 ∧ (k = 4 ∨ k = 5)) ∨ a = 20 + 1 ∨ a = 20 + 2) I I2 → DX I2 (S ++ ta (sa f 8 y).1 x3) (sa f 8 y).2 → K I2 J) : Cl G mX3_sendAll (n + 4) 0 0 [.ref (gb G + 20), .ref (gb G + 13), .ref (gb G + u2), .int x3, .int x4] Z I J (qv Z K) :=
  eX3_sendAll ht hT (pX3_sendAll_3 ht hT hz hci hu hG hN h70 h4 rfl hf hK 7 I 0 y S hW hP Fr.rf hD hy0 hy1 (by decide) (by decide) (by show (0 : Int) + _ ≤ 7; omega) hsc rfl rfl)
/-- who of p, p + 1 .. comes at the hour h; who comes, one after the other -/
def cof (hr : Nat → Int32) (h : Int32) : Nat → Nat → List Nat
  | 0, _ => []
  | k + 1, p => if hr p = h then p :: cof hr h k (p + 1) else cof hr h k (p + 1)
def coA (hr : Nat → Int32) (n : Nat) : Nat → Nat → List Nat
  | 0, _ => []
  | k + 1, h => cof hr (Int32.ofNat h) n 0 ++ coA hr n k (h + 1)
def dy (f : Int → Int32 → Int32) (hr : Nat → Int32) : List Nat → Int → List (Int32 × Int32) → Int32 → List (Int32 × Int32) × Int32
  | [], _, S, y => (S, y)
  | p :: ps, tc, S, y => dy f hr ps (tc - 1) (S ++ ta (sa (f (tc - 1)) 8 (y ||| ((1 : Int32) <<< (Int32.ofNat p &&& 31)))).1 (hr p)) (sa (f (tc - 1)) 8 (y ||| ((1 : Int32) <<< (Int32.ofNat p &&& 31)))).2
theorem cof_end (hr : Nat → Int32) (h : Int32) : ∀ k p, cof hr h (k + 1) p = cof hr h k p ++ (if hr (p + k) = h then [p + k] else [])
  | 0, p => by
    show (if hr p = h then [p] else []) = [] ++ (if hr (p + 0) = h then [p + 0] else [])
    rfl
  | k + 1, p => by
    have ih := cof_end hr h k (p + 1)
    show (if hr p = h then p :: cof hr h (k + 1) (p + 1) else cof hr h (k + 1) (p + 1)) = (if hr p = h then p :: cof hr h k (p + 1) else cof hr h k (p + 1)) ++ _
    rw [ih, show p + 1 + k = p + (k + 1) by omega]
    by_cases c : hr p = h
    · rw [if_pos c, if_pos c]
      rfl
    · rw [if_neg c, if_neg c]
theorem coA_n (hr : Nat → Int32) (n : Nat) : ∀ k h, h + k ≤ 24 → (coA hr (n + 1) k h).length = (coA hr n k h).length + (if (h : Int) ≤ (hr n).toInt ∧ (hr n).toInt < (h : Int) + (k : Int) then 1 else 0)
  | 0, h, hk => by
    rw [if_neg (by omega)]
    rfl
  | k + 1, h, hk => by
    have ih := coA_n hr n k (h + 1) (by omega)
    have eh := ofN_i (v := h) (by omega)
    show (cof hr (Int32.ofNat h) (n + 1) 0 ++ coA hr (n + 1) k (h + 1)).length = (cof hr (Int32.ofNat h) n 0 ++ coA hr n k (h + 1)).length + _
    rw [cof_end, List.length_append, List.length_append, List.length_append, ih, Nat.zero_add]
    by_cases c : hr n = Int32.ofNat h
    · have ci : (hr n).toInt = (h : Int) := by rw [c]; exact eh
      rw [if_pos c, if_neg (by omega), if_pos (by omega)]
      show _ + 1 + _ = _
      omega
    · have ci : ¬ (hr n).toInt = (h : Int) := fun z => c (Int32.toInt_inj.mp (z.trans eh.symm))
      rw [if_neg c]
      by_cases d : ((h + 1 : Nat) : Int) ≤ (hr n).toInt ∧ (hr n).toInt < ((h + 1 : Nat) : Int) + (k : Int)
      · rw [if_pos d, if_pos (by omega)]
        show _ + 0 + _ = _
        omega
      · rw [if_neg d, if_neg (by omega)]
        show _ + 0 + _ = _
        omega
theorem coA_0 (hr : Nat → Int32) : ∀ k h, coA hr 0 k h = []
  | 0, _ => rfl
  | k + 1, h => by
    show [] ++ coA hr 0 k (h + 1) = []
    rw [coA_0 hr k (h + 1)]
    rfl
theorem coA_len (hr : Nat → Int32) : ∀ n, (∀ p, p < n → 0 ≤ (hr p).toInt ∧ (hr p).toInt < 24) → (coA hr n 24 0).length = n
  | 0, _ => by rw [coA_0]; rfl
  | n + 1, h => by
    have a := h n (by omega)
    rw [coA_n hr n 24 0 (by omega), coA_len hr n (fun p hp => h p (by omega)), if_pos (by omega)]
theorem or_lt2 {x y : Int32} {k : Nat} (hk : k ≤ 30) (h0 : 0 ≤ x.toInt) (h1 : x.toInt < 2 ^ k) (h2 : 0 ≤ y.toInt) (h3 : y.toInt < 2 ^ k) : 0 ≤ (x ||| y).toInt ∧ (x ||| y).toInt < 2 ^ k := by
  have hx := i32_nat x h0
  have hy := i32_nat y h2
  have hp : (2 : Int) ^ k = ((2 ^ k : Nat) : Int) := by simp
  have hb : (x ||| y).toBitVec.toNat < 2 ^ k := by
    rw [Int32.toBitVec_or, BitVec.toNat_or]
    exact Nat.or_lt_two_pow (by omega) (by omega)
  have hk2 : (2 : Nat) ^ k ≤ 2 ^ 30 := Nat.pow_le_pow_right (by omega) hk
  have h5 : (x ||| y).toInt = ((x ||| y).toBitVec.toNat : Int) := by
    have h2 : (x ||| y).toInt = (x ||| y).toBitVec.toInt := rfl
    rw [h2, BitVec.toInt_eq_toNat_cond, if_pos (by omega)]
  omega
theorem yard_p {y x : Int32} {N : Nat} (hN : N ≤ 8) (h0 : 0 ≤ y.toInt) (h1 : y.toInt < 2 ^ N) (hx : 0 ≤ x.toInt) (hx1 : x.toInt < (N : Int)) : 0 ≤ (y ||| ((1 : Int32) <<< (x &&& 31))).toInt ∧ (y ||| ((1 : Int32) <<< (x &&& 31))).toInt < 2 ^ N := by
  have e := (ev_of (x := x) hx (by omega)).1
  have hp : (2 : Int) ^ x.toInt.toNat = ((2 ^ x.toInt.toNat : Nat) : Int) := by simp
  have hq : (2 : Int) ^ N = ((2 ^ N : Nat) : Int) := by simp
  have hl : 2 ^ x.toInt.toNat < 2 ^ N := Nat.pow_lt_pow_right (by omega) (by omega)
  have e8 := ev_8 (x := x) hx (by omega)
  exact or_lt2 (by omega) h0 h1 (by omega) (by rw [e, hp, hq]; exact Int.ofNat_lt.mpr hl)
/-- the rule of the coachman in the cell u, with a -/
def rule (N : Nat) (rel : Nat → Nat → Bool) (c : Nat → Int32) (L : List Int32) (kind : Int) (a : Int32) (tc : Int) (y : Int32) : Int32 := pk N rel c L kind a y tc
theorem pX3_pass_l {G : jdG} {n rc rs : Nat} {Z : jdL} {J : jdJ} {K : jdI → jdJ → Prop} {I0 : jdI} {u1 u3 N st ci : Nat} {rel : Nat → Nat → Bool} {c hr : Nat → Int32} {L : List Int32} {R : List (Int32 × Int32)} {Y : Int32} (ht : zDay Z 20) (hu1 : zTown Z u1) (hus : u1 = 1 ∨ u1 = 5 ∨ u1 = 9) (hT : zTies Z 13) (hz : Z.1 u3 = some (ci + 10, 0)) (hci : ci = 0 ∨ ci = 1 ∨ ci = 3 ∨ ci = 6 ∨ ci = 9) (hu : 44 < u3) (hG : GG L) (hN : N ≤ 7) (h70 : L.length ≤ 70) (h3 : (I0 u1 3).toInt = (N : Int)) (hh : ∀ p, p < N → I0 (u1 + 1) p = hr p) (hK : ∀ I2, WX I2 → PT N st rel c L I2 → Fr (fun a k => (a = 13 ∧ k = 10) ∨ a = 13 + 5 ∨ (a = 20 ∧ (k = 4 ∨ k = 5)) ∨ a = 20 + 1 ∨ a = 20 + 2) I0 I2 → DX I2 R Y → K I2 J) : ∀ m : Nat,
    (∀ (I : jdI) (x4 x5 y : Int32) (S : List (Int32 × Int32)), WX I → PT N st rel c L I → Fr (fun a k => (a = 13 ∧ k = 10) ∨ a = 13 + 5 ∨ (a = 20 ∧ (k = 4 ∨ k = 5)) ∨ a = 20 + 1 ∨ a = 20 + 2) I0 I → DX I S y → 0 ≤ y.toInt → y.toInt < 2 ^ N → 0 ≤ x5.toInt → x5.toInt ≤ 24 → x4.toInt = ((coA hr N (24 - x5.toInt.toNat) x5.toInt.toNat).length : Int) → S.length + cd y + (coA hr N (24 - x5.toInt.toNat) x5.toInt.toNat).length ≤ 7 → dy (rule N rel c L (ckI (Z.1 u3)) (I0 u3 0)) hr (coA hr N (24 - x5.toInt.toNat) x5.toInt.toNat) x4.toInt S y = (R, Y) → (24 - x5.toInt) * 10 < (m : Int) → Jd G mX3_pass (jdFm G (qv Z K)) (n + 5) rc rs 19 [(0, .ref (gb G + 20)), (1, .ref (gb G + u1)), (2, .ref (gb G + 13)), (3, .ref (gb G + u3)), (4, .int x4), (5, .int x5)] [] Z I J) ∧
    (∀ (I : jdI) (x4 x5 x6 y : Int32) (S : List (Int32 × Int32)), WX I → PT N st rel c L I → Fr (fun a k => (a = 13 ∧ k = 10) ∨ a = 13 + 5 ∨ (a = 20 ∧ (k = 4 ∨ k = 5)) ∨ a = 20 + 1 ∨ a = 20 + 2) I0 I → DX I S y → 0 ≤ y.toInt → y.toInt < 2 ^ N → 0 ≤ x5.toInt → x5.toInt < 24 → 0 ≤ x6.toInt → x6.toInt ≤ (N : Int) → x4.toInt = ((cof hr x5 (N - x6.toInt.toNat) x6.toInt.toNat ++ coA hr N (23 - x5.toInt.toNat) (x5.toInt.toNat + 1)).length : Int) → S.length + cd y + (cof hr x5 (N - x6.toInt.toNat) x6.toInt.toNat ++ coA hr N (23 - x5.toInt.toNat) (x5.toInt.toNat + 1)).length ≤ 7 → dy (rule N rel c L (ckI (Z.1 u3)) (I0 u3 0)) hr (cof hr x5 (N - x6.toInt.toNat) x6.toInt.toNat ++ coA hr N (23 - x5.toInt.toNat) (x5.toInt.toNat + 1)) x4.toInt S y = (R, Y) → (24 - x5.toInt) * 10 - 1 - x6.toInt < (m : Int) → Jd G mX3_pass (jdFm G (qv Z K)) (n + 5) rc rs 29 [(0, .ref (gb G + 20)), (1, .ref (gb G + u1)), (2, .ref (gb G + 13)), (3, .ref (gb G + u3)), (4, .int x4), (5, .int x5), (6, .int x6)] [] Z I J) := by
  intro m
  induction m with
  | zero =>
    refine ⟨fun I x4 x5 y S hW hP hF hD a1 a2 a3 a4 a5 a6 a7 hm => ?_, fun I x4 x5 x6 y S hW hP hF hD a1 a2 a3 a4 a5 a6 a7 a8 a9 hm => ?_⟩
    · have hf0 : (24 - x5.toInt) * 10 < 0 := hm
      omega
    · have hf0 : (24 - x5.toInt) * 10 - 1 - x6.toInt < 0 := hm
      omega
  | succ m ih =>
    have q1 : (1 : Int32).toInt = 1 := rfl
    have q24 : (24 : Int32).toInt = 24 := rfl
    have qm : (-1 : Int32).toInt = -1 := rfl
    refine ⟨fun I x4 x5 y S hW hP hF hD a1 a2 a3 a4 a5 a6 a7 hm => ?_, fun I x4 x5 x6 y S hW hP hF hD a1 a2 a3 a4 a5 a6 a7 a8 a9 hm => ?_⟩
    · refine rX3_pass_19 ht hu1 hT ⟨fun hx => ?_, fun hx => ?_⟩
      · have hx := Int32.le_iff_toInt_le.mp hx
        rw [show 24 - x5.toInt.toNat = 0 by omega] at a7
        have a7 : (S, y) = (R, Y) := a7
        injection a7 with b1 b2
        rw [← b1, ← b2] at hK
        exact hK I hW hP hF hD
      · have hx := mt Int32.le_iff_toInt_le.mpr hx
        rw [show 24 - x5.toInt.toNat = (23 - x5.toInt.toNat) + 1 by omega] at a5 a6 a7
        have e : coA hr N ((23 - x5.toInt.toNat) + 1) x5.toInt.toNat = cof hr x5 (N - (0 : Int32).toInt.toNat) (0 : Int32).toInt.toNat ++ coA hr N (23 - x5.toInt.toNat) (x5.toInt.toNat + 1) := by
          show cof hr (Int32.ofNat x5.toInt.toNat) N 0 ++ _ = _
          rw [← i32_ofNat a3]
          rfl
        rw [e] at a5 a6 a7
        exact ih.2 I x4 x5 0 y S hW hP hF hD a1 a2 a3 (by omega) (by decide) (by show (0 : Int) ≤ _; omega) a5 a6 a7 (by show _ - 1 - (0 : Int) < _; omega)
    · have e6 := i32_add x6 1 (by omega) (by omega)
      have e5 := i32_add x5 1 (by omega) (by omega)
      have n6 := tn_eq x6
      have h3' : (I u1 3).toInt = (N : Int) := by rw [hF u1 3 (by omega)]; exact h3
      refine rX3_pass_29 ht hu1 hT ⟨fun hx => ?_, fun hx => ⟨vp_of (by omega) (by have := mt Int32.le_iff_toInt_le.mpr hx; omega), ?_⟩⟩
      · have hx := Int32.le_iff_toInt_le.mp hx
        rw [show N - x6.toInt.toNat = 0 by omega] at a7 a8 a9
        have e : cof hr x5 0 x6.toInt.toNat ++ coA hr N (23 - x5.toInt.toNat) (x5.toInt.toNat + 1) = coA hr N (24 - (x5 + 1).toInt.toNat) (x5 + 1).toInt.toNat := by
          rw [show 24 - (x5 + 1).toInt.toNat = 23 - x5.toInt.toNat by omega, show (x5 + 1).toInt.toNat = x5.toInt.toNat + 1 by omega]
          rfl
        rw [e] at a7 a8 a9
        exact ih.1 I x4 (x5 + 1) y S hW hP hF hD a1 a2 (by omega) (by omega) a7 a8 a9 (by omega)
      · have hx := mt Int32.le_iff_toInt_le.mpr hx
        have eh : I (u1 + 1) (Int32.toNatClampNeg x6) = hr x6.toInt.toNat := by rw [hF (u1 + 1) _ (by omega)]; exact hh x6.toInt.toNat (by omega)
        rw [eh]
        have ec : cof hr x5 (N - x6.toInt.toNat) x6.toInt.toNat = if hr x6.toInt.toNat = x5 then x6.toInt.toNat :: cof hr x5 (N - (x6 + 1).toInt.toNat) (x6 + 1).toInt.toNat else cof hr x5 (N - (x6 + 1).toInt.toNat) (x6 + 1).toInt.toNat := by
          rw [show N - x6.toInt.toNat = (N - (x6 + 1).toInt.toNat) + 1 by omega, show (x6 + 1).toInt.toNat = x6.toInt.toNat + 1 by omega]
          rfl
        refine ⟨fun hv => ?_, fun hv => ?_⟩
        · rw [ec, if_neg hv] at a7 a8 a9
          exact ih.2 I x4 x5 (x6 + 1) y S hW hP hF hD a1 a2 a3 a4 (by omega) (by omega) a7 a8 a9 (by omega)
        · rw [ec, if_pos hv, List.cons_append] at a7 a8 a9
          generalize hrem : cof hr x5 (N - (x6 + 1).toInt.toNat) (x6 + 1).toInt.toNat ++ coA hr N (23 - x5.toInt.toNat) (x5.toInt.toNat + 1) = rem at a7 a8 a9
          rw [List.length_cons] at a7 a8
          have em := i32_add x4 (-1) (by omega) (by omega)
          have hy2 := yard_p (y := y) (x := x6) (show N ≤ 8 by omega) a1 a2 a5 (by omega)
          have hcd := cd_or (y := y) (x := x6) ⟨a5, by omega⟩
          have hw := WX_f hW
          obtain ⟨d1, d2, d3, d4⟩ := hD
          rw [d4]
          have a9 : dy (rule N rel c L (ckI (Z.1 u3)) (I0 u3 0)) hr rem (x4.toInt - 1) (S ++ ta (sa (rule N rel c L (ckI (Z.1 u3)) (I0 u3 0) (x4.toInt - 1)) 8 (y ||| ((1 : Int32) <<< (Int32.ofNat x6.toInt.toNat &&& 31)))).1 (hr x6.toInt.toNat)) (sa (rule N rel c L (ckI (Z.1 u3)) (I0 u3 0) (x4.toInt - 1)) 8 (y ||| ((1 : Int32) <<< (Int32.ofNat x6.toInt.toNat &&& 31)))).2 = (R, Y) := a9
          rw [← i32_ofNat a5, hv] at a9
          generalize hyy : y ||| ((1 : Int32) <<< (x6 &&& 31)) = yy at a9 hy2 hcd ⊢
          have et : (x4 + (-1)).toInt = x4.toInt - 1 := by
            rw [em, qm]
            rfl
          generalize hx4 : x4 + (-1) = z4 at et ⊢
          clear em
          have f0 : Fr (fun a k => a = 20 ∧ k = 5) I (uI I 20 5 yy) := Fr_uI Fr.rf ⟨rfl, rfl⟩
          have hP2 : PT N st rel c L (uI I 20 5 yy) := by
            obtain ⟨⟨p1, p2, p3, p4⟩, p5, p6⟩ := hP
            refine ⟨⟨by rw [f0 13 6 (by omega)]; exact p1, by rw [f0 13 8 (by omega)]; exact p2, LiS_fr p3 f0 (by intro k; omega), fun hz => ?_⟩, GX_fr p5 f0 (by omega) (by omega) (by intro k; omega), fun p hp => by rw [f0 (13 + 2) p (by omega)]; exact p6 p hp⟩
            rw [f0 13 10 (by omega)] at hz
            exact fun v hv => by rw [f0 (13 + 5) v (by omega)]; exact p4 hz v hv
          have eu : (uI I 20 5 yy) u3 0 = I0 u3 0 := by rw [f0 u3 0 (by omega), hF u3 0 (by omega)]
          refine pX3_sendAll (S := S) (y := yy) (f := rule N rel c L (ckI (Z.1 u3)) (I0 u3 0) z4.toInt) ht hT hz hci hu hG (by omega) h70 (by omega) (by rw [eu]; rfl) (WX_uI hW (by first | exact okXo (by decide) | (unfold okX; refine ⟨?_, ?_, ?_, ?_, ?_, ?_, ?_, ?_, ?_, ?_⟩ <;> intro h <;> omega))) hP2 ⟨by rw [f0 20 4 (by omega)]; exact d1, LiS_fr d2 f0 (by intro k; omega), LiS_fr d3 f0 (by intro k; omega), by rw [uI_ap, if_pos ⟨rfl, rfl⟩]⟩ hy2.1 hy2.2 (by omega) (fun I2 hW2 hP3 hF2 hD2 => ?_)
          have hPK : PK L (rule N rel c L (ckI (Z.1 u3)) (I0 u3 0) z4.toInt) := fun y => pk_m N rel c L _ _ y _
          have sc := sa_cd hG hPK 8 yy hy2.1 (by have := pw2 ⟨N, by omega⟩; have : (2 : Int) ^ N ≤ 256 := this.2; omega)
          refine ih.2 I2 z4 x5 (x6 + 1) _ _ hW2 hP3 (Fr.tr (Fr.tr hF f0 (by intro a k h; omega)) hF2 (fun _ _ h => h)) hD2 sc.2.1 (by omega) a3 a4 (by omega) (by omega) (by rw [hrem]; omega) ?_ ?_ (by omega)
          · rw [hrem, List.length_append]
            unfold ta
            rw [List.length_map]
            omega
          · rw [hrem, et]
            exact a9
theorem pX3_pass {G : jdG} {n : Nat} {Z : jdL} {J : jdJ} {K : jdI → jdJ → Prop} {I : jdI} {u1 u3 N st ci : Nat} {rel : Nat → Nat → Bool} {c hr : Nat → Int32} {L : List Int32} (ht : zDay Z 20) (hu1 : zTown Z u1) (hus : u1 = 1 ∨ u1 = 5 ∨ u1 = 9) (hT : zTies Z 13) (hz : Z.1 u3 = some (ci + 10, 0)) (hci : ci = 0 ∨ ci = 1 ∨ ci = 3 ∨ ci = 6 ∨ ci = 9) (hu : 44 < u3) (hG : GG L) (hN : N ≤ 7) (h70 : L.length ≤ 70) (h3 : (I u1 3).toInt = (N : Int)) (hh : ∀ p, p < N → I (u1 + 1) p = hr p) (hhr : ∀ p, p < N → 0 ≤ (hr p).toInt ∧ (hr p).toInt < 24) (hW : WX I) (hP : PT N st rel c L I) (hK : ∀ I2, WX I2 → PT N st rel c L I2 → Fr (fun a k => (a = 13 ∧ k = 10) ∨ a = 13 + 5 ∨ (a = 20 ∧ (k = 4 ∨ k = 5)) ∨ a = 20 + 1 ∨ a = 20 + 2) I I2 → DX I2 (dy (rule N rel c L (ckI (Z.1 u3)) (I u3 0)) hr (coA hr N 24 0) (N : Int) [] 0).1 (dy (rule N rel c L (ckI (Z.1 u3)) (I u3 0)) hr (coA hr N 24 0) (N : Int) [] 0).2 → K I2 J) : Cl G mX3_pass (n + 5) 0 0 [.ref (gb G + 20), .ref (gb G + u1), .ref (gb G + 13), .ref (gb G + u3)] Z I J (qv Z K) := by
  have hl := coA_len hr N hhr
  have hw := WX_f hW
  have q0 : (0 : Int32).toInt = 0 := rfl
  have hp2 : 1 ≤ (2 : Int) ^ N := (pw2 ⟨N, by omega⟩).1
  refine eX3_pass ht hu1 hT ?_
  have e3 : (uI (uI I 20 4 0) 20 5 0) u1 3 = I u1 3 := by rw [uI_ap, if_neg (by omega), uI_ap, if_neg (by omega)]
  rw [e3]
  have w0 : WX (uI I 20 4 0) := WX_uI hW (by first | exact okXo (by decide) | (unfold okX; refine ⟨?_, ?_, ?_, ?_, ?_, ?_, ?_, ?_, ?_, ?_⟩ <;> intro h <;> omega))
  have f0 : Fr (fun a k => a = 20 ∧ (k = 4 ∨ k = 5)) I (uI (uI I 20 4 0) 20 5 0) := Fr_uI (Fr_uI Fr.rf (by omega)) (by omega)
  have w1 : WX (uI (uI I 20 4 0) 20 5 0) := WX_uI w0 (by first | exact okXo (by decide) | (unfold okX; refine ⟨?_, ?_, ?_, ?_, ?_, ?_, ?_, ?_, ?_, ?_⟩ <;> intro h <;> omega))
  have z4 : ((uI (uI I 20 4 0) 20 5 0) 20 4).toInt = 0 := by rw [uI_ap, if_neg (by omega), uI_ap, if_pos ⟨rfl, rfl⟩]; rfl
  have z5 : (uI (uI I 20 4 0) 20 5 0) 20 5 = 0 := by rw [uI_ap, if_pos ⟨rfl, rfl⟩]
  have hP2 : PT N st rel c L (uI (uI I 20 4 0) 20 5 0) := by
    obtain ⟨⟨p1, p2, p3, p4⟩, p5, p6⟩ := hP
    refine ⟨⟨by rw [f0 13 6 (by omega)]; exact p1, by rw [f0 13 8 (by omega)]; exact p2, LiS_fr p3 f0 (by intro k; omega), fun hz => ?_⟩, GX_fr p5 f0 (by omega) (by omega) (by intro k; omega), fun p hp => by rw [f0 (13 + 2) p (by omega)]; exact p6 p hp⟩
    rw [f0 13 10 (by omega)] at hz
    exact fun v hv => by rw [f0 (13 + 5) v (by omega)]; exact p4 hz v hv
  generalize (uI (uI I 20 4 0) 20 5 0) = I1 at f0 w1 z4 z5 hP2 ⊢
  have eu : I1 u3 0 = I u3 0 := f0 u3 0 (by omega)
  refine (pX3_pass_l (N := N) (hr := hr) (R := (dy (rule N rel c L (ckI (Z.1 u3)) (I u3 0)) hr (coA hr N 24 0) (N : Int) [] 0).1) (Y := (dy (rule N rel c L (ckI (Z.1 u3)) (I u3 0)) hr (coA hr N 24 0) (N : Int) [] 0).2) ht hu1 hus hT hz hci hu hG hN h70 (by rw [f0 u1 3 (by omega)]; exact h3) (fun p hp => by rw [f0 (u1 + 1) p (by omega)]; exact hh p hp) (fun I2 hW2 hP3 hF2 hD2 => hK I2 hW2 hP3 (Fr.tr (Fr.tr Fr.rf f0 (by intro a k h; omega)) hF2 (fun _ _ h => h)) hD2) 241).1 I1 (I u1 3) 0 0 [] w1 hP2 Fr.rf ⟨z4, LiS_nil _ _, LiS_nil _ _, z5⟩ (by decide) (by show (0 : Int) < _; omega) (by decide) (by decide) ?_ ?_ ?_ (by decide)
  · show _ = ((coA hr N 24 0).length : Int)
    rw [hl]
    exact h3
  · show 0 + cd 0 + (coA hr N 24 0).length ≤ 7
    rw [hl]
    have : cd 0 = 0 := by decide
    omega
  · rw [eu, h3]
    rfl
theorem pX12_findComing_l {G : jdG} {n rc rs : Nat} {Z : jdL} {J : jdJ} {K : jdI → jdJ → Prop} {I0 : jdI} {t N : Nat} {hr : Nat → Int32} {R : List Nat} (ht : zModel Z t) (hN : N ≤ 7) (h10 : (I0 t 10).toInt = (N : Int)) (hh : ∀ p, p < N → I0 (t + 18) p = hr p) (hR : R.length ≤ 7) (hK : ∀ I2, WM 7 t I2 → Fr (fun a _ => a = t + 31) I0 I2 → LiS I2 (t + 31) (R.map Int32.ofNat) → K I2 J) : ∀ m : Nat,
    (∀ (I : jdI) (x1 x2 : Int32) (C : List Nat), WM 7 t I → Fr (fun a _ => a = t + 31) I0 I → LiS I (t + 31) (C.map Int32.ofNat) → x1.toInt = (C.length : Int) → 0 ≤ x2.toInt → x2.toInt ≤ 24 → C ++ coA hr N (24 - x2.toInt.toNat) x2.toInt.toNat = R → (24 - x2.toInt) * 10 < (m : Int) → Jd G mX12_findComing (jdFm G (qv Z K)) n rc rs 4 [(0, .ref (gb G + t)), (1, .int x1), (2, .int x2)] [] Z I J) ∧
    (∀ (I : jdI) (x1 x2 x3 : Int32) (C : List Nat), WM 7 t I → Fr (fun a _ => a = t + 31) I0 I → LiS I (t + 31) (C.map Int32.ofNat) → x1.toInt = (C.length : Int) → 0 ≤ x2.toInt → x2.toInt < 24 → 0 ≤ x3.toInt → x3.toInt ≤ (N : Int) → C ++ (cof hr x2 (N - x3.toInt.toNat) x3.toInt.toNat ++ coA hr N (23 - x2.toInt.toNat) (x2.toInt.toNat + 1)) = R → (24 - x2.toInt) * 10 - 1 - x3.toInt < (m : Int) → Jd G mX12_findComing (jdFm G (qv Z K)) n rc rs 12 [(0, .ref (gb G + t)), (1, .int x1), (2, .int x2), (3, .int x3)] [] Z I J) := by
  intro m
  induction m with
  | zero =>
    refine ⟨fun I x1 x2 C hW hF hL h1 a3 a4 a7 hm => ?_, fun I x1 x2 x3 C hW hF hL h1 a3 a4 a5 a6 a9 hm => ?_⟩
    · have hf0 : (24 - x2.toInt) * 10 < 0 := hm
      omega
    · have hf0 : (24 - x2.toInt) * 10 - 1 - x3.toInt < 0 := hm
      omega
  | succ m ih =>
    have q1 : (1 : Int32).toInt = 1 := rfl
    have q24 : (24 : Int32).toInt = 24 := rfl
    refine ⟨fun I x1 x2 C hW hF hL h1 a3 a4 a7 hm => ?_, fun I x1 x2 x3 C hW hF hL h1 a3 a4 a5 a6 a9 hm => ?_⟩
    · refine rX12_findComing_4 ht ⟨fun hx => ?_, fun hx => ?_⟩
      · have hx := Int32.le_iff_toInt_le.mp hx
        rw [show 24 - x2.toInt.toNat = 0 by omega] at a7
        have a7 : C ++ [] = R := a7
        rw [List.append_nil] at a7
        rw [← a7] at hK
        exact hK I hW hF hL
      · have hx := mt Int32.le_iff_toInt_le.mpr hx
        rw [show 24 - x2.toInt.toNat = (23 - x2.toInt.toNat) + 1 by omega] at a7
        have e : coA hr N ((23 - x2.toInt.toNat) + 1) x2.toInt.toNat = cof hr x2 (N - (0 : Int32).toInt.toNat) (0 : Int32).toInt.toNat ++ coA hr N (23 - x2.toInt.toNat) (x2.toInt.toNat + 1) := by
          show cof hr (Int32.ofNat x2.toInt.toNat) N 0 ++ _ = _
          rw [← i32_ofNat a3]
          rfl
        rw [e] at a7
        exact ih.2 I x1 x2 0 C hW hF hL h1 a3 (by omega) (by decide) (by show (0 : Int) ≤ _; omega) a7 (by show _ - 1 - (0 : Int) < _; omega)
    · have e3 := i32_add x3 1 (by omega) (by omega)
      have e2 := i32_add x2 1 (by omega) (by omega)
      have n3 := tn_eq x3
      have n1 := tn_eq x1
      have h10' : (I t 10).toInt = (N : Int) := by rw [hF t 10 (by omega)]; exact h10
      refine rX12_findComing_12 ht ⟨fun hx => ?_, fun hx => ⟨vp_of (by omega) (by have := mt Int32.le_iff_toInt_le.mpr hx; omega), ?_⟩⟩
      · have hx := Int32.le_iff_toInt_le.mp hx
        rw [show N - x3.toInt.toNat = 0 by omega] at a9
        have e : cof hr x2 0 x3.toInt.toNat ++ coA hr N (23 - x2.toInt.toNat) (x2.toInt.toNat + 1) = coA hr N (24 - (x2 + 1).toInt.toNat) (x2 + 1).toInt.toNat := by
          rw [show 24 - (x2 + 1).toInt.toNat = 23 - x2.toInt.toNat by omega, show (x2 + 1).toInt.toNat = x2.toInt.toNat + 1 by omega]
          rfl
        rw [e] at a9
        exact ih.1 I x1 (x2 + 1) C hW hF hL h1 (by omega) (by omega) a9 (by omega)
      · have hx := mt Int32.le_iff_toInt_le.mpr hx
        have eh : I (t + 18) (Int32.toNatClampNeg x3) = hr x3.toInt.toNat := by rw [hF (t + 18) _ (by omega)]; exact hh x3.toInt.toNat (by omega)
        rw [eh]
        have ec : cof hr x2 (N - x3.toInt.toNat) x3.toInt.toNat = if hr x3.toInt.toNat = x2 then x3.toInt.toNat :: cof hr x2 (N - (x3 + 1).toInt.toNat) (x3 + 1).toInt.toNat else cof hr x2 (N - (x3 + 1).toInt.toNat) (x3 + 1).toInt.toNat := by
          rw [show N - x3.toInt.toNat = (N - (x3 + 1).toInt.toNat) + 1 by omega, show (x3 + 1).toInt.toNat = x3.toInt.toNat + 1 by omega]
          rfl
        refine ⟨fun hv => ?_, fun hv => ?_⟩
        · rw [ec, if_neg hv] at a9
          exact ih.2 I x1 x2 (x3 + 1) C hW hF hL h1 a3 a4 (by omega) (by omega) a9 (by omega)
        · rw [ec, if_pos hv, List.cons_append] at a9
          have hlen : C.length + 1 ≤ R.length := by
            rw [← a9, List.length_append, List.length_cons]
            omega
          have e1 := i32_add x1 1 (by omega) (by omega)
          have hw := WM_f hW
          refine ⟨vp_of (by omega) (by omega), ?_⟩
          refine ih.2 _ (x1 + 1) x2 (x3 + 1) (C ++ [x3.toInt.toNat]) (WM_uI hW (by first | exact okMo (by decide) (by decide) (by decide) (by decide) (by decide) | exact okMf (by decide) (by decide) (by decide) (by decide) (by decide) (by decide) (by decide) (by decide) | exact okM30 (by omega) | exact okM42 (by omega) | exact okM33 (by omega) | exact okM10 (by omega) | exact okM8 (by omega) | exact okM22 (by omega) | exact okM24 (by omega) | exact okM14 (by omega) | exact okMa31 (by omega) | exact okMa35 (by omega) | exact okMa36 (by omega) | exact okMa3 (by omega) | exact okMr (by omega) | (unfold okM; refine ⟨?_, ?_, ?_, ?_, ?_, ?_, ?_, ?_, ?_, ?_, ?_, ?_⟩ <;> intro h <;> omega))) (Fr_uI hF rfl) ?_ ?_ a3 a4 (by omega) (by omega) ?_ (by omega)
          · rw [List.map_append]
            have e := LiS_push (b := t + 31) (x := x3) hL (show Int32.toNatClampNeg x1 = (C.map Int32.ofNat).length by rw [List.length_map]; omega)
            have ex : [x3.toInt.toNat].map Int32.ofNat = [x3] := by
              show [Int32.ofNat x3.toInt.toNat] = [x3]
              rw [← i32_ofNat a5]
            rw [ex]
            exact e
          · rw [List.length_append]
            show _ = ((C.length + 1 : Nat) : Int)
            omega
          · rw [List.append_assoc]
            exact a9
theorem pX12_findComing {G : jdG} {n : Nat} {Z : jdL} {J : jdJ} {K : jdI → jdJ → Prop} {I : jdI} {t N : Nat} {hr : Nat → Int32} (ht : zModel Z t) (hW : WM 7 t I) (hN : N ≤ 7) (h10 : (I t 10).toInt = (N : Int)) (hh : ∀ p, p < N → I (t + 18) p = hr p) (hhr : ∀ p, p < N → 0 ≤ (hr p).toInt ∧ (hr p).toInt < 24) (hK : ∀ I2, WM 7 t I2 → Fr (fun a _ => a = t + 31) I I2 → LiS I2 (t + 31) ((coA hr N 24 0).map Int32.ofNat) → K I2 J) : Cl G mX12_findComing n 0 0 [.ref (gb G + t)] Z I J (qv Z K) := by
  have hl := coA_len hr N hhr
  refine eX12_findComing ht ?_
  exact (pX12_findComing_l ht hN h10 hh (by omega) hK 241).1 I 0 0 [] hW Fr.rf (LiS_nil _ _) rfl (by decide) (by decide) rfl (by decide)
/-! the model's day -/
/-- what stays all day: people, seats, strangers, costs, hours, the order of coming -/
def GS (I : jdI) (t N st : Nat) (rel : Nat → Nat → Bool) (c hr : Nat → Int32) (C : List Nat) : Prop := GM I t N st rel ∧ (∀ p, p < N → I (t + 19) p = c p) ∧ (∀ p, p < N → I (t + 18) p = hr p) ∧ LiS I (t + 31) (C.map Int32.ofNat)
theorem GS_fr {I I2 : jdI} {t N st : Nat} {rel : Nat → Nat → Bool} {c hr : Nat → Int32} {C : List Nat} {p : Nat → Nat → Prop} (h : GS I t N st rel c hr C) (hN : N ≤ 8) (hF : Fr p I I2) (hp : ∀ a k, p a k → (a = t ∧ (k = 30 ∨ k = 33 ∨ k = 34)) ∨ (t + 30 ≤ a ∧ a ≤ t + 33 ∧ ¬ a = t + 31)) : GS I2 t N st rel c hr C :=
  ⟨GM_fr h.1 hN hF (fun q => by have := hp _ _ q; omega) (fun q => by have := hp _ _ q; omega) (fun a k h1 h2 q => by have := hp _ _ q; omega), fun i hi => by rw [hF (t + 19) i (fun q => by have := hp _ _ q; omega)]; exact h.2.1 i hi, fun i hi => by rw [hF (t + 18) i (fun q => by have := hp _ _ q; omega)]; exact h.2.2.1 i hi, LiS_fr h.2.2.2 hF (fun k q => by have := hp _ _ q; omega)⟩
def DMd (I : jdI) (t : Nat) (S : List (Int32 × Int32)) : Prop := (I t 33).toInt = (S.length : Int) ∧ LiS I (t + 32) (S.map Prod.fst)
theorem DMd_fr {I I2 : jdI} {t : Nat} {S : List (Int32 × Int32)} {p : Nat → Nat → Prop} (h : DMd I t S) (hF : Fr p I I2) (h1 : ¬ p t 33) (h2 : ∀ k, ¬ p (t + 32) k) : DMd I2 t S := ⟨by rw [hF t 33 h1]; exact h.1, LiS_fr h.2 hF h2⟩
/-- what one has waited behind these coaches, x before -/
def wtv (c hr : Nat → Int32) (p : Nat) : List (Int32 × Int32) → Int32 → Int32
  | [], x => x
  | a :: S, x => wtv c hr p S (if bt a.1 p = true then c p * (a.2 - hr p) else x)
theorem wtv_app (c hr : Nat → Int32) (p : Nat) (g h : Int32) : ∀ (S : List (Int32 × Int32)) (x : Int32), wtv c hr p (S ++ [(g, h)]) x = if bt g p = true then c p * (h - hr p) else wtv c hr p S x
  | [], _ => rfl
  | _ :: S, _ => wtv_app c hr p g h S _
def WTD (X : Nat → Int32) (I : jdI) (t N : Nat) (c hr : Nat → Int32) (S : List (Int32 × Int32)) : Prop := ∀ p, p < N → I (t + 33) p = wtv c hr p S (X p)
theorem WTD_fr {X : Nat → Int32} {I I2 : jdI} {t N : Nat} {c hr : Nat → Int32} {S : List (Int32 × Int32)} {p : Nat → Nat → Prop} (h : WTD X I t N c hr S) (hF : Fr p I I2) (h1 : ∀ k, ¬ p (t + 33) k) : WTD X I2 t N c hr S := fun q hq => by
  rw [hF (t + 33) q (h1 q)]
  exact h q hq
/-- the row b has been written ahead of x -/
def RW (I0 I : jdI) (b : Nat) (F : Nat → Int32) (x : Int) : Prop := (∀ p : Nat, (p : Int) < x → I b p = F p) ∧ ∀ p : Nat, x ≤ (p : Int) → I b p = I0 b p
theorem RW_s {I0 I : jdI} {b : Nat} {F : Nat → Int32} {x v : Int32} (h : RW I0 I b F x.toInt) (h0 : 0 ≤ x.toInt) (e : (x + 1).toInt = x.toInt + 1) (hv : v = F x.toInt.toNat) : RW I0 (uI I b (Int32.toNatClampNeg x) v) b F (x + 1).toInt := by
  have n1 := tn_eq x
  refine ⟨fun p hp => ?_, fun p hp => ?_⟩
  · rw [uI_ap]
    by_cases c : p = Int32.toNatClampNeg x
    · rw [if_pos ⟨rfl, c⟩, hv, c]
      rfl
    · rw [if_neg (fun z => c z.2)]
      exact h.1 p (by omega)
  · rw [uI_ap, if_neg (by omega)]
    exact h.2 p (by omega)
theorem pX12_goesBy_195 {G : jdG} {n rc rs : Nat} {Z : jdL} {J : jdJ} {K : jdI → jdJ → Prop} {I0 : jdI} {t N : Nat} {c hr F : Nat → Int32} {x1 x2 x3 : Int32} (ht : zModel Z t) (hN : N ≤ 7) (h10 : (I0 t 10).toInt = (N : Int)) (hcs : ∀ p, p < N → I0 (t + 19) p = c p) (hh : ∀ p, p < N → I0 (t + 18) p = hr p) (hF0 : ∀ p, F p = if bt x3 p = true then c p * (24 - hr p) else I0 (t + 33) p) (hE : ∀ I2, WM 7 t I2 → Fr (fun a _ => a = t + 33) I0 I2 → (∀ p, p < N → I2 (t + 33) p = F p) → K I2 J) : ∀ f : Nat, ∀ (I : jdI) (x4 : Int32), WM 7 t I → Fr (fun a _ => a = t + 33) I0 I → RW I0 I (t + 33) F x4.toInt → 0 ≤ x4.toInt → x4.toInt + (f : Int) = (N : Int) → Jd G mX12_goesBy (jdFm G (qv Z K)) (n + 1) rc rs 195 [(0, .ref (gb G + t)), (1, .int x1), (2, .int x2), (3, .int x3), (4, .int x4)] [] Z I J := by
  intro f
  induction f with
  | zero =>
    intro I x4 hW hF hR h4 hf
    have e10 : (I t 10).toInt = (N : Int) := by rw [hF t 10 (by omega)]; exact h10
    exact rX12_goesBy_195 ht ⟨fun _ => hE I hW hF (fun p hp => hR.1 p (by omega)), fun hx => absurd (Int32.le_iff_toInt_le.mpr (by omega)) hx⟩
  | succ f ih =>
    intro I x4 hW hF hR h4 hf
    have e10 : (I t 10).toInt = (N : Int) := by rw [hF t 10 (by omega)]; exact h10
    have q1 : (1 : Int32).toInt = 1 := rfl
    have q0 : (0 : Int32).toInt = 0 := rfl
    have e4 := i32_add x4 1 (by omega) (by omega)
    have n4 := tn_eq x4
    have hw := WM_f hW
    have b4 := bt_iff x3 (x := x4) h4
    refine rX12_goesBy_195 ht ⟨fun hx => by have := Int32.le_iff_toInt_le.mp hx; omega, fun _ => ?_⟩
    refine sfX12_has trivial (fun v p => ⟨fun hv => ⟨vp_of (by omega) (by omega), vp_of (by omega) (by omega), ?_⟩, fun hv => ⟨vp_of (by omega) (by omega), vp_of (by omega) (by omega), vp_of (by omega) (by omega), ?_⟩⟩)
    · have hv := i0 hv
      have hb : ¬ bt x3 x4.toInt.toNat = true := fun z => b4.mp z (Int32.toInt_inj.mp (show _ = (0 : Int32).toInt by omega))
      refine ih _ (x4 + 1) (WM_uI hW (by first | exact okMo (by decide) (by decide) (by decide) (by decide) (by decide) | exact okMf (by decide) (by decide) (by decide) (by decide) (by decide) (by decide) (by decide) (by decide) | exact okM30 (by omega) | exact okM42 (by omega) | exact okM33 (by omega) | exact okM10 (by omega) | exact okM8 (by omega) | exact okM22 (by omega) | exact okM24 (by omega) | exact okM14 (by omega) | exact okMa31 (by omega) | exact okMa35 (by omega) | exact okMa36 (by omega) | exact okMa3 (by omega) | exact okMr (by omega) | (unfold okM; refine ⟨?_, ?_, ?_, ?_, ?_, ?_, ?_, ?_, ?_, ?_, ?_, ?_⟩ <;> intro h <;> omega))) (Fr_uI hF rfl) (RW_s hR h4 e4 ?_) (by omega) (by omega)
      rw [hF0, if_neg hb]
      exact hR.2 _ (by omega)
    · have hv := i1 hv
      have hb : bt x3 x4.toInt.toNat = true := b4.mpr (fun q => by rw [q] at p; omega)
      refine ih _ (x4 + 1) (WM_uI hW (by first | exact okMo (by decide) (by decide) (by decide) (by decide) (by decide) | exact okMf (by decide) (by decide) (by decide) (by decide) (by decide) (by decide) (by decide) (by decide) | exact okM30 (by omega) | exact okM42 (by omega) | exact okM33 (by omega) | exact okM10 (by omega) | exact okM8 (by omega) | exact okM22 (by omega) | exact okM24 (by omega) | exact okM14 (by omega) | exact okMa31 (by omega) | exact okMa35 (by omega) | exact okMa36 (by omega) | exact okMa3 (by omega) | exact okMr (by omega) | (unfold okM; refine ⟨?_, ?_, ?_, ?_, ?_, ?_, ?_, ?_, ?_, ?_, ?_, ?_⟩ <;> intro h <;> omega))) (Fr_uI hF rfl) (RW_s hR h4 e4 ?_) (by omega) (by omega)
      rw [hF0, if_pos hb, hF (t + 19) _ (by omega), hF (t + 18) _ (by omega), n4, hcs _ (by omega), hh _ (by omega)]
theorem pX12_goesBy_100 {G : jdG} {n rc rs : Nat} {Z : jdL} {J : jdJ} {K : jdI → jdJ → Prop} {I0 : jdI} {t N : Nat} {c hr F : Nat → Int32} {x1 x2 x3 x4 x5 x6 : Int32} (ht : zModel Z t) (hN : N ≤ 7) (h10 : (I0 t 10).toInt = (N : Int)) (hcs : ∀ p, p < N → I0 (t + 19) p = c p) (hh : ∀ p, p < N → I0 (t + 18) p = hr p) (hF0 : ∀ p, F p = if bt x6 p = true then c p * (x5 - hr p) else I0 (t + 33) p) (hE : ∀ I2, WM 7 t I2 → Fr (fun a _ => a = t + 33) I0 I2 → (∀ p, p < N → I2 (t + 33) p = F p) → Cl G mX12_sentBy n 0 0 [.ref (gb G + t), .int x1, .int x2, .int x3, .int (((I2 t 10) - 1) - x4)] Z I2 J (qi Z (fun v2 I1 J1 => Jd G mX12_goesBy (jdFm G (qv Z K)) (n + 1) rc rs 67 [(0, .ref (gb G + t)), (1, .int x1), (2, .int x2), (3, .int x3), (4, .int x4), (5, .int x5), (6, .int v2)] [] Z I1 J1))) : ∀ f : Nat, ∀ (I : jdI) (x7 : Int32), WM 7 t I → Fr (fun a _ => a = t + 33) I0 I → RW I0 I (t + 33) F x7.toInt → 0 ≤ x7.toInt → x7.toInt + (f : Int) = (N : Int) → Jd G mX12_goesBy (jdFm G (qv Z K)) (n + 1) rc rs 100 [(0, .ref (gb G + t)), (1, .int x1), (2, .int x2), (3, .int x3), (4, .int x4), (5, .int x5), (6, .int x6), (7, .int x7)] [] Z I J := by
  intro f
  induction f with
  | zero =>
    intro I x7 hW hF hR h7 hf
    have e10 : (I t 10).toInt = (N : Int) := by rw [hF t 10 (by omega)]; exact h10
    exact rX12_goesBy_100 ht ⟨fun _ => hE I hW hF (fun p hp => hR.1 p (by omega)), fun hx => absurd (Int32.le_iff_toInt_le.mpr (by omega)) hx⟩
  | succ f ih =>
    intro I x7 hW hF hR h7 hf
    have e10 : (I t 10).toInt = (N : Int) := by rw [hF t 10 (by omega)]; exact h10
    have q1 : (1 : Int32).toInt = 1 := rfl
    have q0 : (0 : Int32).toInt = 0 := rfl
    have e7 := i32_add x7 1 (by omega) (by omega)
    have n7 := tn_eq x7
    have hw := WM_f hW
    have b7 := bt_iff x6 (x := x7) h7
    refine rX12_goesBy_100 ht ⟨fun hx => by have := Int32.le_iff_toInt_le.mp hx; omega, fun _ => ?_⟩
    refine sfX12_has trivial (fun v p => ⟨fun hv => ⟨vp_of (by omega) (by omega), vp_of (by omega) (by omega), ?_⟩, fun hv => ⟨vp_of (by omega) (by omega), vp_of (by omega) (by omega), vp_of (by omega) (by omega), ?_⟩⟩)
    · have hv := i0 hv
      have hb : ¬ bt x6 x7.toInt.toNat = true := fun z => b7.mp z (Int32.toInt_inj.mp (show _ = (0 : Int32).toInt by omega))
      refine ih _ (x7 + 1) (WM_uI hW (by first | exact okMo (by decide) (by decide) (by decide) (by decide) (by decide) | exact okMf (by decide) (by decide) (by decide) (by decide) (by decide) (by decide) (by decide) (by decide) | exact okM30 (by omega) | exact okM42 (by omega) | exact okM33 (by omega) | exact okM10 (by omega) | exact okM8 (by omega) | exact okM22 (by omega) | exact okM24 (by omega) | exact okM14 (by omega) | exact okMa31 (by omega) | exact okMa35 (by omega) | exact okMa36 (by omega) | exact okMa3 (by omega) | exact okMr (by omega) | (unfold okM; refine ⟨?_, ?_, ?_, ?_, ?_, ?_, ?_, ?_, ?_, ?_, ?_, ?_⟩ <;> intro h <;> omega))) (Fr_uI hF rfl) (RW_s hR h7 e7 ?_) (by omega) (by omega)
      rw [hF0, if_neg hb]
      exact hR.2 _ (by omega)
    · have hv := i1 hv
      have hb : bt x6 x7.toInt.toNat = true := b7.mpr (fun q => by rw [q] at p; omega)
      refine ih _ (x7 + 1) (WM_uI hW (by first | exact okMo (by decide) (by decide) (by decide) (by decide) (by decide) | exact okMf (by decide) (by decide) (by decide) (by decide) (by decide) (by decide) (by decide) (by decide) | exact okM30 (by omega) | exact okM42 (by omega) | exact okM33 (by omega) | exact okM10 (by omega) | exact okM8 (by omega) | exact okM22 (by omega) | exact okM24 (by omega) | exact okM14 (by omega) | exact okMa31 (by omega) | exact okMa35 (by omega) | exact okMa36 (by omega) | exact okMa3 (by omega) | exact okMr (by omega) | (unfold okM; refine ⟨?_, ?_, ?_, ?_, ?_, ?_, ?_, ?_, ?_, ?_, ?_, ?_⟩ <;> intro h <;> omega))) (Fr_uI hF rfl) (RW_s hR h7 e7 ?_) (by omega) (by omega)
      rw [hF0, if_pos hb, hF (t + 19) _ (by omega), hF (t + 18) _ (by omega), n7, hcs _ (by omega), hh _ (by omega)]
theorem pX12_goesBy_67 {G : jdG} {n rc rs : Nat} {Z : jdL} {J : jdJ} {K : jdI → jdJ → Prop} {I0 : jdI} {t N st k : Nat} {rel : Nat → Nat → Bool} {c hr X : Nat → Int32} {C : List Nat} {x1 x2 x4 x5 : Int32} {T : List (Int32 × Int32)} {Y : Int32} (ht : zModel Z t) (hN : N ≤ 7) (hst : 0 < st ∧ st ≤ 4) (h4 : x4.toInt = (k : Int)) (hk : k < N)
    (hO : ∀ I2, WM 7 t I2 → Fr (fun a k => (a = t ∧ (k = 30 ∨ k = 33 ∨ k = 34)) ∨ (t + 30 ≤ a ∧ a ≤ t + 33 ∧ ¬ a = t + 31)) I0 I2 → GS I2 t N st rel c hr C → DMd I2 t T → WTD X I2 t N c hr T → Jd G mX12_goesBy (jdFm G (qv Z K)) (n + 259) rc rs 14 [(0, .ref (gb G + t)), (1, .int x1), (2, .int x2), (3, .int Y), (4, .int (x4 + 1))] [] Z I2 J) : ∀ j : Nat, ∀ (I : jdI) (y x6 : Int32) (S : List (Int32 × Int32)), WM 7 t I → Fr (fun a k => (a = t ∧ (k = 30 ∨ k = 33 ∨ k = 34)) ∨ (t + 30 ≤ a ∧ a ≤ t + 33 ∧ ¬ a = t + 31)) I0 I → GS I t N st rel c hr C → DMd I t S → WTD X I t N c hr S → 0 ≤ y.toInt → y.toInt ≤ 255 → cd y < j + 1 → S.length + cd y ≤ 7 → x6 = rule N rel c (DL rel N 0 st 0) x1.toInt x2 ((N : Int) - 1 - (k : Int)) y → S ++ ta (sa (rule N rel c (DL rel N 0 st 0) x1.toInt x2 ((N : Int) - 1 - (k : Int))) (j + 1) y).1 x5 = T → (sa (rule N rel c (DL rel N 0 st 0) x1.toInt x2 ((N : Int) - 1 - (k : Int))) (j + 1) y).2 = Y → Jd G mX12_goesBy (jdFm G (qv Z K)) (n + 259) rc rs 67 [(0, .ref (gb G + t)), (1, .int x1), (2, .int x2), (3, .int y), (4, .int x4), (5, .int x5), (6, .int x6)] [] Z I J := by
  have hG := GG_DL rel (N := N) (st := st) (by omega) hst.1
  generalize hL : DL rel N 0 st 0 = L at hG ⊢
  have hPK : PK L (rule N rel c L x1.toInt x2 ((N : Int) - 1 - (k : Int))) := fun y => pk_m N rel c L _ _ y _
  generalize hf : rule N rel c L x1.toInt x2 ((N : Int) - 1 - (k : Int)) = f at hPK ⊢
  intro j
  induction j with
  | zero =>
    intro I y x6 S hW hF hS hD hX h0 h1 hcd hsc h6 hT hY
    have y0 := cd_0 h0 h1 (by omega)
    have e0 : f y = 0 := by rw [y0]; exact pk_e hG hPK
    rw [sa_0 e0] at hT hY
    have hT : S ++ [] = T := hT
    have hY : y = Y := hY
    rw [List.append_nil] at hT
    rw [hT] at hD hX
    rw [hY]
    exact rX12_goesBy_67 ht ⟨fun _ => hO I hW hF hS hD hX, fun hx => absurd (h6.trans e0) hx⟩
  | succ j ih =>
    intro I y x6 S hW hF hS hD hX h0 h1 hcd hsc h6 hT hY
    have q1 : (1 : Int32).toInt = 1 := rfl
    have e10 := hS.1.1
    refine rX12_goesBy_67 ht ⟨fun hx => ?_, fun hx => ?_⟩
    · rw [sa_0 (h6.symm.trans hx)] at hT hY
      have hT : S ++ [] = T := hT
      have hY : y = Y := hY
      rw [List.append_nil] at hT
      rw [hT] at hD hX
      rw [hY]
      exact hO I hW hF hS hD hX
    · have hv : ¬ f y = 0 := fun z => hx (h6.trans z)
      have hm := (hPK y).elim (fun z => absurd z hv) id
      have r := dl_r (g := f y) h0
      have gg := hG _ hm.1
      have l := cd_dl hm.2 gg.1 gg.2
      have hw := WM_f hW
      obtain ⟨d1, d2⟩ := hD
      have n1 := tn_eq (I t 33)
      have e1 := i32_add (I t 33) 1 (by omega) (by omega)
      rw [sa_s hv] at hT hY
      refine ⟨vp_of (by omega) (by omega), ?_⟩
      rw [h6, xo_m1]
      show Jd G mX12_goesBy (jdFm G (qv Z K)) (n + 259) rc rs 100 [(0, .ref (gb G + t)), (1, .int x1), (2, .int x2), (3, .int (dl y (f y))), (4, .int x4), (5, .int x5), (6, .int (f y)), (7, .int 0)] [] Z (uI (uI I t 33 ((I t 33) + 1)) (t + 32) (Int32.toNatClampNeg (I t 33)) (f y)) J
      have w1 : WM 7 t (uI I t 33 ((I t 33) + 1)) := WM_uI hW (by first | exact okMo (by decide) (by decide) (by decide) (by decide) (by decide) | exact okMf (by decide) (by decide) (by decide) (by decide) (by decide) (by decide) (by decide) (by decide) | exact okM30 (by omega) | exact okM42 (by omega) | exact okM33 (by omega) | exact okM10 (by omega) | exact okM8 (by omega) | exact okM22 (by omega) | exact okM24 (by omega) | exact okM14 (by omega) | exact okMa31 (by omega) | exact okMa35 (by omega) | exact okMa36 (by omega) | exact okMa3 (by omega) | exact okMr (by omega) | (unfold okM; refine ⟨?_, ?_, ?_, ?_, ?_, ?_, ?_, ?_, ?_, ?_, ?_, ?_⟩ <;> intro h <;> omega))
      have w2 : WM 7 t (uI (uI I t 33 ((I t 33) + 1)) (t + 32) (Int32.toNatClampNeg (I t 33)) (f y)) := WM_uI w1 (by first | exact okMo (by decide) (by decide) (by decide) (by decide) (by decide) | exact okMf (by decide) (by decide) (by decide) (by decide) (by decide) (by decide) (by decide) (by decide) | exact okM30 (by omega) | exact okM42 (by omega) | exact okM33 (by omega) | exact okM10 (by omega) | exact okM8 (by omega) | exact okM22 (by omega) | exact okM24 (by omega) | exact okM14 (by omega) | exact okMa31 (by omega) | exact okMa35 (by omega) | exact okMa36 (by omega) | exact okMa3 (by omega) | exact okMr (by omega) | (unfold okM; refine ⟨?_, ?_, ?_, ?_, ?_, ?_, ?_, ?_, ?_, ?_, ?_, ?_⟩ <;> intro h <;> omega))
      have f2 : Fr (fun a k => (a = t ∧ k = 33) ∨ a = t + 32) I (uI (uI I t 33 ((I t 33) + 1)) (t + 32) (Int32.toNatClampNeg (I t 33)) (f y)) := Fr_uI (Fr_uI Fr.rf (by omega)) (by omega)
      have hlen : (S ++ [(f y, x5)]).length = S.length + 1 := by rw [List.length_append]; rfl
      have hD2 : DMd (uI (uI I t 33 ((I t 33) + 1)) (t + 32) (Int32.toNatClampNeg (I t 33)) (f y)) t (S ++ [(f y, x5)]) := by
        refine ⟨?_, ?_⟩
        · rw [uI_ap, if_neg (by omega), uI_ap, if_pos ⟨rfl, rfl⟩, hlen]
          omega
        · rw [List.map_append]
          exact LiS_push (I := uI I t 33 ((I t 33) + 1)) (b := t + 32) (x := f y) (fun k hk => by rw [uI_n _ _ _ (by omega)]; exact d2 k hk) (show Int32.toNatClampNeg (I t 33) = (S.map Prod.fst).length by rw [List.length_map]; omega)
      have hS2 := GS_fr hS (by omega) f2 (by intro a k h; omega)
      have hX2 := WTD_fr hX f2 (by intro k; omega)
      generalize (uI (uI I t 33 ((I t 33) + 1)) (t + 32) (Int32.toNatClampNeg (I t 33)) (f y)) = I1 at w2 f2 hD2 hS2 hX2 ⊢
      refine pX12_goesBy_100 (F := fun p => if bt (f y) p = true then c p * (x5 - hr p) else I1 (t + 33) p) ht hN hS2.1.1 hS2.2.1 hS2.2.2.1 (fun p => rfl) (fun I2 hW2 hF2 hR2 => ?_) N I1 0 w2 Fr.rf ⟨fun p hp => by have : (p : Int) < 0 := hp; omega, fun p _ => rfl⟩ (by decide) (by show (0 : Int) + _ = _; omega)
      have hS3 := GS_fr hS2 (by omega) hF2 (by intro a k h; omega)
      have g10 := hS3.1.1
      have s1 := i32_sub (I2 t 10) 1 (by omega) (by omega)
      have s2 := i32_sub ((I2 t 10) - 1) x4 (by omega) (by omega)
      have hX3 : WTD X I2 t N c hr (S ++ [(f y, x5)]) := fun p hp => by
        rw [hR2 p hp, wtv_app, ← hX2 p hp]
      refine pX12_sentBy ht hW2 hS3.1 (by omega) hst hS3.2.1 r.1 (by omega) (fun I3 hW3 hF3 => ?_)
      have hS4 := GS_fr hS3 (by omega) hF3 (by intro a k h; omega)
      have hD4 := DMd_fr (DMd_fr hD2 hF2 (by omega) (by intro k; omega)) hF3 (by omega) (by intro k; omega)
      have hX4 := WTD_fr hX3 hF3 (by intro k; omega)
      rw [hL, show (((I2 t 10) - 1) - x4).toInt = (N : Int) - 1 - (k : Int) by omega]
      refine ih I3 (dl y (f y)) _ (S ++ [(f y, x5)]) hW3 (Fr.tr (Fr.tr (Fr.tr hF f2 (by intro a k h; omega)) hF2 (by intro a k h; omega)) hF3 (by intro a k h; omega)) hS4 hD4 hX4 r.1 (by omega) (by omega) (by rw [hlen]; omega) (by rw [← hf]; rfl) ?_ hY
      rw [List.append_assoc]
      exact hT
theorem cdN_le (y : Int32) : ∀ k, cdN y k ≤ k
  | 0 => Nat.le_refl _
  | k + 1 => by
    have h := cdN_le y k
    show cdN y k + (if bt y k = true then 1 else 0) ≤ k + 1
    split <;> omega
theorem cd_8 (y : Int32) : cd y ≤ 8 := cdN_le y 8
theorem cof_mem (hr : Nat → Int32) (h : Int32) : ∀ k p q, q ∈ cof hr h k p → q < p + k
  | 0, p, q, hq => by cases hq
  | k + 1, p, q, hq => by
    have hq : q ∈ (if hr p = h then p :: cof hr h k (p + 1) else cof hr h k (p + 1)) := hq
    by_cases c : hr p = h
    · rw [if_pos c] at hq
      rcases List.mem_cons.mp hq with e | e
      · omega
      · have := cof_mem hr h k (p + 1) q e
        omega
    · rw [if_neg c] at hq
      have := cof_mem hr h k (p + 1) q hq
      omega
theorem coA_mem (hr : Nat → Int32) (n : Nat) : ∀ k h q, q ∈ coA hr n k h → q < n
  | 0, h, q, hq => by cases hq
  | k + 1, h, q, hq => by
    have hq : q ∈ cof hr (Int32.ofNat h) n 0 ++ coA hr n k (h + 1) := hq
    rcases List.mem_append.mp hq with e | e
    · have := cof_mem hr (Int32.ofNat h) n 0 q e
      omega
    · exact coA_mem hr n k (h + 1) q e
theorem pX12_goesBy_14 {G : jdG} {n rc rs : Nat} {Z : jdL} {J : jdJ} {K : jdI → jdJ → Prop} {I0 : jdI} {t N st : Nat} {rel : Nat → Nat → Bool} {c hr X : Nat → Int32} {C : List Nat} {x1 x2 : Int32} {R : List (Int32 × Int32)} {Y : Int32} (ht : zModel Z t) (hN : N ≤ 7) (hst : 0 < st ∧ st ≤ 4) (hC : C.length = N) (hCm : ∀ q ∈ C, q < N) (hK : ∀ I2, WM 7 t I2 → Fr (fun a k => (a = t ∧ (k = 30 ∨ k = 33 ∨ k = 34)) ∨ (t + 30 ≤ a ∧ a ≤ t + 33 ∧ ¬ a = t + 31)) I0 I2 → GS I2 t N st rel c hr C → DMd I2 t R → I2 t 34 = Y → (∀ p, p < N → I2 (t + 33) p = if bt Y p = true then c p * (24 - hr p) else wtv c hr p R (X p)) → K I2 J) : ∀ f : Nat, ∀ (I : jdI) (x4 y : Int32) (k : Nat) (S : List (Int32 × Int32)), WM 7 t I → Fr (fun a k => (a = t ∧ (k = 30 ∨ k = 33 ∨ k = 34)) ∨ (t + 30 ≤ a ∧ a ≤ t + 33 ∧ ¬ a = t + 31)) I0 I → GS I t N st rel c hr C → DMd I t S → WTD X I t N c hr S → 0 ≤ y.toInt → y.toInt < 2 ^ N → x4.toInt = (k : Int) → k + f = N → S.length + cd y + f ≤ 7 → dy (rule N rel c (DL rel N 0 st 0) x1.toInt x2) hr (C.drop k) ((N : Int) - (k : Int)) S y = (R, Y) → Jd G mX12_goesBy (jdFm G (qv Z K)) (n + 259) rc rs 14 [(0, .ref (gb G + t)), (1, .int x1), (2, .int x2), (3, .int y), (4, .int x4)] [] Z I J := by
  have hp2 := pw2 ⟨N, by omega⟩
  have hp2 : 1 ≤ (2 : Int) ^ N ∧ (2 : Int) ^ N ≤ 256 := hp2
  intro f
  induction f with
  | zero =>
    intro I x4 y k S hW hF hS hD hX h0 h1 h4 hk hsc hr2
    have e10 := hS.1.1
    have hw := WM_f hW
    rw [List.drop_eq_nil_of_le (show C.length ≤ k by omega)] at hr2
    have hr2 : (S, y) = (R, Y) := hr2
    injection hr2 with b1 b2
    refine rX12_goesBy_14 ht ⟨fun _ => ?_, fun hx => absurd (Int32.le_iff_toInt_le.mpr (by omega)) hx⟩
    have f0 : Fr (fun a k => a = t ∧ k = 34) I (uI I t 34 y) := Fr_uI Fr.rf ⟨rfl, rfl⟩
    have hS2 := GS_fr hS (by omega) f0 (by intro a k h; omega)
    have hD2 := DMd_fr hD f0 (by omega) (by intro k; omega)
    have hX2 := WTD_fr hX f0 (by intro k; omega)
    have w1 : WM 7 t (uI I t 34 y) := WM_uI hW (by first | exact okMo (by decide) (by decide) (by decide) (by decide) (by decide) | exact okMf (by decide) (by decide) (by decide) (by decide) (by decide) (by decide) (by decide) (by decide) | exact okM30 (by omega) | exact okM42 (by omega) | exact okM33 (by omega) | exact okM10 (by omega) | exact okM8 (by omega) | exact okM22 (by omega) | exact okM24 (by omega) | exact okM14 (by omega) | exact okMa31 (by omega) | exact okMa35 (by omega) | exact okMa36 (by omega) | exact okMa3 (by omega) | exact okMr (by omega) | (unfold okM; refine ⟨?_, ?_, ?_, ?_, ?_, ?_, ?_, ?_, ?_, ?_, ?_, ?_⟩ <;> intro h <;> omega))
    have z34 : (uI I t 34 y) t 34 = y := by rw [uI_ap, if_pos ⟨rfl, rfl⟩]
    generalize (uI I t 34 y) = I1 at f0 hS2 hD2 hX2 w1 z34 ⊢
    refine pX12_goesBy_195 (F := fun p => if bt y p = true then c p * (24 - hr p) else I1 (t + 33) p) ht hN hS2.1.1 hS2.2.1 hS2.2.2.1 (fun p => rfl) (fun I2 hW2 hF2 hR2 => ?_) N I1 0 w1 Fr.rf ⟨fun p hp => by have : (p : Int) < 0 := hp; omega, fun p _ => rfl⟩ (by decide) (by show (0 : Int) + _ = _; omega)
    rw [← b1, ← b2] at hK
    refine hK I2 hW2 (Fr.tr (Fr.tr hF f0 (by intro a k h; omega)) hF2 (by intro a k h; omega)) (GS_fr hS2 (by omega) hF2 (by intro a k h; omega)) (DMd_fr hD2 hF2 (by omega) (by intro k; omega)) (by rw [hF2 t 34 (by omega)]; exact z34) (fun p hp => ?_)
    rw [hR2 p hp, ← hX2 p hp]
  | succ f ih =>
    intro I x4 y k S hW hF hS hD hX h0 h1 h4 hk hsc hr2
    have e10 := hS.1.1
    have hw := WM_f hW
    have q1 : (1 : Int32).toInt = 1 := rfl
    have n4 := tn_eq x4
    have hkC : k < C.length := by omega
    have e4 := i32_add x4 1 (by omega) (by omega)
    have s1 := i32_sub (I t 10) 1 (by omega) (by omega)
    have s2 := i32_sub ((I t 10) - 1) x4 (by omega) (by omega)
    have hpN := hCm _ (List.getElem_mem hkC)
    have hv : I (t + 31) (Int32.toNatClampNeg x4) = Int32.ofNat C[k] := by
      have e := hS.2.2.2 k (by rw [List.length_map]; exact hkC)
      rw [List.getElem?_map, List.getElem?_eq_getElem hkC] at e
      injection e with e
      rw [show Int32.toNatClampNeg x4 = k by omega]
      exact e.symm
    rw [List.drop_eq_getElem_cons hkC] at hr2
    generalize C[k] = p at hpN hv hr2
    have hr2 : dy (rule N rel c (DL rel N 0 st 0) x1.toInt x2) hr (C.drop (k + 1)) ((N : Int) - (k : Int) - 1) (S ++ ta (sa (rule N rel c (DL rel N 0 st 0) x1.toInt x2 ((N : Int) - (k : Int) - 1)) 8 (y ||| ((1 : Int32) <<< (Int32.ofNat p &&& 31)))).1 (hr p)) (sa (rule N rel c (DL rel N 0 st 0) x1.toInt x2 ((N : Int) - (k : Int) - 1)) 8 (y ||| ((1 : Int32) <<< (Int32.ofNat p &&& 31)))).2 = (R, Y) := hr2
    have hpi : (Int32.ofNat p).toInt = (p : Int) := ofN_i (by omega)
    have hy2 := yard_p (y := y) (x := Int32.ofNat p) (N := N) (by omega) h0 h1 (by omega) (by omega)
    have hcd := cd_or (y := y) (x := Int32.ofNat p) ⟨by omega, by omega⟩
    have eh : I (t + 18) (Int32.toNatClampNeg (Int32.ofNat p)) = hr p := by
      rw [show Int32.toNatClampNeg (Int32.ofNat p) = p by have := tn_eq (Int32.ofNat p); omega]
      exact hS.2.2.1 p hpN
    have etc : (N : Int) - (k : Int) - 1 = (N : Int) - 1 - (k : Int) := by omega
    refine rX12_goesBy_14 ht ⟨fun hx => by have := Int32.le_iff_toInt_le.mp hx; omega, fun _ => ⟨vp_of (by omega) (by omega), vp_of (by omega) (by omega), by rw [hv]; exact vp_of (by omega) (by omega), ?_⟩⟩
    rw [hv, eh]
    generalize hyy : y ||| ((1 : Int32) <<< (Int32.ofNat p &&& 31)) = yy at hr2 hy2 hcd ⊢
    refine pX12_sentBy ht hW hS.1 (by omega) hst hS.2.1 hy2.1 (by omega) (fun I4 hW4 hF4 => ?_)
    have hG := GG_DL rel (N := N) (st := st) (by omega) hst.1
    have hPK : PK (DL rel N 0 st 0) (rule N rel c (DL rel N 0 st 0) x1.toInt x2 ((N : Int) - 1 - (k : Int))) := fun y => pk_m N rel c _ _ _ y _
    have sc := sa_cd hG hPK 8 yy hy2.1 (by omega)
    rw [show (((I t 10) - 1) - x4).toInt = (N : Int) - 1 - (k : Int) by omega]
    rw [etc] at hr2
    have c8 : cd yy ≤ 8 := cd_8 yy
    refine pX12_goesBy_67 (T := S ++ ta (sa (rule N rel c (DL rel N 0 st 0) x1.toInt x2 ((N : Int) - 1 - (k : Int))) 8 yy).1 (hr p)) (Y := (sa (rule N rel c (DL rel N 0 st 0) x1.toInt x2 ((N : Int) - 1 - (k : Int))) 8 yy).2) ht hN hst h4 (by omega) (fun I2 hW2 hF2 hS2 hD2 hX2 => ?_) 7 I4 yy _ S hW4 (Fr.tr hF hF4 (by intro a k h; omega)) (GS_fr hS (by omega) hF4 (by intro a k h; omega)) (DMd_fr hD hF4 (by omega) (by intro k; omega)) (WTD_fr hX hF4 (by intro k; omega)) hy2.1 (by omega) (by omega) (by omega) rfl rfl rfl
    refine ih I2 (x4 + 1) _ (k + 1) _ hW2 hF2 hS2 hD2 hX2 sc.2.1 (by omega) (by omega) (by omega) ?_ ?_
    · rw [List.length_append]
      unfold ta
      rw [List.length_map]
      omega
    · rw [show (N : Int) - ((k + 1 : Nat) : Int) = (N : Int) - 1 - (k : Int) by omega]
      exact hr2
theorem pX12_goesBy {G : jdG} {n : Nat} {Z : jdL} {J : jdJ} {K : jdI → jdJ → Prop} {I : jdI} {t N st : Nat} {rel : Nat → Nat → Bool} {c hr : Nat → Int32} {x1 x2 : Int32} (ht : zModel Z t) (hW : WM 7 t I) (hN : N ≤ 7) (hst : 0 < st ∧ st ≤ 4) (hg : GM I t N st rel) (hcs : ∀ p, p < N → I (t + 19) p = c p) (hh : ∀ p, p < N → I (t + 18) p = hr p) (hhr : ∀ p, p < N → 0 ≤ (hr p).toInt ∧ (hr p).toInt < 24) (hK : ∀ I2, WM 7 t I2 → Fr (fun a k => (a = t ∧ (k = 30 ∨ k = 33 ∨ k = 34)) ∨ (t + 30 ≤ a ∧ a ≤ t + 33)) I I2 → DMd I2 t (dy (rule N rel c (DL rel N 0 st 0) x1.toInt x2) hr (coA hr N 24 0) (N : Int) [] 0).1 → I2 t 34 = (dy (rule N rel c (DL rel N 0 st 0) x1.toInt x2) hr (coA hr N 24 0) (N : Int) [] 0).2 → (∀ p, p < N → I2 (t + 33) p = if bt (dy (rule N rel c (DL rel N 0 st 0) x1.toInt x2) hr (coA hr N 24 0) (N : Int) [] 0).2 p = true then c p * (24 - hr p) else wtv c hr p (dy (rule N rel c (DL rel N 0 st 0) x1.toInt x2) hr (coA hr N 24 0) (N : Int) [] 0).1 (I (t + 33) p)) → K I2 J) : Cl G mX12_goesBy (n + 259) 0 0 [.ref (gb G + t), .int x1, .int x2] Z I J (qv Z K) := by
  have hl := coA_len hr N hhr
  have q0 : (0 : Int32).toInt = 0 := rfl
  have hp2 : 1 ≤ (2 : Int) ^ N := (pw2 ⟨N, by omega⟩).1
  refine eX12_goesBy ht ?_
  refine pX12_findComing ht hW hN hg.1 hh hhr (fun I1 hW1 hF1 hL1 => ?_)
  have hw1 := WM_f hW1
  have f0 : Fr (fun a k => a = t ∧ k = 33) I1 (uI I1 t 33 0) := Fr_uI Fr.rf ⟨rfl, rfl⟩
  have w1 : WM 7 t (uI I1 t 33 0) := WM_uI hW1 (by first | exact okMo (by decide) (by decide) (by decide) (by decide) (by decide) | exact okMf (by decide) (by decide) (by decide) (by decide) (by decide) (by decide) (by decide) (by decide) | exact okM30 (by omega) | exact okM42 (by omega) | exact okM33 (by omega) | exact okM10 (by omega) | exact okM8 (by omega) | exact okM22 (by omega) | exact okM24 (by omega) | exact okM14 (by omega) | exact okMa31 (by omega) | exact okMa35 (by omega) | exact okMa36 (by omega) | exact okMa3 (by omega) | exact okMr (by omega) | (unfold okM; refine ⟨?_, ?_, ?_, ?_, ?_, ?_, ?_, ?_, ?_, ?_, ?_, ?_⟩ <;> intro h <;> omega))
  have hS1 : GS I1 t N st rel c hr (coA hr N 24 0) := ⟨GM_fr hg (by omega) hF1 (by omega) (by omega) (by intro a k h1 h2; omega), fun p hp => by rw [hF1 (t + 19) p (by omega)]; exact hcs p hp, fun p hp => by rw [hF1 (t + 18) p (by omega)]; exact hh p hp, hL1⟩
  have hS2 := GS_fr hS1 (by omega) f0 (by intro a k h; omega)
  have z33 : ((uI I1 t 33 0) t 33).toInt = 0 := by rw [uI_ap, if_pos ⟨rfl, rfl⟩]; rfl
  have x33 : ∀ p, (uI I1 t 33 0) (t + 33) p = I (t + 33) p := fun p => by rw [f0 (t + 33) p (by omega), hF1 (t + 33) p (by omega)]
  generalize (uI I1 t 33 0) = I2 at f0 w1 hS2 z33 x33 ⊢
  have c0 : cd 0 = 0 := by decide
  refine pX12_goesBy_14 (X := I (t + 33)) (R := (dy (rule N rel c (DL rel N 0 st 0) x1.toInt x2) hr (coA hr N 24 0) (N : Int) [] 0).1) (Y := (dy (rule N rel c (DL rel N 0 st 0) x1.toInt x2) hr (coA hr N 24 0) (N : Int) [] 0).2) ht hN hst hl (fun q hq => coA_mem hr N 24 0 q hq) (fun I3 hW3 hF3 hS3 hD3 h34 hX3 => hK I3 hW3 (Fr.tr (Fr.tr (Fr.tr Fr.rf hF1 (by intro a k h; omega)) f0 (by intro a k h; omega)) hF3 (by intro a k h; omega)) hD3 h34 hX3) N I2 0 0 0 [] w1 Fr.rf hS2 ⟨z33, LiS_nil _ _⟩ (fun p _ => x33 p) (by decide) (by show (0 : Int) < _; omega) rfl (by omega) ?_ ?_
  · rw [c0]
    show 0 + 0 + N ≤ 7
    omega
  · rw [List.drop_zero, show (N : Int) - ((0 : Nat) : Int) = (N : Int) by omega]
