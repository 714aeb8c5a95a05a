/-! bits of sets -/
theorem sh_all : ∀ i : Fin 32, ((Int32.ofNat i.val &&& 31).toBitVec.smod 32).toNat = i.val := by decide +kernel
theorem bt_lsb (s : Int32) (i : Nat) (h : i < 32) : bt s i = s.toBitVec.getLsbD i := by
  have e := sh_all ⟨i, h⟩
  have e1 : (s >>> (Int32.ofNat i &&& 31)).toBitVec = s.toBitVec.sshiftRight i := by
    rw [Int32.toBitVec_shiftRight, BitVec.sshiftRight_eq', e]
  have gs : (s.toBitVec.sshiftRight i).getLsbD 0 = s.toBitVec.getLsbD i := by
    rw [BitVec.getLsbD_sshiftRight, if_pos (by omega)]
    simp
  have o0 : (1 : Int32).toBitVec.getLsbD 0 = true := by decide
  have oj : ∀ j, j < 32 → ¬ j = 0 → (1 : Int32).toBitVec.getLsbD j = false := by decide
  have e2 : (s >>> (Int32.ofNat i &&& 31) &&& 1) = 0 ↔ s.toBitVec.getLsbD i = false := by
    rw [← Int32.toBitVec_inj, Int32.toBitVec_and, e1]
    constructor
    · intro hz
      have g := congrArg (fun x : BitVec 32 => x.getLsbD 0) hz
      have g : (s.toBitVec.sshiftRight i &&& (1 : Int32).toBitVec).getLsbD 0 = (0 : Int32).toBitVec.getLsbD 0 := g
      rw [BitVec.getLsbD_and, gs, o0, Bool.and_true] at g
      rw [g]
      decide
    · intro hz
      apply BitVec.eq_of_getLsbD_eq
      intro j hj
      rw [BitVec.getLsbD_and]
      have z : (0 : Int32).toBitVec.getLsbD j = false := by
        show (0#32).getLsbD j = false
        simp
      rw [z]
      by_cases c : j = 0
      · subst c
        rw [gs, hz, Bool.false_and]
      · rw [oj j hj c, Bool.and_false]
  unfold bt
  cases g : s.toBitVec.getLsbD i with
  | false => rw [decide_eq_false_iff_not]; exact fun q => q (e2.mpr g)
  | true => rw [decide_eq_true_iff]; exact fun q => by rw [e2.mp q] at g; cases g
theorem bt_an (x y : Int32) (q : Nat) (h : q < 32) : bt (x &&& y) q = (bt x q && bt y q) := by
  rw [bt_lsb _ _ h, bt_lsb _ _ h, bt_lsb _ _ h, Int32.toBitVec_and, BitVec.getLsbD_and]
theorem bt_or (x y : Int32) (q : Nat) (h : q < 32) : bt (x ||| y) q = (bt x q || bt y q) := by
  rw [bt_lsb _ _ h, bt_lsb _ _ h, bt_lsb _ _ h, Int32.toBitVec_or, BitVec.getLsbD_or]
theorem bt_xo (x y : Int32) (q : Nat) (h : q < 32) : bt (x ^^^ y) q = (bt x q ^^ bt y q) := by
  rw [bt_lsb _ _ h, bt_lsb _ _ h, bt_lsb _ _ h, Int32.toBitVec_xor, BitVec.getLsbD_xor]
theorem bt_no (x : Int32) (q : Nat) (h : q < 32) : bt (~~~x) q = !(bt x q) := by
  rw [bt_lsb _ _ h, bt_lsb _ _ h, Int32.toBitVec_not, BitVec.getLsbD_not]
  simp [h]
theorem bt_ze (q : Nat) (h : q < 32) : bt 0 q = false := by
  rw [bt_lsb _ _ h]
  show (0#32).getLsbD q = false
  simp
theorem bt_all {a b : Int32} (h : ∀ i, i < 32 → bt a i = bt b i) : a = b := by
  apply Int32.toBitVec_inj.mp
  apply BitVec.eq_of_getLsbD_eq
  intro i hi
  have := h i hi
  rw [bt_lsb _ _ hi, bt_lsb _ _ hi] at this
  exact this
theorem bt_hi {x : Int32} (hx : 0 ≤ x.toInt ∧ x.toInt < 256) {i : Nat} (h8 : 8 ≤ i) (h : i < 32) : bt x i = false := by
  rw [bt_lsb _ _ h]
  have e := i32_nat x hx.1
  exact Nat.testBit_lt_two_pow (Nat.lt_of_lt_of_le (show x.toBitVec.toNat < 2 ^ 8 by omega) (Nat.pow_le_pow_right (by omega) h8))
theorem bt_ext {a b : Int32} (ha : 0 ≤ a.toInt ∧ a.toInt < 256) (hb : 0 ≤ b.toInt ∧ b.toInt < 256) (h : ∀ i, i < 8 → bt a i = bt b i) : a = b := bt_all (fun i hi => by
  by_cases c : i < 8
  · exact h i c
  · rw [bt_hi ha (by omega) hi, bt_hi hb (by omega) hi])
theorem bt_1a : ∀ p : Fin 8, ∀ q : Fin 8, bt ((1 : Int32) <<< (Int32.ofNat p.val &&& 31)) q.val = decide (q.val = p.val) := by decide +kernel
theorem bt_2a : ∀ p : Fin 8, ∀ q : Fin 8, bt (-((2 : Int32) <<< (Int32.ofNat p.val &&& 31))) q.val = decide (p.val < q.val) := by decide +kernel
theorem bt_ea : ∀ p : Fin 9, ∀ q : Fin 8, bt (((1 : Int32) <<< (Int32.ofNat p.val &&& 31)) - 1) q.val = decide (q.val < p.val) := by decide +kernel
theorem bt_1 {x : Int32} (h0 : 0 ≤ x.toInt ∧ x.toInt < 8) {q : Nat} (hq : q < 8) : bt ((1 : Int32) <<< (x &&& 31)) q = decide (q = x.toInt.toNat) := by
  have e := bt_1a ⟨x.toInt.toNat, by omega⟩ ⟨q, hq⟩
  rw [← i32_ofNat h0.1] at e
  exact e
theorem bt_2 {x : Int32} (h0 : 0 ≤ x.toInt ∧ x.toInt < 8) {q : Nat} (hq : q < 8) : bt (-((2 : Int32) <<< (x &&& 31))) q = decide (x.toInt.toNat < q) := by
  have e := bt_2a ⟨x.toInt.toNat, by omega⟩ ⟨q, hq⟩
  rw [← i32_ofNat h0.1] at e
  exact e
theorem bt_ev {x : Int32} (h0 : 0 ≤ x.toInt ∧ x.toInt ≤ 8) {q : Nat} (hq : q < 8) : bt (((1 : Int32) <<< (x &&& 31)) - 1) q = decide (q < x.toInt.toNat) := by
  have e := bt_ea ⟨x.toInt.toNat, by omega⟩ ⟨q, hq⟩
  rw [← i32_ofNat h0.1] at e
  exact e
/-! the groups, in order -/
def okN (rel : Nat → Nat → Bool) (s : Int32) (p j : Nat) : Bool := decide (∀ q, q < j → bt s q = true → rel p q = true)
theorem okN_0 (rel : Nat → Nat → Bool) (s : Int32) (p : Nat) : okN rel s p 0 = true := decide_eq_true (fun q h => absurd h (Nat.not_lt_zero _))
theorem okN_s (rel : Nat → Nat → Bool) (s : Int32) (p j : Nat) : okN rel s p (j + 1) = (okN rel s p j && (!(bt s j) || rel p j)) := by
  unfold okN
  cases hb : bt s j with
  | false =>
    rw [Bool.not_false, Bool.true_or, Bool.and_true]
    refine decide_eq_decide.mpr ⟨fun h q hq => h q (by omega), fun h q hq hs => ?_⟩
    by_cases c : q = j
    · rw [c, hb] at hs
      cases hs
    · exact h q (by omega) hs
  | true =>
    rw [Bool.not_true, Bool.false_or]
    cases hr : rel p j with
    | false =>
      rw [Bool.and_false]
      exact decide_eq_false (fun h => by have := h j (by omega) hb; rw [hr] at this; cases this)
    | true =>
      rw [Bool.and_true]
      refine decide_eq_decide.mpr ⟨fun h q hq => h q (by omega), fun h q hq hs => ?_⟩
      by_cases c : q = j
      · rw [c]
        exact hr
      · exact h q (by omega) hs
def DL (rel : Nat → Nat → Bool) : Nat → Nat → Nat → Int32 → List Int32
  | 0, _, m, s => if m = 0 then [s] else []
  | k + 1, p, m, s => if m = 0 then [s] else (if okN rel s p p = true then DL rel k (p + 1) (m - 1) (s ||| ((1 : Int32) <<< (Int32.ofNat p &&& 31))) else []) ++ DL rel k (p + 1) m s
theorem DL_m0 (rel : Nat → Nat → Bool) (k p : Nat) (s : Int32) : DL rel k p 0 s = [s] := by
  cases k with
  | zero => exact if_pos rfl
  | succ k => exact if_pos rfl
theorem DL_k0 (rel : Nat → Nat → Bool) (p m : Nat) (s : Int32) : DL rel 0 p (m + 1) s = [] := if_neg (by omega)
theorem DL_y {rel : Nat → Nat → Bool} {k p m : Nat} {s : Int32} (h : okN rel s p p = true) : DL rel (k + 1) p (m + 1) s = DL rel k (p + 1) m (s ||| ((1 : Int32) <<< (Int32.ofNat p &&& 31))) ++ DL rel k (p + 1) (m + 1) s := by
  show (if m + 1 = 0 then [s] else (if okN rel s p p = true then DL rel k (p + 1) (m + 1 - 1) (s ||| ((1 : Int32) <<< (Int32.ofNat p &&& 31))) else []) ++ DL rel k (p + 1) (m + 1) s) = _
  rw [if_neg (by omega), if_pos h]
  rfl
theorem DL_n {rel : Nat → Nat → Bool} {k p m : Nat} {s : Int32} (h : ¬ okN rel s p p = true) : DL rel (k + 1) p (m + 1) s = DL rel k (p + 1) (m + 1) s := by
  show (if m + 1 = 0 then [s] else (if okN rel s p p = true then DL rel k (p + 1) (m + 1 - 1) (s ||| ((1 : Int32) <<< (Int32.ofNat p &&& 31))) else []) ++ DL rel k (p + 1) (m + 1) s) = _
  rw [if_neg (by omega), if_neg h]
  rfl
/-- how many sets of m out of k there are -/
def cb : Nat → Nat → Nat
  | _, 0 => 1
  | 0, _ + 1 => 0
  | k + 1, m + 1 => cb k m + cb k (m + 1)
theorem DL_len (rel : Nat → Nat → Bool) : ∀ (k p m : Nat) (s : Int32), (DL rel k p m s).length ≤ cb k m
  | k, p, 0, s => by
    rw [DL_m0]
    cases k <;> exact Nat.le_refl _
  | 0, p, m + 1, s => by
    rw [DL_k0]
    exact Nat.zero_le _
  | k + 1, p, m + 1, s => by
    have h1 := DL_len rel k (p + 1) m (s ||| ((1 : Int32) <<< (Int32.ofNat p &&& 31)))
    have h2 := DL_len rel k (p + 1) (m + 1) s
    show _ ≤ cb k m + cb k (m + 1)
    by_cases c : okN rel s p p = true
    · rw [DL_y c, List.length_append]
      omega
    · rw [DL_n c]
      omega
theorem cb_70 : ∀ k : Fin 9, ∀ m : Fin 5, cb k.val m.val ≤ 70 := by decide +kernel
theorem cb_35 : ∀ k : Fin 8, ∀ m : Fin 5, cb k.val m.val ≤ 35 := by decide +kernel
/-- the list L stands in the cell b, from its first place on -/
def LiS (I : jdI) (b : Nat) (L : List Int32) : Prop := ∀ k, k < L.length → L[k]? = some (I b k)
theorem LiS_nil (I : jdI) (b : Nat) : LiS I b [] := fun k h => absurd h (Nat.not_lt_zero _)
theorem LiS_push {I : jdI} {b j : Nat} {L : List Int32} {x : Int32} (h : LiS I b L) (hj : j = L.length) : LiS (uI I b j x) b (L ++ [x]) := fun k hk => by
  rw [List.length_append] at hk
  have hk : k < L.length + 1 := hk
  rw [uI_ap]
  by_cases c : k = L.length
  · rw [if_pos ⟨rfl, by omega⟩, c, List.getElem?_append_right (Nat.le_refl _), Nat.sub_self]
    rfl
  · rw [if_neg (by omega), List.getElem?_append_left (by omega)]
    exact h k (by omega)
theorem LiS_fr {I I2 : jdI} {b : Nat} {L : List Int32} {p : Nat → Nat → Prop} (h : LiS I b L) (hF : Fr p I I2) (hp : ∀ k, ¬ p b k) : LiS I2 b L := fun k hk => by
  rw [hF b k (hp k)]
  exact h k hk
/-- the model at t: people, seats, and who are strangers -/
def GM (I : jdI) (t n st : Nat) (rel : Nat → Nat → Bool) : Prop := (I t 10).toInt = (n : Int) ∧ (I t 14).toInt = (st : Int) ∧ ∀ p q, p < n → q < n → p ≠ q → (I (t + 21 + p) q = -1 ↔ rel p q = true)
theorem GM_fr {I I2 : jdI} {t n st : Nat} {rel : Nat → Nat → Bool} {p : Nat → Nat → Prop} (h : GM I t n st rel) (hn : n ≤ 8) (hF : Fr p I I2) (h1 : ¬ p t 10) (h2 : ¬ p t 14) (h3 : ∀ a k, t + 21 ≤ a → a ≤ t + 28 → ¬ p a k) : GM I2 t n st rel := by
  refine ⟨by rw [hF t 10 h1]; exact h.1, by rw [hF t 14 h2]; exact h.2.1, fun a b ha hb hne => ?_⟩
  rw [hF (t + 21 + a) b (h3 _ _ (by omega) (by omega))]
  exact h.2.2 a b ha hb hne
theorem i01 {b : Bool} {x : Int32} (h : x = if b = true then 1 else 0) : (x &&& 1) = x ∧ (x &&& 0) = 0 ∧ (x = 0 ↔ b = false) := by
  rw [h]
  cases b <;> decide
theorem pX12_listFrom_44 {G : jdG} {n rc rs : Nat} {Z : jdL} {J : jdJ} {K : jdI → jdJ → Prop} {I : jdI} {t N st p : Nat} {rel : Nat → Nat → Bool} {x1 x2 x3 x4 : Int32} (ht : zModel Z t) (hg : GM I t N st rel) (hN : N ≤ 8) (hp : p < N) (h4 : x4.toInt = (p : Int)) (h0 : okN rel x1 p p = false → Jd G mX12_listFrom (jdFm G (qv Z K)) (n + 1) rc rs 29 [(0, .ref (gb G + t)), (1, .int x1), (2, .int x2), (3, .int x3), (4, .int (x4 + 1))] [] Z I J) (h1 : okN rel x1 p p = true → Cl G mX12_listFrom n 0 0 [.ref (gb G + t), .int (x1 ||| (1 <<< (x4 &&& 31))), .int (x4 + 1), .int (x3 + 1)] Z I J (qv Z (fun I1 J1 => Jd G mX12_listFrom (jdFm G (qv Z K)) (n + 1) rc rs 29 [(0, .ref (gb G + t)), (1, .int x1), (2, .int x2), (3, .int x3), (4, .int (x4 + 1))] [] Z I1 J1))) : ∀ f : Nat, ∀ (x5 x6 : Int32), 0 ≤ x6.toInt → x6.toInt + (f : Int) = (p : Int) → x5 = (if okN rel x1 p x6.toInt.toNat = true then 1 else 0) → Jd G mX12_listFrom (jdFm G (qv Z K)) (n + 1) rc rs 44 [(0, .ref (gb G + t)), (1, .int x1), (2, .int x2), (3, .int x3), (4, .int x4), (5, .int x5), (6, .int x6)] [] Z I J := by
  intro f
  induction f with
  | zero =>
    intro x5 x6 h6 hf h5
    rw [show x6.toInt.toNat = p by omega] at h5
    have hi := i01 h5
    refine rX12_listFrom_44 ht ⟨fun _ => ⟨fun hz => h0 (hi.2.2.mp hz), fun hz => h1 ?_⟩, fun hc => absurd (Int32.le_iff_toInt_le.mpr (by omega)) hc⟩
    cases e : okN rel x1 p p with
    | true => rfl
    | false => exact absurd (hi.2.2.mpr e) hz
  | succ f ih =>
    intro x5 x6 h6 hf h5
    have q1 : (1 : Int32).toInt = 1 := rfl
    have q0 : (0 : Int32).toInt = 0 := rfl
    have e6 := i32_add x6 1 (by omega) (by omega)
    have n4 := tn_eq x4
    have n6 := tn_eq x6
    have hi := i01 h5
    have en : (x6 + 1).toInt.toNat = x6.toInt.toNat + 1 := by omega
    have b := bt_iff x1 h6
    have hs := okN_s rel x1 p x6.toInt.toNat
    refine rX12_listFrom_44 ht ⟨fun hc => by have := Int32.le_iff_toInt_le.mp hc; omega, fun _ => ?_⟩
    refine sfX12_has trivial (fun v4 p4 => ⟨fun hv => ?_, fun hv => ⟨vp_of (by omega) (by omega), vp_of (by omega) (by omega), fun hk => ?_, fun hk => ?_⟩⟩)
    · have hv := i0 hv
      have hb : bt x1 x6.toInt.toNat = false := by
        cases e : bt x1 x6.toInt.toNat with
        | false => rfl
        | true => exact absurd (Int32.toInt_inj.mp (show _ = (0 : Int32).toInt by omega)) (b.mp e)
      rw [hi.1]
      refine ih x5 (x6 + 1) (by omega) (by omega) ?_
      rw [en, hs, hb, Bool.not_false, Bool.true_or, Bool.and_true]
      exact h5
    · have hv := i1 hv
      have hb : bt x1 x6.toInt.toNat = true := b.mpr (fun z => by rw [z] at p4; omega)
      have hr : rel p x6.toInt.toNat = false := by
        cases e : rel p x6.toInt.toNat with
        | false => rfl
        | true =>
          refine absurd ?_ hk
          rw [show Int32.toNatClampNeg x4 = p by omega]
          exact (hg.2.2 p x6.toInt.toNat hp (by omega) (by omega)).mpr e
      rw [hi.2.1]
      refine ih 0 (x6 + 1) (by omega) (by omega) ?_
      rw [en, hs, hb, hr, Bool.not_true, Bool.false_or, Bool.and_false]
      rfl
    · have hv := i1 hv
      have hb : bt x1 x6.toInt.toNat = true := b.mpr (fun z => by rw [z] at p4; omega)
      have hr : rel p x6.toInt.toNat = true := by
        rw [show Int32.toNatClampNeg x4 = p by omega] at hk
        exact (hg.2.2 p x6.toInt.toNat hp (by omega) (by omega)).mp hk
      rw [hi.1]
      refine ih x5 (x6 + 1) (by omega) (by omega) ?_
      rw [en, hs, hb, hr, Bool.not_true, Bool.false_or, Bool.and_true]
      exact h5
theorem pX12_listFrom_29 {G : jdG} {n rc rs : Nat} {Z : jdL} {J : jdJ} {K : jdI → jdJ → Prop} {I0 : jdI} {c : Int} {t N st m : Nat} {rel : Nat → Nat → Bool} {R : List Int32} {x1 x2 x3 : Int32} (ht : zModel Z t) (hN : N ≤ 8) (h3 : x3.toInt + (m : Int) + 1 = (st : Int)) (hst : st ≤ 4) (h30 : 0 ≤ x3.toInt)
    (hR : ∀ (I : jdI) (K2 : jdI → jdJ → Prop) (L : List Int32) (y1 y2 y3 : Int32) (p : Nat), WM c t I → GM I t N st rel → (I t 30).toInt = (L.length : Int) → LiS I (t + 30) L → y2.toInt = (p : Int) → p ≤ N → y3.toInt + (m : Int) = (st : Int) → L.length + (DL rel (N - p) p m y1).length ≤ 70 → (∀ I2 : jdI, WM c t I2 → Fr (fun a k => (a = t ∧ k = 30) ∨ a = t + 30) I I2 → (I2 t 30).toInt = ((L ++ DL rel (N - p) p m y1).length : Int) → LiS I2 (t + 30) (L ++ DL rel (N - p) p m y1) → K2 I2 J) → Cl G mX12_listFrom n 0 0 [.ref (gb G + t), .int y1, .int y2, .int y3] Z I J (qv Z K2))
    (hK : ∀ I2 : jdI, WM c t I2 → Fr (fun a k => (a = t ∧ k = 30) ∨ a = t + 30) I0 I2 → (I2 t 30).toInt = (R.length : Int) → LiS I2 (t + 30) R → K I2 J) (h70 : R.length ≤ 70) : ∀ f : Nat, ∀ (I : jdI) (x4 : Int32) (L : List Int32) (p : Nat), WM c t I → Fr (fun a k => (a = t ∧ k = 30) ∨ a = t + 30) I0 I → GM I t N st rel → (I t 30).toInt = (L.length : Int) → LiS I (t + 30) L → x4.toInt = (p : Int) → p + f = N → L ++ DL rel f p (m + 1) x1 = R → Jd G mX12_listFrom (jdFm G (qv Z K)) (n + 1) rc rs 29 [(0, .ref (gb G + t)), (1, .int x1), (2, .int x2), (3, .int x3), (4, .int x4)] [] Z I J := by
  intro f
  induction f with
  | zero =>
    intro I x4 L p hW hF hg hl hL h4 hf hr
    have h10 := hg.1
    rw [DL_k0, List.append_nil] at hr
    refine rX12_listFrom_29 ht ⟨fun _ => ?_, fun hc => absurd (Int32.le_iff_toInt_le.mpr (by omega)) hc⟩
    rw [hr] at hl hL
    exact hK I hW hF hl hL
  | succ f ih =>
    intro I x4 L p hW hF hg hl hL h4 hf hr
    have h10 := hg.1
    have q1 : (1 : Int32).toInt = 1 := rfl
    have e4 := i32_add x4 1 (by omega) (by omega)
    have e3 := i32_add x3 1 (by omega) (by omega)
    refine rX12_listFrom_29 ht ⟨fun hc => by have := Int32.le_iff_toInt_le.mp hc; omega, fun _ => ?_⟩
    refine pX12_listFrom_44 (p := p) ht hg hN (by omega) h4 (fun hz => ?_) (fun hz => ?_) p 1 0 (by decide) (by show (0 : Int) + _ = _; omega) ?_
    · refine ih I (x4 + 1) L (p + 1) hW hF hg hl hL (by omega) (by omega) ?_
      rw [← DL_n (by rw [hz]; decide)]
      exact hr
    · rw [DL_y hz, ← List.append_assoc] at hr
      have hx4 : x4 = Int32.ofNat p := by
        rw [i32_ofNat (x := x4) (by omega), show x4.toInt.toNat = p by omega]
      have hlen : (L ++ DL rel (N - (p + 1)) (p + 1) m (x1 ||| ((1 : Int32) <<< (x4 &&& 31)))).length ≤ 70 := by
        rw [hx4, show N - (p + 1) = f by omega]
        rw [← hr, List.length_append] at h70
        omega
      rw [List.length_append] at hlen
      refine hR I _ L _ _ _ (p + 1) hW hg hl hL (by omega) (by omega) (by omega) hlen (fun I2 hW2 hF2 hl2 hL2 => ?_)
      refine ih I2 (x4 + 1) _ (p + 1) hW2 (Fr.tr hF hF2 (fun _ _ h => h)) (GM_fr hg hN hF2 (by omega) (by omega) (by intro a k h1 h2; omega)) hl2 hL2 (by omega) (by omega) ?_
      rw [hx4, show N - (p + 1) = f by omega]
      exact hr
    · show (1 : Int32) = if okN rel x1 p 0 = true then 1 else 0
      rw [okN_0]
      rfl
theorem pX12_listFrom {G : jdG} {Z : jdL} {J : jdJ} {c : Int} {t N st : Nat} {rel : Nat → Nat → Bool} (ht : zModel Z t) (hN : N ≤ 8) (hst : st ≤ 4) : ∀ m : Nat, ∀ (n : Nat) (I : jdI) (K : jdI → jdJ → Prop) (L : List Int32) (y1 y2 y3 : Int32) (p : Nat), m ≤ st → WM c t I → GM I t N st rel → (I t 30).toInt = (L.length : Int) → LiS I (t + 30) L → y2.toInt = (p : Int) → p ≤ N → y3.toInt + (m : Int) = (st : Int) → L.length + (DL rel (N - p) p m y1).length ≤ 70 → (∀ I2 : jdI, WM c t I2 → Fr (fun a k => (a = t ∧ k = 30) ∨ a = t + 30) I I2 → (I2 t 30).toInt = ((L ++ DL rel (N - p) p m y1).length : Int) → LiS I2 (t + 30) (L ++ DL rel (N - p) p m y1) → K I2 J) → Cl G mX12_listFrom (n + 1 + m) 0 0 [.ref (gb G + t), .int y1, .int y2, .int y3] Z I J (qv Z K) := by
  intro m
  induction m with
  | zero =>
    intro n I K L y1 y2 y3 p hm hW hg hl hL h2 hp h3 h70 hK
    have h14 := hg.2.1
    have hw := WM_f hW
    have q1 : (1 : Int32).toInt = 1 := rfl
    rw [DL_m0] at hK h70
    have h70 : L.length + 1 ≤ 70 := h70
    have e1 := i32_add (I t 30) 1 (by omega) (by omega)
    have n1 := tn_eq (I t 30)
    refine eX12_listFrom ht ⟨fun hc => absurd (Int32.toInt_inj.mp (by omega)) hc, fun _ => ⟨vp_of (by omega) (by omega), ?_⟩⟩
    have w1 : WM c t (uI I t 30 ((I t 30) + 1)) := WM_uI hW (by first | exact okMo (by decide) (by decide) (by decide) (by decide) (by decide) | exact okMf (by decide) (by decide) (by decide) (by decide) (by decide) (by decide) (by decide) (by decide) | exact okM30 (by omega) | exact okM42 (by omega) | exact okM33 (by omega) | exact okM10 (by omega) | exact okM8 (by omega) | exact okM22 (by omega) | exact okM24 (by omega) | exact okM14 (by omega) | exact okMa31 (by omega) | exact okMa35 (by omega) | exact okMa36 (by omega) | exact okMa3 (by omega) | exact okMr (by omega) | (unfold okM; refine ⟨?_, ?_, ?_, ?_, ?_, ?_, ?_, ?_, ?_, ?_, ?_, ?_⟩ <;> intro h <;> omega))
    have f1 : Fr (fun a k => (a = t ∧ k = 30) ∨ a = t + 30) I (uI (uI I t 30 ((I t 30) + 1)) (t + 30) (Int32.toNatClampNeg (I t 30)) y1) := Fr_uI (Fr_uI Fr.rf (by omega)) (by omega)
    refine hK _ (WM_uI w1 (by first | exact okMo (by decide) (by decide) (by decide) (by decide) (by decide) | exact okMf (by decide) (by decide) (by decide) (by decide) (by decide) (by decide) (by decide) (by decide) | exact okM30 (by omega) | exact okM42 (by omega) | exact okM33 (by omega) | exact okM10 (by omega) | exact okM8 (by omega) | exact okM22 (by omega) | exact okM24 (by omega) | exact okM14 (by omega) | exact okMa31 (by omega) | exact okMa35 (by omega) | exact okMa36 (by omega) | exact okMa3 (by omega) | exact okMr (by omega) | (unfold okM; refine ⟨?_, ?_, ?_, ?_, ?_, ?_, ?_, ?_, ?_, ?_, ?_, ?_⟩ <;> intro h <;> omega))) f1 ?_ ?_
    · rw [uI_ap, if_neg (by omega), uI_ap, if_pos ⟨rfl, rfl⟩, List.length_append]
      show _ = ((L.length + 1 : Nat) : Int)
      omega
    · refine LiS_push (fun k hk => ?_) (by omega)
      rw [uI_n _ _ _ (by omega)]
      exact hL k hk
  | succ m ih =>
    intro n I K L y1 y2 y3 p hm hW hg hl hL h2 hp h3 h70 hK
    have h14 := hg.2.1
    refine eX12_listFrom ht ⟨fun _ => ?_, fun hc => by rw [hc] at h3; omega⟩
    refine pX12_listFrom_29 (m := m) ht hN (by omega) hst ?_ (fun I K2 L y1 y2 y3 p a1 a2 a3 a4 a5 a6 a7 a8 a9 => ?_) hK (by rw [List.length_append]; exact h70) (N - p) I y2 L p hW Fr.rf hg hl hL h2 (by omega) rfl
    · omega
    · exact ih n I K2 L y1 y2 y3 p (by omega) a1 a2 a3 a4 a5 a6 a7 a8 a9
theorem pX12_listAll {G : jdG} {n : Nat} {Z : jdL} {J : jdJ} {K : jdI → jdJ → Prop} {c : Int} {I : jdI} {t N st : Nat} {rel : Nat → Nat → Bool} (ht : zModel Z t) (hW : WM c t I) (hg : GM I t N st rel) (hN : N ≤ 8) (hst : st ≤ 4) (hK : ∀ I2 : jdI, WM c t I2 → Fr (fun a k => (a = t ∧ k = 30) ∨ a = t + 30) I I2 → (I2 t 30).toInt = ((DL rel N 0 st 0).length : Int) → LiS I2 (t + 30) (DL rel N 0 st 0) → K I2 J) : Cl G mX12_listAll (n + 6) 0 0 [.ref (gb G + t)] Z I J (qv Z K) := by
  have hw := WM_f hW
  have q0 : (0 : Int32).toInt = 0 := rfl
  have hl := Nat.le_trans (DL_len rel N 0 st 0) (cb_70 ⟨N, by omega⟩ ⟨st, by omega⟩)
  refine eX12_listAll ht ?_
  have w1 : WM c t (uI I t 30 0) := WM_uI hW (by first | exact okMo (by decide) (by decide) (by decide) (by decide) (by decide) | exact okMf (by decide) (by decide) (by decide) (by decide) (by decide) (by decide) (by decide) (by decide) | exact okM30 (by omega) | exact okM42 (by omega) | exact okM33 (by omega) | exact okM10 (by omega) | exact okM8 (by omega) | exact okM22 (by omega) | exact okM24 (by omega) | exact okM14 (by omega) | exact okMa31 (by omega) | exact okMa35 (by omega) | exact okMa36 (by omega) | exact okMa3 (by omega) | exact okMr (by omega) | (unfold okM; refine ⟨?_, ?_, ?_, ?_, ?_, ?_, ?_, ?_, ?_, ?_, ?_, ?_⟩ <;> intro h <;> omega))
  have f1 : Fr (fun a k => (a = t ∧ k = 30) ∨ a = t + 30) I (uI I t 30 0) := Fr_uI Fr.rf (by omega)
  rw [show n + 5 = (n + 4 - st) + 1 + st by omega]
  refine pX12_listFrom ht hN hst st (n + 4 - st) _ _ [] 0 0 0 0 (Nat.le_refl _) w1 (GM_fr hg hN f1 (by omega) (by omega) (by intro a k h1 h2; omega)) ?_ (LiS_nil _ _) rfl (Nat.zero_le _) (by omega) (by rw [Nat.sub_zero]; show 0 + _ ≤ 70; omega) (fun I2 hW2 hF2 hl2 hL2 => ?_)
  · rw [uI_ap, if_pos ⟨rfl, rfl⟩]
    rfl
  · rw [Nat.sub_zero, List.nil_append] at hl2 hL2
    exact hK I2 hW2 (Fr.tr f1 hF2 (fun _ _ h => h)) hl2 hL2
/-- the strangers of a below k, as a set -/
def sset (rel : Nat → Nat → Bool) (a : Nat) : Nat → Int32
  | 0 => 0
  | k + 1 => if (decide (k ≠ a) && rel a k) = true then sset rel a k ||| ((1 : Int32) <<< (Int32.ofNat k &&& 31)) else sset rel a k
theorem or_255 : ∀ s : Fin 256, ∀ a : Fin 8, 0 ≤ (Int32.ofNat s.val ||| ((1 : Int32) <<< (Int32.ofNat a.val &&& 31))).toInt ∧ (Int32.ofNat s.val ||| ((1 : Int32) <<< (Int32.ofNat a.val &&& 31))).toInt ≤ 255 := by decide +kernel
theorem or_r {s : Int32} (hs : 0 ≤ s.toInt ∧ s.toInt ≤ 255) {k : Nat} (hk : k < 8) : 0 ≤ (s ||| ((1 : Int32) <<< (Int32.ofNat k &&& 31))).toInt ∧ (s ||| ((1 : Int32) <<< (Int32.ofNat k &&& 31))).toInt ≤ 255 := by
  have e := or_255 ⟨s.toInt.toNat, by omega⟩ ⟨k, hk⟩
  rw [← i32_ofNat hs.1] at e
  exact e
theorem sset_r (rel : Nat → Nat → Bool) (a : Nat) : ∀ k, k ≤ 8 → 0 ≤ (sset rel a k).toInt ∧ (sset rel a k).toInt ≤ 255
  | 0, _ => (by decide : (0 : Int) ≤ (0 : Int32).toInt ∧ (0 : Int32).toInt ≤ 255)
  | k + 1, hk => by
    have h := sset_r rel a k (by omega)
    show 0 ≤ (if (decide (k ≠ a) && rel a k) = true then sset rel a k ||| ((1 : Int32) <<< (Int32.ofNat k &&& 31)) else sset rel a k).toInt ∧ (if (decide (k ≠ a) && rel a k) = true then sset rel a k ||| ((1 : Int32) <<< (Int32.ofNat k &&& 31)) else sset rel a k).toInt ≤ 255
    split
    · exact or_r h (by omega)
    · exact h
theorem sset_bt (rel : Nat → Nat → Bool) (a : Nat) : ∀ k, k ≤ 8 → ∀ q, q < 8 → bt (sset rel a k) q = (decide (q < k) && (decide (q ≠ a) && rel a q))
  | 0, _, q, hq => by
    show bt 0 q = _
    rw [bt_ze q (by omega), decide_eq_false (Nat.not_lt_zero q), Bool.false_and]
  | k + 1, hk, q, hq => by
    have h := sset_bt rel a k (by omega) q hq
    show bt (if (decide (k ≠ a) && rel a k) = true then sset rel a k ||| ((1 : Int32) <<< (Int32.ofNat k &&& 31)) else sset rel a k) q = _
    by_cases c : q = k
    · subst c
      rw [decide_eq_true (show q < q + 1 by omega), Bool.true_and]
      split
      · rename_i hc
        rw [bt_or _ _ _ (by omega), show bt ((1 : Int32) <<< (Int32.ofNat q &&& 31)) q = decide (q = q) from bt_1a ⟨q, hq⟩ ⟨q, hq⟩, decide_eq_true rfl, Bool.or_true, hc]
      · rename_i hc
        rw [h, decide_eq_false (Nat.lt_irrefl q), Bool.false_and, Bool.eq_false_iff.mpr hc]
    · rw [show decide (q < k + 1) = decide (q < k) from decide_eq_decide.mpr (by omega), ← h]
      split
      · rw [bt_or _ _ _ (by omega), show bt ((1 : Int32) <<< (Int32.ofNat k &&& 31)) q = decide (q = k) from bt_1a ⟨k, by omega⟩ ⟨q, hq⟩, decide_eq_false c, Bool.or_false]
      · rfl
/-- the ties: people, seats, and who are strangers -/
def GX (I : jdI) (n st : Nat) (rel : Nat → Nat → Bool) : Prop := (I 13 6).toInt = (n : Int) ∧ (I 13 7).toInt = (st : Int) ∧ ∀ p, p < n → I (13 + 1) p = sset rel p n
theorem GX_bt {I : jdI} {n st : Nat} {rel : Nat → Nat → Bool} (h : GX I n st rel) (hn : n ≤ 8) {p q : Nat} (hp : p < n) (hq : q < 8) : bt (I (13 + 1) p) q = (decide (q < n) && (decide (q ≠ p) && rel p q)) := by
  rw [h.2.2 p hp]
  exact sset_bt rel p n hn q hq
theorem GX_fr {I I2 : jdI} {n st : Nat} {rel : Nat → Nat → Bool} {p : Nat → Nat → Prop} (h : GX I n st rel) (hF : Fr p I I2) (h1 : ¬ p 13 6) (h2 : ¬ p 13 7) (h3 : ∀ k, ¬ p (13 + 1) k) : GX I2 n st rel := by
  refine ⟨by rw [hF 13 6 h1]; exact h.1, by rw [hF 13 7 h2]; exact h.2.1, fun a ha => ?_⟩
  rw [hF (13 + 1) a (h3 _)]
  exact h.2.2 a ha
theorem okN_or {rel : Nat → Nat → Bool} {s : Int32} {p q : Nat} (hq : q < 8) (hp : p < q) : okN rel (s ||| ((1 : Int32) <<< (Int32.ofNat p &&& 31))) q q = (okN rel s q q && rel q p) := by
  have hb : ∀ j, j < q → bt (s ||| ((1 : Int32) <<< (Int32.ofNat p &&& 31))) j = (bt s j || decide (j = p)) := fun j hj => by
    rw [bt_or _ _ _ (by omega)]
    rw [show bt ((1 : Int32) <<< (Int32.ofNat p &&& 31)) j = decide (j = p) from bt_1a ⟨p, by omega⟩ ⟨j, by omega⟩]
  unfold okN
  cases hr : rel q p with
  | false =>
    rw [Bool.and_false]
    refine decide_eq_false (fun h => ?_)
    have := h p hp (by rw [hb p hp, decide_eq_true rfl, Bool.or_true])
    rw [hr] at this
    cases this
  | true =>
    rw [Bool.and_true]
    refine decide_eq_decide.mpr ⟨fun h j hj hs => h j hj (by rw [hb j hj, hs, Bool.true_or]), fun h j hj hs => ?_⟩
    rw [hb j hj] at hs
    by_cases c : j = p
    · rw [c]
      exact hr
    · rw [decide_eq_false c, Bool.or_false] at hs
      exact h j hj hs
/-- who may still be chosen, from f on -/
def OPN (rel : Nat → Nat → Bool) (n f : Nat) (s x : Int32) : Prop := ∀ q, q < 8 → bt x q = (decide (f ≤ q ∧ q < n) && okN rel s q q)
theorem OPN_next {rel : Nat → Nat → Bool} {n f p : Nat} {s x y z : Int32} (h : OPN rel n f s x) (hn : n ≤ 8) (hp : p < n) (hf : f ≤ p) (hz : z.toInt = (p : Int)) (hy : ∀ q, q < 8 → bt y q = (decide (q < n) && (decide (q ≠ p) && rel p q))) (hs : ∀ a b, rel a b = rel b a) : OPN rel n (p + 1) (s ||| ((1 : Int32) <<< (Int32.ofNat p &&& 31))) ((x &&& y) &&& (-(2 <<< (z &&& 31)))) := fun q hq => by
  rw [bt_an _ _ _ (by omega), bt_an _ _ _ (by omega), h q hq, hy q hq, bt_2 (x := z) ⟨by omega, by omega⟩ hq, show z.toInt.toNat = p by omega]
  by_cases c : p < q
  · by_cases d : q < n
    · rw [okN_or hq c, hs q p, decide_eq_true (show f ≤ q ∧ q < n by omega), decide_eq_true d, decide_eq_true (show q ≠ p by omega), decide_eq_true c, decide_eq_true (show p + 1 ≤ q ∧ q < n by omega)]
      simp
    · rw [decide_eq_false (show ¬ (f ≤ q ∧ q < n) by omega), decide_eq_false (show ¬ (p + 1 ≤ q ∧ q < n) by omega)]
      simp
  · rw [decide_eq_false c, decide_eq_false (show ¬ (p + 1 ≤ q ∧ q < n) by omega)]
    simp
theorem pX8_gather_37 {G : jdG} {n rc rs : Nat} {Z : jdL} {J : jdJ} {K : jdI → jdJ → Prop} {I0 : jdI} {N st m f : Nat} {rel : Nat → Nat → Bool} {R : List Int32} {x1 x2 x3 : Int32} (ht : zTies Z 13) (hN : N ≤ 8) (hsy : ∀ a b, rel a b = rel b a) (h3 : x3.toInt = (m : Int) + 1) (hm : m ≤ 4) (ho : OPN rel N f x1 x2) (hfN : f ≤ N)
    (hR : ∀ (I : jdI) (K2 : jdI → jdJ → Prop) (L : List Int32) (y1 y2 y3 : Int32) (p : Nat), WX I → GX I N st rel → (I 13 8).toInt = (L.length : Int) → LiS I (13 + 3) L → OPN rel N p y1 y2 → p ≤ N → y3.toInt = (m : Int) → L.length + (DL rel (N - p) p m y1).length ≤ 70 → (∀ I2 : jdI, WX I2 → Fr (fun a k => (a = 13 ∧ k = 8) ∨ a = 13 + 3) I I2 → (I2 13 8).toInt = ((L ++ DL rel (N - p) p m y1).length : Int) → LiS I2 (13 + 3) (L ++ DL rel (N - p) p m y1) → K2 I2 J) → Cl G mX8_gather n 0 0 [.ref (gb G + 13), .int y1, .int y2, .int y3] Z I J (qv Z K2))
    (hK : ∀ I2 : jdI, WX I2 → Fr (fun a k => (a = 13 ∧ k = 8) ∨ a = 13 + 3) I0 I2 → (I2 13 8).toInt = (R.length : Int) → LiS I2 (13 + 3) R → K I2 J) (h70 : R.length ≤ 70) : ∀ k : Nat, ∀ (I : jdI) (x4 : Int32) (L : List Int32) (p : Nat), WX I → Fr (fun a k => (a = 13 ∧ k = 8) ∨ a = 13 + 3) I0 I → GX I N st rel → (I 13 8).toInt = (L.length : Int) → LiS I (13 + 3) L → x4.toInt = (p : Int) → p + k = N → L ++ DL rel (N - max p f) (max p f) (m + 1) x1 = R → Jd G mX8_gather (jdFm G (qv Z K)) (n + 1) rc rs 37 [(0, .ref (gb G + 13)), (1, .int x1), (2, .int x2), (3, .int x3), (4, .int x4)] [] Z I J := by
  intro k
  induction k with
  | zero =>
    intro I x4 L p hW hF hg hl hL h4 hk hr
    have h6 := hg.1
    rw [show max p f = N by omega, Nat.sub_self, DL_k0, List.append_nil] at hr
    refine rX8_gather_37 ht ⟨fun _ => ?_, fun hc => absurd (Int32.le_iff_toInt_le.mpr (by omega)) hc⟩
    rw [hr] at hl hL
    exact hK I hW hF hl hL
  | succ k ih =>
    intro I x4 L p hW hF hg hl hL h4 hk hr
    have h6 := hg.1
    have q1 : (1 : Int32).toInt = 1 := rfl
    have e4 := i32_add x4 1 (by omega) (by omega)
    have e3 := i32_sub x3 1 (by omega) (by omega)
    have n4 := tn_eq x4
    have b := bt_iff x2 (x := x4) (by omega)
    rw [show x4.toInt.toNat = p by omega, ho p (by omega)] at b
    have hx4 : x4 = Int32.ofNat p := by
      rw [i32_ofNat (x := x4) (by omega), show x4.toInt.toNat = p by omega]
    refine rX8_gather_37 ht ⟨fun hc => by have := Int32.le_iff_toInt_le.mp hc; omega, fun _ => ⟨fun hz => ?_, fun hz => ⟨vp_of (by omega) (by omega), ?_⟩⟩⟩
    · refine ih I (x4 + 1) L (p + 1) hW hF hg hl hL (by omega) (by omega) ?_
      by_cases c : p < f
      · rw [show max (p + 1) f = max p f by omega]
        exact hr
      · have hz2 : ¬ okN rel x1 p p = true := fun z => b.mp (by rw [z, decide_eq_true (show f ≤ p ∧ p < N by omega)]; rfl) hz
        rw [show max (p + 1) f = p + 1 by omega, show N - (p + 1) = k by omega, ← DL_n hz2]
        rw [show max p f = p by omega, show N - p = k + 1 by omega] at hr
        exact hr
    · have hb := b.mpr hz
      rw [Bool.and_eq_true, decide_eq_true_iff] at hb
      obtain ⟨hb1, hb2⟩ := hb
      rw [show max p f = p by omega, show N - p = k + 1 by omega, DL_y hb2, ← List.append_assoc] at hr
      have hlen : L.length + (DL rel (N - (p + 1)) (p + 1) m (x1 ||| ((1 : Int32) <<< (x4 &&& 31)))).length ≤ 70 := by
        rw [hx4, show N - (p + 1) = k by omega]
        rw [← hr, List.length_append, List.length_append] at h70
        omega
      refine hR I _ L _ _ _ (p + 1) hW hg hl hL ?_ (by omega) (by omega) hlen (fun I2 hW2 hF2 hl2 hL2 => ?_)
      · have e := OPN_next (y := I (13 + 1) (Int32.toNatClampNeg x4)) (z := x4) ho hN (show p < N by omega) hb1.1 h4 (fun q hq => by rw [show Int32.toNatClampNeg x4 = p by omega]; exact GX_bt hg hN (by omega) hq) hsy
        rw [← hx4] at e
        exact e
      · refine ih I2 (x4 + 1) _ (p + 1) hW2 (Fr.tr hF hF2 (fun _ _ h => h)) (GX_fr hg hF2 (by omega) (by omega) (by intro k; omega)) hl2 hL2 (by omega) (by omega) ?_
        rw [hx4, show N - (p + 1) = k by omega, show max (p + 1) f = p + 1 by omega, show N - (p + 1) = k by omega]
        exact hr
theorem pX8_gather {G : jdG} {Z : jdL} {J : jdJ} {N st : Nat} {rel : Nat → Nat → Bool} (ht : zTies Z 13) (hN : N ≤ 8) (hsy : ∀ a b, rel a b = rel b a) : ∀ m : Nat, ∀ (n : Nat) (I : jdI) (K : jdI → jdJ → Prop) (L : List Int32) (y1 y2 y3 : Int32) (p : Nat), m ≤ 4 → WX I → GX I N st rel → (I 13 8).toInt = (L.length : Int) → LiS I (13 + 3) L → OPN rel N p y1 y2 → p ≤ N → y3.toInt = (m : Int) → L.length + (DL rel (N - p) p m y1).length ≤ 70 → (∀ I2 : jdI, WX I2 → Fr (fun a k => (a = 13 ∧ k = 8) ∨ a = 13 + 3) I I2 → (I2 13 8).toInt = ((L ++ DL rel (N - p) p m y1).length : Int) → LiS I2 (13 + 3) (L ++ DL rel (N - p) p m y1) → K I2 J) → Cl G mX8_gather (n + 1 + m) 0 0 [.ref (gb G + 13), .int y1, .int y2, .int y3] Z I J (qv Z K) := by
  intro m
  induction m with
  | zero =>
    intro n I K L y1 y2 y3 p hm hW hg hl hL ho hp h3 h70 hK
    have hw := WX_f hW
    have q1 : (1 : Int32).toInt = 1 := rfl
    have q0 : (0 : Int32).toInt = 0 := rfl
    have q70 : (70 : Int32).toInt = 70 := rfl
    rw [DL_m0] at hK h70
    have h70 : L.length + 1 ≤ 70 := h70
    have e1 := i32_add (I 13 8) 1 (by omega) (by omega)
    have n1 := tn_eq (I 13 8)
    refine eX8_gather ht ⟨fun hc => by have := Int32.lt_iff_toInt_lt.mp hc; omega, fun _ => ⟨fun hc => by have := Int32.le_iff_toInt_le.mp hc; omega, fun _ => ⟨vp_of (by omega) (by omega), ?_⟩⟩⟩
    have w1 : WX (uI I (13 + 3) (Int32.toNatClampNeg (I 13 8)) y1) := WX_uI hW (by first | exact okXo (by decide) | (unfold okX; refine ⟨?_, ?_, ?_, ?_, ?_, ?_, ?_, ?_, ?_, ?_⟩ <;> intro h <;> omega))
    have f1 : Fr (fun a k => (a = 13 ∧ k = 8) ∨ a = 13 + 3) I (uI (uI I (13 + 3) (Int32.toNatClampNeg (I 13 8)) y1) 13 8 ((I 13 8) + 1)) := Fr_uI (Fr_uI Fr.rf (by omega)) (by omega)
    refine hK _ (WX_uI w1 (by first | exact okXo (by decide) | (unfold okX; refine ⟨?_, ?_, ?_, ?_, ?_, ?_, ?_, ?_, ?_, ?_⟩ <;> intro h <;> omega))) f1 ?_ ?_
    · rw [uI_ap, if_pos ⟨rfl, rfl⟩, List.length_append]
      show _ = ((L.length + 1 : Nat) : Int)
      omega
    · have hp := LiS_push (x := y1) hL (show Int32.toNatClampNeg (I 13 8) = L.length by omega)
      exact fun k hk => by
        rw [uI_n _ _ _ (by omega)]
        exact hp k hk
  | succ m ih =>
    intro n I K L y1 y2 y3 p hm hW hg hl hL ho hp h3 h70 hK
    have q0 : (0 : Int32).toInt = 0 := rfl
    refine eX8_gather ht ⟨fun _ => ?_, fun hc => absurd (Int32.lt_iff_toInt_lt.mpr (by omega)) hc⟩
    refine pX8_gather_37 (m := m) (f := p) ht hN hsy (by omega) (by omega) ho hp (fun I K2 L y1 y2 y3 p a1 a2 a3 a4 a5 a6 a7 a8 a9 => ?_) hK (by rw [List.length_append]; exact h70) N I 0 L 0 hW Fr.rf hg hl hL rfl (by omega) ?_
    · exact ih n I K2 L y1 y2 y3 p (by omega) a1 a2 a3 a4 a5 a6 a7 a8 a9
    · rw [show max 0 p = p by omega]
theorem pX8_list {G : jdG} {n : Nat} {Z : jdL} {J : jdJ} {K : jdI → jdJ → Prop} {I : jdI} {N st : Nat} {rel : Nat → Nat → Bool} (ht : zTies Z 13) (hW : WX I) (hg : GX I N st rel) (hN : N ≤ 8) (hst : st ≤ 4) (hsy : ∀ a b, rel a b = rel b a) (hK : ∀ I2 : jdI, WX I2 → Fr (fun a k => (a = 13 ∧ (k = 8 ∨ k = 10)) ∨ a = 13 + 3) I I2 → (I2 13 8).toInt = ((DL rel N 0 st 0).length : Int) → LiS I2 (13 + 3) (DL rel N 0 st 0) → (I2 13 10).toInt = 0 → K I2 J) : Cl G mX8_list (n + 6) 0 0 [.ref (gb G + 13)] Z I J (qv Z K) := by
  have hw := WX_f hW
  have q0 : (0 : Int32).toInt = 0 := rfl
  have hl := Nat.le_trans (DL_len rel N 0 st 0) (cb_70 ⟨N, by omega⟩ ⟨st, by omega⟩)
  refine eX8_list ht ?_
  have w0 : WX (uI I 13 8 0) := WX_uI hW (by first | exact okXo (by decide) | (unfold okX; refine ⟨?_, ?_, ?_, ?_, ?_, ?_, ?_, ?_, ?_, ?_⟩ <;> intro h <;> omega))
  have w1 : WX (uI (uI I 13 8 0) 13 10 0) := WX_uI w0 (by first | exact okXo (by decide) | (unfold okX; refine ⟨?_, ?_, ?_, ?_, ?_, ?_, ?_, ?_, ?_, ?_⟩ <;> intro h <;> omega))
  have f1 : Fr (fun a k => a = 13 ∧ (k = 8 ∨ k = 10)) I (uI (uI I 13 8 0) 13 10 0) := Fr_uI (Fr_uI Fr.rf (by omega)) (by omega)
  have z8 : ((uI (uI I 13 8 0) 13 10 0) 13 8).toInt = 0 := by rw [uI_ap, if_neg (by omega), uI_ap, if_pos ⟨rfl, rfl⟩]; rfl
  have z10 : ((uI (uI I 13 8 0) 13 10 0) 13 10).toInt = 0 := by rw [uI_ap, if_pos ⟨rfl, rfl⟩]; rfl
  generalize (uI (uI I 13 8 0) 13 10 0) = I1 at w1 f1 z8 z10 ⊢
  have g1 := GX_fr hg f1 (by omega) (by omega) (by intro k; omega)
  have hw1 := WX_f w1
  have h6 := g1.1
  refine eX8_everybody ht ?_
  rw [show n + 5 = (n + 4 - st) + 1 + st by omega]
  refine pX8_gather ht hN hsy st (n + 4 - st) I1 _ [] 0 _ _ 0 hst w1 g1 z8 (LiS_nil _ _) (fun q hq => ?_) (Nat.zero_le _) g1.2.1 (by rw [Nat.sub_zero]; show 0 + _ ≤ 70; omega) (fun I2 hW2 hF2 hl2 hL2 => ?_)
  · rw [bt_ev ⟨by omega, by omega⟩ hq, show (I1 13 6).toInt.toNat = N by omega]
    have ho : okN rel 0 q q = true := decide_eq_true (fun j hj hb => by rw [bt_ze j (by omega)] at hb; cases hb)
    rw [ho, Bool.and_true]
    exact decide_eq_decide.mpr (by omega)
  · rw [Nat.sub_zero, List.nil_append] at hl2 hL2
    exact hK I2 hW2 (Fr.tr (Fr.tr Fr.rf f1 (by intro a k h; omega)) hF2 (by intro a k h; omega)) hl2 hL2 (by rw [hF2 13 10 (by omega)]; exact z10)
def relW (w : Tw) (p q : Nat) : Bool := decide (w.2.2.2.2.2 p q = -1)
theorem pX9_strangersTo_4 {G : jdG} {n rc rs : Nat} {Z : jdL} {J : jdJ} {K : Int32 → jdI → jdJ → Prop} {I : jdI} {t a : Nat} {w : Tw} {x1 : Int32} (ht : zTown Z t) (hts : t = 1 ∨ t = 5 ∨ t = 9) (hW : WX I) (hw : RX I t w) (h1 : x1.toInt = (a : Int)) (ha : (a : Int) < w.1) (hK : K (sset (relW w) a w.1.toNat) I J) : ∀ f : Nat, ∀ (x2 x3 : Int32), 0 ≤ x3.toInt → x3.toInt + (f : Int) = w.1 → x2 = sset (relW w) a x3.toInt.toNat → Jd G mX9_strangersTo (jdFm G (qi Z K)) (n + 1) rc rs 4 [(0, .ref (gb G + t)), (1, .int x1), (2, .int x2), (3, .int x3)] [] Z I J := by
  have hp := WX_town hW hts
  have w1 := hw.1
  intro f
  induction f with
  | zero =>
    intro x2 x3 h3 hf hb
    refine rX9_strangersTo_4 ht ⟨fun _ => ?_, fun hc => absurd (Int32.le_iff_toInt_le.mpr (by omega)) hc⟩
    rw [hb, show x3.toInt = w.1 by omega]
    exact hK
  | succ f ih =>
    intro x2 x3 h3 hf hb
    have q1 : (1 : Int32).toInt = 1 := rfl
    have e3 := i32_add x3 1 (by omega) (by omega)
    have n3 := tn_eq x3
    have n1 := tn_eq x1
    have m1 := i32_mulc x1 7 7 rfl (by omega) (by omega)
    have a1 := i32_add (x1 * 7) x3 (by omega) (by omega)
    have k1 := tn_eq ((x1 * 7) + x3)
    have en : (x3 + 1).toInt.toNat = x3.toInt.toNat + 1 := by omega
    have hx3 : Int32.ofNat x3.toInt.toNat = x3 := (i32_ofNat h3).symm
    have skip : (¬ (decide (x3.toInt.toNat ≠ a) && relW w a x3.toInt.toNat) = true) → Jd G mX9_strangersTo (jdFm G (qi Z K)) (n + 1) rc rs 4 [(0, .ref (gb G + t)), (1, .int x1), (2, .int x2), (3, .int (x3 + 1))] [] Z I J := fun hz => by
      refine ih x2 (x3 + 1) (by omega) (by omega) ?_
      rw [en, hb]
      exact (if_neg hz).symm
    refine rX9_strangersTo_4 ht ⟨fun hc => by have := Int32.le_iff_toInt_le.mp hc; omega, fun _ => ⟨fun hc => skip ?_, fun hc => ?_⟩⟩
    · rw [decide_eq_false (show ¬ x3.toInt.toNat ≠ a by rw [hc]; omega), Bool.false_and]
      decide
    · have hc : ¬ x3.toInt = x1.toInt := fun z => hc (Int32.toInt_inj.mp z)
      refine eX9_since ht ⟨vp_of (by omega) (by omega), ?_⟩
      have ek := hw.2.2.2.2 a x3.toInt.toNat ha (by omega) (by omega)
      rw [show Int32.toNatClampNeg ((x1 * 7) + x3) = a * 7 + x3.toInt.toNat by omega, ek]
      refine ⟨fun hz => skip ?_, fun hz => ?_⟩
      · unfold relW
        rw [decide_eq_false hz, Bool.and_false]
        decide
      · refine ih _ (x3 + 1) (by omega) (by omega) ?_
        have hr : (decide (x3.toInt.toNat ≠ a) && relW w a x3.toInt.toNat) = true := by
          unfold relW
          rw [decide_eq_true hz, decide_eq_true (show x3.toInt.toNat ≠ a by omega)]
          rfl
        rw [en, hb]
        show _ = if (decide (x3.toInt.toNat ≠ a) && relW w a x3.toInt.toNat) = true then sset (relW w) a x3.toInt.toNat ||| ((1 : Int32) <<< (Int32.ofNat x3.toInt.toNat &&& 31)) else sset (relW w) a x3.toInt.toNat
        rw [if_pos hr, hx3]
theorem pX9_strangersTo {G : jdG} {n : Nat} {Z : jdL} {J : jdJ} {K : Int32 → jdI → jdJ → Prop} {I : jdI} {t a : Nat} {w : Tw} {x1 : Int32} (ht : zTown Z t) (hts : t = 1 ∨ t = 5 ∨ t = 9) (hW : WX I) (hw : RX I t w) (h1 : x1.toInt = (a : Int)) (ha : (a : Int) < w.1) (hK : K (sset (relW w) a w.1.toNat) I J) : Cl G mX9_strangersTo (n + 1) 0 0 [.ref (gb G + t), .int x1] Z I J (qi Z K) := by
  have hp := WX_town hW hts
  have w1 := hw.1
  refine eX9_strangersTo ht ?_
  exact pX9_strangersTo_4 ht hts hW hw h1 ha hK w.1.toNat 0 0 (by decide) (by show (0 : Int) + _ = _; omega) rfl
theorem pX12_strangersOf_4 {G : jdG} {n rc rs : Nat} {Z : jdL} {J : jdJ} {K : Int32 → jdI → jdJ → Prop} {I : jdI} {t a N st : Nat} {rel : Nat → Nat → Bool} {x1 : Int32} (ht : zModel Z t) (hg : GM I t N st rel) (hN : N ≤ 8) (h1 : x1.toInt = (a : Int)) (ha : a < N) (hK : K (sset rel a N) I J) : ∀ f : Nat, ∀ (x2 x3 : Int32), 0 ≤ x3.toInt → x3.toInt + (f : Int) = (N : Int) → x2 = sset rel a x3.toInt.toNat → Jd G mX12_strangersOf (jdFm G (qi Z K)) n rc rs 4 [(0, .ref (gb G + t)), (1, .int x1), (2, .int x2), (3, .int x3)] [] Z I J := by
  have h10 := hg.1
  intro f
  induction f with
  | zero =>
    intro x2 x3 h3 hf hb
    refine rX12_strangersOf_4 ht ⟨fun _ => ?_, fun hc => absurd (Int32.le_iff_toInt_le.mpr (by omega)) hc⟩
    rw [hb, show x3.toInt.toNat = N by omega]
    exact hK
  | succ f ih =>
    intro x2 x3 h3 hf hb
    have q1 : (1 : Int32).toInt = 1 := rfl
    have e3 := i32_add x3 1 (by omega) (by omega)
    have n3 := tn_eq x3
    have n1 := tn_eq x1
    have en : (x3 + 1).toInt.toNat = x3.toInt.toNat + 1 := by omega
    have hx3 : Int32.ofNat x3.toInt.toNat = x3 := (i32_ofNat h3).symm
    have skip : (¬ (decide (x3.toInt.toNat ≠ a) && rel a x3.toInt.toNat) = true) → Jd G mX12_strangersOf (jdFm G (qi Z K)) n rc rs 4 [(0, .ref (gb G + t)), (1, .int x1), (2, .int (x2 ||| 0)), (3, .int (x3 + 1))] [] Z I J := fun hz => by
      refine ih _ (x3 + 1) (by omega) (by omega) ?_
      rw [en, Int32.or_zero, hb]
      exact (if_neg hz).symm
    refine rX12_strangersOf_4 ht ⟨fun hc => by have := Int32.le_iff_toInt_le.mp hc; omega, fun _ => ⟨fun hc => skip ?_, fun hc => ⟨vp_of (by omega) (by omega), vp_of (by omega) (by omega), ?_⟩⟩⟩
    · rw [decide_eq_false (show ¬ x3.toInt.toNat ≠ a by rw [hc]; omega), Bool.false_and]
      decide
    · have hc : ¬ x3.toInt = x1.toInt := fun z => hc (Int32.toInt_inj.mp z)
      have ek := hg.2.2 a x3.toInt.toNat ha (by omega) (by omega)
      rw [show Int32.toNatClampNeg x1 = a by omega]
      refine ⟨fun hz => skip (fun z => ?_), fun hz => ?_⟩
      · rw [Bool.and_eq_true] at z
        exact hz (ek.mpr z.2)
      · refine ih _ (x3 + 1) (by omega) (by omega) ?_
        have hr : (decide (x3.toInt.toNat ≠ a) && rel a x3.toInt.toNat) = true := by
          rw [ek.mp hz, decide_eq_true (show x3.toInt.toNat ≠ a by omega)]
          rfl
        rw [en, hb]
        show _ = if (decide (x3.toInt.toNat ≠ a) && rel a x3.toInt.toNat) = true then sset rel a x3.toInt.toNat ||| ((1 : Int32) <<< (Int32.ofNat x3.toInt.toNat &&& 31)) else sset rel a x3.toInt.toNat
        rw [if_pos hr, hx3]
theorem pX12_strangersOf {G : jdG} {n : Nat} {Z : jdL} {J : jdJ} {K : Int32 → jdI → jdJ → Prop} {I : jdI} {t a N st : Nat} {rel : Nat → Nat → Bool} {x1 : Int32} (ht : zModel Z t) (hg : GM I t N st rel) (hN : N ≤ 8) (h1 : x1.toInt = (a : Int)) (ha : a < N) (hK : K (sset rel a N) I J) : Cl G mX12_strangersOf n 0 0 [.ref (gb G + t), .int x1] Z I J (qi Z K) := by
  refine eX12_strangersOf ht ?_
  exact pX12_strangersOf_4 ht hg hN h1 ha hK N 0 0 (by decide) (by show (0 : Int) + _ = _; omega) rfl

/-- the ties are those of the town w, and its groups are listed -/
def TL (I : jdI) (w : Tw) : Prop := GX I w.1.toNat w.2.2.2.1.toNat (relW w) ∧ (∀ p : Nat, (p : Int) < w.1 → I (13 + 2) p = w.2.2.1 p) ∧ (I 13 8).toInt = ((DL (relW w) w.1.toNat 0 w.2.2.2.1.toNat 0).length : Int) ∧ LiS I (13 + 3) (DL (relW w) w.1.toNat 0 w.2.2.2.1.toNat 0)
def SYM (w : Tw) : Prop := ∀ i j, w.2.2.2.2.2 i j = w.2.2.2.2.2 j i
theorem relW_s {w : Tw} (h : SYM w) (a b : Nat) : relW w a b = relW w b a := by
  unfold relW
  rw [h a b]
theorem pX8_load_18 {G : jdG} {n rc rs : Nat} {Z : jdL} {J : jdJ} {K : jdI → jdJ → Prop} {I0 : jdI} {u1 : Nat} {w : Tw} (ht : zTies Z 13) (hu1 : zTown Z u1) (hus : u1 = 1 ∨ u1 = 5 ∨ u1 = 9) (hsy : SYM w) (hP : 0 ≤ w.1 ∧ w.1 ≤ 7) (hS : 2 ≤ w.2.2.2.1 ∧ w.2.2.2.1 ≤ 4) (hK : ∀ I2 : jdI, WX I2 → Fr (fun a k => (a = 13 ∧ (k = 6 ∨ k = 7 ∨ k = 8 ∨ k = 10)) ∨ (14 ≤ a ∧ a ≤ 16)) I0 I2 → TL I2 w → (I2 13 10).toInt = 0 → K I2 J) : ∀ f : Nat, ∀ (I : jdI) (x2 : Int32), WX I → Fr (fun a k => (a = 13 ∧ (k = 6 ∨ k = 7 ∨ k = 8 ∨ k = 10)) ∨ (14 ≤ a ∧ a ≤ 16)) I0 I → RX I u1 w → (I 13 6).toInt = w.1 → (I 13 7).toInt = w.2.2.2.1 → 0 ≤ x2.toInt → x2.toInt + (f : Int) = w.1 → (∀ p : Nat, (p : Int) < x2.toInt → I (13 + 1) p = sset (relW w) p w.1.toNat) → (∀ p : Nat, (p : Int) < x2.toInt → I (13 + 2) p = w.2.2.1 p) → Jd G mX8_load (jdFm G (qv Z K)) (n + 7) rc rs 18 [(0, .ref (gb G + 13)), (1, .ref (gb G + u1)), (2, .int x2)] [] Z I J := by
  intro f
  induction f with
  | zero =>
    intro I x2 hW hF hR h6 h7 h2 hf hb hc
    refine rX8_load_18 ht hu1 ⟨fun _ => ?_, fun hx => absurd (Int32.le_iff_toInt_le.mpr (by omega)) hx⟩
    have hg : GX I w.1.toNat w.2.2.2.1.toNat (relW w) := ⟨by omega, by omega, fun p hp => hb p (by omega)⟩
    refine pX8_list ht hW hg (by omega) (by omega) (relW_s hsy) (fun I2 hW2 hF2 hl hL hz => ?_)
    refine hK I2 hW2 (Fr.tr hF hF2 (by intro a k h; omega)) ⟨GX_fr hg hF2 (by omega) (by omega) (by intro k; omega), fun p hp => ?_, hl, hL⟩ hz
    rw [hF2 (13 + 2) p (by omega)]
    exact hc p (by omega)
  | succ f ih =>
    intro I x2 hW hF hR h6 h7 h2 hf hb hc
    have q1 : (1 : Int32).toInt = 1 := rfl
    have e2 := i32_add x2 1 (by omega) (by omega)
    have n2 := tn_eq x2
    refine rX8_load_18 ht hu1 ⟨fun hx => by have := Int32.le_iff_toInt_le.mp hx; omega, fun _ => ?_⟩
    refine pX9_strangersTo (a := x2.toInt.toNat) hu1 hus hW hR (by omega) (by omega) ⟨vp_of (by omega) (by omega), vp_of (by omega) (by omega), vp_of (by omega) (by omega), ?_⟩
    generalize hv : sset (relW w) x2.toInt.toNat w.1.toNat = v
    have ec : (uI I (13 + 1) (Int32.toNatClampNeg x2) v) (u1 + 2) (Int32.toNatClampNeg x2) = w.2.2.1 x2.toInt.toNat := by
      rw [uI_n _ _ _ (by omega)]
      exact (hR.2.1 x2.toInt.toNat (by omega)).2
    rw [ec]
    have w1 : WX (uI I (13 + 1) (Int32.toNatClampNeg x2) v) := WX_uI hW (by first | exact okXo (by decide) | (unfold okX; refine ⟨?_, ?_, ?_, ?_, ?_, ?_, ?_, ?_, ?_, ?_⟩ <;> intro h <;> omega))
    have f1 : Fr (fun a k => 14 ≤ a ∧ a ≤ 15) I (uI (uI I (13 + 1) (Int32.toNatClampNeg x2) v) (13 + 2) (Int32.toNatClampNeg x2) (w.2.2.1 x2.toInt.toNat)) := Fr_uI (Fr_uI Fr.rf (by omega)) (by omega)
    refine ih _ (x2 + 1) (WX_uI w1 (by first | exact okXo (by decide) | (unfold okX; refine ⟨?_, ?_, ?_, ?_, ?_, ?_, ?_, ?_, ?_, ?_⟩ <;> intro h <;> omega))) (Fr.tr hF f1 (by intro a k h; omega)) (RX_fr hR f1 (by intro a k h1 h2; omega)) (by rw [f1 13 6 (by omega)]; exact h6) (by rw [f1 13 7 (by omega)]; exact h7) (by omega) (by omega) (fun p hp => ?_) (fun p hp => ?_)
    · rw [uI_n _ _ _ (by omega), uI_ap]
      by_cases c : p = Int32.toNatClampNeg x2
      · rw [if_pos ⟨rfl, c⟩, ← hv, show x2.toInt.toNat = p by omega]
      · rw [if_neg (fun z => c z.2)]
        exact hb p (by omega)
    · rw [uI_ap]
      by_cases c : p = Int32.toNatClampNeg x2
      · rw [if_pos ⟨rfl, c⟩, show x2.toInt.toNat = p by omega]
      · rw [if_neg (fun z => c z.2), uI_n _ _ _ (by omega)]
        exact hc p (by omega)
theorem pX8_load {G : jdG} {n : Nat} {Z : jdL} {J : jdJ} {K : jdI → jdJ → Prop} {I : jdI} {u1 : Nat} {w : Tw} (ht : zTies Z 13) (hu1 : zTown Z u1) (hus : u1 = 1 ∨ u1 = 5 ∨ u1 = 9) (hW : WX I) (hw : RX I u1 w) (hsy : SYM w) (hK : ∀ I2 : jdI, WX I2 → Fr (fun a k => (a = 13 ∧ (k = 6 ∨ k = 7 ∨ k = 8 ∨ k = 10)) ∨ (14 ≤ a ∧ a ≤ 16)) I I2 → TL I2 w → (I2 13 10).toInt = 0 → K I2 J) : Cl G mX8_load (n + 7) 0 0 [.ref (gb G + 13), .ref (gb G + u1)] Z I J (qv Z K) := by
  have hp := WX_town hW hus
  have w1 := hw.1
  have w3 := hw.2.2.1
  refine eX8_load ht hu1 ?_
  have e7 : (uI I 13 6 (I u1 3)) u1 4 = I u1 4 := by rw [uI_ap, if_neg (by omega)]
  rw [e7]
  have wa : WX (uI I 13 6 (I u1 3)) := WX_uI hW (by first | exact okXo (by decide) | (unfold okX; refine ⟨?_, ?_, ?_, ?_, ?_, ?_, ?_, ?_, ?_, ?_⟩ <;> intro h <;> omega))
  have f1 : Fr (fun a k => a = 13 ∧ (k = 6 ∨ k = 7)) I (uI (uI I 13 6 (I u1 3)) 13 7 (I u1 4)) := Fr_uI (Fr_uI Fr.rf (by omega)) (by omega)
  refine pX8_load_18 ht hu1 hus hsy ⟨by omega, by omega⟩ ⟨by omega, by omega⟩ hK w.1.toNat _ 0 (WX_uI wa (by first | exact okXo (by decide) | (unfold okX; refine ⟨?_, ?_, ?_, ?_, ?_, ?_, ?_, ?_, ?_, ?_⟩ <;> intro h <;> omega))) (Fr.tr Fr.rf f1 (by intro a k h; omega)) (RX_fr hw f1 (by intro a k h1 h2; omega)) ?_ ?_ (by decide) (by show (0 : Int) + _ = _; omega) (fun p hp => ?_) (fun p hp => ?_)
  · rw [uI_ap, if_neg (by omega), uI_ap, if_pos ⟨rfl, rfl⟩]
    exact w1
  · rw [uI_ap, if_pos ⟨rfl, rfl⟩]
    exact w3
  · have hp : (p : Int) < 0 := hp
    omega
  · have hp : (p : Int) < 0 := hp
    omega
