/-! subsets of a mask, one behind another; how many of them are good -/
def sumN (F : Nat → Int) : Nat → Int
  | 0 => 0
  | k + 1 => sumN F k + F k
theorem sumN_c {F F2 : Nat → Int} : ∀ k, (∀ n, n < k → F n = F2 n) → sumN F k = sumN F2 k
  | 0, _ => rfl
  | k + 1, h => by
    show sumN F k + F k = sumN F2 k + F2 k
    rw [sumN_c k (fun n hn => h n (by omega)), h k (by omega)]
theorem sumN_b {F : Nat → Int} (h : ∀ n, 0 ≤ F n ∧ F n ≤ 1) : ∀ k, 0 ≤ sumN F k ∧ sumN F k ≤ (k : Int)
  | 0 => ⟨Int.le_refl _, Int.le_refl _⟩
  | k + 1 => by
    have ih := sumN_b h k
    have hk := h k
    show 0 ≤ sumN F k + F k ∧ sumN F k + F k ≤ ((k + 1 : Nat) : Int)
    omega
theorem sumN_2 (F : Nat → Int) : ∀ k, sumN F (2 * k) = sumN (fun n => F (2 * n)) k + sumN (fun n => F (2 * n + 1)) k
  | 0 => rfl
  | k + 1 => by
    rw [show 2 * (k + 1) = 2 * k + 1 + 1 by omega]
    show sumN F (2 * k) + F (2 * k) + F (2 * k + 1) = (sumN (fun n => F (2 * n)) k + F (2 * k)) + (sumN (fun n => F (2 * n + 1)) k + F (2 * k + 1))
    rw [sumN_2 F k]
    omega
def secB : List Nat → Nat → Int32
  | [], _ => 0
  | b :: L, n => (if n % 2 = 1 then bitN b else 0) ||| secB L (n / 2)
def cnL (F : Int32 → Int) : List Nat → Int32 → Int
  | [], a => F a
  | b :: L, a => cnL F L a + cnL F L (a ||| bitN b)
theorem sum_cnL (F : Int32 → Int) : ∀ (L : List Nat) (a : Int32), sumN (fun n => F (a ||| secB L n)) (2 ^ L.length) = cnL F L a
  | [], a => by
    rw [show 2 ^ ([] : List Nat).length = 1 from rfl]
    show 0 + F (a ||| 0) = F a
    rw [Int.zero_add, Int32.or_zero]
  | b :: L, a => by
    have e1 : sumN (fun n => F (a ||| secB (b :: L) (2 * n))) (2 ^ L.length) = cnL F L a := by
      rw [← sum_cnL F L a]
      refine sumN_c _ (fun n _ => ?_)
      show F (a ||| ((if 2 * n % 2 = 1 then bitN b else 0) ||| secB L (2 * n / 2))) = F (a ||| secB L n)
      rw [if_neg (by omega), show 2 * n / 2 = n by omega, Int32.zero_or]
    have e2 : sumN (fun n => F (a ||| secB (b :: L) (2 * n + 1))) (2 ^ L.length) = cnL F L (a ||| bitN b) := by
      rw [← sum_cnL F L (a ||| bitN b)]
      refine sumN_c _ (fun n _ => ?_)
      show F (a ||| ((if (2 * n + 1) % 2 = 1 then bitN b else 0) ||| secB L ((2 * n + 1) / 2))) = F ((a ||| bitN b) ||| secB L n)
      rw [if_pos (by omega), show (2 * n + 1) / 2 = n by omega, Int32.or_assoc]
    have e3 : sumN (fun n => F (a ||| secB (b :: L) n)) (2 * 2 ^ L.length) = sumN (fun n => F (a ||| secB (b :: L) (2 * n))) (2 ^ L.length) + sumN (fun n => F (a ||| secB (b :: L) (2 * n + 1))) (2 ^ L.length) := sumN_2 (fun n => F (a ||| secB (b :: L) n)) (2 ^ L.length)
    rw [show 2 ^ (b :: L).length = 2 * 2 ^ L.length by rw [List.length_cons, Nat.pow_succ]; omega, e3, e1, e2]
    rfl
theorem sum_cn0 (F : Int32 → Int) (L : List Nat) : sumN (fun n => F (secB L n)) (2 ^ L.length) = cnL F L 0 := by
  rw [← sum_cnL F L 0]
  refine sumN_c _ (fun n _ => ?_)
  rw [Int32.zero_or]
theorem cnL_perm {F : Int32 → Int} {L M : List Nat} (h : L.Perm M) : ∀ a, cnL F L a = cnL F M a := by
  induction h with
  | nil => intro a; rfl
  | cons b _ ih =>
    intro a
    show cnL F _ a + cnL F _ (a ||| bitN b) = cnL F _ a + cnL F _ (a ||| bitN b)
    rw [ih, ih]
  | swap x y l =>
    intro a
    show (cnL F l a + cnL F l (a ||| bitN x)) + (cnL F l (a ||| bitN y) + cnL F l ((a ||| bitN y) ||| bitN x)) = (cnL F l a + cnL F l (a ||| bitN y)) + (cnL F l (a ||| bitN x) + cnL F l ((a ||| bitN x) ||| bitN y))
    rw [show (a ||| bitN y) ||| bitN x = (a ||| bitN x) ||| bitN y by rw [Int32.or_assoc, Int32.or_assoc, Int32.or_comm (bitN y)]]
    omega
  | trans _ _ i1 i2 =>
    intro a
    rw [i1, i2]
/-- the places of the bits of o, from i on -/
def pos : Nat → Nat → Nat → List Nat
  | 0, _, _ => []
  | w + 1, o, i => if o % 2 = 1 then i :: pos w (o / 2) (i + 1) else pos w (o / 2) (i + 1)
theorem pos_mem : ∀ (w o i j : Nat), j ∈ pos w o i ↔ (i ≤ j ∧ j < i + w) ∧ o.testBit (j - i) = true
  | 0, o, i, j => ⟨fun h => (by cases h), fun h => (by omega)⟩
  | w + 1, o, i, j => by
    have ih := pos_mem w (o / 2) (i + 1) j
    have es : i + 1 ≤ j → o.testBit (j - i) = (o / 2).testBit (j - (i + 1)) := fun h => by rw [show j - i = (j - (i + 1)) + 1 by omega, Nat.testBit_succ]
    by_cases c : o % 2 = 1
    · rw [show pos (w + 1) o i = i :: pos w (o / 2) (i + 1) from if_pos c, List.mem_cons, ih]
      by_cases e : j = i
      · refine ⟨fun _ => ⟨by omega, ?_⟩, fun _ => Or.inl e⟩
        rw [e, Nat.sub_self, Nat.testBit_zero]
        exact decide_eq_true c
      · constructor
        · intro h
          rcases h with h | h
          · exact absurd h e
          · exact ⟨by omega, by rw [es (by omega)]; exact h.2⟩
        · intro h
          exact Or.inr ⟨by omega, by rw [← es (by omega)]; exact h.2⟩
    · rw [show pos (w + 1) o i = pos w (o / 2) (i + 1) from if_neg c, ih]
      by_cases e : j = i
      · constructor
        · intro h
          omega
        · intro h
          exfalso
          have h2 := h.2
          rw [e, Nat.sub_self, Nat.testBit_zero] at h2
          exact c (of_decide_eq_true h2)
      · constructor
        · intro h
          exact ⟨by omega, by rw [es (by omega)]; exact h.2⟩
        · intro h
          exact ⟨by omega, by rw [← es (by omega)]; exact h.2⟩
theorem pos_nd : ∀ (w o i : Nat), (pos w o i).Nodup
  | 0, _, _ => List.Pairwise.nil
  | w + 1, o, i => by
    have ih := pos_nd w (o / 2) (i + 1)
    by_cases c : o % 2 = 1
    · rw [show pos (w + 1) o i = i :: pos w (o / 2) (i + 1) from if_pos c]
      exact List.nodup_cons.mpr ⟨fun h => by have := ((pos_mem w (o / 2) (i + 1) i).mp h).1.1; omega, ih⟩
    · rw [show pos (w + 1) o i = pos w (o / 2) (i + 1) from if_neg c]
      exact ih
/-- the bits of n laid on those of o -/
def pd : Nat → Nat → Nat → Nat
  | 0, _, _ => 0
  | w + 1, o, n => if o % 2 = 1 then 2 * pd w (o / 2) (n / 2) + n % 2 else 2 * pd w (o / 2) n
theorem land2 (x y a b : Nat) (ha : a < 2) (hb : b < 2) : (2 * x + a) &&& (2 * y + b) = 2 * (x &&& y) + (if a = 1 ∧ b = 1 then 1 else 0) := by
  have e1 : ((2 * x + a) &&& (2 * y + b)) / 2 = x &&& y := by rw [Nat.and_div_two, show (2 * x + a) / 2 = x by omega, show (2 * y + b) / 2 = y by omega]
  have e2 : ((2 * x + a) &&& (2 * y + b)) % 2 = 1 ↔ a = 1 ∧ b = 1 := by
    rw [Nat.and_mod_two_eq_one]
    omega
  generalize (2 * x + a) &&& (2 * y + b) = A at e1 e2 ⊢
  generalize x &&& y = B at e1 ⊢
  by_cases c : a = 1 ∧ b = 1
  · rw [if_pos c]
    have := e2.mpr c
    omega
  · rw [if_neg c]
    have : ¬ A % 2 = 1 := fun z => c (e2.mp z)
    omega
theorem pd_keep : ∀ (w o n : Nat), o < 2 ^ w → (pd w o n + (2 ^ w - 1 - o)) &&& o = pd w o n
  | 0, o, n, h => by
    have h0 : o = 0 := by
      have : (2 : Nat) ^ 0 = 1 := rfl
      omega
    rw [h0, Nat.and_zero]
    rfl
  | w + 1, o, n, h => by
    have h2 : (2 : Nat) ^ (w + 1) = 2 * 2 ^ w := by rw [Nat.pow_succ]; omega
    have ho : o / 2 < 2 ^ w := by omega
    by_cases c : o % 2 = 1
    · have e : pd (w + 1) o n = 2 * pd w (o / 2) (n / 2) + n % 2 := if_pos c
      have ih := pd_keep w (o / 2) (n / 2) ho
      have f := land2 (pd w (o / 2) (n / 2) + (2 ^ w - 1 - o / 2)) (o / 2) (n % 2) 1 (by omega) (by omega)
      have g2 : 2 * (o / 2) + 1 = o := by omega
      rw [ih, g2] at f
      have g1 : 2 * pd w (o / 2) (n / 2) + n % 2 + (2 * 2 ^ w - 1 - o) = 2 * (pd w (o / 2) (n / 2) + (2 ^ w - 1 - o / 2)) + n % 2 := by omega
      rw [e, h2, g1, f]
      by_cases d : n % 2 = 1
      · rw [if_pos ⟨d, rfl⟩, d]
      · rw [if_neg (fun z => d z.1), show n % 2 = 0 by omega]
    · have e : pd (w + 1) o n = 2 * pd w (o / 2) n := if_neg c
      have ih := pd_keep w (o / 2) n ho
      have f := land2 (pd w (o / 2) n + (2 ^ w - 1 - o / 2)) (o / 2) 1 0 (by omega) (by omega)
      have g2 : 2 * (o / 2) + 0 = o := by omega
      rw [ih, g2] at f
      have g1 : 2 * pd w (o / 2) n + (2 * 2 ^ w - 1 - o) = 2 * (pd w (o / 2) n + (2 ^ w - 1 - o / 2)) + 1 := by omega
      rw [e, h2, g1, f, if_neg (by omega), Nat.add_zero]
theorem pd_step : ∀ (w o n : Nat), o < 2 ^ w → (pd w o n + (2 ^ w - o)) &&& o = pd w o (n + 1)
  | 0, o, n, h => by
    have h0 : o = 0 := by
      have : (2 : Nat) ^ 0 = 1 := rfl
      omega
    rw [h0, Nat.and_zero]
    rfl
  | w + 1, o, n, h => by
    have h2 : (2 : Nat) ^ (w + 1) = 2 * 2 ^ w := by rw [Nat.pow_succ]; omega
    have ho : o / 2 < 2 ^ w := by omega
    by_cases c : o % 2 = 1
    · have e : pd (w + 1) o n = 2 * pd w (o / 2) (n / 2) + n % 2 := if_pos c
      have e1 : pd (w + 1) o (n + 1) = 2 * pd w (o / 2) ((n + 1) / 2) + (n + 1) % 2 := if_pos c
      have g2 : 2 * (o / 2) + 1 = o := by omega
      by_cases d : n % 2 = 1
      · have ih := pd_step w (o / 2) (n / 2) ho
        have f := land2 (pd w (o / 2) (n / 2) + (2 ^ w - o / 2)) (o / 2) 0 1 (by omega) (by omega)
        rw [ih, g2] at f
        have g1 : 2 * pd w (o / 2) (n / 2) + n % 2 + (2 * 2 ^ w - o) = 2 * (pd w (o / 2) (n / 2) + (2 ^ w - o / 2)) + 0 := by omega
        rw [e, e1, h2, g1, f, if_neg (by omega), show (n + 1) / 2 = n / 2 + 1 by omega, show (n + 1) % 2 = 0 by omega]
      · have k := pd_keep w (o / 2) (n / 2) ho
        have f := land2 (pd w (o / 2) (n / 2) + (2 ^ w - 1 - o / 2)) (o / 2) 1 1 (by omega) (by omega)
        rw [k, g2] at f
        have g1 : 2 * pd w (o / 2) (n / 2) + n % 2 + (2 * 2 ^ w - o) = 2 * (pd w (o / 2) (n / 2) + (2 ^ w - 1 - o / 2)) + 1 := by omega
        rw [e, e1, h2, g1, f, if_pos ⟨rfl, rfl⟩, show (n + 1) / 2 = n / 2 by omega, show (n + 1) % 2 = 1 by omega]
    · have e : pd (w + 1) o n = 2 * pd w (o / 2) n := if_neg c
      have e1 : pd (w + 1) o (n + 1) = 2 * pd w (o / 2) (n + 1) := if_neg c
      have ih := pd_step w (o / 2) n ho
      have f := land2 (pd w (o / 2) n + (2 ^ w - o / 2)) (o / 2) 0 0 (by omega) (by omega)
      have g2 : 2 * (o / 2) + 0 = o := by omega
      rw [ih, g2] at f
      have g1 : 2 * pd w (o / 2) n + (2 * 2 ^ w - o) = 2 * (pd w (o / 2) n + (2 ^ w - o / 2)) + 0 := by omega
      rw [e, e1, h2, g1, f, if_neg (by omega), Nat.add_zero]
theorem bitN_N : ∀ b : Fin 32, N32 (bitN b.val) = 2 ^ b.val := by decide +kernel
theorem N_or (a b : Int32) : N32 (a ||| b) = N32 a ||| N32 b := rfl
theorem secB_pos : ∀ (w o i n : Nat), i + w ≤ 32 → N32 (secB (pos w o i) n) = 2 ^ i * pd w o n
  | 0, o, i, n, h => by
    show N32 0 = 2 ^ i * 0
    rw [Nat.mul_zero]
    rfl
  | w + 1, o, i, n, h => by
    by_cases c : o % 2 = 1
    · have e1 : pos (w + 1) o i = i :: pos w (o / 2) (i + 1) := if_pos c
      have e2 : pd (w + 1) o n = 2 * pd w (o / 2) (n / 2) + n % 2 := if_pos c
      rw [e1, e2]
      show N32 ((if n % 2 = 1 then bitN i else 0) ||| secB (pos w (o / 2) (i + 1)) (n / 2)) = _
      have hb : N32 (if n % 2 = 1 then bitN i else 0) = 2 ^ i * (n % 2) := by
        by_cases d : n % 2 = 1
        · rw [if_pos d, d, Nat.mul_one]
          exact bitN_N ⟨i, by omega⟩
        · rw [if_neg d, show n % 2 = 0 by omega, Nat.mul_zero]
          rfl
      have h2 : (2 : Nat) ^ (i + 1) = 2 ^ i * 2 := Nat.pow_succ 2 i
      have hp := Nat.two_pow_pos i
      have lt : 2 ^ i * (n % 2) < 2 ^ (i + 1) := by
        rw [h2]
        exact Nat.mul_lt_mul_of_pos_left (by omega) hp
      rw [N_or, secB_pos w (o / 2) (i + 1) (n / 2) (by omega), hb, Nat.or_comm, ← Nat.two_pow_add_eq_or_of_lt lt, h2, Nat.mul_add, Nat.mul_assoc]
    · have e1 : pos (w + 1) o i = pos w (o / 2) (i + 1) := if_neg c
      have e2 : pd (w + 1) o n = 2 * pd w (o / 2) n := if_neg c
      rw [e1, e2, secB_pos w (o / 2) (i + 1) n (by omega), Nat.pow_succ, Nat.mul_assoc]
theorem N_inj {a b : Int32} (h : N32 a = N32 b) : a = b := Int32.toBitVec_inj.mp (BitVec.eq_of_toNat_eq h)
/-- the next of the subsets of o -/
theorem sec_step {o : Int32} {n : Nat} : (secB (pos 32 (N32 o) 0) n - o) &&& o = secB (pos 32 (N32 o) 0) (n + 1) := by
  have ho : N32 o < 2 ^ 32 := o.toBitVec.isLt
  have st := pd_step 32 (N32 o) n ho
  have hs : N32 (secB (pos 32 (N32 o) 0) n) = pd 32 (N32 o) n := by rw [secB_pos 32 (N32 o) 0 n (by omega), Nat.pow_zero, Nat.one_mul]
  have hs1 : N32 (secB (pos 32 (N32 o) 0) (n + 1)) = pd 32 (N32 o) (n + 1) := by rw [secB_pos 32 (N32 o) 0 (n + 1) (by omega), Nat.pow_zero, Nat.one_mul]
  apply N_inj
  generalize secB (pos 32 (N32 o) 0) n = s at hs ⊢
  rw [hs1, N_and, ← st, ← hs]
  have e : N32 (s - o) = (2 ^ 32 - N32 o + N32 s) % 2 ^ 32 := BitVec.toNat_sub _ _
  rw [e, Nat.add_comm (2 ^ 32 - N32 o) (N32 s)]
  apply Nat.eq_of_testBit_eq
  intro i
  rw [Nat.testBit_and, Nat.testBit_and, Nat.testBit_mod_two_pow]
  by_cases c : i < 32
  · rw [decide_eq_true c, Bool.true_and]
  · rw [Nat.testBit_lt_two_pow (x := N32 o) (Nat.lt_of_lt_of_le ho (Nat.pow_le_pow_right (by omega) (by omega))), Bool.and_false, Bool.and_false]
theorem bt_N (y : Int32) {i : Nat} (h : i < 32) : bt y i = (N32 y).testBit i := bt_lsb y i h
/-- the bits of a mask below 24 -/
def bits24 (y : Int32) : List Nat := (List.range 24).filter (fun i => bt y i)
theorem bits_len (y : Int32) : ∀ k, ((List.range k).filter (fun i => bt y i)).length = cdN y k
  | 0 => rfl
  | k + 1 => by
    rw [List.range_succ, List.filter_append, List.length_append, bits_len y k]
    show cdN y k + _ = cdN y k + (if bt y k = true then 1 else 0)
    by_cases c : bt y k = true
    · rw [if_pos c, List.filter_cons_of_pos c]
      rfl
    · rw [if_neg c, List.filter_cons_of_neg c]
      rfl
theorem bits_nd (y : Int32) : (bits24 y).Nodup := List.Pairwise.filter _ List.nodup_range
theorem bits_mem {y : Int32} {i : Nat} : i ∈ bits24 y ↔ i < 24 ∧ bt y i = true := by
  unfold bits24
  rw [List.mem_filter, List.mem_range]
theorem perm_of {L M : List Nat} (h1 : L.Nodup) (h2 : M.Nodup) (h : ∀ i, i ∈ L ↔ i ∈ M) : L.Perm M := (List.perm_ext_iff_of_nodup h1 h2).mpr h
theorem pos_bits {y : Int32} (h0 : 0 ≤ y.toInt) (h1 : y.toInt < 16777216) : (pos 32 (N32 y) 0).Perm (bits24 y) := by
  have e := i32_nat y h0
  have hN : N32 y < 2 ^ 24 := by
    show y.toBitVec.toNat < 2 ^ 24
    omega
  refine perm_of (pos_nd _ _ _) (bits_nd y) (fun i => ?_)
  rw [pos_mem, bits_mem, Nat.sub_zero]
  constructor
  · intro h
    have h24 : i < 24 := Nat.lt_of_not_le (fun z => by
      have h2 := h.2
      rw [Nat.testBit_lt_two_pow (x := N32 y) (Nat.lt_of_lt_of_le hN (Nat.pow_le_pow_right (by omega) z))] at h2
      cases h2)
    exact ⟨h24, by rw [bt_N y (by omega)]; exact h.2⟩
  · intro h
    exact ⟨by omega, by rw [← bt_N y (by omega)]; exact h.2⟩
theorem secB_bt : ∀ (L : List Nat), (∀ b ∈ L, b < 32) → ∀ (n i : Nat), i < 32 → (bt (secB L n) i = true ↔ ∃ k, L[k]? = some i ∧ n.testBit k = true)
  | [], _, n, i, hi => by
    refine ⟨fun h => ?_, fun ⟨k, hk, _⟩ => ?_⟩
    · have h : bt 0 i = true := h
      rw [bt_ze i hi] at h
      cases h
    · rw [List.getElem?_nil] at hk
      cases hk
  | b :: L, hL, n, i, hi => by
    have ih := secB_bt L (fun x hx => hL x (List.mem_cons_of_mem _ hx)) (n / 2) i hi
    have hb := hL b List.mem_cons_self
    show bt ((if n % 2 = 1 then bitN b else 0) ||| secB L (n / 2)) i = true ↔ _
    rw [bt_or _ _ _ hi, Bool.or_eq_true, ih]
    constructor
    · intro h
      rcases h with h | ⟨k, h1, h2⟩
      · by_cases d : n % 2 = 1
        · rw [if_pos d, bitN_bt hb hi] at h
          exact ⟨0, by rw [of_decide_eq_true h]; rfl, by rw [Nat.testBit_zero]; exact decide_eq_true d⟩
        · rw [if_neg d, bt_ze i hi] at h
          cases h
      · exact ⟨k + 1, h1, by rw [Nat.testBit_succ]; exact h2⟩
    · intro ⟨k, h1, h2⟩
      cases k with
      | zero =>
        refine Or.inl ?_
        rw [Nat.testBit_zero] at h2
        have h1 : b = i := Option.some.inj h1
        rw [if_pos (of_decide_eq_true h2), bitN_bt hb hi, h1]
        exact decide_eq_true rfl
      | succ k => exact Or.inr ⟨k, h1, by rw [Nat.testBit_succ] at h2; exact h2⟩
theorem secB_at {L : List Nat} (hL : ∀ b ∈ L, b < 32) (hd : L.Nodup) {n k i : Nat} (hk : L[k]? = some i) : bt (secB L n) i = n.testBit k := by
  have hi : i < 32 := hL i (List.mem_of_getElem? hk)
  refine Bool.eq_iff_iff.mpr ((secB_bt L hL n i hi).trans ⟨fun ⟨j, h1, h2⟩ => ?_, fun h => ⟨k, hk, h⟩⟩)
  obtain ⟨hj, _⟩ := List.getElem?_eq_some_iff.mp h1
  have e : j = k := (List.getElem?_inj hj hd).mp (h1.trans hk.symm)
  rw [← e]
  exact h2
/-! the ways in which no group is left -/
def gdM (M : List Int32) (s : Int32) : Bool := M.all (fun p => !(decide ((p &&& s) = 0)))
def FG (M : List Int32) (s : Int32) : Int := if gdM M s = true then 1 else 0
def FK (M : List Int32) (k : Nat) (s : Int32) : Int := if gdM M s = true ∧ bt s k = true then 1 else 0
theorem FG_b (M : List Int32) (s : Int32) : 0 ≤ FG M s ∧ FG M s ≤ 1 := by
  unfold FG
  split <;> omega
theorem FK_b (M : List Int32) (k : Nat) (s : Int32) : 0 ≤ FK M k s ∧ FK M k s ≤ 1 := by
  unfold FK
  split <;> omega
/-- the pairs of strangers of a set, in order -/
def prI (f : Nat → Nat → Bool) (p : Nat) : Nat → Nat → List (Nat × Nat)
  | 0, _ => []
  | k + 1, q => if f p q = true then (p, q) :: prI f p k (q + 1) else prI f p k (q + 1)
def prO (f : Nat → Nat → Bool) (N : Nat) : Nat → Nat → List (Nat × Nat)
  | 0, _ => []
  | k + 1, p => prI f p (N - (p + 1)) (p + 1) ++ prO f N k (p + 1)
theorem prI_mem {f : Nat → Nat → Bool} {p : Nat} {x : Nat × Nat} : ∀ (k q : Nat), x ∈ prI f p k q ↔ x.1 = p ∧ (q ≤ x.2 ∧ x.2 < q + k) ∧ f p x.2 = true
  | 0, q => ⟨fun h => (by cases h), fun h => (by omega)⟩
  | k + 1, q => by
    have ih := prI_mem (f := f) (p := p) (x := x) k (q + 1)
    by_cases c : f p q = true
    · rw [show prI f p (k + 1) q = (p, q) :: prI f p k (q + 1) from if_pos c, List.mem_cons, ih]
      constructor
      · intro h
        rcases h with h | h
        · rw [h]
          exact ⟨rfl, ⟨Nat.le_refl _, by show q < _; omega⟩, c⟩
        · exact ⟨h.1, ⟨by omega, by omega⟩, h.2.2⟩
      · intro h
        by_cases e : x.2 = q
        · exact Or.inl (Prod.ext h.1 e)
        · exact Or.inr ⟨h.1, ⟨by omega, by omega⟩, h.2.2⟩
    · rw [show prI f p (k + 1) q = prI f p k (q + 1) from if_neg c, ih]
      constructor
      · intro h
        exact ⟨h.1, ⟨by omega, by omega⟩, h.2.2⟩
      · intro h
        have e : ¬ x.2 = q := fun z => c (by rw [← z]; exact h.2.2)
        exact ⟨h.1, ⟨by omega, by omega⟩, h.2.2⟩
theorem prI_nd {f : Nat → Nat → Bool} {p : Nat} : ∀ (k q : Nat), (prI f p k q).Nodup
  | 0, _ => List.Pairwise.nil
  | k + 1, q => by
    have ih := prI_nd (f := f) (p := p) k (q + 1)
    by_cases c : f p q = true
    · rw [show prI f p (k + 1) q = (p, q) :: prI f p k (q + 1) from if_pos c]
      refine List.nodup_cons.mpr ⟨fun h => ?_, ih⟩
      have := ((prI_mem k (q + 1)).mp h).2.1.1
      have : q + 1 ≤ q := this
      omega
    · rw [show prI f p (k + 1) q = prI f p k (q + 1) from if_neg c]
      exact ih
theorem prO_mem {f : Nat → Nat → Bool} {N : Nat} {x : Nat × Nat} : ∀ (k p : Nat), p + k = N → (x ∈ prO f N k p ↔ p ≤ x.1 ∧ x.1 < x.2 ∧ x.2 < N ∧ f x.1 x.2 = true)
  | 0, p, h => ⟨fun h => (by cases h), fun h => (by omega)⟩
  | k + 1, p, h => by
    have ih := prO_mem (f := f) (N := N) (x := x) k (p + 1) (by omega)
    show x ∈ prI f p (N - (p + 1)) (p + 1) ++ prO f N k (p + 1) ↔ _
    rw [List.mem_append, ih, prI_mem]
    constructor
    · intro z
      rcases z with z | z
      · exact ⟨by omega, by omega, by omega, by rw [z.1]; exact z.2.2⟩
      · exact ⟨by omega, z.2⟩
    · intro z
      by_cases e : x.1 = p
      · exact Or.inl ⟨e, ⟨by omega, by omega⟩, by rw [← e]; exact z.2.2.2⟩
      · exact Or.inr ⟨by omega, z.2⟩
theorem prO_nd {f : Nat → Nat → Bool} {N : Nat} : ∀ (k p : Nat), p + k = N → (prO f N k p).Nodup
  | 0, _, _ => List.Pairwise.nil
  | k + 1, p, h => by
    show (prI f p (N - (p + 1)) (p + 1) ++ prO f N k (p + 1)).Nodup
    refine List.nodup_append.mpr ⟨prI_nd _ _, prO_nd k (p + 1) (by omega), fun a ha b hb e => ?_⟩
    have h1 := (prI_mem _ _).mp ha
    have h2 := (prO_mem k (p + 1) (by omega)).mp hb
    rw [e] at h1
    omega
def prP (f : Nat → Nat → Bool) (N : Nat) : List (Nat × Nat) := prO f N N 0
def pbs (P : List (Nat × Nat)) : List Nat := P.map (fun x => pb x.1 x.2)
theorem prP_mem {f : Nat → Nat → Bool} {N : Nat} {x : Nat × Nat} : x ∈ prP f N ↔ x.1 < x.2 ∧ x.2 < N ∧ f x.1 x.2 = true := by
  unfold prP
  rw [prO_mem N 0 (by omega)]
  exact ⟨fun h => h.2, fun h => ⟨Nat.zero_le _, h⟩⟩
theorem pbs_nd {f : Nat → Nat → Bool} {N : Nat} (hN : N ≤ 7) : (pbs (prP f N)).Nodup := by
  refine List.pairwise_map.mpr (List.Pairwise.imp_of_mem (fun {a b} ha hb hne e => ?_) (prO_nd (f := f) (N := N) N 0 (by omega)))
  have h1 := prP_mem.mp ha
  have h2 := prP_mem.mp hb
  have z := pb_in ⟨a.2, by omega⟩ ⟨a.1, by omega⟩ ⟨b.2, by omega⟩ ⟨b.1, by omega⟩ h1.1 h2.1 e
  exact hne (Prod.ext z.1 z.2)
theorem pbs_bits {f : Nat → Nat → Bool} {N : Nat} (hN : N ≤ 7) : (pbs (prP f N)).Perm (bits24 (pmO f N)) := by
  refine perm_of (pbs_nd hN) (bits_nd _) (fun i => ?_)
  rw [bits_mem]
  constructor
  · intro h
    obtain ⟨x, hx, e⟩ := List.mem_map.mp h
    have hx := prP_mem.mp hx
    have l := pb_lt ⟨x.2, by omega⟩ ⟨x.1, by omega⟩ hx.1
    have l : pb x.1 x.2 < 21 := l
    have e : pb x.1 x.2 = i := e
    refine ⟨by omega, ?_⟩
    rw [← e]
    exact (pmO_at hN hx.1 hx.2.1).mpr hx.2.2
  · intro h
    obtain ⟨p, q, h1, h2, h3, h4⟩ := (pmO_bt (by omega) N hN).mp h.2
    exact List.mem_map.mpr ⟨(p, q), prP_mem.mpr ⟨h1, h2, h3⟩, h4.symm⟩
theorem pbs_lt {f : Nat → Nat → Bool} {N : Nat} (hN : N ≤ 7) : ∀ b ∈ pbs (prP f N), b < 32 := fun b hb => by
  have := (bits_mem.mp ((pbs_bits hN).mem_iff.mp hb)).1
  omega
/-! the ways of X -/
theorem pX8_breaksAll {G : jdG} {n : Nat} {Z : jdL} {J : jdJ} {K : Int32 → jdI → jdJ → Prop} {I : jdI} {M : List Int32} {x1 x2 : Int32} (ht : zTies Z 13) (h70 : M.length ≤ 70) (h2 : x2.toInt = (M.length : Int)) (hL : LiS I (13 + 4) M) (hK : ∀ v : Int32, (gdM M x1 = true ∧ ¬ v = 0) ∨ (gdM M x1 = false ∧ v = 0) → K v I J) : Cl G mX8_breaksAll n 0 0 [.ref (gb G + 13), .int x1, .int x2] Z I J (qi Z K) := by
  have lp : ∀ f : Nat, ∀ x3 : Int32, 0 ≤ x3.toInt → x3.toInt + (f : Int) = (M.length : Int) → gdM (M.drop x3.toInt.toNat) x1 = gdM M x1 → Jd G mX8_breaksAll (jdFm G (qi Z K)) n 0 0 2 [(0, .ref (gb G + 13)), (1, .int x1), (2, .int x2), (3, .int x3)] [] Z I J := by
    intro f
    induction f with
    | zero =>
      intro x3 h3 hf hr
      rw [drop_end (show M.length ≤ x3.toInt.toNat by omega)] at hr
      have hr : true = gdM M x1 := hr
      exact rX8_breaksAll_2 ht ⟨fun _ => hK 1 (Or.inl ⟨hr.symm, by decide⟩), fun h => absurd (Int32.le_iff_toInt_le.mpr (by omega)) h⟩
    | succ f ih =>
      intro x3 h3 hf hr
      have q1 : (1 : Int32).toInt = 1 := rfl
      have e3 := i32_add x3 1 (by omega) (by omega)
      have n3 := tn_eq x3
      have en : x3.toInt.toNat + 1 = (x3 + 1).toInt.toNat := by omega
      rw [LiS_drop hL (k := x3.toInt.toNat) (by omega)] at hr
      have hr : (!(decide ((I (13 + 4) x3.toInt.toNat &&& x1) = 0)) && gdM (M.drop (x3.toInt.toNat + 1)) x1) = gdM M x1 := hr
      refine rX8_breaksAll_2 ht ⟨fun h => by have := Int32.le_iff_toInt_le.mp h; omega, fun _ => ⟨vp_of (by omega) (by omega), fun hv => ?_, fun hv => ?_⟩⟩
      · rw [n3] at hv
        rw [decide_eq_false hv, Bool.not_false, Bool.true_and, en] at hr
        exact ih (x3 + 1) (by omega) (by omega) hr
      · rw [n3] at hv
        rw [decide_eq_true hv, Bool.not_true, Bool.false_and] at hr
        exact hK 0 (Or.inr ⟨hr.symm, rfl⟩)
  exact eX8_breaksAll ht (lp M.length 0 (by decide) (by show (0 : Int) + _ = _; omega) rfl)
theorem sh_b (s : Int32) (i : Nat) : ((s >>> (Int32.ofNat i &&& 31)) &&& 1).toInt = (if bt s i = true then 1 else 0) := by
  have r := i32_and' 1 (s >>> (Int32.ofNat i &&& 31)) (by decide)
  rw [Int32.and_comm 1] at r
  have q1 : (1 : Int32).toInt = 1 := rfl
  have q0 : (0 : Int32).toInt = 0 := rfl
  by_cases c : bt s i = true
  · rw [if_pos c]
    have c2 : ¬ ((s >>> (Int32.ofNat i &&& 31)) &&& 1) = 0 := of_decide_eq_true c
    have : ¬ ((s >>> (Int32.ofNat i &&& 31)) &&& 1).toInt = 0 := fun z => c2 (Int32.toInt_inj.mp (z.trans q0.symm))
    omega
  · rw [if_neg c]
    have c2 : ((s >>> (Int32.ofNat i &&& 31)) &&& 1) = 0 := Classical.byContradiction (fun z => c (decide_eq_true z))
    rw [c2]
    rfl
theorem pX8_tally {G : jdG} {n : Nat} {Z : jdL} {J : jdJ} {K : jdI → jdJ → Prop} {I : jdI} {x1 : Int32} (ht : zTies Z 13) (hW : WX I) (hK : ∀ I2 : jdI, WX I2 → Fr (fun a _ => a = 13 + 6) I I2 → (∀ k : Nat, (k : Int) < 28 → I2 (13 + 6) k = I (13 + 6) k + ((x1 >>> (Int32.ofNat k &&& 31)) &&& 1)) → K I2 J) : Cl G mX8_tally n 0 0 [.ref (gb G + 13), .int x1] Z I J (qv Z K) := by
  have q28 : (28 : Int32).toInt = 28 := rfl
  have lp : ∀ f : Nat, ∀ (I3 : jdI) (x2 : Int32), WX I3 → Fr (fun a _ => a = 13 + 6) I I3 → RW I I3 (13 + 6) (fun k => I (13 + 6) k + ((x1 >>> (Int32.ofNat k &&& 31)) &&& 1)) x2.toInt → 0 ≤ x2.toInt → x2.toInt + (f : Int) = 28 → Jd G mX8_tally (jdFm G (qv Z K)) n 0 0 2 [(0, .ref (gb G + 13)), (1, .int x1), (2, .int x2)] [] Z I3 J := by
    intro f
    induction f with
    | zero =>
      intro I3 x2 hW3 hF3 hR h2 hf
      exact rX8_tally_2 ht ⟨fun _ => hK I3 hW3 hF3 (fun k hk => hR.1 k (by omega)), fun h => absurd (Int32.le_iff_toInt_le.mpr (by omega)) h⟩
    | succ f ih =>
      intro I3 x2 hW3 hF3 hR h2 hf
      have q1 : (1 : Int32).toInt = 1 := rfl
      have e2 := i32_add x2 1 (by omega) (by omega)
      have n2 := tn_eq x2
      have hw := WX_f hW3
      refine rX8_tally_2 ht ⟨fun h => by have := Int32.le_iff_toInt_le.mp h; omega, fun _ => ⟨vp_of (by omega) (by omega), vp_of (by omega) (by omega), ?_⟩⟩
      refine ih _ (x2 + 1) (WX_uI hW3 (by first | exact okXo (by decide) | (unfold okX; refine ⟨?_, ?_, ?_, ?_, ?_, ?_, ?_, ?_, ?_, ?_⟩ <;> intro h <;> omega))) (Fr_uI hF3 rfl) (RW_s hR h2 e2 ?_) (by omega) (by omega)
      rw [hR.2 (Int32.toNatClampNeg x2) (by omega)]
      show I (13 + 6) (Int32.toNatClampNeg x2) + _ = I (13 + 6) x2.toInt.toNat + ((x1 >>> (Int32.ofNat x2.toInt.toNat &&& 31)) &&& 1)
      rw [← i32_ofNat h2, n2]
  exact eX8_tally ht (lp 28 I 0 hW Fr.rf ⟨fun p hp => by have hp : (p : Int) < 0 := hp; omega, fun p _ => rfl⟩ (by decide) rfl)
theorem pX8_countWays_50 {G : jdG} {n rc rs : Nat} {Z : jdL} {J : jdJ} {K : Int32 → jdI → jdJ → Prop} {I0 : jdI} {M : List Int32} {E : Nat} {x1 x2 x3 x4 : Int32} (ht : zTies Z 13) (h70 : M.length ≤ 70) (h2 : x2.toInt = (M.length : Int)) (hL0 : LiS I0 (13 + 4) M) (hE : E = 2 ^ (pos 32 (N32 x3) 0).length) (hE1 : E ≤ 16777216) (h4 : x4.toInt = (E : Int))
    (hK : ∀ (v : Int32) (I2 : jdI), WX I2 → Fr (fun a _ => a = 13 + 6) I0 I2 → v.toInt = cnL (FG M) (pos 32 (N32 x3) 0) 0 → (∀ k : Nat, (k : Int) < 28 → (I2 (13 + 6) k).toInt = cnL (FK M k) (pos 32 (N32 x3) 0) 0) → K v I2 J) :
    ∀ f : Nat, ∀ (I : jdI) (x5 x7 : Int32) (n9 : Nat), WX I → Fr (fun a _ => a = 13 + 6) I0 I → x7.toInt = (n9 : Int) → n9 + f = E → x5.toInt = sumN (fun m => FG M (secB (pos 32 (N32 x3) 0) m)) n9 → (∀ k : Nat, (k : Int) < 28 → (I (13 + 6) k).toInt = sumN (fun m => FK M k (secB (pos 32 (N32 x3) 0) m)) n9) → Jd G mX8_countWays (jdFm G (qi Z K)) (n + 1) rc rs 50 [(0, .ref (gb G + 13)), (1, .int x1), (2, .int x2), (3, .int x3), (4, .int x4), (5, .int x5), (6, .int (secB (pos 32 (N32 x3) 0) n9)), (7, .int x7)] [] Z I J := by
  intro f
  induction f with
  | zero =>
    intro I x5 x7 n9 hW hF h7 hn h5 hT
    refine rX8_countWays_50 ht ⟨fun _ => hK x5 I hW hF ?_ (fun k hk => ?_), fun h => absurd (Int32.le_iff_toInt_le.mpr (by omega)) h⟩
    · rw [h5, show n9 = 2 ^ (pos 32 (N32 x3) 0).length by omega]
      exact sum_cn0 (FG M) _
    · rw [hT k hk, show n9 = 2 ^ (pos 32 (N32 x3) 0).length by omega]
      exact sum_cn0 (FK M k) _
  | succ f ih =>
    intro I x5 x7 n9 hW hF h7 hn h5 hT
    have q1 : (1 : Int32).toInt = 1 := rfl
    have e7 := i32_add x7 1 (by omega) (by omega)
    have b5 := sumN_b (F := fun m => FG M (secB (pos 32 (N32 x3) 0) m)) (fun m => FG_b M _) n9
    have e5 := i32_add x5 1 (by omega) (by omega)
    refine rX8_countWays_50 ht ⟨fun h => by have := Int32.le_iff_toInt_le.mp h; omega, fun _ => ?_⟩
    refine pX8_breaksAll ht h70 h2 (LiS_fr hL0 hF (by intro k; omega)) (fun v hv => ⟨fun cv => ?_, fun cv => ?_⟩)
    · have hg : gdM M (secB (pos 32 (N32 x3) 0) n9) = false := by
        rcases hv with z | z
        · exact absurd cv z.2
        · exact z.1
      have z1 : FG M (secB (pos 32 (N32 x3) 0) n9) = 0 := if_neg (by rw [hg]; decide)
      rw [sec_step]
      refine ih I x5 (x7 + 1) (n9 + 1) hW hF (by omega) (by omega) ?_ (fun k hk => ?_)
      · show x5.toInt = sumN _ n9 + FG M (secB (pos 32 (N32 x3) 0) n9)
        rw [z1, Int.add_zero]
        exact h5
      · have zk : FK M k (secB (pos 32 (N32 x3) 0) n9) = 0 := if_neg (fun y => by rw [hg] at y; exact absurd y.1 (by decide))
        show _ = sumN _ n9 + FK M k (secB (pos 32 (N32 x3) 0) n9)
        rw [zk, Int.add_zero]
        exact hT k hk
    · have hg : gdM M (secB (pos 32 (N32 x3) 0) n9) = true := by
        rcases hv with z | z
        · exact z.1
        · exact absurd z.2 cv
      have z1 : FG M (secB (pos 32 (N32 x3) 0) n9) = 1 := if_pos hg
      refine pX8_tally ht hW (fun I3 hW3 hF3 hT3 => ?_)
      rw [sec_step]
      refine ih I3 (x5 + 1) (x7 + 1) (n9 + 1) hW3 (Fr.tr hF hF3 (fun _ _ h => h)) (by omega) (by omega) ?_ (fun k hk => ?_)
      · show (x5 + 1).toInt = sumN _ n9 + FG M (secB (pos 32 (N32 x3) 0) n9)
        rw [z1, e5, h5, q1]
      · have bk := sumN_b (F := fun m => FK M k (secB (pos 32 (N32 x3) 0) m)) (fun m => FK_b M k _) n9
        have sb := sh_b (secB (pos 32 (N32 x3) 0) n9) k
        have hk2 := hT k hk
        have zk : FK M k (secB (pos 32 (N32 x3) 0) n9) = if bt (secB (pos 32 (N32 x3) 0) n9) k = true then 1 else 0 := by
          unfold FK
          by_cases c : bt (secB (pos 32 (N32 x3) 0) n9) k = true
          · rw [if_pos c, if_pos ⟨hg, c⟩]
          · rw [if_neg c, if_neg (fun y => c y.2)]
        have zb := FK_b M k (secB (pos 32 (N32 x3) 0) n9)
        show (I3 (13 + 6) k).toInt = sumN _ n9 + FK M k (secB (pos 32 (N32 x3) 0) n9)
        rw [← zk] at sb
        rw [hT3 k hk, i32_add _ _ (by omega) (by omega), sb, hk2]
def MW (w : Tw) (x : Int32) : List Int32 := ((LW w).filter (sbs x)).map (pmG (relW w) w.1.toNat)
def opW (w : Tw) (x : Int32) : Int32 := pmG (relW w) w.1.toNat x
theorem sh_pow : ∀ c : Fin 25, ((1 : Int32) <<< (Int32.ofNat c.val &&& 31)).toInt = ((2 ^ c.val : Nat) : Int) ∧ 2 ^ c.val ≤ 16777216 := by decide +kernel
theorem op_len {w : Tw} {x : Int32} (hb : 0 ≤ w.1 ∧ w.1 ≤ 7) : (pos 32 (N32 (opW w x)) 0).length = cdN (opW w x) 24 := by
  have r := pmO_r (f := fG (relW w) x) (N := w.1.toNat) (by omega)
  have r : 0 ≤ (opW w x).toInt ∧ (opW w x).toInt < 2097152 := r
  rw [(pos_bits (y := opW w x) r.1 (by omega)).length_eq]
  exact bits_len _ 24
def knW (w : Tw) (x : Int32) (k : Nat) : Int := cnL (FK (MW w x) k) (bits24 (opW w x)) 0
def waW (w : Tw) (x : Int32) : Int := cnL (FG (MW w x)) (bits24 (opW w x)) 0
theorem pX8_countWays {G : jdG} {n : Nat} {Z : jdL} {J : jdJ} {K : Int32 → jdI → jdJ → Prop} {I : jdI} {w : Tw} {x1 : Int32} (ht : zTies Z 13) (hW : WX I) (hb : (0 ≤ w.1 ∧ w.1 ≤ 7) ∧ 2 ≤ w.2.2.2.1 ∧ w.2.2.2.1 ≤ 4) (hT : TL I w) (hK : ∀ (v : Int32) (I2 : jdI), WX I2 → Fr (fun a _ => a = 13 + 4 ∨ a = 13 + 6) I I2 → v.toInt = waW w x1 → (∀ k : Nat, (k : Int) < 28 → (I2 (13 + 6) k).toInt = knW w x1 k) → K v I2 J) : Cl G mX8_countWays (n + 4) 0 0 [.ref (gb G + 13), .int x1] Z I J (qi Z K) := by
  have q28 : (28 : Int32).toInt = 28 := rfl
  have h70 := LW_70 hb
  have rr := pmO_r (f := fG (relW w) x1) (N := w.1.toNat) (by omega)
  have rr : 0 ≤ (opW w x1).toInt ∧ (opW w x1).toInt < 2097152 := rr
  have hlen := op_len (w := w) (x := x1) hb.1
  have hpm := pos_bits (y := opW w x1) rr.1 (by omega)
  have hM70 : (MW w x1).length ≤ 70 := by
    unfold MW
    rw [List.length_map]
    exact Nat.le_trans (List.length_filter_le _ _) h70
  have lp : ∀ f : Nat, ∀ (I3 : jdI) (x2 : Int32), WX I3 → Fr (fun a _ => a = 13 + 6) I I3 → (∀ k : Nat, (k : Int) < x2.toInt → I3 (13 + 6) k = 0) → 0 ≤ x2.toInt → x2.toInt + (f : Int) = 28 → Jd G mX8_countWays (jdFm G (qi Z K)) (n + 4) 0 0 2 [(0, .ref (gb G + 13)), (1, .int x1), (2, .int x2)] [] Z I3 J := by
    intro f
    induction f with
    | zero =>
      intro I3 x2 hW3 hF3 hz h2 hf
      refine rX8_countWays_2 (n := n + 3) ht ⟨fun _ => ?_, fun h => absurd (Int32.le_iff_toInt_le.mpr (by omega)) h⟩
      have g3 := GX_fr hT.1 hF3 (by omega) (by omega) (fun k => by omega)
      have c3 : (I3 13 8).toInt = ((LW w).length : Int) := by rw [hF3 13 8 (by omega)]; exact hT.2.2.1
      have l3 : LiS I3 (13 + 3) (LW w) := LiS_fr hT.2.2.2 hF3 (fun k => by omega)
      refine pX8_listPairs (n := n + 1) (x1 := x1) ht hW3 (by omega) h70 g3 c3 l3 (fun v2 I4 hW4 hF4 hv2 hL4 => ?_)
      have g4 := GX_fr g3 hF4 (by omega) (by omega) (fun k => by omega)
      refine pX8_pairsIn (n := n + 2) ht g4 (by omega) ?_
      refine pJ6_bitCount24 (x0 := opW w x1) rr.1 (by omega) (fun v6 hv6 => ?_)
      have c24 := cdN_24 (opW w x1) 24
      have e6 : v6 = Int32.ofNat (cdN (opW w x1) 24) := by
        have e := i32_ofNat (x := v6) (by omega)
        rw [show v6.toInt.toNat = cdN (opW w x1) 24 by omega] at e
        exact e
      have sp := sh_pow ⟨cdN (opW w x1) 24, by omega⟩
      have sp1 : ((1 : Int32) <<< (v6 &&& 31)).toInt = ((2 ^ cdN (opW w x1) 24 : Nat) : Int) := by rw [e6]; exact sp.1
      have sp2 : 2 ^ cdN (opW w x1) 24 ≤ 16777216 := sp.2
      have s0 : secB (pos 32 (N32 (opW w x1)) 0) 0 = 0 := bt_all (fun i hi => by
        rw [bt_ze i hi]
        refine Bool.eq_false_iff.mpr (fun z => ?_)
        obtain ⟨k, _, h⟩ := (secB_bt _ (fun b hb => by have := ((pos_mem _ _ _ _).mp hb).1; omega) 0 i hi).mp z
        rw [Nat.zero_testBit] at h
        cases h)
      have go := pX8_countWays_50 (G := G) (n := n + 3) (rc := 0) (rs := 0) (Z := Z) (J := J) (K := K) (I0 := I4) (M := MW w x1) (E := 2 ^ cdN (opW w x1) 24) (x1 := x1) (x2 := v2) (x3 := opW w x1) (x4 := (1 : Int32) <<< (v6 &&& 31)) ht hM70 hv2 hL4 (by rw [hlen]) sp2 sp1 (fun v I5 hW5 hF5 hv5 hT5 => ?_) (2 ^ cdN (opW w x1) 24) I4 0 0 0 hW4 Fr.rf rfl (by omega) rfl (fun k hk => ?_)
      · rw [s0] at go
        exact go
      · refine hK v I5 hW5 (Fr.tr (Fr.tr (Fr.tr Fr.rf hF3 (by intro a k h; omega)) hF4 (by intro a k h; omega)) hF5 (by intro a k h; omega)) (hv5.trans (cnL_perm hpm 0)) (fun k hk => (hT5 k hk).trans (cnL_perm hpm 0))
      · rw [hF4 (13 + 6) k (by omega), hz k (by omega)]
        rfl
    | succ f ih =>
      intro I3 x2 hW3 hF3 hz h2 hf
      have q1 : (1 : Int32).toInt = 1 := rfl
      have e2 := i32_add x2 1 (by omega) (by omega)
      have n2 := tn_eq x2
      have hw := WX_f hW3
      refine rX8_countWays_2 (n := n + 3) ht ⟨fun h => by have := Int32.le_iff_toInt_le.mp h; omega, fun _ => ⟨vp_of (by omega) (by omega), ?_⟩⟩
      refine ih _ (x2 + 1) (WX_uI hW3 (by first | exact okXo (by decide) | (unfold okX; refine ⟨?_, ?_, ?_, ?_, ?_, ?_, ?_, ?_, ?_, ?_⟩ <;> intro h <;> omega))) (Fr_uI hF3 rfl) (fun k hk => ?_) (by omega) (by omega)
      rw [uI_ap]
      by_cases c : k = Int32.toNatClampNeg x2
      · rw [if_pos ⟨rfl, c⟩]
      · rw [if_neg (fun z => c z.2)]
        exact hz k (by omega)
  exact eX8_countWays (n := n + 3) ht (lp 28 I 0 hW Fr.rf (fun k hk => by have hk : (k : Int) < 0 := hk; omega) (by decide) rfl)
def knP (w : Tw) (x : Int32) (p q : Nat) : Int := knW w x (pb p q)
/-- a set that may be kept a secret -/
def secOk (w : Tw) (x : Int32) : Prop := (0 ≤ x.toInt ∧ x.toInt < 2 ^ w.1.toNat) ∧ cdN x 24 ≤ 5
def secD (w : Tw) (x : Int32) : Decidable (secOk w x) := by
  unfold secOk
  exact inferInstance
def oFits (w : Tw) (x : Int32) : Int := @ite _ (secOk w x) (secD w x) (waW w x) (-2)
theorem oFits_y {w : Tw} {x : Int32} (h : secOk w x) : oFits w x = waW w x := if_pos h
theorem oFits_n {w : Tw} {x : Int32} (h : ¬ secOk w x) : oFits w x = -2 := if_neg h
theorem pX11_canBeSecret {G : jdG} {n : Nat} {Z : jdL} {J : jdJ} {K : Int32 → jdI → jdJ → Prop} {I : jdI} {s : Sd} {x1 : Int32} (hX : zX Z) (hW : WX I) (hs : TX I 1 s) (hK : ∀ v : Int32, (secOk s.1 x1 ∧ ¬ v = 0) ∨ (¬ secOk s.1 x1 ∧ v = 0) → K v I J) : Cl G mX11_canBeSecret (n + 3) 0 0 [.ref (gb G + 0), .int x1] Z I J (qi Z K) := by
  have hb := RX_b hW hs.1
  have p7 := pw7 ⟨s.1.1.toNat, by omega⟩
  have p7 : (2 : Int) ^ s.1.1.toNat ≤ 128 := p7
  have q5 : (5 : Int32).toInt = 5 := rfl
  refine eX11_canBeSecret (n := n + 2) hX ?_
  refine pX9_hasAll (n := n + 1) (zX_o0 hX) (Or.inl rfl) hW hs.1.1 (fun v2 p2 => ⟨fun c2 => ?_, fun c2 => ?_⟩)
  · have c2 := i0 c2
    exact hK 0 (Or.inr ⟨fun z => by have := z.1; omega, rfl⟩)
  · have c2 := i1 c2
    refine pJ6_bitCount24 (by omega) (by omega) (fun v4 hv4 => ⟨fun c4 => ?_, fun c4 => ?_⟩)
    · have c4 := Int32.lt_iff_toInt_lt.mp c4
      exact hK 0 (Or.inr ⟨fun z => by have := z.2; omega, rfl⟩)
    · have c4 := mt Int32.lt_iff_toInt_lt.mpr c4
      exact hK 1 (Or.inl ⟨⟨by omega, by omega⟩, by decide⟩)
theorem pX11_fits {G : jdG} {n : Nat} {Z : jdL} {J : jdJ} {K : Int32 → jdI → jdJ → Prop} {I : jdI} {s : Sd} {x1 : Int32} (hX : zX Z) (hW : WX I) (hs : TX I 1 s) (hk : OKT s.1) (hK : ∀ (v : Int32) (I2 : jdI), WX I2 → Fr (fun a k => (13 ≤ a ∧ a ≤ 24) ∨ a = 28) I I2 → v.toInt = oFits s.1 x1 → K v I2 J) : Cl G mX11_fits (n + 8) 0 0 [.ref (gb G + 0), .int x1] Z I J (qi Z K) := by
  have hb := RX_b hW hs.1
  refine eX11_fits (n := n + 7) hX ?_
  refine pX11_canBeSecret (n := n + 4) hX hW hs (fun v2 p2 => ⟨fun c2 => ?_, fun c2 => ?_⟩)
  · have ok : secOk s.1 x1 := by
      rcases p2 with z | z
      · exact z.1
      · exact absurd z.2 c2
    refine pX8_load (zX_o3 hX) (zX_o0 hX) (Or.inl rfl) hW hs.1 (OKT_sy hk) (fun I2 hW2 hF2 hT2 _ => ?_)
    exact pX8_countWays (n := n + 3) (zX_o3 hX) hW2 hb hT2 (fun v I3 hW3 hF3 hv _ => hK v I3 hW3 (Fr.tr (Fr.tr Fr.rf hF2 (by intro a k h; omega)) hF3 (by intro a k h; omega)) (hv.trans (oFits_y ok).symm))
  · have no : ¬ secOk s.1 x1 := by
      rcases p2 with z | z
      · exact absurd c2 z.2
      · exact z.1
    exact rfX hX hW (oFits_n no) (by intro a k h; omega) hK
/-! the ways of the model -/
def foldT : List (Nat × Nat) → Nat → Tw → Tw
  | [], _, w => w
  | x :: P, n, w => foldT P (n / 2) (if n % 2 = 1 then tieT w x.1 x.2 0 else w)
def nop : List (Nat × Nat) → Nat → Int32 → Bool
  | [], _, _ => true
  | x :: P, n, g => (if n % 2 = 1 then !(bt g x.1 && bt g x.2) else true) && nop P (n / 2) g
theorem fold_y {x : Nat × Nat} {P : List (Nat × Nat)} {n : Nat} {w : Tw} (h : n % 2 = 1) : foldT (x :: P) n w = foldT P (n / 2) (tieT w x.1 x.2 0) := by
  show foldT P (n / 2) _ = _
  rw [if_pos h]
theorem fold_n {x : Nat × Nat} {P : List (Nat × Nat)} {n : Nat} {w : Tw} (h : ¬ n % 2 = 1) : foldT (x :: P) n w = foldT P (n / 2) w := by
  show foldT P (n / 2) _ = _
  rw [if_neg h]
theorem LW_fold : ∀ (P : List (Nat × Nat)) (n : Nat) (w : Tw), ((0 ≤ w.1 ∧ w.1 ≤ 7) ∧ 2 ≤ w.2.2.2.1 ∧ w.2.2.2.1 ≤ 4) → (∀ x ∈ P, x.1 < x.2 ∧ x.2 < w.1.toNat) → LW (foldT P n w) = (LW w).filter (fun g => nop P n g)
  | [], n, w, _, _ => (List.filter_eq_self.mpr (fun _ _ => rfl)).symm
  | x :: P, n, w, hb, hP => by
    by_cases c : n % 2 = 1
    · have hx := hP x List.mem_cons_self
      have i1 := LW_fold P (n / 2) (tieT w x.1 x.2 0) hb (fun y hy => hP y (List.mem_cons_of_mem _ hy))
      have o1 : (Int32.ofNat x.1).toInt = (x.1 : Nat) := ofN_i (by omega)
      have o2 : (Int32.ofNat x.2).toInt = (x.2 : Nat) := ofN_i (by omega)
      have t1 := LW_tie (w := w) (a := Int32.ofNat x.1) (b := Int32.ofNat x.2) hb (by unfold TwoP; omega)
      have n1 : Int32.toNatClampNeg (Int32.ofNat x.1) = x.1 := by rw [tn_eq]; omega
      have n2 : Int32.toNatClampNeg (Int32.ofNat x.2) = x.2 := by rw [tn_eq]; omega
      rw [n1, n2] at t1
      rw [fold_y c, i1, t1, List.filter_filter]
      refine List.filter_congr (fun g _ => ?_)
      show (nop P (n / 2) g && !(bt g (Int32.ofNat x.1).toInt.toNat && bt g (Int32.ofNat x.2).toInt.toNat)) = ((if n % 2 = 1 then !(bt g x.1 && bt g x.2) else true) && nop P (n / 2) g)
      rw [if_pos c, show (Int32.ofNat x.1).toInt.toNat = x.1 by omega, show (Int32.ofNat x.2).toInt.toNat = x.2 by omega, Bool.and_comm]
    · rw [fold_n c, LW_fold P (n / 2) w hb (fun y hy => hP y (List.mem_cons_of_mem _ hy))]
      refine List.filter_congr (fun g _ => ?_)
      show nop P (n / 2) g = ((if n % 2 = 1 then !(bt g x.1 && bt g x.2) else true) && nop P (n / 2) g)
      rw [if_neg c, Bool.true_and]
theorem and_or0 {m a b : Int32} : (m &&& (a ||| b)) = 0 ↔ (m &&& a) = 0 ∧ (m &&& b) = 0 := by
  rw [dis_bt, dis_bt, dis_bt]
  constructor
  · intro h
    refine ⟨fun i hi hm => ?_, fun i hi hm => ?_⟩
    · have := h i hi hm
      rw [bt_or _ _ _ hi] at this
      exact (Bool.or_eq_false_iff.mp this).1
    · have := h i hi hm
      rw [bt_or _ _ _ hi] at this
      exact (Bool.or_eq_false_iff.mp this).2
  · intro h i hi hm
    rw [bt_or _ _ _ hi, h.1 i hi hm, h.2 i hi hm]
    rfl
theorem nop_iff {rel : Nat → Nat → Bool} {N : Nat} (hN : N ≤ 7) (g : Int32) : ∀ (P : List (Nat × Nat)) (n : Nat), (∀ x ∈ P, x.1 < x.2 ∧ x.2 < N ∧ rel x.1 x.2 = true) → ((pmG rel N g &&& secB (pbs P) n) = 0 ↔ nop P n g = true)
  | [], n, _ => ⟨fun _ => rfl, fun _ => Int32.and_zero⟩
  | x :: P, n, hP => by
    have ih := nop_iff hN g P (n / 2) (fun y hy => hP y (List.mem_cons_of_mem _ hy))
    obtain ⟨h1, h2, h3⟩ := hP x List.mem_cons_self
    have l := pb_lt ⟨x.2, by omega⟩ ⟨x.1, by omega⟩ h1
    have l : pb x.1 x.2 < 21 := l
    have pa : bt (pmG rel N g) (pb x.1 x.2) = true ↔ fG rel g x.1 x.2 = true := pmO_at hN h1 h2
    have ef : fG rel g x.1 x.2 = (bt g x.1 && bt g x.2) := by
      show (bt g x.1 && (bt g x.2 && rel x.1 x.2)) = _
      rw [h3, Bool.and_true]
    rw [ef] at pa
    show (pmG rel N g &&& ((if n % 2 = 1 then bitN (pb x.1 x.2) else 0) ||| secB (pbs P) (n / 2))) = 0 ↔ ((if n % 2 = 1 then !(bt g x.1 && bt g x.2) else true) && nop P (n / 2) g) = true
    rw [and_or0, Bool.and_eq_true, ih]
    by_cases c : n % 2 = 1
    · rw [if_pos c, if_pos c, and_e (x := pb x.1 x.2) (by omega) (fun i hi => bitN_bt (by omega) hi)]
      have q : bt (pmG rel N g) (pb x.1 x.2) = (bt g x.1 && bt g x.2) := Bool.eq_iff_iff.mpr pa
      rw [q]
      cases (bt g x.1 && bt g x.2) with
      | true => exact ⟨fun z => absurd z.1 (by decide), fun z => absurd z.1 (by decide)⟩
      | false => exact ⟨fun z => ⟨rfl, z.2⟩, fun z => ⟨rfl, z.2⟩⟩
    · rw [if_neg c, if_neg c]
      exact ⟨fun z => ⟨rfl, z.2⟩, fun z => ⟨Int32.and_zero, z.2⟩⟩
theorem gd_iff {w : Tw} {x1 : Int32} {P : List (Nat × Nat)} {n : Nat} (hb : (0 ≤ w.1 ∧ w.1 ≤ 7) ∧ 2 ≤ w.2.2.2.1 ∧ w.2.2.2.1 ≤ 4) (hP : ∀ x ∈ P, x.1 < x.2 ∧ x.2 < w.1.toNat ∧ relW w x.1 x.2 = true) : cnt x1 (LW (foldT P n w)) 0 = 0 ↔ gdM (MW w x1) (secB (pbs P) n) = true := by
  have h70 := LW_70 hb
  have q0 : (0 : Int32).toInt = 0 := rfl
  have ef := LW_fold P n w hb (fun x hx => ⟨(hP x hx).1, (hP x hx).2.1⟩)
  have hl : (LW (foldT P n w)).length ≤ 70 := by rw [ef]; exact Nat.le_trans (List.length_filter_le _ _) h70
  have e := cnt_len (s := x1) (LW (foldT P n w)) 0 (by decide) (by omega)
  have z1 : cnt x1 (LW (foldT P n w)) 0 = 0 ↔ (LW (foldT P n w)).filter (sbs x1) = [] := by
    constructor
    · intro z
      rw [z, q0] at e
      exact List.length_eq_zero_iff.mp (by omega)
    · intro z
      rw [z] at e
      exact Int32.toInt_inj.mp (by rw [e]; rfl)
  rw [z1, ef, List.filter_filter, List.filter_eq_nil_iff]
  unfold gdM MW
  rw [List.all_eq_true]
  have ni := fun g => nop_iff (rel := relW w) (show w.1.toNat ≤ 7 by omega) g P n hP
  constructor
  · intro h p hp
    obtain ⟨g, hg, rfl⟩ := List.mem_map.mp hp
    obtain ⟨g1, g2⟩ := List.mem_filter.mp hg
    have := h g g1
    show (!(decide ((pmG (relW w) w.1.toNat g &&& secB (pbs P) n) = 0))) = true
    rw [decide_eq_false (fun z => this (by rw [g2, (ni g).mp z]; rfl))]
    rfl
  · intro h g hg z
    rw [Bool.and_eq_true] at z
    have := h (pmG (relW w) w.1.toNat g) (List.mem_map.mpr ⟨g, List.mem_filter.mpr ⟨hg, z.1⟩, rfl⟩)
    have : (!(decide ((pmG (relW w) w.1.toNat g &&& secB (pbs P) n) = 0))) = true := this
    rw [decide_eq_true ((ni g).mpr z.2)] at this
    cases this
theorem LiS_mp {I : jdI} {b k : Nat} {P : List (Nat × Nat)} {f : Nat × Nat → Int32} {x : Nat × Nat} (h : LiS I b (P.map f)) (hk : P[k]? = some x) : I b k = f x := by
  obtain ⟨hl, _⟩ := List.getElem?_eq_some_iff.mp hk
  have e := h k (by rw [List.length_map]; exact hl)
  rw [List.getElem?_map, hk] at e
  exact (Option.some.inj e).symm
def PLm (I : jdI) (t : Nat) (P : List (Nat × Nat)) : Prop := (I t 42).toInt = (P.length : Int) ∧ LiS I (t + 35) (P.map (fun x => Int32.ofNat x.1)) ∧ LiS I (t + 36) (P.map (fun x => Int32.ofNat x.2))
theorem PLm_fr {I I2 : jdI} {t : Nat} {P : List (Nat × Nat)} {p : Nat → Nat → Prop} (h : PLm I t P) (hF : Fr p I I2) (h1 : ¬ p t 42) (h2 : ∀ k, ¬ p (t + 35) k) (h3 : ∀ k, ¬ p (t + 36) k) : PLm I2 t P := ⟨by rw [hF t 42 h1]; exact h.1, LiS_fr h.2.1 hF h2, LiS_fr h.2.2 hF h3⟩
def FB (M : List Int32) (L : List Nat) (k m : Nat) : Int := if gdM M (secB L m) = true ∧ m.testBit k = true then 1 else 0
theorem FB_b (M : List Int32) (L : List Nat) (k m : Nat) : 0 ≤ FB M L k m ∧ FB M L k m ≤ 1 := by
  unfold FB
  split <;> omega
def WYm (I : jdI) (t : Nat) (M : List Int32) (P : List (Nat × Nat)) (n9 : Nat) : Prop := (I t 43).toInt = sumN (fun m => FG M (secB (pbs P) m)) n9 ∧ ∀ k, k < P.length → (I (t + 37) k).toInt = sumN (FB M (pbs P) k) n9
theorem WYm_fr {I I2 : jdI} {t n9 : Nat} {M : List Int32} {P : List (Nat × Nat)} {p : Nat → Nat → Prop} (h : WYm I t M P n9) (hF : Fr p I I2) (h1 : ¬ p t 43) (h2 : ∀ k, ¬ p (t + 37) k) : WYm I2 t M P n9 := ⟨by rw [hF t 43 h1]; exact h.1, fun k hk => by rw [hF (t + 37) k (h2 k)]; exact h.2 k hk⟩
theorem bt_tb {x : Int32} {n k : Nat} (h : x.toInt = (n : Int)) (hk : k < 32) : bt x k = n.testBit k := by
  have e := i32_nat x (by omega)
  rw [bt_N x hk, show N32 x = n by show x.toBitVec.toNat = n; omega]
theorem pqX12_findWays_b {G : jdG} {n : Nat} {Z0 : jdL} {I0 : jdI} {J0 : jdJ} {Q : jdQ} {t : Nat} {w : Tw} {x1 : Int32} {sA sV : Nat → Nat} (hG : gOK G sA sV) (hw0 : RM I0 t w) (hZ0 : t + 38 ≤ Z0.2.2) (hb : (0 ≤ w.1 ∧ w.1 ≤ 7) ∧ 2 ≤ w.2.2.2.1 ∧ w.2.2.2.1 ≤ 4) {P : List (Nat × Nat)} {E : Nat} (hP : ∀ x ∈ P, x.1 < x.2 ∧ x.2 < w.1.toNat ∧ relW w x.1 x.2 = true) (hP10 : P.length ≤ 10) (hE : E = 2 ^ P.length) (hQ : ∀ (Z2 : jdL) (I2 : jdI) (J2 : jdJ), ST t 21 20 Z0 I0 J0 Z2 I2 J2 → PLm I2 t P → WYm I2 t (MW w x1) P E → Q none Z2 I2 J2) : ∀ m : Nat,
    (∀ (Z : jdL) (I : jdI) (J : jdJ) (rc rs : Nat) (x2 : Int32) (n9 : Nat), ST t 21 20 Z0 I0 J0 Z I J → fC Z t ≤ rc → fS Z t ≤ rs → x2.toInt = (n9 : Int) → n9 ≤ E → PLm I t P → WYm I t (MW w x1) P n9 → (1024 - x2.toInt) * 40 + 35 < (m : Int) → Jd G mX12_findWays (jdFm G Q) (n + 12) rc rs 114 [(0, .ref (gb G + t)), (1, .int x1), (2, .int x2)] [] Z I J) ∧
    (∀ (Z : jdL) (I : jdI) (J : jdJ) (rc rs : Nat) (x2 x4 : Int32) (u3 n9 k4 : Nat) (wc : Tw), ST t 21 20 Z0 I0 J0 Z I J → Z.2.1 t 21 = some u3 → WM 7 u3 I → x2.toInt = (n9 : Int) → n9 < E → x4.toInt = (k4 : Int) → k4 ≤ P.length → PLm I t P → WYm I t (MW w x1) P n9 → RM I u3 wc → wc.1 = w.1 → wc.2.2.2.1 = w.2.2.2.1 → foldT (P.drop k4) (n9 / 2 ^ k4) wc = foldT P n9 w → (1024 - x2.toInt) * 40 + 30 - x4.toInt < (m : Int) → Jd G mX12_findWays (jdFm G Q) (n + 12) rc rs 132 [(0, .ref (gb G + t)), (1, .int x1), (2, .int x2), (3, .ref (gb G + u3)), (4, .int x4)] [] Z I J) ∧
    (∀ (Z : jdL) (I : jdI) (J : jdJ) (rc rs : Nat) (x2 x4 : Int32) (u3 n9 k4 : Nat), ST t 21 20 Z0 I0 J0 Z I J → Z.2.1 t 21 = some u3 → x2.toInt = (n9 : Int) → n9 < E → x4.toInt = (k4 : Int) → k4 ≤ P.length → PLm I t P → gdM (MW w x1) (secB (pbs P) n9) = true → (I t 43).toInt = sumN (fun m => FG (MW w x1) (secB (pbs P) m)) (n9 + 1) → (∀ k, k < k4 → (I (t + 37) k).toInt = sumN (FB (MW w x1) (pbs P) k) (n9 + 1)) → (∀ k, k4 ≤ k → k < P.length → (I (t + 37) k).toInt = sumN (FB (MW w x1) (pbs P) k) n9) → (1024 - x2.toInt) * 40 + 15 - x4.toInt < (m : Int) → Jd G mX12_findWays (jdFm G Q) (n + 12) rc rs 196 [(0, .ref (gb G + t)), (1, .int x1), (2, .int x2), (3, .ref (gb G + u3)), (4, .int x4)] [] Z I J) := by
  have spw := sh_pow ⟨P.length, by omega⟩
  have spw1 : ((1 : Int32) <<< (Int32.ofNat P.length &&& 31)).toInt = (E : Int) := by rw [hE]; exact spw.1
  have hE1 : E ≤ 1024 := by
    rw [hE]
    have e10 : 2 ^ P.length ≤ 2 ^ 10 := Nat.pow_le_pow_right (by decide) hP10
    exact e10
  intro m
  induction m with
  | zero =>
    refine ⟨fun Z I J rc rs x2 n9 hS h1 h2 h3 h4 hp hy hm => ?_, fun Z I J rc rs x2 x4 u3 n9 k4 wc hS hu hU h3 h4 h5 h6 hp hy hr hr1 hr2 hf hm => ?_, fun Z I J rc rs x2 x4 u3 n9 k4 hS hu h3 h4 h5 h6 hp hg hy hy1 hy2 hm => ?_⟩ <;> omega
  | succ m ih =>
    have q1 : (1 : Int32).toInt = 1 := rfl
    have q0 : (0 : Int32).toInt = 0 := rfl
    refine ⟨fun Z I J rc rs x2 n9 hS h1 h2 h3 h4 hp hy hm => ?_, fun Z I J rc rs x2 x4 u3 n9 k4 wc hS hu hU h3 h4 h5 h6 hp hy hr hr1 hr2 hf hm => ?_, fun Z I J rc rs x2 x4 u3 n9 k4 hS hu h3 h4 h5 h6 hp hg hy hy1 hy2 hm => ?_⟩
    · have hfW := WM_f hS.1.2.1
      have hp1 := hp.1
      have e42 : I t 42 = Int32.ofNat P.length := by
        have e := i32_ofNat (x := I t 42) (by omega)
        rw [show (I t 42).toInt.toNat = P.length by omega] at e
        exact e
      have hF := hS.2.2.2.2.1
      have hwt : RM I t w := RM_fr hw0 (by omega) hF (by omega) (by omega) (by omega) (by intro a k h1 h2 h3 h4; omega)
      have hMs := hS.1.2.2.1
      refine rX12_findWays_114 hS.1.1 ⟨fun hc => ?_, fun hc => ?_⟩
      · have hc := Int32.le_iff_toInt_le.mp hc
        rw [e42, spw1] at hc
        rw [show n9 = E by omega] at hy
        exact hQ _ _ _ hS hp hy
      · have hc := mt Int32.le_iff_toInt_le.mpr hc
        rw [e42, spw1] at hc
        refine ⟨fC Z t, fS Z t, 0, 0, h1, h2, ?_⟩
        refine qX12_fresh hG hS.1 (fun u Z1 I1 J1 hS1 hu c0 c2 c3 hU hF1 hC1 => ⟨u, rfl, hS1.1.1, c0, ?_⟩)
        exact ih.2.1 Z1 I1 J1 0 0 x2 0 u n9 0 w (ST.tr hS hS1) hu hU h3 (by omega) rfl (by omega) (PLm_fr hp hF1 (by omega) (by intro k; omega) (by intro k; omega)) (WYm_fr hy hF1 (by omega) (by intro k; omega)) (RM_cm hwt (by omega) hC1) rfl rfl (by rw [List.drop_zero, Nat.pow_zero, Nat.div_one]) (by omega)
    · have hfW := WM_f hS.1.2.1
      have hp1 := hp.1
      obtain ⟨c0, c1, c2, c3⟩ := hS.1.2.2.2.2.2.1 u3 hu
      have hfc := fC_some hu
      have e2 := i32_add x2 1 (by omega) (by omega)
      have e4 := i32_add x4 1 (by omega) (by omega)
      have n4 := tn_eq x4
      refine rX12_findWays_132 hS.1.1 c0 ⟨fun hc => ?_, fun hc => ?_⟩
      · have hc := Int32.le_iff_toInt_le.mp hc
        rw [List.drop_eq_nil_of_le (show P.length ≤ k4 by omega)] at hf
        have hf : wc = foldT P n9 w := hf
        have gi := gd_iff (x1 := x1) (P := P) (n := n9) hb hP
        rw [← hf] at gi
        refine pX12_groupsOf c0 hU (GM_RM hr (by omega) (by omega)) (by omega) (by omega) (fun I1 hW1 hF1 => ?_)
        have hS1 := ST_u hS hu (WM_mono hW1 (by decide)) hF1 (by intro a k h; omega)
        have hp2 : PLm I1 t P := PLm_fr hp hF1 (by omega) (by intro k; omega) (by intro k; omega)
        have hy2 : WYm I1 t (MW w x1) P n9 := WYm_fr hy hF1 (by omega) (by intro k; omega)
        refine ⟨fun hv => ?_, fun hv => ?_⟩
        · have hg : gdM (MW w x1) (secB (pbs P) n9) = false := Bool.eq_false_iff.mpr (fun z => hv (gi.mpr z))
          refine ih.1 Z I1 J rc rs (x2 + 1) (n9 + 1) hS1 (by omega) (by omega) (by omega) (by omega) hp2 ⟨?_, fun k hk => ?_⟩ (by omega)
          · show _ = sumN (fun m => FG (MW w x1) (secB (pbs P) m)) n9 + FG (MW w x1) (secB (pbs P) n9)
            rw [show FG (MW w x1) (secB (pbs P) n9) = 0 from if_neg (by rw [hg]; decide), Int.add_zero]
            exact hy2.1
          · show _ = sumN (FB (MW w x1) (pbs P) k) n9 + FB (MW w x1) (pbs P) k n9
            rw [show FB (MW w x1) (pbs P) k n9 = 0 from if_neg (fun y => by rw [hg] at y; exact absurd y.1 (by decide)), Int.add_zero]
            exact hy2.2 k hk
        · have hg : gdM (MW w x1) (secB (pbs P) n9) = true := gi.mp hv
          have b43 := sumN_b (F := fun m => FG (MW w x1) (secB (pbs P) m)) (fun m => FG_b _ _) n9
          have h43 := hy2.1
          have e43 := i32_add (I1 t 43) 1 (by omega) (by omega)
          have hW2 : WM 7 t (uI I1 t 43 ((I1 t 43) + 1)) := WM_uI hS1.1.2.1 (by first | exact okMo (by decide) (by decide) (by decide) (by decide) (by decide) | exact okMf (by decide) (by decide) (by decide) (by decide) (by decide) (by decide) (by decide) (by decide) | exact okM30 (by omega) | exact okM42 (by omega) | exact okM33 (by omega) | exact okM10 (by omega) | exact okM8 (by omega) | exact okM22 (by omega) | exact okM24 (by omega) | exact okM14 (by omega) | exact okMa31 (by omega) | exact okMa35 (by omega) | exact okMa36 (by omega) | exact okMa3 (by omega) | exact okMr (by omega) | (unfold okM; refine ⟨?_, ?_, ?_, ?_, ?_, ?_, ?_, ?_, ?_, ?_, ?_, ?_⟩ <;> intro h <;> omega))
          have f2 : Fr (fun a k => a = t ∧ k = 43) I1 (uI I1 t 43 ((I1 t 43) + 1)) := Fr_uI Fr.rf ⟨rfl, rfl⟩
          have hS2 := ST_t hS1 hW2 f2 (by intro a k h; omega)
          refine ih.2.2 Z _ J rc rs x2 0 u3 n9 0 hS2 hu h3 h4 rfl (by omega) (PLm_fr hp2 f2 (by omega) (by intro k; omega) (by intro k; omega)) hg ?_ (fun k hk => by omega) (fun k _ hk => ?_) (by omega)
          · rw [uI_ap, if_pos ⟨rfl, rfl⟩, e43, h43, q1]
            show _ = sumN (fun m => FG (MW w x1) (secB (pbs P) m)) n9 + FG (MW w x1) (secB (pbs P) n9)
            rw [show FG (MW w x1) (secB (pbs P) n9) = 1 from if_pos hg]
          · rw [f2 (t + 37) k (by omega)]
            exact hy2.2 k hk
      · have hc := mt Int32.le_iff_toInt_le.mpr hc
        have hk : k4 < P.length := by omega
        have hx : P[k4]? = some P[k4] := List.getElem?_eq_getElem hk
        have hxm := hP P[k4] (List.getElem_mem hk)
        rw [List.drop_eq_getElem_cons hk] at hf
        have e35 := LiS_mp hp.2.1 hx
        have e36 := LiS_mp hp.2.2 hx
        have bb := bt_tb (k := k4) h3 (by omega)
        rw [Nat.testBit_eq_decide_div_mod_eq] at bb
        have bi := bt_iff x2 (x := x4) (by omega)
        rw [show x4.toInt.toNat = k4 by omega, bb, decide_eq_true_iff] at bi
        have ed : n9 / 2 ^ k4 / 2 = n9 / 2 ^ (k4 + 1) := by rw [Nat.div_div_eq_div_mul, Nat.pow_succ]
        have et : Int32.toNatClampNeg x4 = k4 := by omega
        refine ⟨fun hv => ?_, fun hv => ⟨vp_of (by omega) (by omega), vp_of (by omega) (by omega), ?_⟩⟩
        · rw [fold_n (fun z => bi.mp z hv), ed] at hf
          exact ih.2.1 Z I J rc rs x2 (x4 + 1) u3 n9 (k4 + 1) wc hS hu hU h3 h4 (by omega) (by omega) hp hy hr hr1 hr2 hf (by omega)
        · rw [fold_y (bi.mpr hv), ed] at hf
          rw [et, e35, e36]
          have o1 : (Int32.ofNat P[k4].1).toInt = (P[k4].1 : Nat) := ofN_i (by omega)
          have o2 : (Int32.ofNat P[k4].2).toInt = (P[k4].2 : Nat) := ofN_i (by omega)
          refine pX12_knows c0 hU hr (by omega) (by omega) (fun I5 hW5 hF5 r5 => ?_)
          have m1 : Int32.toNatClampNeg (Int32.ofNat P[k4].1) = P[k4].1 := by rw [tn_eq]; omega
          have m2 : Int32.toNatClampNeg (Int32.ofNat P[k4].2) = P[k4].2 := by rw [tn_eq]; omega
          rw [m1, m2] at r5
          exact ih.2.1 Z I5 J rc rs x2 (x4 + 1) u3 n9 (k4 + 1) (tieT wc P[k4].1 P[k4].2 0) (ST_u hS hu (WM_mono hW5 (by decide)) hF5 (by intro a k h; omega)) hu hW5 h3 h4 (by omega) (by omega) (PLm_fr hp hF5 (by omega) (by intro k; omega) (by intro k; omega)) (WYm_fr hy hF5 (by omega) (by intro k; omega)) r5 hr1 hr2 hf (by omega)
    · have hfW := WM_f hS.1.2.1
      have hp1 := hp.1
      have hfc := fC_some hu
      have e2 := i32_add x2 1 (by omega) (by omega)
      have e4 := i32_add x4 1 (by omega) (by omega)
      have n4 := tn_eq x4
      refine rX12_findWays_196 hS.1.1 ⟨fun hc => ?_, fun hc => ?_⟩
      · have hc := Int32.le_iff_toInt_le.mp hc
        exact ih.1 Z I J rc rs (x2 + 1) (n9 + 1) hS (by omega) (by omega) (by omega) (by omega) hp ⟨hy, fun k hk => hy1 k (by omega)⟩ (by omega)
      · have hc := mt Int32.le_iff_toInt_le.mpr hc
        have et : Int32.toNatClampNeg x4 = k4 := by omega
        have e4i : x4 = Int32.ofNat k4 := by
          have e := i32_ofNat (x := x4) (by omega)
          rw [show x4.toInt.toNat = k4 by omega] at e
          exact e
        have sb := sh_b x2 k4
        rw [bt_tb h3 (show k4 < 32 by omega)] at sb
        have bk := sumN_b (F := FB (MW w x1) (pbs P) k4) (fun m => FB_b _ _ _ _) n9
        have hk2 := hy2 k4 (Nat.le_refl _) (by omega)
        have zk : FB (MW w x1) (pbs P) k4 n9 = if n9.testBit k4 = true then 1 else 0 := by
          unfold FB
          by_cases c : n9.testBit k4 = true
          · rw [if_pos c, if_pos ⟨hg, c⟩]
          · rw [if_neg c, if_neg (fun y => c y.2)]
        have zb := FB_b (MW w x1) (pbs P) k4 n9
        rw [← zk] at sb
        refine ⟨vp_of (by omega) (by omega), vp_of (by omega) (by omega), ?_⟩
        have f2 : Fr (fun a _ => a = t + 37) I (uI I (t + 37) (Int32.toNatClampNeg x4) ((I (t + 37) (Int32.toNatClampNeg x4)) + ((x2 >>> (x4 &&& 31)) &&& 1))) := Fr_uI Fr.rf rfl
        refine ih.2.2 Z _ J rc rs x2 (x4 + 1) u3 n9 (k4 + 1) (ST_t hS (WM_uI hS.1.2.1 (by first | exact okMo (by decide) (by decide) (by decide) (by decide) (by decide) | exact okMf (by decide) (by decide) (by decide) (by decide) (by decide) (by decide) (by decide) (by decide) | exact okM30 (by omega) | exact okM42 (by omega) | exact okM33 (by omega) | exact okM10 (by omega) | exact okM8 (by omega) | exact okM22 (by omega) | exact okM24 (by omega) | exact okM14 (by omega) | exact okMa31 (by omega) | exact okMa35 (by omega) | exact okMa36 (by omega) | exact okMa3 (by omega) | exact okMr (by omega) | (unfold okM; refine ⟨?_, ?_, ?_, ?_, ?_, ?_, ?_, ?_, ?_, ?_, ?_, ?_⟩ <;> intro h <;> omega))) f2 (by intro a k h; omega)) hu h3 h4 (by omega) (by omega) (PLm_fr hp f2 (by omega) (by intro k; omega) (by intro k; omega)) hg (by rw [f2 t 43 (by omega)]; exact hy) (fun k hk => ?_) (fun k hk1 hk3 => ?_) (by omega)
        · rw [uI_ap]
          by_cases c : k = k4
          · rw [if_pos ⟨rfl, by omega⟩, et, e4i, i32_add _ _ (by omega) (by omega), sb, hk2, c]
            rfl
          · rw [if_neg (by omega)]
            exact hy1 k (by omega)
        · rw [uI_ap, if_neg (by omega)]
          exact hy2 k (by omega) hk3
/-! the list of pairs -/
def Dm (I : jdI) (t : Nat) (D : List (Nat × Nat)) : Prop := PLm I t D ∧ ∀ k, k < D.length → I (t + 37) k = 0
theorem Dm_push {I : jdI} {t p q : Nat} {D : List (Nat × Nat)} {x2 x3 : Int32} (h : Dm I t D) (h10 : D.length < 10) (h2 : x2 = Int32.ofNat p) (h3 : x3 = Int32.ofNat q) : Dm (uI (uI (uI (uI I (t + 35) (Int32.toNatClampNeg (I t 42)) x2) (t + 36) (Int32.toNatClampNeg (I t 42)) x3) (t + 37) (Int32.toNatClampNeg (I t 42)) 0) t 42 ((I t 42) + 1)) t (D ++ [(p, q)]) := by
  obtain ⟨⟨p1, p2, p3⟩, p4⟩ := h
  have q1 : (1 : Int32).toInt = 1 := rfl
  have e5 := i32_add (I t 42) 1 (by omega) (by omega)
  have et : Int32.toNatClampNeg (I t 42) = D.length := by rw [tn_eq]; omega
  rw [et]
  have F1 : Fr (fun a _ => a = t + 35) I (uI I (t + 35) D.length x2) := Fr_uI Fr.rf rfl
  have a1 := LiS_push (x := x2) p2 (show D.length = (D.map (fun x => Int32.ofNat x.1)).length by rw [List.length_map])
  have a2 := LiS_fr p3 F1 (by intro k; omega)
  generalize uI I (t + 35) D.length x2 = I1 at F1 a1 a2 ⊢
  have F2 : Fr (fun a _ => a = t + 36) I1 (uI I1 (t + 36) D.length x3) := Fr_uI Fr.rf rfl
  have b1 := LiS_fr a1 F2 (by intro k; omega)
  have b2 := LiS_push (x := x3) a2 (show D.length = (D.map (fun x => Int32.ofNat x.2)).length by rw [List.length_map])
  generalize uI I1 (t + 36) D.length x3 = I2 at F2 b1 b2 ⊢
  have F3 : Fr (fun a _ => a = t + 37) I2 (uI I2 (t + 37) D.length 0) := Fr_uI Fr.rf rfl
  have g1 := LiS_fr b1 F3 (by intro k; omega)
  have g2 := LiS_fr b2 F3 (by intro k; omega)
  have g3 : ∀ k, k < (D ++ [(p, q)]).length → (uI I2 (t + 37) D.length 0) (t + 37) k = 0 := fun k hk => by
    rw [List.length_append, List.length_singleton] at hk
    rw [uI_ap]
    by_cases c : k = D.length
    · rw [if_pos ⟨rfl, c⟩]
    · rw [if_neg (fun z => c z.2), F2 (t + 37) k (by omega), F1 (t + 37) k (by omega)]
      exact p4 k (by omega)
  generalize uI I2 (t + 37) D.length 0 = I3 at F3 g1 g2 g3 ⊢
  have F4 : Fr (fun a k => a = t ∧ k = 42) I3 (uI I3 t 42 ((I t 42) + 1)) := Fr_uI Fr.rf ⟨rfl, rfl⟩
  refine ⟨⟨?_, ?_, ?_⟩, fun k hk => by rw [F4 (t + 37) k (by omega)]; exact g3 k hk⟩
  · rw [uI_ap, if_pos ⟨rfl, rfl⟩, List.length_append, List.length_singleton]
    omega
  · rw [List.map_append]
    have z := LiS_fr g1 F4 (by intro k; omega)
    rw [h2] at z
    exact z
  · rw [List.map_append]
    have z := LiS_fr g2 F4 (by intro k; omega)
    rw [h3] at z
    exact z
theorem pqX12_findWays_a {G : jdG} {n rc rs : Nat} {Z0 Z : jdL} {I0 : jdI} {J0 J : jdJ} {Q : jdQ} {t : Nat} {w : Tw} {x1 : Int32} {sA sV : Nat → Nat} (hrc : fC Z t ≤ rc) (hrs : fS Z t ≤ rs) (hG : gOK G sA sV) (hw0 : RM I0 t w) (hZ0 : t + 38 ≤ Z0.2.2) (hb : (0 ≤ w.1 ∧ w.1 ≤ 7) ∧ 2 ≤ w.2.2.2.1 ∧ w.2.2.2.1 ≤ 4) (hQ : ∀ (Z2 : jdL) (I2 : jdI) (J2 : jdJ), ST t 21 20 Z0 I0 J0 Z2 I2 J2 → PLm I2 t (prP (fG (relW w) x1) w.1.toNat) → WYm I2 t (MW w x1) (prP (fG (relW w) x1) w.1.toNat) (2 ^ (prP (fG (relW w) x1) w.1.toNat).length) → (prP (fG (relW w) x1) w.1.toNat).length ≤ 10 → Q none Z2 I2 J2) : ∀ m : Nat,
    (∀ (I : jdI) (x2 : Int32) (D : List (Nat × Nat)), ST t 21 20 Z0 I0 J0 Z I J → 0 ≤ x2.toInt ∧ x2.toInt ≤ w.1 → (I t 42).toInt + ph x1 x2.toInt (x2.toInt + 1) ≤ 10 → Dm I t D → D ++ prO (fG (relW w) x1) w.1.toNat (w.1.toNat - x2.toInt.toNat) x2.toInt.toNat = prP (fG (relW w) x1) w.1.toNat → (7 - x2.toInt) * 10 < (m : Int) → Jd G mX12_findWays (jdFm G Q) (n + 12) rc rs 7 [(0, .ref (gb G + t)), (1, .int x1), (2, .int x2)] [] Z I J) ∧
    (∀ (I : jdI) (x2 x3 : Int32) (D : List (Nat × Nat)), ST t 21 20 Z0 I0 J0 Z I J → 0 ≤ x2.toInt ∧ x2.toInt < w.1 → x2.toInt < x3.toInt ∧ x3.toInt ≤ w.1 → (I t 42).toInt + ph x1 x2.toInt x3.toInt ≤ 10 → Dm I t D → D ++ (prI (fG (relW w) x1) x2.toInt.toNat (w.1.toNat - x3.toInt.toNat) x3.toInt.toNat ++ prO (fG (relW w) x1) w.1.toNat (w.1.toNat - (x2.toInt.toNat + 1)) (x2.toInt.toNat + 1)) = prP (fG (relW w) x1) w.1.toNat → (7 - x2.toInt) * 10 - x3.toInt < (m : Int) → Jd G mX12_findWays (jdFm G Q) (n + 12) rc rs 19 [(0, .ref (gb G + t)), (1, .int x1), (2, .int x2), (3, .int x3)] [] Z I J) := by
  intro m
  induction m with
  | zero =>
    refine ⟨fun I x2 D hS h2 h3 hD hr hm => ?_, fun I x2 x3 D hS h2 h3 h4 hD hr hm => ?_⟩ <;> omega
  | succ m ih =>
    have q1 : (1 : Int32).toInt = 1 := rfl
    have q0 : (0 : Int32).toInt = 0 := rfl
    refine ⟨fun I x2 D hS h2 h3 hD hr hm => ?_, fun I x2 x3 D hS h2 h3 h4 hD hr hm => ?_⟩
    · have hf := WM_f hS.1.2.1
      have hF := hS.2.2.2.2.1
      have hwt : RM I t w := RM_fr hw0 (by omega) hF (by omega) (by omega) (by omega) (by intro a k h1 h2 h3 h4; omega)
      have hN := hwt.1
      have e1 := i32_add x2 1 (by omega) (by omega)
      have e1' : (x2 + 1).toInt = x2.toInt + 1 := by omega
      refine rX12_findWays_7 hS.1.1 ⟨fun hc => ?_, fun hc => ?_⟩
      · have hc := Int32.le_iff_toInt_le.mp hc
        rw [show w.1.toNat - x2.toInt.toNat = 0 by omega] at hr
        have hr : D ++ [] = prP (fG (relW w) x1) w.1.toNat := hr
        rw [List.append_nil] at hr
        rw [hr] at hD
        have hl := hD.1.1
        have hW2 : WM 7 t (uI I t 43 0) := WM_uI hS.1.2.1 (by first | exact okMo (by decide) (by decide) (by decide) (by decide) (by decide) | exact okMf (by decide) (by decide) (by decide) (by decide) (by decide) (by decide) (by decide) (by decide) | exact okM30 (by omega) | exact okM42 (by omega) | exact okM33 (by omega) | exact okM10 (by omega) | exact okM8 (by omega) | exact okM22 (by omega) | exact okM24 (by omega) | exact okM14 (by omega) | exact okMa31 (by omega) | exact okMa35 (by omega) | exact okMa36 (by omega) | exact okMa3 (by omega) | exact okMr (by omega) | (unfold okM; refine ⟨?_, ?_, ?_, ?_, ?_, ?_, ?_, ?_, ?_, ?_, ?_, ?_⟩ <;> intro h <;> omega))
        have f2 : Fr (fun a k => a = t ∧ k = 43) I (uI I t 43 0) := Fr_uI Fr.rf ⟨rfl, rfl⟩
        refine (pqX12_findWays_b (x1 := x1) (P := prP (fG (relW w) x1) w.1.toNat) (E := 2 ^ (prP (fG (relW w) x1) w.1.toNat).length) hG hw0 hZ0 hb (fun x hx => ?_) (by omega) rfl (fun Z2 I2 J2 a b c => hQ Z2 I2 J2 a b c (by omega)) (1024 * 40 + 36)).1 Z _ J rc rs 0 0 (ST_t hS hW2 f2 (by intro a k h; omega)) hrc hrs rfl (Nat.zero_le _) (PLm_fr hD.1 f2 (by omega) (by intro k; omega) (by intro k; omega)) ⟨?_, fun k hk => ?_⟩ (by decide)
        · have z := prP_mem.mp hx
          have z3 : (bt x1 x.1 && (bt x1 x.2 && relW w x.1 x.2)) = true := z.2.2
          rw [Bool.and_eq_true, Bool.and_eq_true] at z3
          exact ⟨z.1, z.2.1, z3.2.2⟩
        · rw [uI_ap, if_pos ⟨rfl, rfl⟩]
          rfl
        · rw [f2 (t + 37) k (by omega), hD.2 k hk]
          rfl
      · have hc := mt Int32.le_iff_toInt_le.mpr hc
        rw [show w.1.toNat - x2.toInt.toNat = (w.1.toNat - (x2.toInt.toNat + 1)) + 1 by omega] at hr
        have hr : D ++ (prI (fG (relW w) x1) x2.toInt.toNat (w.1.toNat - (x2.toInt.toNat + 1)) (x2.toInt.toNat + 1) ++ prO (fG (relW w) x1) w.1.toNat (w.1.toNat - (x2.toInt.toNat + 1)) (x2.toInt.toNat + 1)) = prP (fG (relW w) x1) w.1.toNat := hr
        exact ih.2 I x2 (x2 + 1) D hS (by omega) (by omega) (by rw [e1']; exact h3) hD (by rw [show (x2 + 1).toInt.toNat = x2.toInt.toNat + 1 by omega]; exact hr) (by omega)
    · have hf := WM_f hS.1.2.1
      have hF := hS.2.2.2.2.1
      have hwt : RM I t w := RM_fr hw0 (by omega) hF (by omega) (by omega) (by omega) (by intro a k h1 h2 h3 h4; omega)
      have hN := hwt.1
      have e1 := i32_add x2 1 (by omega) (by omega)
      have e1' : (x2 + 1).toInt = x2.toInt + 1 := by omega
      have e2 := i32_add x3 1 (by omega) (by omega)
      have e2' : (x3 + 1).toInt = x3.toInt + 1 := by omega
      have hl1 := ph_le x1 x2.toInt x3.toInt (x2.toInt + 1) (x2.toInt + 1 + 1) (by omega)
      have hl2 := ph_le x1 x2.toInt x3.toInt x2.toInt (x3.toInt + 1) (by omega)
      have hl3 := ph_nn x1 x2.toInt (x3.toInt + 1)
      have n2 := tn_eq x2
      have n3 := tn_eq x3
      refine rX12_findWays_19 hS.1.1 ⟨fun hc => ?_, fun hc => ?_⟩
      · have hc := Int32.le_iff_toInt_le.mp hc
        rw [show w.1.toNat - x3.toInt.toNat = 0 by omega] at hr
        have hr : D ++ prO (fG (relW w) x1) w.1.toNat (w.1.toNat - (x2.toInt.toNat + 1)) (x2.toInt.toNat + 1) = prP (fG (relW w) x1) w.1.toNat := hr
        exact ih.1 I (x2 + 1) D hS (by omega) (by rw [e1']; omega) hD (by rw [show (x2 + 1).toInt.toNat = x2.toInt.toNat + 1 by omega]; exact hr) (by omega)
      · have hc := mt Int32.le_iff_toInt_le.mpr hc
        rw [show w.1.toNat - x3.toInt.toNat = (w.1.toNat - (x3 + 1).toInt.toNat) + 1 by omega] at hr
        have en : x3.toInt.toNat + 1 = (x3 + 1).toInt.toNat := by omega
        have nx : ¬ fG (relW w) x1 x2.toInt.toNat x3.toInt.toNat = true → Jd G mX12_findWays (jdFm G Q) (n + 12) rc rs 19 [(0, .ref (gb G + t)), (1, .int x1), (2, .int x2), (3, .int (x3 + 1))] [] Z I J := fun hn => by
          rw [show prI (fG (relW w) x1) x2.toInt.toNat ((w.1.toNat - (x3 + 1).toInt.toNat) + 1) x3.toInt.toNat = prI (fG (relW w) x1) x2.toInt.toNat (w.1.toNat - (x3 + 1).toInt.toNat) (x3.toInt.toNat + 1) from if_neg hn, en] at hr
          exact ih.2 I x2 (x3 + 1) D hS h2 (by omega) (by rw [e2']; omega) hD hr (by omega)
        have b2 := bt_iff x1 (x := x2) h2.1
        have b3 := bt_iff x1 (x := x3) (by omega)
        have bt9 := hwt.2.2.2.2 x2.toInt.toNat x3.toInt.toNat (by omega) (by omega) (by omega)
        have ef : fG (relW w) x1 x2.toInt.toNat x3.toInt.toNat = (bt x1 x2.toInt.toNat && (bt x1 x3.toInt.toNat && relW w x2.toInt.toNat x3.toInt.toNat)) := rfl
        refine sfX12_has trivial (fun v2 hp2 => ⟨fun hc2 => nx (fun z => ?_), fun hc2 => ?_⟩)
        · have hc2 := i0 hc2
          rw [ef, Bool.and_eq_true] at z
          exact b2.mp z.1 (Int32.toInt_inj.mp (show _ = (0 : Int32).toInt by omega))
        have hc2 := i1 hc2
        refine sfX12_has trivial (fun v4 hp4 => ⟨fun hc4 => nx (fun z => ?_), fun hc4 => ?_⟩)
        · have hc4 := i0 hc4
          rw [ef, Bool.and_eq_true, Bool.and_eq_true] at z
          exact b3.mp z.2.1 (Int32.toInt_inj.mp (show _ = (0 : Int32).toInt by omega))
        have hc4 := i1 hc4
        have et : Int32.toNatClampNeg x2 = x2.toInt.toNat := by omega
        have et3 : Int32.toNatClampNeg x3 = x3.toInt.toNat := by omega
        refine ⟨vp_of (by omega) (by omega), vp_of (by omega) (by omega), fun hv => nx (fun z => ?_), fun hv => ?_⟩
        · rw [et, et3, bt9] at hv
          rw [ef, Bool.and_eq_true, Bool.and_eq_true] at z
          exact hv (of_decide_eq_true z.2.2)
        rw [et, et3, bt9] at hv
        have y2 : bt x1 x2.toInt.toNat = true := b2.mpr (fun q => by rw [q] at hp2; omega)
        have y3 : bt x1 x3.toInt.toNat = true := b3.mpr (fun q => by rw [q] at hp4; omega)
        have hy : fG (relW w) x1 x2.toInt.toNat x3.toInt.toNat = true := by
          rw [ef, y2, y3, show relW w x2.toInt.toNat x3.toInt.toNat = true from decide_eq_true hv]
          rfl
        have hh := ph_hit (s := x1) h2.1 h3.1 (by omega) (by omega) (by omega)
        have hl := hD.1.1
        refine ⟨vp_of (by omega) (by omega), vp_of (by omega) (by omega), vp_of (by omega) (by omega), ?_⟩
        have w1 : WM 7 t (uI I (t + 35) (Int32.toNatClampNeg (I t 42)) x2) := WM_uI hS.1.2.1 (by first | exact okMo (by decide) (by decide) (by decide) (by decide) (by decide) | exact okMf (by decide) (by decide) (by decide) (by decide) (by decide) (by decide) (by decide) (by decide) | exact okM30 (by omega) | exact okM42 (by omega) | exact okM33 (by omega) | exact okM10 (by omega) | exact okM8 (by omega) | exact okM22 (by omega) | exact okM24 (by omega) | exact okM14 (by omega) | exact okMa31 (by omega) | exact okMa35 (by omega) | exact okMa36 (by omega) | exact okMa3 (by omega) | exact okMr (by omega) | (unfold okM; refine ⟨?_, ?_, ?_, ?_, ?_, ?_, ?_, ?_, ?_, ?_, ?_, ?_⟩ <;> intro h <;> omega))
        have f1 : Fr (fun a k => (a = t ∧ 20 ≤ k) ∨ (t + 29 ≤ a ∧ a ≤ t + 37)) I (uI I (t + 35) (Int32.toNatClampNeg (I t 42)) x2) := Fr_uI Fr.rf (by omega)
        have w2 := WM_uI (id := t + 36) (k := Int32.toNatClampNeg (I t 42)) (v := x3) w1 (by first | exact okMo (by decide) (by decide) (by decide) (by decide) (by decide) | exact okMf (by decide) (by decide) (by decide) (by decide) (by decide) (by decide) (by decide) (by decide) | exact okM30 (by omega) | exact okM42 (by omega) | exact okM33 (by omega) | exact okM10 (by omega) | exact okM8 (by omega) | exact okM22 (by omega) | exact okM24 (by omega) | exact okM14 (by omega) | exact okMa31 (by omega) | exact okMa35 (by omega) | exact okMa36 (by omega) | exact okMa3 (by omega) | exact okMr (by omega) | (unfold okM; refine ⟨?_, ?_, ?_, ?_, ?_, ?_, ?_, ?_, ?_, ?_, ?_, ?_⟩ <;> intro h <;> omega))
        have f2 := Fr_uI (id := t + 36) (k := Int32.toNatClampNeg (I t 42)) (v := x3) f1 (by omega)
        have w3 := WM_uI (id := t + 37) (k := Int32.toNatClampNeg (I t 42)) (v := 0) w2 (by first | exact okMo (by decide) (by decide) (by decide) (by decide) (by decide) | exact okMf (by decide) (by decide) (by decide) (by decide) (by decide) (by decide) (by decide) (by decide) | exact okM30 (by omega) | exact okM42 (by omega) | exact okM33 (by omega) | exact okM10 (by omega) | exact okM8 (by omega) | exact okM22 (by omega) | exact okM24 (by omega) | exact okM14 (by omega) | exact okMa31 (by omega) | exact okMa35 (by omega) | exact okMa36 (by omega) | exact okMa3 (by omega) | exact okMr (by omega) | (unfold okM; refine ⟨?_, ?_, ?_, ?_, ?_, ?_, ?_, ?_, ?_, ?_, ?_, ?_⟩ <;> intro h <;> omega))
        have f3 := Fr_uI (id := t + 37) (k := Int32.toNatClampNeg (I t 42)) (v := 0) f2 (by omega)
        have e5 := i32_add (I t 42) 1 (by omega) (by omega)
        have w4 := WM_uI (id := t) (k := 42) (v := (I t 42) + 1) w3 (by first | exact okMo (by decide) (by decide) (by decide) (by decide) (by decide) | exact okMf (by decide) (by decide) (by decide) (by decide) (by decide) (by decide) (by decide) (by decide) | exact okM30 (by omega) | exact okM42 (by omega) | exact okM33 (by omega) | exact okM10 (by omega) | exact okM8 (by omega) | exact okM22 (by omega) | exact okM24 (by omega) | exact okM14 (by omega) | exact okMa31 (by omega) | exact okMa35 (by omega) | exact okMa36 (by omega) | exact okMa3 (by omega) | exact okMr (by omega) | (unfold okM; refine ⟨?_, ?_, ?_, ?_, ?_, ?_, ?_, ?_, ?_, ?_, ?_, ?_⟩ <;> intro h <;> omega))
        have f4 := Fr_uI (id := t) (k := 42) (v := (I t 42) + 1) f3 (by omega)
        have hD2 := Dm_push (p := x2.toInt.toNat) (q := x3.toInt.toNat) (x2 := x2) (x3 := x3) hD (by omega) (i32_ofNat h2.1) (i32_ofNat (by omega))
        rw [show prI (fG (relW w) x1) x2.toInt.toNat ((w.1.toNat - (x3 + 1).toInt.toNat) + 1) x3.toInt.toNat = (x2.toInt.toNat, x3.toInt.toNat) :: prI (fG (relW w) x1) x2.toInt.toNat (w.1.toNat - (x3 + 1).toInt.toNat) (x3.toInt.toNat + 1) from if_pos hy, en] at hr
        exact ih.2 _ x2 (x3 + 1) (D ++ [(x2.toInt.toNat, x3.toInt.toNat)]) (ST_t hS w4 f4 (by intro a k h; omega)) h2 (by omega) (by rw [uI_ap, if_pos ⟨rfl, rfl⟩, e2']; omega) hD2 (by rw [List.append_assoc]; exact hr) (by omega)
theorem pqX12_findWays {G : jdG} {n : Nat} {Z : jdL} {I : jdI} {J : jdJ} {Q : jdQ} {t : Nat} {w : Tw} {x1 : Int32} {sA sV : Nat → Nat} (hG : gOK G sA sV) (hM : MI Z I t) (hw : RM I t w) (h0 : 0 ≤ x1.toInt) (h1 : x1.toInt ≤ 127) (h5 : (bs x1 8).toInt ≤ 5) (hQ : ∀ (Z2 : jdL) (I2 : jdI) (J2 : jdJ), ST t 21 20 Z I J Z2 I2 J2 → PLm I2 t (prP (fG (relW w) x1) w.1.toNat) → (prP (fG (relW w) x1) w.1.toNat).length ≤ 10 → (I2 t 43).toInt = waW w x1 → (∀ (k : Nat) (x : Nat × Nat), (prP (fG (relW w) x1) w.1.toNat)[k]? = some x → (I2 (t + 37) k).toInt = knP w x1 x.1 x.2) → Q none Z2 I2 J2) : Cl G mX12_findWays (n + 12) (fC Z t) (fS Z t) [.ref (gb G + t), .int x1] Z I J Q := by
  have hf := WM_f hM.2.1
  have hb := RM_b hM.2.1 hw
  have q0 : (0 : Int32).toInt = 0 := rfl
  have w1 : WM 7 t (uI I t 42 0) := WM_uI hM.2.1 (by first | exact okMo (by decide) (by decide) (by decide) (by decide) (by decide) | exact okMf (by decide) (by decide) (by decide) (by decide) (by decide) (by decide) (by decide) (by decide) | exact okM30 (by omega) | exact okM42 (by omega) | exact okM33 (by omega) | exact okM10 (by omega) | exact okM8 (by omega) | exact okM22 (by omega) | exact okM24 (by omega) | exact okM14 (by omega) | exact okMa31 (by omega) | exact okMa35 (by omega) | exact okMa36 (by omega) | exact okMa3 (by omega) | exact okMr (by omega) | (unfold okM; refine ⟨?_, ?_, ?_, ?_, ?_, ?_, ?_, ?_, ?_, ?_, ?_, ?_⟩ <;> intro h <;> omega))
  have f1 : Fr (fun a k => a = t ∧ k = 42) I (uI I t 42 0) := Fr_uI Fr.rf ⟨rfl, rfl⟩
  have hS := ST_t (ST.rf (x := 21) (y := 20) (J := J) hM) w1 f1 (by intro a k h; omega)
  have hN7 : w.1.toNat ≤ 7 := by omega
  have hpm : (pbs (prP (fG (relW w) x1) w.1.toNat)).Perm (bits24 (opW w x1)) := pbs_bits hN7
  refine eX12_findWays hM.1 ?_
  have hw10 := wf_10 h0 h1 h5
  have hl := ph_le x1 0 0 0 1 (by omega)
  have h9 : ph x1 0 0 ≤ 10 := by
    unfold ph
    exact Int.ofNat_le.mpr hw10
  refine (pqX12_findWays_a (w := w) (x1 := x1) (Nat.le_refl _) (Nat.le_refl _) hG hw hM.2.2.1 hb (fun Z2 I2 J2 a b c d => hQ Z2 I2 J2 a b d ?_ (fun k x hk => ?_)) 71).1 _ 0 [] hS (by rw [q0]; omega) (by rw [uI_ap, if_pos ⟨rfl, rfl⟩, q0]; show 0 + ph x1 0 1 ≤ 10; omega) ⟨⟨by rw [uI_ap, if_pos ⟨rfl, rfl⟩]; rfl, LiS_nil _ _, LiS_nil _ _⟩, fun k hk => absurd hk (Nat.not_lt_zero _)⟩ rfl (by decide)
  · rw [c.1]
    have e := sum_cn0 (FG (MW w x1)) (pbs (prP (fG (relW w) x1) w.1.toNat))
    rw [show (pbs (prP (fG (relW w) x1) w.1.toNat)).length = (prP (fG (relW w) x1) w.1.toNat).length from List.length_map _] at e
    rw [e]
    exact cnL_perm hpm 0
  · obtain ⟨hk1, _⟩ := List.getElem?_eq_some_iff.mp hk
    rw [c.2 k hk1]
    have hkp : (pbs (prP (fG (relW w) x1) w.1.toNat))[k]? = some (pb x.1 x.2) := by
      unfold pbs
      rw [List.getElem?_map, hk]
      rfl
    have e := sum_cn0 (FK (MW w x1) (pb x.1 x.2)) (pbs (prP (fG (relW w) x1) w.1.toNat))
    rw [show (pbs (prP (fG (relW w) x1) w.1.toNat)).length = (prP (fG (relW w) x1) w.1.toNat).length from List.length_map _] at e
    have e2 : sumN (FB (MW w x1) (pbs (prP (fG (relW w) x1) w.1.toNat)) k) (2 ^ (prP (fG (relW w) x1) w.1.toNat).length) = sumN (fun m => FK (MW w x1) (pb x.1 x.2) (secB (pbs (prP (fG (relW w) x1) w.1.toNat)) m)) (2 ^ (prP (fG (relW w) x1) w.1.toNat).length) := sumN_c _ (fun m _ => by
      unfold FB FK
      rw [secB_at (pbs_lt hN7) (pbs_nd hN7) hkp])
    rw [e2, e]
    exact cnL_perm hpm 0
theorem cd_24 {x : Int32} (h : 0 ≤ x.toInt ∧ x.toInt < 256) : ∀ j, 8 + j ≤ 32 → cdN x (8 + j) = cdN x 8
  | 0, _ => rfl
  | j + 1, hj => by
    show cdN x (8 + j) + (if bt x (8 + j) = true then 1 else 0) = _
    rw [bt_hi h (by omega) (by omega), if_neg (by decide), Nat.add_zero]
    exact cd_24 h j (by omega)
theorem pqX12_fits {G : jdG} {n : Nat} {Z : jdL} {I : jdI} {J : jdJ} {Q : jdQ} {t : Nat} {s : Sd} {x1 : Int32} {sA sV : Nat → Nat} (hG : gOK G sA sV) (hM : MI Z I t) (hs : TM I t s) (hQ : ∀ (v : Int32) (Z2 : jdL) (I2 : jdI) (J2 : jdJ), ST t 21 20 Z I J Z2 I2 J2 → v.toInt = oFits s.1 x1 → Q (some (.int v)) Z2 I2 J2) : Cl G mX12_fits (n + 13) (fC Z t) (fS Z t) [.ref (gb G + t), .int x1] Z I J Q := by
  have q5 : (5 : Int32).toInt = 5 := rfl
  have hb := RM_b hM.2.1 hs.1
  have p7 := pw7 ⟨s.1.1.toNat, by omega⟩
  have p7 : (2 : Int) ^ s.1.1.toNat ≤ 128 := p7
  refine eX12_fits hM.1 ?_
  refine pX12_isSet hM.1 hM.2.1 hs.1.1 (fun v hp => ⟨fun hc => ?_, fun hc => ?_⟩)
  · have hc := i0 hc
    exact sfX12_refuse hM.1 (by decide) hM.2.1 (by decide) (fun v5 I4 hW4 hF4 hp4 => hQ _ _ _ _ (ST_t (ST.rf hM) hW4 hF4 (by intro a k h; omega)) (hp4.trans (oFits_n (fun z => by have := z.1; omega)).symm))
  · have hc := i1 hc
    have e24 : cdN x1 24 = cdN x1 8 := cd_24 (x := x1) (by omega) 16 (by omega)
    have e8 : (bs x1 8).toInt = (cdN x1 8 : Int) := bs_cd x1 8 (Nat.le_refl _)
    refine sfX12_bits trivial (fun v6 hv6 => ⟨fun hc6 => ?_, fun hc6 => ?_⟩)
    · have hc6 := Int32.le_iff_toInt_le.mp hc6
      rw [hv6] at hc6
      have ok : secOk s.1 x1 := ⟨by omega, by omega⟩
      refine ⟨fC Z t, fS Z t, 0, 0, Nat.le_refl _, Nat.le_refl _, ?_⟩
      exact pqX12_findWays hG hM hs.1 (by omega) (by omega) (by omega) (fun Z2 I2 J2 hS _ _ hv _ => ⟨rfl, hS.1.1, hQ _ _ _ _ hS (hv.trans (oFits_y ok).symm)⟩)
    · have hc6 := mt Int32.le_iff_toInt_le.mpr hc6
      rw [hv6] at hc6
      exact sfX12_refuse hM.1 (by decide) hM.2.1 (by decide) (fun v5 I4 hW4 hF4 hp4 => hQ _ _ _ _ (ST_t (ST.rf hM) hW4 hF4 (by intro a k h; omega)) (hp4.trans (oFits_n (fun z => by have := z.2; omega)).symm))
theorem zTown_tr {Z Z2 : jdL} {t : Nat} (h : zTown Z t) (ht : t + 3 < 45) (h1 : ∀ a, a < 45 → Z2.1 a = Z.1 a) (h2 : ∀ a k, a < 45 → ¬ (29 ≤ a ∧ k = 3) → Z2.2.1 a k = Z.2.1 a k) (h3 : t + 3 < 29 ∨ 3 ≤ 3) : zTown Z2 t :=
  ⟨(h1 t (by omega)).trans h.1, ⟨(h2 t 0 (by omega) (by omega)).trans (zTown_p0 h), (h1 (t + 1) (by omega)).trans (zTown_a0 h)⟩, ⟨(h2 t 1 (by omega) (by omega)).trans (zTown_p1 h), (h1 (t + 2) (by omega)).trans (zTown_a1 h)⟩, ⟨(h2 t 2 (by omega) (by omega)).trans (zTown_p2 h), (h1 (t + 3) (by omega)).trans (zTown_a2 h)⟩⟩
theorem zTies_tr {Z Z2 : jdL} {t : Nat} (h : zTies Z t) (ht : t + 6 < 45) (h1 : ∀ a, a < 45 → Z2.1 a = Z.1 a) (h2 : ∀ a k, a < 45 → ¬ (29 ≤ a ∧ k = 3) → Z2.2.1 a k = Z.2.1 a k) (h3 : t + 3 < 29 ∨ 6 ≤ 3) : zTies Z2 t :=
  ⟨(h1 t (by omega)).trans h.1, ⟨(h2 t 0 (by omega) (by omega)).trans (zTies_p0 h), (h1 (t + 1) (by omega)).trans (zTies_a0 h)⟩, ⟨(h2 t 1 (by omega) (by omega)).trans (zTies_p1 h), (h1 (t + 2) (by omega)).trans (zTies_a1 h)⟩, ⟨(h2 t 2 (by omega) (by omega)).trans (zTies_p2 h), (h1 (t + 3) (by omega)).trans (zTies_a2 h)⟩, ⟨(h2 t 3 (by omega) (by omega)).trans (zTies_p3 h), (h1 (t + 4) (by omega)).trans (zTies_a3 h)⟩, ⟨(h2 t 4 (by omega) (by omega)).trans (zTies_p4 h), (h1 (t + 5) (by omega)).trans (zTies_a4 h)⟩, ⟨(h2 t 5 (by omega) (by omega)).trans (zTies_p5 h), (h1 (t + 6) (by omega)).trans (zTies_a5 h)⟩⟩
theorem zDay_tr {Z Z2 : jdL} {t : Nat} (h : zDay Z t) (ht : t + 4 < 45) (h1 : ∀ a, a < 45 → Z2.1 a = Z.1 a) (h2 : ∀ a k, a < 45 → ¬ (29 ≤ a ∧ k = 3) → Z2.2.1 a k = Z.2.1 a k) (h3 : t + 3 < 29 ∨ 4 ≤ 3) : zDay Z2 t :=
  ⟨(h1 t (by omega)).trans h.1, ⟨(h2 t 0 (by omega) (by omega)).trans (zDay_p0 h), (h1 (t + 1) (by omega)).trans (zDay_a0 h)⟩, ⟨(h2 t 1 (by omega) (by omega)).trans (zDay_p1 h), (h1 (t + 2) (by omega)).trans (zDay_a1 h)⟩, ⟨(h2 t 2 (by omega) (by omega)).trans (zDay_p2 h), (h1 (t + 3) (by omega)).trans (zDay_a2 h)⟩, ⟨(h2 t 3 (by omega) (by omega)).trans (zDay_p3 h), (h1 (t + 4) (by omega)).trans (zDay_a3 h)⟩⟩
theorem zScribe_tr {Z Z2 : jdL} {t : Nat} (h : zScribe Z t) (ht : t + 1 < 45) (h1 : ∀ a, a < 45 → Z2.1 a = Z.1 a) (h2 : ∀ a k, a < 45 → ¬ (29 ≤ a ∧ k = 3) → Z2.2.1 a k = Z.2.1 a k) (h3 : t + 3 < 29 ∨ 1 ≤ 3) : zScribe Z2 t :=
  ⟨(h1 t (by omega)).trans h.1, ⟨(h2 t 0 (by omega) (by omega)).trans (zScribe_p0 h), (h1 (t + 1) (by omega)).trans (zScribe_a0 h)⟩⟩
theorem zShelf_tr {Z Z2 : jdL} {t : Nat} (h : zShelf Z t) (ht : t + 1 < 45) (h1 : ∀ a, a < 45 → Z2.1 a = Z.1 a) (h2 : ∀ a k, a < 45 → ¬ (29 ≤ a ∧ k = 3) → Z2.2.1 a k = Z.2.1 a k) (h3 : t + 3 < 29 ∨ 1 ≤ 3) : zShelf Z2 t :=
  ⟨(h1 t (by omega)).trans h.1, ⟨(h2 t 0 (by omega) (by omega)).trans (zShelf_p0 h), (h1 (t + 1) (by omega)).trans (zShelf_a0 h)⟩⟩
theorem zX_tr {Z Z2 : jdL} (h : zX Z) (h1 : ∀ a, a < 45 → Z2.1 a = Z.1 a) (h2 : ∀ a k, a < 45 → ¬ (29 ≤ a ∧ k = 3) → Z2.2.1 a k = Z.2.1 a k) : zX Z2 :=
  ⟨(h1 0 (by decide)).trans h.1, ⟨(h2 0 0 (by decide) (by decide)).trans (zX_p0 h), zTown_tr (zX_o0 h) (by decide) h1 h2 (by decide)⟩, ⟨(h2 0 1 (by decide) (by decide)).trans (zX_p1 h), zTown_tr (zX_o1 h) (by decide) h1 h2 (by decide)⟩, ⟨(h2 0 2 (by decide) (by decide)).trans (zX_p2 h), zTown_tr (zX_o2 h) (by decide) h1 h2 (by decide)⟩, ⟨(h2 0 3 (by decide) (by decide)).trans (zX_p3 h), zTies_tr (zX_o3 h) (by decide) h1 h2 (by decide)⟩, ⟨(h2 0 4 (by decide) (by decide)).trans (zX_p4 h), zDay_tr (zX_o4 h) (by decide) h1 h2 (by decide)⟩, ⟨(h2 0 5 (by decide) (by decide)).trans (zX_p5 h), zScribe_tr (zX_o5 h) (by decide) h1 h2 (by decide)⟩, ⟨(h2 0 6 (by decide) (by decide)).trans (zX_p6 h), (h1 27 (by decide)).trans (zX_a6 h)⟩, ⟨(h2 0 7 (by decide) (by decide)).trans (zX_p7 h), (h1 28 (by decide)).trans (zX_a7 h)⟩, fun i hi => ⟨(h2 27 i (by decide) (by omega)).trans (zX_sh h hi), zShelf_tr (zX_shelf h hi) (by omega) h1 h2 (by omega)⟩⟩
/-- the invariant of the two objects -/
def IV (Z : jdL) (I : jdI) : Prop := zX Z ∧ zMen Z ∧ WX I ∧ MI Z I 45
theorem IV_x {Z : jdL} {I I2 : jdI} {p : Nat → Nat → Prop} (h : IV Z I) (hW : WX I2) (hF : Fr p I I2) (hp : ∀ a k, p a k → a < 45) : IV Z I2 := ⟨h.1, h.2.1, hW, MI_lo h.2.2.2 hF hp⟩
theorem IV_m {Z : jdL} {I I2 : jdI} {p : Nat → Nat → Prop} (h : IV Z I) (hW : WM 7 45 I2) (hF : Fr p I I2) (hp : ∀ a k, p a k → 45 ≤ a ∧ a ≤ 82) : IV Z I2 := ⟨h.1, h.2.1, WX_fr h.2.2.1 hF (fun a k h1 h2 => by have := hp a k h2; omega), MI_t h.2.2.2 hW hF (fun a k q => Or.inl (hp a k q))⟩
theorem IV_s {Z Z2 : jdL} {I I2 : jdI} {J J2 : jdJ} {x y : Nat} (h : IV Z I) (hS : ST 45 x y Z I J Z2 I2 J2) : IV Z2 I2 := by
  obtain ⟨h0, h1, h2, h3⟩ := h
  obtain ⟨m0, r0, r1, r2, r3, r4⟩ := hS
  have hb := h3.2.2.1
  refine ⟨zX_tr h0 (fun a ha => r1 a (by omega)) (fun a k ha _ => r2 a k (by omega) (by omega)), fun i hi w hw => ?_, WX_fr h2 r3 (fun a k h1 h2 => by omega), m0⟩
  rw [r2 _ _ (by omega) (by omega)] at hw
  obtain ⟨ci, hci, hz⟩ := h1 i hi w hw
  have hl := h3.2.2.2.1 _ _ hz
  exact ⟨ci, hci, (r1 w hl).trans hz⟩
theorem MI_uP {Z : jdL} {I : jdI} {t a k : Nat} {v : Option Nat} (h : MI Z I t) (ha : a < t) : MI (uP Z a k v) I t := by
  obtain ⟨b0, b1, b2, b3, b4, b5, b6⟩ := h
  have tr : ∀ w, t ≤ w → zModel Z w → zModel (uP Z a k v) w := fun w hw h => zModel_tr h (fun _ _ _ => rfl) (fun c j h1 h2 _ => by rw [uP_ap, if_neg (by omega)])
  have e : ∀ j, (uP Z a k v).2.1 t j = Z.2.1 t j := fun j => by rw [uP_ap, if_neg (by omega)]
  refine ⟨tr t (Nat.le_refl _) b0, b1, b2, b3, fun w hw => ?_, fun u hu => ?_, fun w u hw hu => ?_⟩
  · rw [e] at hw
    obtain ⟨c0, c1, c2, c3⟩ := b4 w hw
    exact ⟨tr w (by omega) c0, c1, c2, c3⟩
  · rw [e] at hu
    obtain ⟨c0, c1, c2, c3⟩ := b5 u hu
    exact ⟨tr u (by omega) c0, c1, c2, c3⟩
  · rw [e] at hw hu
    exact b6 w u hw hu
theorem IV_uP {Z : jdL} {I : jdI} {i : Nat} {v : Option Nat} (h : IV Z I) (hi : i < 8) (hv : ∀ w, v = some w → zMan Z w) : IV (uP Z (29 + 2 * i) 3 v) I := by
  obtain ⟨h0, h1, h2, h3⟩ := h
  refine ⟨zX_tr h0 (fun _ _ => rfl) (fun a k ha hk => by rw [uP_ap, if_neg (by omega)]), fun j hj w hw => ?_, h2, MI_uP h3 (by omega)⟩
  rw [uP_ap] at hw
  by_cases e : 29 + 2 * j = 29 + 2 * i ∧ 3 = 3
  · rw [if_pos e] at hw
    exact hv w hw
  · rw [if_neg e] at hw
    exact h1 j hj w hw
theorem IV_hi {Z : jdL} {I I2 : jdI} {p : Nat → Nat → Prop} (h : IV Z I) (hF : Fr p I I2) (hp : ∀ a k, p a k → Z.2.2 ≤ a) : IV Z I2 := by
  have hb := h.2.2.2.2.2.1
  exact ⟨h.1, h.2.1, WX_fr h.2.2.1 hF (fun a k h1 h2 => by have := hp a k h2; omega), MI_t h.2.2.2 (WM_fr h.2.2.2.2.1 hF (fun a k h1 h2 h3 => by have := hp a k h3; omega)) hF (fun a k q => Or.inr (hp a k q))⟩
theorem IV_nZ {Z : jdL} {I : jdI} {ty : Nat × Nat} (h : IV Z I) : IV (nZ Z ty) I := by
  obtain ⟨h0, h1, h2, h3⟩ := h
  have hb := h3.2.2.1
  refine ⟨zX_tr h0 (fun a ha => by rw [nZ_ap, if_neg (by omega)]) (fun a k ha hk => by rw [nZ_ap2, if_neg (by omega)]), fun j hj w hw => ?_, h2, MI_nZ h3⟩
  rw [nZ_ap2, if_neg (by omega)] at hw
  obtain ⟨ci, hci, hz⟩ := h1 j hj w hw
  have hl := h3.2.2.2.1 _ _ hz
  exact ⟨ci, hci, by rw [nZ_ap, if_neg (by omega)]; exact hz⟩
/-- the size of the tape and the flag of what is kept stay, on both sides -/
def NX (Z : jdL) (I : jdI) (Z2 : jdL) (I2 : jdI) : Prop := I2 25 1 = I 25 1 ∧ I2 0 8 = I 0 8 ∧ I2 45 8 = I 45 8 ∧ Z2.2.1 45 20 = Z.2.1 45 20
theorem NX.rf {Z : jdL} {I : jdI} : NX Z I Z I := ⟨rfl, rfl, rfl, rfl⟩
theorem NX.tr {Z Z1 Z2 : jdL} {I I1 I2 : jdI} (h : NX Z I Z1 I1) (h2 : NX Z1 I1 Z2 I2) : NX Z I Z2 I2 := ⟨h2.1.trans h.1, h2.2.1.trans h.2.1, h2.2.2.1.trans h.2.2.1, h2.2.2.2.trans h.2.2.2⟩
theorem NX_fr {Z : jdL} {I I2 : jdI} {p : Nat → Nat → Prop} (hF : Fr p I I2) (h1 : ¬ p 25 1) (h2 : ¬ p 0 8) (h3 : ¬ p 45 8) : NX Z I Z I2 := ⟨hF _ _ h1, hF _ _ h2, hF _ _ h3, rfl⟩
theorem NX_st {Z Z2 : jdL} {I I2 : jdI} {J J2 : jdJ} {y : Nat} (h : IV Z I) (hS : ST 45 21 y Z I J Z2 I2 J2) (hy : 10 ≤ y) : NX Z I Z2 I2 := by
  have hb := h.2.2.2.2.2.1
  exact ⟨hS.2.2.2.2.1 _ _ (by omega), hS.2.2.2.2.1 _ _ (by omega), hS.2.2.2.2.1 _ _ (by omega), hS.2.2.2.1 _ _ (by omega) (by omega)⟩
theorem NX_nZ {Z : jdL} {I : jdI} {ty : Nat × Nat} (h : IV Z I) : NX Z I (nZ Z ty) I := by
  have hb := h.2.2.2.2.2.1
  exact ⟨rfl, rfl, rfl, by rw [nZ_ap2, if_neg (by omega)]⟩
theorem NX_uP {Z : jdL} {I : jdI} {a k : Nat} {v : Option Nat} (h : a < 45) : NX Z I (uP Z a k v) I := ⟨rfl, rfl, rfl, by rw [uP_ap, if_neg (by omega)]⟩
/-- what the two objects have in common, of the tape's size and of what is kept -/
def RV (Z : jdL) (I : jdI) : Prop := (I 25 1).toInt = (I 45 8).toInt ∧ ((I 0 8).toInt = 0 ↔ Z.2.1 45 20 = none)
theorem RV_keep {Z Z2 : jdL} {I I2 : jdI} (h : RV Z I) (n : NX Z I Z2 I2) : RV Z2 I2 := by
  obtain ⟨n1, n2, n3, n4⟩ := n
  refine ⟨?_, ?_⟩
  · rw [n1, n3]
    exact h.1
  · rw [n2, n4]
    exact h.2
theorem mk_uP_ne {Z : jdL} {i j : Nat} {v : Option Nat} (h : i ≠ j) : mk (uP Z (29 + 2 * j) 3 v) i = mk Z i := by
  have e : (uP Z (29 + 2 * j) 3 v).2.1 (29 + 2 * i) 3 = Z.2.1 (29 + 2 * i) 3 := by rw [uP_ap, if_neg (by omega)]
  unfold mk
  rw [e]
  rfl
theorem mk_uP_none {Z : jdL} {j : Nat} : mk (uP Z (29 + 2 * j) 3 none) j = 0 := mk_none (by rw [uP_ap, if_pos ⟨rfl, rfl⟩])
theorem mk_uP_some {Z : jdL} {j w : Nat} : mk (uP Z (29 + 2 * j) 3 (some w)) j = ckI (Z.1 w) := mk_some (Z := uP Z (29 + 2 * j) 3 (some w)) (by rw [uP_ap, if_pos ⟨rfl, rfl⟩])
theorem mk_eq {Z Z2 : jdL} {I : jdI} {i : Nat} (h : IV Z I) (hi : i < 8) (h1 : ∀ a, a < Z.2.2 → Z2.1 a = Z.1 a) (h2 : Z2.2.1 (29 + 2 * i) 3 = Z.2.1 (29 + 2 * i) 3) : mk Z2 i = mk Z i := by
  unfold mk
  rw [h2]
  cases hw : Z.2.1 (29 + 2 * i) 3 with
  | none => rfl
  | some w =>
    obtain ⟨ci, hci, hz⟩ := h.2.1 i hi w hw
    show ckI (Z2.1 w) = ckI (Z.1 w)
    rw [h1 w (h.2.2.2.2.2.2.1 _ _ hz)]
theorem mk_nZ {Z : jdL} {I : jdI} {i : Nat} {ty : Nat × Nat} (h : IV Z I) (hi : i < 8) : mk (nZ Z ty) i = mk Z i := by
  have hb := h.2.2.2.2.2.1
  exact mk_eq h hi (fun a ha => by rw [nZ_ap, if_neg (by omega)]) (by rw [nZ_ap2, if_neg (by omega)])
/-- the shelves stay, on both sides -/
def NS (Z : jdL) (I : jdI) (Z2 : jdL) (I2 : jdI) : Prop := ∀ i, i < 8 → I2 (29 + 2 * i) 1 = I (29 + 2 * i) 1 ∧ I2 (29 + 2 * i) 2 = I (29 + 2 * i) 2 ∧ mk Z2 i = mk Z i ∧ I2 (45 + 1) i = I (45 + 1) i ∧ I2 (45 + 2) i = I (45 + 2) i ∧ I2 (45 + 3) i = I (45 + 3) i ∧ I2 (45 + 14) i = I (45 + 14) i
theorem NS.rf {Z : jdL} {I : jdI} : NS Z I Z I := fun _ _ => ⟨rfl, rfl, rfl, rfl, rfl, rfl, rfl⟩
theorem NS.tr {Z Z1 Z2 : jdL} {I I1 I2 : jdI} (h : NS Z I Z1 I1) (h2 : NS Z1 I1 Z2 I2) : NS Z I Z2 I2 := fun i hi => by
  obtain ⟨a1, a2, a3, a4, a5, a6, a7⟩ := h i hi
  obtain ⟨b1, b2, b3, b4, b5, b6, b7⟩ := h2 i hi
  exact ⟨b1.trans a1, b2.trans a2, b3.trans a3, b4.trans a4, b5.trans a5, b6.trans a6, b7.trans a7⟩
theorem NS_fr {Z : jdL} {I I2 : jdI} {p : Nat → Nat → Prop} (hF : Fr p I I2) (hp : ∀ a k, p a k → ¬ ((29 ≤ a ∧ a ≤ 43) ∨ (46 ≤ a ∧ a ≤ 48) ∨ a = 59)) : NS Z I Z I2 := fun i hi =>
  ⟨hF _ _ (fun q => by have := hp _ _ q; omega), hF _ _ (fun q => by have := hp _ _ q; omega), rfl, hF _ _ (fun q => by have := hp _ _ q; omega), hF _ _ (fun q => by have := hp _ _ q; omega), hF _ _ (fun q => by have := hp _ _ q; omega), hF _ _ (fun q => by have := hp _ _ q; omega)⟩
theorem NS_st {Z Z2 : jdL} {I I2 : jdI} {J J2 : jdJ} {x y : Nat} (h : IV Z I) (hS : ST 45 x y Z I J Z2 I2 J2) : NS Z I Z2 I2 := fun i hi => by
  have hb := h.2.2.2.2.2.1
  have r3 := hS.2.2.2.2.1
  exact ⟨r3 _ _ (by omega), r3 _ _ (by omega), mk_eq h hi (fun a ha => hS.2.2.1 a ha) (hS.2.2.2.1 _ _ (by omega) (by omega)), r3 _ _ (by omega), r3 _ _ (by omega), r3 _ _ (by omega), r3 _ _ (by omega)⟩
/-- shelf i is the same on both sides -/
def SRI (Z : jdL) (I : jdI) (i : Nat) : Prop := ((I (45 + 1) i).toInt = 0 ∧ (I (29 + 2 * i) 1).toInt = -1 ∧ mk Z i = 0) ∨ ((I (45 + 1) i).toInt = 1 ∧ (I (29 + 2 * i) 1).toInt = (I (45 + 2) i).toInt ∧ 0 ≤ (I (45 + 2) i).toInt ∧ (I (45 + 2) i).toInt ≤ 4 ∧ (I (29 + 2 * i) 2).toInt = (I (45 + 3) i).toInt ∧ mk Z i = 0) ∨ ((I (45 + 1) i).toInt = 2 ∧ (I (29 + 2 * i) 1).toInt = -1 ∧ mk Z i = (I (45 + 14) i).toInt ∧ 1 ≤ (I (45 + 14) i).toInt ∧ (I (45 + 14) i).toInt ≤ 5)
def RS (Z : jdL) (I : jdI) : Prop := ∀ i, i < 8 → SRI Z I i
theorem RS_keep {Z Z2 : jdL} {I I2 : jdI} (h : RS Z I) (n : NS Z I Z2 I2) : RS Z2 I2 := fun i hi => by
  obtain ⟨a1, a2, a3, a4, a5, a6, a7⟩ := n i hi
  have s := h i hi
  unfold SRI at s ⊢
  rw [a1, a2, a3, a4, a5, a6, a7]
  exact s
/-- what a method of X does to the shelf x1 where ok holds: kind, size, coachman -/
def XS (ok : Prop) (x1 : Int32) (kd sz mn : Int) (Z : jdL) (I : jdI) (Z2 : jdL) (I2 : jdI) : Prop := (∀ a k, 45 ≤ a → a < Z.2.2 → I2 a k = I a k) ∧ ∀ i, i < 8 → (¬ (ok ∧ i = Int32.toNatClampNeg x1) → I2 (29 + 2 * i) 1 = I (29 + 2 * i) 1 ∧ I2 (29 + 2 * i) 2 = I (29 + 2 * i) 2 ∧ mk Z2 i = mk Z i) ∧ (ok → i = Int32.toNatClampNeg x1 → (I2 (29 + 2 * i) 1).toInt = kd ∧ (I2 (29 + 2 * i) 2).toInt = sz ∧ mk Z2 i = mn)
theorem XS_no {ok : Prop} {x1 : Int32} {kd sz mn : Int} {Z : jdL} {I I2 : jdI} {p : Nat → Nat → Prop} (hF : Fr p I I2) (hp : ∀ a k, p a k → a = 28) (h : ¬ ok) : XS ok x1 kd sz mn Z I Z I2 :=
  ⟨fun a k h1 _ => hF a k (fun q => by have := hp _ _ q; omega), fun i hi => ⟨fun _ => ⟨hF _ _ (fun q => by have := hp _ _ q; omega), hF _ _ (fun q => by have := hp _ _ q; omega), rfl⟩, fun q => absurd q h⟩⟩
theorem RS_row {Z Z1 : jdL} {I I1 I2 : jdI} {J J2 : jdJ} {x1 x2 x3 v : Int32} (hv : IV Z I) (h : RS Z I) (hx : XS (((0 ≤ x1.toInt ∧ x1.toInt ≤ 7) ∧ (0 ≤ x2.toInt ∧ x2.toInt ≤ 4) ∧ 0 ≤ x3.toInt ∧ x3.toInt ≤ 40)) x1 x2.toInt x3.toInt 0 Z I Z1 I1) (hF : Fr (fun a k => ((a = 45 + 1 ∨ a = 45 + 2 ∨ a = 45 + 3) ∧ k = Int32.toNatClampNeg x1) ∨ a = 45 + 17) I1 I2) (hp : (v.toInt = 1 ∧ ((0 ≤ x1.toInt ∧ x1.toInt ≤ 7) ∧ (0 ≤ x2.toInt ∧ x2.toInt ≤ 4) ∧ 0 ≤ x3.toInt ∧ x3.toInt ≤ 40) ∧ (I2 (45 + 1) (Int32.toNatClampNeg x1)).toInt = 1 ∧ (I2 (45 + 2) (Int32.toNatClampNeg x1)).toInt = x2.toInt ∧ (I2 (45 + 3) (Int32.toNatClampNeg x1)).toInt = x3.toInt ∧ ((∀ q : Nat, q < 40 → J2 (45 + 5 + (Int32.toNatClampNeg x1)) q = 0) ∧ ∀ a, a ≠ 45 + 5 + (Int32.toNatClampNeg x1) → J2 a = J a)) ∨ (v.toInt = -2 ∧ ¬ ((0 ≤ x1.toInt ∧ x1.toInt ≤ 7) ∧ (0 ≤ x2.toInt ∧ x2.toInt ≤ 4) ∧ 0 ≤ x3.toInt ∧ x3.toInt ≤ 40) ∧ (I2 (45 + 1) (Int32.toNatClampNeg x1)).toInt = (I1 (45 + 1) (Int32.toNatClampNeg x1)).toInt ∧ (I2 (45 + 2) (Int32.toNatClampNeg x1)).toInt = (I1 (45 + 2) (Int32.toNatClampNeg x1)).toInt ∧ (I2 (45 + 3) (Int32.toNatClampNeg x1)).toInt = (I1 (45 + 3) (Int32.toNatClampNeg x1)).toInt ∧ J2 = J)) : RS Z1 I2 := fun i hi => by
  have hb := hv.2.2.2.2.2.1
  have s := h i hi
  obtain ⟨e1, e2⟩ := hx.2 i hi
  have f1 := congrArg Int32.toInt (hF (29 + 2 * i) 1 (by omega))
  have f2 := congrArg Int32.toInt (hF (29 + 2 * i) 2 (by omega))
  have g1 := congrArg Int32.toInt (hx.1 (45 + 1) i (by omega) (by omega))
  have g2 := congrArg Int32.toInt (hx.1 (45 + 2) i (by omega) (by omega))
  have g3 := congrArg Int32.toInt (hx.1 (45 + 3) i (by omega) (by omega))
  have g4 := congrArg Int32.toInt (hx.1 (45 + 14) i (by omega) (by omega))
  have g5 := congrArg Int32.toInt (hF (45 + 14) i (by omega))
  unfold SRI at s ⊢
  by_cases c : (((0 ≤ x1.toInt ∧ x1.toInt ≤ 7) ∧ (0 ≤ x2.toInt ∧ x2.toInt ≤ 4) ∧ 0 ≤ x3.toInt ∧ x3.toInt ≤ 40)) ∧ i = Int32.toNatClampNeg x1
  · obtain ⟨c1, c2⟩ := c
    obtain ⟨k1, k2, k3⟩ := e2 c1 c2
    rw [← c2] at hp
    have hp : (I2 (45 + 1) i).toInt = 1 ∧ (I2 (45 + 2) i).toInt = x2.toInt ∧ (I2 (45 + 3) i).toInt = x3.toInt := by
      rcases hp with hp | hp
      · exact ⟨hp.2.2.1, hp.2.2.2.1, hp.2.2.2.2.1⟩
      · exact absurd c1 hp.2.1
    exact Or.inr (Or.inl ⟨by omega, by omega, by omega, by omega, by omega, k3⟩)
  · obtain ⟨k1, k2, k3⟩ := e1 c
    have k1 := congrArg Int32.toInt k1
    have k2 := congrArg Int32.toInt k2
    have m : (I2 (45 + 1) i).toInt = (I1 (45 + 1) i).toInt ∧ (I2 (45 + 2) i).toInt = (I1 (45 + 2) i).toInt ∧ (I2 (45 + 3) i).toInt = (I1 (45 + 3) i).toInt := by
      by_cases c2 : i = Int32.toNatClampNeg x1
      · rw [← c2] at hp
        have c3 : ¬ (((0 ≤ x1.toInt ∧ x1.toInt ≤ 7) ∧ (0 ≤ x2.toInt ∧ x2.toInt ≤ 4) ∧ 0 ≤ x3.toInt ∧ x3.toInt ≤ 40)) := fun q => c ⟨q, c2⟩
        rcases hp with hp | hp
        · exact absurd hp.2.1 c3
        · exact ⟨hp.2.2.1, hp.2.2.2.1, hp.2.2.2.2.1⟩
      · exact ⟨congrArg Int32.toInt (hF (45 + 1) i (by omega)), congrArg Int32.toInt (hF (45 + 2) i (by omega)), congrArg Int32.toInt (hF (45 + 3) i (by omega))⟩
    obtain ⟨m1, m2, m3⟩ := m
    rw [k3, f1, f2, k1, k2, m1, m2, m3, g1, g2, g3, g5, g4]
    exact s
theorem RS_man {Z Z1 : jdL} {I I1 I2 : jdI} {x1 x2 x3 v : Int32} (hv : IV Z I) (h : RS Z I) (hx : XS (((0 ≤ x1.toInt ∧ x1.toInt ≤ 7) ∧ (1 ≤ x2.toInt ∧ x2.toInt ≤ 5) ∧ 0 ≤ x3.toInt ∧ x3.toInt ≤ 9)) x1 (-1) 0 x2.toInt Z I Z1 I1) (hF : Fr (fun a k => ((a = 45 + 1 ∨ a = 45 + 14 ∨ a = 45 + 15) ∧ k = Int32.toNatClampNeg x1) ∨ a = 45 + 17) I1 I2) (hp : (v.toInt = 1 ∧ ((0 ≤ x1.toInt ∧ x1.toInt ≤ 7) ∧ (1 ≤ x2.toInt ∧ x2.toInt ≤ 5) ∧ 0 ≤ x3.toInt ∧ x3.toInt ≤ 9) ∧ (I2 (45 + 1) (Int32.toNatClampNeg x1)).toInt = 2 ∧ (I2 (45 + 14) (Int32.toNatClampNeg x1)).toInt = x2.toInt) ∨ (v.toInt = -2 ∧ ¬ ((0 ≤ x1.toInt ∧ x1.toInt ≤ 7) ∧ (1 ≤ x2.toInt ∧ x2.toInt ≤ 5) ∧ 0 ≤ x3.toInt ∧ x3.toInt ≤ 9) ∧ (I2 (45 + 1) (Int32.toNatClampNeg x1)).toInt = (I1 (45 + 1) (Int32.toNatClampNeg x1)).toInt ∧ (I2 (45 + 14) (Int32.toNatClampNeg x1)).toInt = (I1 (45 + 14) (Int32.toNatClampNeg x1)).toInt)) : RS Z1 I2 := fun i hi => by
  have hb := hv.2.2.2.2.2.1
  have s := h i hi
  obtain ⟨e1, e2⟩ := hx.2 i hi
  have f1 := congrArg Int32.toInt (hF (29 + 2 * i) 1 (by omega))
  have f2 := congrArg Int32.toInt (hF (29 + 2 * i) 2 (by omega))
  have g1 := congrArg Int32.toInt (hx.1 (45 + 1) i (by omega) (by omega))
  have g2 := congrArg Int32.toInt (hx.1 (45 + 2) i (by omega) (by omega))
  have g3 := congrArg Int32.toInt (hx.1 (45 + 3) i (by omega) (by omega))
  have g4 := congrArg Int32.toInt (hx.1 (45 + 14) i (by omega) (by omega))
  have g5 := congrArg Int32.toInt (hF (45 + 2) i (by omega))
  have g6 := congrArg Int32.toInt (hF (45 + 3) i (by omega))
  unfold SRI at s ⊢
  by_cases c : (((0 ≤ x1.toInt ∧ x1.toInt ≤ 7) ∧ (1 ≤ x2.toInt ∧ x2.toInt ≤ 5) ∧ 0 ≤ x3.toInt ∧ x3.toInt ≤ 9)) ∧ i = Int32.toNatClampNeg x1
  · obtain ⟨c1, c2⟩ := c
    obtain ⟨k1, k2, k3⟩ := e2 c1 c2
    rw [← c2] at hp
    exact Or.inr (Or.inr ⟨by omega, by omega, by omega, by omega, by omega⟩)
  · obtain ⟨k1, k2, k3⟩ := e1 c
    have k1 := congrArg Int32.toInt k1
    have k2 := congrArg Int32.toInt k2
    have m : (I2 (45 + 1) i).toInt = (I1 (45 + 1) i).toInt ∧ (I2 (45 + 14) i).toInt = (I1 (45 + 14) i).toInt := by
      by_cases c2 : i = Int32.toNatClampNeg x1
      · rw [← c2] at hp
        have c3 : ¬ (((0 ≤ x1.toInt ∧ x1.toInt ≤ 7) ∧ (1 ≤ x2.toInt ∧ x2.toInt ≤ 5) ∧ 0 ≤ x3.toInt ∧ x3.toInt ≤ 9)) := fun q => c ⟨q, c2⟩
        rcases hp with hp | hp
        · exact absurd hp.2.1 c3
        · exact hp.2.2
      · exact ⟨congrArg Int32.toInt (hF (45 + 1) i (by omega)), congrArg Int32.toInt (hF (45 + 14) i (by omega))⟩
    obtain ⟨m1, m2⟩ := m
    rw [k3, f1, f2, k1, k2, m1, m2, g1, g4, g5, g2, g6, g3]
    exact s
/-- the rows hold the same numbers -/
def RJ (I : jdI) (J : jdJ) : Prop := ∀ i, i < 8 → (I (45 + 1) i).toInt = 1 → ∀ k, k < 40 → J (29 + 2 * i + 1) k = J (45 + 5 + i) k
def NJ (J J2 : jdJ) : Prop := ∀ a, a < 83 → J2 a = J a
theorem RJ_keep {Z Z2 : jdL} {I I2 : jdI} {J J2 : jdJ} (h : RJ I J) (n : NS Z I Z2 I2) (nj : NJ J J2) : RJ I2 J2 := fun i hi hw k hk => by
  obtain ⟨_, _, _, a4, _, _, _⟩ := n i hi
  rw [a4] at hw
  rw [nj _ (by omega), nj _ (by omega)]
  exact h i hi hw k hk
theorem NJ.rf {J : jdJ} : NJ J J := fun _ _ => rfl
theorem NJ_st {Z Z2 : jdL} {I I2 : jdI} {J J2 : jdJ} {x y : Nat} (h : IV Z I) (hS : ST 45 x y Z I J Z2 I2 J2) : NJ J J2 := fun a ha => hS.2.2.2.2.2.1 a (by have := h.2.2.2.2.2.1; omega)
theorem RJ_row {I I1 I2 : jdI} {J J1 J2 : jdJ} {x1 x2 x3 v : Int32} (h : RJ I J) (hI : ∀ i, i < 8 → I1 (45 + 1) i = I (45 + 1) i) (hj : ((((0 ≤ x1.toInt ∧ x1.toInt ≤ 7) ∧ (0 ≤ x2.toInt ∧ x2.toInt ≤ 4) ∧ 0 ≤ x3.toInt ∧ x3.toInt ≤ 40)) → (∀ q : Nat, q < 40 → J1 (29 + 2 * (Int32.toNatClampNeg x1) + 1) q = 0) ∧ ∀ a, a ≠ 29 + 2 * (Int32.toNatClampNeg x1) + 1 → J1 a = J a) ∧ (¬ (((0 ≤ x1.toInt ∧ x1.toInt ≤ 7) ∧ (0 ≤ x2.toInt ∧ x2.toInt ≤ 4) ∧ 0 ≤ x3.toInt ∧ x3.toInt ≤ 40)) → J1 = J)) (hF : Fr (fun a k => ((a = 45 + 1 ∨ a = 45 + 2 ∨ a = 45 + 3) ∧ k = Int32.toNatClampNeg x1) ∨ a = 45 + 17) I1 I2) (hp : (v.toInt = 1 ∧ ((0 ≤ x1.toInt ∧ x1.toInt ≤ 7) ∧ (0 ≤ x2.toInt ∧ x2.toInt ≤ 4) ∧ 0 ≤ x3.toInt ∧ x3.toInt ≤ 40) ∧ (I2 (45 + 1) (Int32.toNatClampNeg x1)).toInt = 1 ∧ (I2 (45 + 2) (Int32.toNatClampNeg x1)).toInt = x2.toInt ∧ (I2 (45 + 3) (Int32.toNatClampNeg x1)).toInt = x3.toInt ∧ ((∀ q : Nat, q < 40 → J2 (45 + 5 + (Int32.toNatClampNeg x1)) q = 0) ∧ ∀ a, a ≠ 45 + 5 + (Int32.toNatClampNeg x1) → J2 a = J1 a)) ∨ (v.toInt = -2 ∧ ¬ ((0 ≤ x1.toInt ∧ x1.toInt ≤ 7) ∧ (0 ≤ x2.toInt ∧ x2.toInt ≤ 4) ∧ 0 ≤ x3.toInt ∧ x3.toInt ≤ 40) ∧ (I2 (45 + 1) (Int32.toNatClampNeg x1)).toInt = (I1 (45 + 1) (Int32.toNatClampNeg x1)).toInt ∧ (I2 (45 + 2) (Int32.toNatClampNeg x1)).toInt = (I1 (45 + 2) (Int32.toNatClampNeg x1)).toInt ∧ (I2 (45 + 3) (Int32.toNatClampNeg x1)).toInt = (I1 (45 + 3) (Int32.toNatClampNeg x1)).toInt ∧ J2 = J1)) : RJ I2 J2 := fun i hi hw k hk => by
  rcases hp with hp | hp
  · obtain ⟨_, ok, _, _, _, p0, p1⟩ := hp
    obtain ⟨q0, q1⟩ := hj.1 ok
    have hn := tn_eq x1
    by_cases c : i = Int32.toNatClampNeg x1
    · subst c
      rw [p1 _ (by omega), q0 k hk, p0 k hk]
    · have e := hF (45 + 1) i (by omega)
      rw [e, hI i hi] at hw
      rw [p1 _ (by omega), p1 _ (by omega), q1 _ (by omega), q1 _ (by omega)]
      exact h i hi hw k hk
  · obtain ⟨_, no, f1, _, _, e2⟩ := hp
    rw [e2, hj.2 no]
    have e : (I2 (45 + 1) i).toInt = (I (45 + 1) i).toInt := by
      rw [← hI i hi]
      by_cases c : i = Int32.toNatClampNeg x1
      · rw [c]
        exact f1
      · exact congrArg Int32.toInt (hF (45 + 1) i (by omega))
    rw [e] at hw
    exact h i hi hw k hk
theorem RJ_man {I I1 I2 : jdI} {J : jdJ} {x1 x2 x3 v : Int32} (h : RJ I J) (hI : ∀ i, i < 8 → I1 (45 + 1) i = I (45 + 1) i) (hF : Fr (fun a k => ((a = 45 + 1 ∨ a = 45 + 14 ∨ a = 45 + 15) ∧ k = Int32.toNatClampNeg x1) ∨ a = 45 + 17) I1 I2) (hp : (v.toInt = 1 ∧ ((0 ≤ x1.toInt ∧ x1.toInt ≤ 7) ∧ (1 ≤ x2.toInt ∧ x2.toInt ≤ 5) ∧ 0 ≤ x3.toInt ∧ x3.toInt ≤ 9) ∧ (I2 (45 + 1) (Int32.toNatClampNeg x1)).toInt = 2 ∧ (I2 (45 + 14) (Int32.toNatClampNeg x1)).toInt = x2.toInt) ∨ (v.toInt = -2 ∧ ¬ ((0 ≤ x1.toInt ∧ x1.toInt ≤ 7) ∧ (1 ≤ x2.toInt ∧ x2.toInt ≤ 5) ∧ 0 ≤ x3.toInt ∧ x3.toInt ≤ 9) ∧ (I2 (45 + 1) (Int32.toNatClampNeg x1)).toInt = (I1 (45 + 1) (Int32.toNatClampNeg x1)).toInt ∧ (I2 (45 + 14) (Int32.toNatClampNeg x1)).toInt = (I1 (45 + 14) (Int32.toNatClampNeg x1)).toInt)) : RJ I2 J := fun i hi hw k hk => by
  have e : (I2 (45 + 1) i).toInt = (I (45 + 1) i).toInt ∨ (I2 (45 + 1) i).toInt = 2 := by
    rw [← hI i hi]
    by_cases c : i = Int32.toNatClampNeg x1
    · rw [c]
      rcases hp with hp | hp
      · exact Or.inr hp.2.2.1
      · exact Or.inl hp.2.2.1
    · exact Or.inl (congrArg Int32.toInt (hF (45 + 1) i (by omega)))
  exact h i hi (by omega) k hk
theorem RJ_set {Z : jdL} {I I1 I2 : jdI} {J J1 J2 : jdJ} {x1 x2 v1 v2 : Int32} {y3 : Int64} (hrs : RS Z I) (h : RJ I J) (n1 : NS Z I Z I1) (n2 : NS Z I Z I2) (hp1 : ((¬ (0 ≤ x1.toInt ∧ x1.toInt < 8) ∧ v1.toInt = -2) ∨ ((0 ≤ x1.toInt ∧ x1.toInt < 8) ∧ (I (29 + 2 * (Int32.toNatClampNeg x1)) 1).toInt = -1 ∧ mk Z (Int32.toNatClampNeg x1) = 0 ∧ v1.toInt = -4) ∨ ((0 ≤ x1.toInt ∧ x1.toInt < 8) ∧ (I (29 + 2 * (Int32.toNatClampNeg x1)) 1).toInt = -1 ∧ 1 ≤ mk Z (Int32.toNatClampNeg x1) ∧ v1.toInt = -3) ∨ (((0 ≤ x1.toInt ∧ x1.toInt < 8) ∧ ¬ (I (29 + 2 * (Int32.toNatClampNeg x1)) 1).toInt = -1 ∧ 0 ≤ x2.toInt ∧ x2.toInt < (I (29 + 2 * (Int32.toNatClampNeg x1)) 2).toInt) ∧ v1.toInt = 1) ∨ ((0 ≤ x1.toInt ∧ x1.toInt < 8) ∧ ¬ (I (29 + 2 * (Int32.toNatClampNeg x1)) 1).toInt = -1 ∧ ¬ (0 ≤ x2.toInt ∧ x2.toInt < (I (29 + 2 * (Int32.toNatClampNeg x1)) 2).toInt) ∧ v1.toInt = -2)) ∧ (((0 ≤ x1.toInt ∧ x1.toInt < 8) ∧ ¬ (I (29 + 2 * (Int32.toNatClampNeg x1)) 1).toInt = -1 ∧ 0 ≤ x2.toInt ∧ x2.toInt < (I (29 + 2 * (Int32.toNatClampNeg x1)) 2).toInt) → (0 ≤ (I (29 + 2 * (Int32.toNatClampNeg x1)) 1).toInt ∧ (I (29 + 2 * (Int32.toNatClampNeg x1)) 1).toInt ≤ 4 → J1 = uJ J ((29 + 2 * (Int32.toNatClampNeg x1)) + 1) (Int32.toNatClampNeg x2) (cutf (I (29 + 2 * (Int32.toNatClampNeg x1)) 1).toInt y3))) ∧ (¬ ((0 ≤ x1.toInt ∧ x1.toInt < 8) ∧ ¬ (I (29 + 2 * (Int32.toNatClampNeg x1)) 1).toInt = -1 ∧ 0 ≤ x2.toInt ∧ x2.toInt < (I (29 + 2 * (Int32.toNatClampNeg x1)) 2).toInt) → J1 = J)) (hp2 : ((¬ (0 ≤ x1.toInt ∧ x1.toInt ≤ 7) ∧ v2.toInt = -2) ∨ ((0 ≤ x1.toInt ∧ x1.toInt ≤ 7) ∧ (I1 (45 + 1) (Int32.toNatClampNeg x1)).toInt = 0 ∧ v2.toInt = -4) ∨ ((0 ≤ x1.toInt ∧ x1.toInt ≤ 7) ∧ (I1 (45 + 1) (Int32.toNatClampNeg x1)).toInt = 2 ∧ v2.toInt = -3) ∨ (((0 ≤ x1.toInt ∧ x1.toInt ≤ 7) ∧ ¬ (I1 (45 + 1) (Int32.toNatClampNeg x1)).toInt = 0 ∧ ¬ (I1 (45 + 1) (Int32.toNatClampNeg x1)).toInt = 2 ∧ 0 ≤ x2.toInt ∧ x2.toInt < (I1 (45 + 3) (Int32.toNatClampNeg x1)).toInt) ∧ v2.toInt = 1) ∨ ((0 ≤ x1.toInt ∧ x1.toInt ≤ 7) ∧ ¬ (I1 (45 + 1) (Int32.toNatClampNeg x1)).toInt = 0 ∧ ¬ (I1 (45 + 1) (Int32.toNatClampNeg x1)).toInt = 2 ∧ ¬ (0 ≤ x2.toInt ∧ x2.toInt < (I1 (45 + 3) (Int32.toNatClampNeg x1)).toInt) ∧ v2.toInt = -2)) ∧ (((0 ≤ x1.toInt ∧ x1.toInt ≤ 7) ∧ ¬ (I1 (45 + 1) (Int32.toNatClampNeg x1)).toInt = 0 ∧ ¬ (I1 (45 + 1) (Int32.toNatClampNeg x1)).toInt = 2 ∧ 0 ≤ x2.toInt ∧ x2.toInt < (I1 (45 + 3) (Int32.toNatClampNeg x1)).toInt) → J2 = uJ J1 (45 + 5 + (Int32.toNatClampNeg x1)) (Int32.toNatClampNeg x2) (cutf (I1 (45 + 2) (Int32.toNatClampNeg x1)).toInt y3)) ∧ (¬ ((0 ≤ x1.toInt ∧ x1.toInt ≤ 7) ∧ ¬ (I1 (45 + 1) (Int32.toNatClampNeg x1)).toInt = 0 ∧ ¬ (I1 (45 + 1) (Int32.toNatClampNeg x1)).toInt = 2 ∧ 0 ≤ x2.toInt ∧ x2.toInt < (I1 (45 + 3) (Int32.toNatClampNeg x1)).toInt) → J2 = J1)) : RJ I2 J2 := fun i hi hw k hk => by
  obtain ⟨_, _, _, a4, _, _, _⟩ := n2 i hi
  rw [a4] at hw
  have hj := h i hi hw k hk
  have hn := tn_eq x1
  by_cases r : 0 ≤ x1.toInt ∧ x1.toInt < 8
  · have s := hrs (Int32.toNatClampNeg x1) (by omega)
    obtain ⟨_, _, _, b4, b5, b6, _⟩ := n1 (Int32.toNatClampNeg x1) (by omega)
    have b4 := congrArg Int32.toInt b4
    have b5 := congrArg Int32.toInt b5
    have b6 := congrArg Int32.toInt b6
    unfold SRI at s
    by_cases c : ((0 ≤ x1.toInt ∧ x1.toInt < 8) ∧ ¬ (I (29 + 2 * (Int32.toNatClampNeg x1)) 1).toInt = -1 ∧ 0 ≤ x2.toInt ∧ x2.toInt < (I (29 + 2 * (Int32.toNatClampNeg x1)) 2).toInt)
    · have e1 := hp1.2.1 c ⟨by omega, by omega⟩
      have e2 := hp2.2.1 ⟨by omega, by omega, by omega, by omega, by omega⟩
      have e3 : (I1 (45 + 2) (Int32.toNatClampNeg x1)).toInt = (I (29 + 2 * (Int32.toNatClampNeg x1)) 1).toInt := by omega
      rw [e2, e1, e3, uJ_ap, if_neg (by omega), uJ_ap, uJ_ap]
      by_cases d : i = Int32.toNatClampNeg x1 ∧ k = Int32.toNatClampNeg x2
      · rw [if_pos (by omega), if_pos (by omega)]
      · rw [if_neg (by omega), if_neg (by omega), uJ_ap, if_neg (by omega)]
        exact hj
    · rw [hp2.2.2 (by omega), hp1.2.2 c]
      exact hj
  · rw [hp2.2.2 (by omega), hp1.2.2 (by omega)]
    exact hj
theorem RJ_copy {Z : jdL} {I I1 I2 : jdI} {J J1 J2 : jdJ} {x1 x2 x3 x4 x5 v1 v2 : Int32} (hW : WM 7 45 I) (hrs : RS Z I) (h : RJ I J) (n1 : NS Z I Z I1) (n2 : NS Z I Z I2) (hp1 : (¬ ((0 ≤ x1.toInt ∧ x1.toInt < 8) ∧ (0 ≤ x2.toInt ∧ x2.toInt < 8)) ∧ v1.toInt = -2 ∧ J1 = J) ∨ (((0 ≤ x1.toInt ∧ x1.toInt < 8) ∧ (0 ≤ x2.toInt ∧ x2.toInt < 8)) ∧ (1 ≤ mk Z (Int32.toNatClampNeg x1) ∨ 1 ≤ mk Z (Int32.toNatClampNeg x2)) ∧ v1.toInt = -3 ∧ J1 = J) ∨ (((0 ≤ x1.toInt ∧ x1.toInt < 8) ∧ (0 ≤ x2.toInt ∧ x2.toInt < 8)) ∧ (mk Z (Int32.toNatClampNeg x1) = 0 ∧ mk Z (Int32.toNatClampNeg x2) = 0) ∧ ((I (29 + 2 * (Int32.toNatClampNeg x1)) 1).toInt = -1 ∨ (I (29 + 2 * (Int32.toNatClampNeg x2)) 1).toInt = -1) ∧ v1.toInt = -4 ∧ J1 = J) ∨ (((0 ≤ x1.toInt ∧ x1.toInt < 8) ∧ (0 ≤ x2.toInt ∧ x2.toInt < 8)) ∧ (mk Z (Int32.toNatClampNeg x1) = 0 ∧ mk Z (Int32.toNatClampNeg x2) = 0) ∧ ¬ (I (29 + 2 * (Int32.toNatClampNeg x1)) 1).toInt = -1 ∧ ¬ (I (29 + 2 * (Int32.toNatClampNeg x2)) 1).toInt = -1 ∧ ¬ (I (29 + 2 * (Int32.toNatClampNeg x1)) 1).toInt = (I (29 + 2 * (Int32.toNatClampNeg x2)) 1).toInt ∧ v1.toInt = -3 ∧ J1 = J) ∨ (((0 ≤ x1.toInt ∧ x1.toInt < 8) ∧ (0 ≤ x2.toInt ∧ x2.toInt < 8)) ∧ (mk Z (Int32.toNatClampNeg x1) = 0 ∧ mk Z (Int32.toNatClampNeg x2) = 0) ∧ ¬ (I (29 + 2 * (Int32.toNatClampNeg x1)) 1).toInt = -1 ∧ ¬ (I (29 + 2 * (Int32.toNatClampNeg x2)) 1).toInt = -1 ∧ (I (29 + 2 * (Int32.toNatClampNeg x1)) 1).toInt = (I (29 + 2 * (Int32.toNatClampNeg x2)) 1).toInt ∧ (0 ≤ x3.toInt ∧ 0 ≤ x4.toInt ∧ 0 ≤ x5.toInt ∧ x5.toInt ≤ (I (29 + 2 * (Int32.toNatClampNeg x1)) 2).toInt - x3.toInt ∧ x5.toInt ≤ (I (29 + 2 * (Int32.toNatClampNeg x2)) 2).toInt - x4.toInt) ∧ v1.toInt = x5.toInt ∧ J1 = cJ J ((29 + 2 * (Int32.toNatClampNeg x1)) + 1) ((29 + 2 * (Int32.toNatClampNeg x2)) + 1) (Int32.toNatClampNeg x3) (Int32.toNatClampNeg x4) (Int32.toNatClampNeg x5)) ∨ (((0 ≤ x1.toInt ∧ x1.toInt < 8) ∧ (0 ≤ x2.toInt ∧ x2.toInt < 8)) ∧ (mk Z (Int32.toNatClampNeg x1) = 0 ∧ mk Z (Int32.toNatClampNeg x2) = 0) ∧ ¬ (I (29 + 2 * (Int32.toNatClampNeg x1)) 1).toInt = -1 ∧ ¬ (I (29 + 2 * (Int32.toNatClampNeg x2)) 1).toInt = -1 ∧ (I (29 + 2 * (Int32.toNatClampNeg x1)) 1).toInt = (I (29 + 2 * (Int32.toNatClampNeg x2)) 1).toInt ∧ ¬ (0 ≤ x3.toInt ∧ 0 ≤ x4.toInt ∧ 0 ≤ x5.toInt ∧ x5.toInt ≤ (I (29 + 2 * (Int32.toNatClampNeg x1)) 2).toInt - x3.toInt ∧ x5.toInt ≤ (I (29 + 2 * (Int32.toNatClampNeg x2)) 2).toInt - x4.toInt) ∧ v1.toInt = -2 ∧ J1 = J)) (hp2 : (¬ ((0 ≤ x1.toInt ∧ x1.toInt ≤ 7) ∧ 0 ≤ x2.toInt ∧ x2.toInt ≤ 7) ∧ v2.toInt = -2 ∧ J2 = J1) ∨ (((0 ≤ x1.toInt ∧ x1.toInt ≤ 7) ∧ 0 ≤ x2.toInt ∧ x2.toInt ≤ 7) ∧ ¬ ((0 ≤ (I1 (45 + 1) (Int32.toNatClampNeg x1)).toInt ∧ (I1 (45 + 1) (Int32.toNatClampNeg x1)).toInt ≤ 2) ∧ 0 ≤ (I1 (45 + 1) (Int32.toNatClampNeg x2)).toInt ∧ (I1 (45 + 1) (Int32.toNatClampNeg x2)).toInt ≤ 2)) ∨ (((0 ≤ x1.toInt ∧ x1.toInt ≤ 7) ∧ 0 ≤ x2.toInt ∧ x2.toInt ≤ 7) ∧ ((I1 (45 + 1) (Int32.toNatClampNeg x1)).toInt = 2 ∨ (I1 (45 + 1) (Int32.toNatClampNeg x2)).toInt = 2) ∧ v2.toInt = -3 ∧ J2 = J1) ∨ (((0 ≤ x1.toInt ∧ x1.toInt ≤ 7) ∧ 0 ≤ x2.toInt ∧ x2.toInt ≤ 7) ∧ ¬ (I1 (45 + 1) (Int32.toNatClampNeg x1)).toInt = 2 ∧ ¬ (I1 (45 + 1) (Int32.toNatClampNeg x2)).toInt = 2 ∧ ((I1 (45 + 1) (Int32.toNatClampNeg x1)).toInt = 0 ∨ (I1 (45 + 1) (Int32.toNatClampNeg x2)).toInt = 0) ∧ v2.toInt = -4 ∧ J2 = J1) ∨ (((0 ≤ x1.toInt ∧ x1.toInt ≤ 7) ∧ 0 ≤ x2.toInt ∧ x2.toInt ≤ 7) ∧ ((I1 (45 + 1) (Int32.toNatClampNeg x1)).toInt = 1 ∧ (I1 (45 + 1) (Int32.toNatClampNeg x2)).toInt = 1) ∧ ¬ (I1 (45 + 2) (Int32.toNatClampNeg x1)).toInt = (I1 (45 + 2) (Int32.toNatClampNeg x2)).toInt ∧ v2.toInt = -3 ∧ J2 = J1) ∨ (((0 ≤ x1.toInt ∧ x1.toInt ≤ 7) ∧ 0 ≤ x2.toInt ∧ x2.toInt ≤ 7) ∧ ((I1 (45 + 1) (Int32.toNatClampNeg x1)).toInt = 1 ∧ (I1 (45 + 1) (Int32.toNatClampNeg x2)).toInt = 1) ∧ (I1 (45 + 2) (Int32.toNatClampNeg x1)).toInt = (I1 (45 + 2) (Int32.toNatClampNeg x2)).toInt ∧ (0 ≤ x3.toInt ∧ 0 ≤ x4.toInt ∧ 0 ≤ x5.toInt ∧ x5.toInt ≤ (I1 (45 + 3) (Int32.toNatClampNeg x1)).toInt - x3.toInt ∧ x5.toInt ≤ (I1 (45 + 3) (Int32.toNatClampNeg x2)).toInt - x4.toInt) ∧ v2.toInt = x5.toInt ∧ ((∀ q : Nat, q < 40 → J2 (45 + 5 + (Int32.toNatClampNeg x2)) q = va_cpy (J1 (45 + 5 + (Int32.toNatClampNeg x1))) (J1 (45 + 5 + (Int32.toNatClampNeg x2))) (Int32.toNatClampNeg x3) (Int32.toNatClampNeg x4) (Int32.toNatClampNeg x5) q) ∧ ∀ a, a ≠ 45 + 13 → a ≠ 45 + 5 + (Int32.toNatClampNeg x2) → J2 a = J1 a)) ∨ (((0 ≤ x1.toInt ∧ x1.toInt ≤ 7) ∧ 0 ≤ x2.toInt ∧ x2.toInt ≤ 7) ∧ ((I1 (45 + 1) (Int32.toNatClampNeg x1)).toInt = 1 ∧ (I1 (45 + 1) (Int32.toNatClampNeg x2)).toInt = 1) ∧ (I1 (45 + 2) (Int32.toNatClampNeg x1)).toInt = (I1 (45 + 2) (Int32.toNatClampNeg x2)).toInt ∧ ¬ (0 ≤ x3.toInt ∧ 0 ≤ x4.toInt ∧ 0 ≤ x5.toInt ∧ x5.toInt ≤ (I1 (45 + 3) (Int32.toNatClampNeg x1)).toInt - x3.toInt ∧ x5.toInt ≤ (I1 (45 + 3) (Int32.toNatClampNeg x2)).toInt - x4.toInt) ∧ v2.toInt = -2 ∧ J2 = J1)) : RJ I2 J2 := fun i hi hw k hk => by
  obtain ⟨_, _, _, a4, _, _, _⟩ := n2 i hi
  rw [a4] at hw
  have hj := h i hi hw k hk
  have m1 := tn_eq x1
  have m2 := tn_eq x2
  have m3 := tn_eq x3
  have m4 := tn_eq x4
  have m5 := tn_eq x5
  by_cases r : (0 ≤ x1.toInt ∧ x1.toInt < 8) ∧ (0 ≤ x2.toInt ∧ x2.toInt < 8)
  · have s1 := hrs (Int32.toNatClampNeg x1) (by omega)
    have s2 := hrs (Int32.toNatClampNeg x2) (by omega)
    obtain ⟨_, _, _, b4, b5, b6, _⟩ := n1 (Int32.toNatClampNeg x1) (by omega)
    obtain ⟨_, _, _, c4, c5, c6, _⟩ := n1 (Int32.toNatClampNeg x2) (by omega)
    have b4 := congrArg Int32.toInt b4
    have b5 := congrArg Int32.toInt b5
    have b6 := congrArg Int32.toInt b6
    have c4 := congrArg Int32.toInt c4
    have c5 := congrArg Int32.toInt c5
    have c6 := congrArg Int32.toInt c6
    have w1 := WM_rowSize hW (k := Int32.toNatClampNeg x1) (by omega)
    have w2 := WM_rowSize hW (k := Int32.toNatClampNeg x2) (by omega)
    unfold SRI at s1 s2
    rcases hp1 with p | p | p | p | p | p
    · exact absurd r p.1
    · have e : J1 = J := p.2.2.2
      have p := p.2.1
      rcases hp2 with q | q | q | q | q | q | q
      · omega
      · omega
      · rw [q.2.2.2, e]; exact hj
      · rw [q.2.2.2.2.2, e]; exact hj
      · rw [q.2.2.2.2, e]; exact hj
      · omega
      · rw [q.2.2.2.2.2, e]; exact hj
    · have e : J1 = J := p.2.2.2.2
      have p1 := p.2.1
      have p := p.2.2.1
      rcases hp2 with q | q | q | q | q | q | q
      · omega
      · omega
      · rw [q.2.2.2, e]; exact hj
      · rw [q.2.2.2.2.2, e]; exact hj
      · rw [q.2.2.2.2, e]; exact hj
      · omega
      · rw [q.2.2.2.2.2, e]; exact hj
    · have e : J1 = J := p.2.2.2.2.2.2
      have p1 := p.2.1
      have p2 := p.2.2.1
      have p3 := p.2.2.2.1
      have p := p.2.2.2.2.1
      rcases hp2 with q | q | q | q | q | q | q
      · omega
      · omega
      · rw [q.2.2.2, e]; exact hj
      · rw [q.2.2.2.2.2, e]; exact hj
      · rw [q.2.2.2.2, e]; exact hj
      · omega
      · rw [q.2.2.2.2.2, e]; exact hj
    · obtain ⟨_, p1, p2, p3, p4, p5, _, e⟩ := p
      rcases hp2 with q | q | q | q | q | q | q
      · omega
      · omega
      · omega
      · omega
      · omega
      · obtain ⟨_, q1, q2, q3, _, g1, g2⟩ := q
        have hx : ∀ a, a ≠ 29 + 2 * (Int32.toNatClampNeg x2) + 1 → J1 a = J a := fun a ha => by
          rw [e]
          exact if_neg ha
        have hb : J1 (29 + 2 * (Int32.toNatClampNeg x2) + 1) = va_cpy (J (29 + 2 * (Int32.toNatClampNeg x1) + 1)) (J (29 + 2 * (Int32.toNatClampNeg x2) + 1)) (Int32.toNatClampNeg x3) (Int32.toNatClampNeg x4) (Int32.toNatClampNeg x5) := by
          rw [e]
          exact if_pos rfl
        by_cases d : i = Int32.toNatClampNeg x2
        · subst d
          rw [g2 _ (by omega) (by omega), hb, g1 k hk, hx _ (by omega), hx _ (by omega)]
          unfold va_cpy
          by_cases c : Int32.toNatClampNeg x4 ≤ k ∧ k < Int32.toNatClampNeg x4 + Int32.toNatClampNeg x5
          · rw [if_pos c, if_pos c]
            exact h (Int32.toNatClampNeg x1) (by omega) (by omega) _ (by omega)
          · rw [if_neg c, if_neg c]
            exact hj
        · rw [g2 _ (by omega) (by omega), g2 _ (by omega) (by omega), hx _ (by omega), hx _ (by omega)]
          exact hj
      · omega
    · have e : J1 = J := p.2.2.2.2.2.2.2
      obtain ⟨_, p1, p2, p3, p4, p5, _, _⟩ := p
      rcases hp2 with q | q | q | q | q | q | q
      · omega
      · omega
      · rw [q.2.2.2, e]; exact hj
      · rw [q.2.2.2.2.2, e]; exact hj
      · rw [q.2.2.2.2, e]; exact hj
      · omega
      · rw [q.2.2.2.2.2, e]; exact hj
  · rcases hp1 with p | p | p | p | p | p
    · rcases hp2 with q | q | q | q | q | q | q
      · rw [q.2.2, p.2.2]; exact hj
      · omega
      · omega
      · omega
      · omega
      · omega
      · omega
    · exact absurd p.1 r
    · exact absurd p.1 r
    · exact absurd p.1 r
    · exact absurd p.1 r
    · exact absurd p.1 r
/-- what is kept is the same town on both sides -/
def RK (Z : jdL) (I : jdI) : Prop := ∀ u, Z.2.1 45 20 = some u → ∃ s : Sd, OKT s.1 ∧ TX I 5 s ∧ TM I u s
/-- the tape and the town are the same on both sides -/
def RT (Z : jdL) (I : jdI) : Prop := I (25 + 1) = I (45 + 16) ∧ (∃ s : Sd, OKT s.1 ∧ TX I 1 s ∧ TM I 45 s) ∧ RK Z I
def NT (Z : jdL) (I : jdI) (Z2 : jdL) (I2 : jdI) : Prop := (∀ a k, a = 25 + 1 ∨ a = 45 + 16 ∨ (a = 1 ∧ 3 ≤ k ∧ k ≤ 6) ∨ (2 ≤ a ∧ a ≤ 8) ∨ (a = 45 ∧ (k = 10 ∨ k = 14 ∨ k = 15 ∨ k = 19)) ∨ a = 45 + 18 ∨ a = 45 + 19 ∨ (45 + 21 ≤ a ∧ a ≤ 45 + 28) → I2 a k = I a k) ∧ Z2.2.1 45 20 = Z.2.1 45 20 ∧ ∀ u, Z.2.1 45 20 = some u → ∀ a k, u ≤ a → a ≤ u + 37 → I2 a k = I a k
theorem NT.rf {Z : jdL} {I : jdI} : NT Z I Z I := ⟨fun _ _ _ => rfl, rfl, fun _ _ _ _ _ _ => rfl⟩
theorem NT.tr {Z Z1 Z2 : jdL} {I I1 I2 : jdI} (h : NT Z I Z1 I1) (h2 : NT Z1 I1 Z2 I2) : NT Z I Z2 I2 := ⟨fun a k q => (h2.1 a k q).trans (h.1 a k q), h2.2.1.trans h.2.1, fun u hu a k q1 q2 => (h2.2.2 u (by rw [h.2.1]; exact hu) a k q1 q2).trans (h.2.2 u hu a k q1 q2)⟩
theorem IV_kept {Z : jdL} {I : jdI} {u : Nat} (h : IV Z I) (hu : Z.2.1 45 20 = some u) : 83 ≤ u ∧ u + 38 ≤ Z.2.2 := (h.2.2.2.2.2.2.2.1 u hu).2.2
theorem NT_fr {Z : jdL} {I I2 : jdI} {p : Nat → Nat → Prop} (h : IV Z I) (hF : Fr p I I2) (hp : ∀ a k, p a k → ¬ (a = 25 + 1 ∨ a = 45 + 16 ∨ (a = 1 ∧ 3 ≤ k ∧ k ≤ 6) ∨ (2 ≤ a ∧ a ≤ 8) ∨ (a = 45 ∧ (k = 10 ∨ k = 14 ∨ k = 15 ∨ k = 19)) ∨ a = 45 + 18 ∨ a = 45 + 19 ∨ (45 + 21 ≤ a ∧ a ≤ 45 + 28)) ∧ a ≤ 82) : NT Z I Z I2 := ⟨fun a k q => hF a k (fun w => (hp a k w).1 q), rfl, fun u hu a k h1 h2 => hF a k (fun w => by have := (hp a k w).2; have := IV_kept h hu; omega)⟩
theorem NT_all {Z Z2 : jdL} {I I2 : jdI} (h : IV Z I) (e : ∀ a k, a < 28 ∨ (45 ≤ a ∧ a < Z.2.2) → I2 a k = I a k) (hz : Z2.2.1 45 20 = Z.2.1 45 20) : NT Z I Z2 I2 := by
  have hb := h.2.2.2.2.2.1
  exact ⟨fun a k q => e a k (by omega), hz, fun u hu a k h1 h2 => e a k (by have := IV_kept h hu; omega)⟩
theorem NT_st {Z Z2 : jdL} {I I2 : jdI} {J J2 : jdJ} {y : Nat} (h : IV Z I) (hS : ST 45 21 y Z I J Z2 I2 J2) (hy : 20 ≤ y) : NT Z I Z2 I2 := by
  have hb := h.2.2.2.2.2.1
  exact ⟨fun a k q => hS.2.2.2.2.1 a k (by omega), hS.2.2.2.1 _ _ (by omega) (by omega), fun u hu a k h1 h2 => hS.2.2.2.2.2.2.1 rfl (by omega) u hu a k h1 h2⟩
theorem TM_eq {I I2 : jdI} {u : Nat} {s : Sd} (h : TM I u s) (hP : s.1.1 ≤ 8) (e : ∀ a k, u ≤ a → a ≤ u + 37 → I2 a k = I a k) : TM I2 u s := TM_fr (p := fun a _ => ¬ (u ≤ a ∧ a ≤ u + 37)) h hP (fun a k q => e a k (by omega) (by omega)) (by omega) (by omega) (by omega) (by omega) (by intro a k h1 h2 h3; omega)
theorem TX_eq {I I2 : jdI} {b : Nat} {s : Sd} (h : TX I b s) (e : ∀ a k, b ≤ a → a ≤ b + 3 → I2 a k = I a k) : TX I2 b s := TX_fr (p := fun a _ => ¬ (b ≤ a ∧ a ≤ b + 3)) h (fun a k q => e a k (by omega) (by omega)) (by intro a k h1 h2; omega)
theorem TX_k {I I2 : jdI} {b : Nat} {s : Sd} (h : TX I b s) (e : ∀ a k, (a = b ∧ 3 ≤ k ∧ k ≤ 6) ∨ (b + 1 ≤ a ∧ a ≤ b + 3) → I2 a k = I a k) : TX I2 b s := by
  obtain ⟨⟨w1, w2, w3, w4, w5⟩, w6⟩ := h
  exact ⟨⟨by rw [e b 3 (by omega)]; exact w1, fun i hi => by rw [e (b + 1) i (by omega), e (b + 2) i (by omega)]; exact w2 i hi, by rw [e b 4 (by omega)]; exact w3, by rw [e b 5 (by omega)]; exact w4, fun i j hi hj hne => by rw [e (b + 3) _ (by omega)]; exact w5 i j hi hj hne⟩, by rw [e b 6 (by omega)]; exact w6⟩
theorem TM_k {I I2 : jdI} {t : Nat} {s : Sd} (h : TM I t s) (hP : s.1.1 ≤ 8) (e : ∀ a k, (a = t ∧ (k = 10 ∨ k = 14 ∨ k = 15 ∨ k = 19)) ∨ a = t + 18 ∨ a = t + 19 ∨ (t + 21 ≤ a ∧ a ≤ t + 28) → I2 a k = I a k) : TM I2 t s := by
  obtain ⟨⟨w1, w2, w3, w4, w5⟩, w6⟩ := h
  exact ⟨⟨by rw [e t 10 (by omega)]; exact w1, fun i hi => by rw [e (t + 18) i (by omega), e (t + 19) i (by omega)]; exact w2 i hi, by rw [e t 14 (by omega)]; exact w3, by rw [e t 15 (by omega)]; exact w4, fun i j hi hj hne => by rw [e (t + 21 + i) _ (by omega)]; exact w5 i j hi hj hne⟩, by rw [e t 19 (by omega)]; exact w6⟩
theorem RK_eq {Z Z2 : jdL} {I I2 : jdI} (h : RK Z I) (hW : WX I) (hz : Z2.2.1 45 20 = Z.2.1 45 20) (e5 : ∀ a k, 5 ≤ a → a ≤ 8 → I2 a k = I a k) (eu : ∀ u, Z.2.1 45 20 = some u → ∀ a k, u ≤ a → a ≤ u + 37 → I2 a k = I a k) : RK Z2 I2 := fun u hu => by
  rw [hz] at hu
  obtain ⟨s, k, g1, g2⟩ := h u hu
  have hw := WX_f hW
  have l1 := g1.1.1
  exact ⟨s, k, TX_eq g1 e5, TM_eq g2 (show s.1.1 ≤ 8 by omega) (eu u hu)⟩
theorem RK_fr {Z : jdL} {I I2 : jdI} {p : Nat → Nat → Prop} (hv : IV Z I) (h : RK Z I) (hF : Fr p I I2) (hp : ∀ a k, p a k → ¬ (5 ≤ a ∧ a ≤ 8) ∧ a ≤ 82) : RK Z I2 := RK_eq h hv.2.2.1 rfl (fun a k h1 h2 => hF a k (fun w => by have := hp a k w; omega)) (fun u hu a k h1 h2 => hF a k (fun w => by have := hp a k w; have := IV_kept hv hu; omega))
theorem RT_keep {Z Z2 : jdL} {I I2 : jdI} (hv : IV Z I) (h : RT Z I) (n : NT Z I Z2 I2) : RT Z2 I2 := by
  obtain ⟨h0, ⟨s, hk, h1, h2⟩, h3⟩ := h
  obtain ⟨n1, n2, n3⟩ := n
  have a1 : I2 (25 + 1) = I (25 + 1) := funext (fun j => n1 _ _ (by omega))
  have a2 : I2 (45 + 16) = I (45 + 16) := funext (fun j => n1 _ _ (by omega))
  have hw := WX_f hv.2.2.1
  have l1 := h1.1.1
  exact ⟨by rw [a1, a2]; exact h0, ⟨s, hk, TX_k h1 (fun a k q => n1 a k (by omega)), TM_k h2 (show s.1.1 ≤ 8 by omega) (fun a k q => n1 a k (by omega))⟩, RK_eq h3 hv.2.2.1 n2 (fun a j q1 q2 => n1 a j (by omega)) n3⟩
theorem TP_fr {I I2 : jdI} {p : Nat → Nat → Prop} (h : I (25 + 1) = I (45 + 16)) (hF : Fr p I I2) (hp : ∀ a k, p a k → ¬ a = 25 + 1 ∧ ¬ a = 45 + 16) : I2 (25 + 1) = I2 (45 + 16) := by
  have a1 : I2 (25 + 1) = I (25 + 1) := funext (fun j => hF _ _ (fun w => (hp _ _ w).1 rfl))
  have a2 : I2 (45 + 16) = I (45 + 16) := funext (fun j => hF _ _ (fun w => (hp _ _ w).2 rfl))
  rw [a1, a2]
  exact h
theorem tn_k {T : Nat → Int32} {n : Int} {w : Tw} {q : Q3} {v1 v2 : Int32} {I1 I2 : jdI} (hk : OKT w) (h1 : XTn (rd T n 63 w q 1) w v1 I1 1) (h2 : MTn (rd T n 63 w q 1) w v2 I2 45) : v1 = v2 ∧ ∃ w2, OKT w2 ∧ RX I1 1 w2 ∧ RM I2 45 w2 := by
  cases e : rd T n 63 w q 1 with
  | inl p =>
    rw [e] at h1 h2
    rcases h1 with ⟨_, g, _⟩ | ⟨p1, g1, g2, g3⟩
    · cases g
    · rcases h2 with ⟨_, g, _⟩ | ⟨p2, f1, f2, f3⟩
      · cases g
      · cases g1
        cases f1
        exact ⟨g2.trans f2.symm, w, hk, g3, f3⟩
  | inr a =>
    have ho : OKT a.1 := rd_ok T n 63 w q 1 a.1 a.2 hk e
    rw [e] at h1 h2
    rcases h1 with ⟨x1, g1, g2⟩ | ⟨_, g, _⟩
    · rcases h2 with ⟨x2, f1, f2⟩ | ⟨_, g, _⟩
      · injection g1 with g1
        injection f1 with f1
        rw [g1] at f1
        injection f1 with f1 f4
        rw [← f1] at f2
        rw [g1] at ho
        exact ⟨Int32.toInt_inj.mp f4, x1, ho, g2, f2⟩
      · cases g
    · cases g
/-- coachmen's cells lie behind the two objects, their numbers are those that the model keeps -/
def RA (Z : jdL) (I : jdI) : Prop := ∀ i, i < 8 → ∀ w, Z.2.1 (29 + 2 * i) 3 = some w → 82 < w ∧ I w 0 = I (45 + 15) i
theorem RA_hi {Z : jdL} {I : jdI} (h : RA Z I) : zHi Z := fun i hi w hw => (h i hi w hw).1
def NA (Z : jdL) (I : jdI) (Z2 : jdL) (I2 : jdI) : Prop := ∀ i, i < 8 → Z2.2.1 (29 + 2 * i) 3 = Z.2.1 (29 + 2 * i) 3 ∧ I2 (45 + 15) i = I (45 + 15) i ∧ ∀ w, Z.2.1 (29 + 2 * i) 3 = some w → 82 < w → I2 w 0 = I w 0
theorem NA.rf {Z : jdL} {I : jdI} : NA Z I Z I := fun _ _ => ⟨rfl, rfl, fun _ _ _ => rfl⟩
theorem NA.tr {Z Z1 Z2 : jdL} {I I1 I2 : jdI} (h : NA Z I Z1 I1) (h2 : NA Z1 I1 Z2 I2) : NA Z I Z2 I2 := fun i hi => by
  obtain ⟨a1, a2, a3⟩ := h i hi
  obtain ⟨b1, b2, b3⟩ := h2 i hi
  exact ⟨b1.trans a1, b2.trans a2, fun w hw hl => (b3 w (a1.trans hw) hl).trans (a3 w hw hl)⟩
theorem NA_fr {Z : jdL} {I I2 : jdI} {p : Nat → Nat → Prop} (hF : Fr p I I2) (hp : ∀ a k, p a k → a ≤ 82 ∧ ¬ a = 45 + 15) : NA Z I Z I2 := fun i hi => ⟨rfl, hF _ _ (fun q => (hp _ _ q).2 rfl), fun w hw hl => hF _ _ (fun q => by have := (hp _ _ q).1; omega)⟩
theorem NA_st {Z Z2 : jdL} {I I2 : jdI} {J J2 : jdJ} {x y : Nat} (h : IV Z I) (hS : ST 45 x y Z I J Z2 I2 J2) : NA Z I Z2 I2 := fun i hi => by
  have hb := h.2.2.2.2.2.1
  refine ⟨hS.2.2.2.1 _ _ (by omega) (by omega), hS.2.2.2.2.1 _ _ (by omega), fun w hw hl => ?_⟩
  obtain ⟨ci, hci, hz⟩ := h.2.1 i hi w hw
  exact hS.2.2.2.2.2.2.2 w ci (h.2.2.2.2.2.2.1 _ _ hz) (by omega) hz (by omega) 0
theorem RA_keep {Z Z2 : jdL} {I I2 : jdI} (h : RA Z I) (n : NA Z I Z2 I2) : RA Z2 I2 := fun i hi w hw => by
  obtain ⟨a1, a2, a3⟩ := n i hi
  rw [a1] at hw
  have g := h i hi w hw
  exact ⟨g.1, by rw [a2, a3 w hw g.1]; exact g.2⟩
/-- what a method of X does to the coachman of the shelf x1 where ok holds -/
def XA (ok : Prop) (x1 : Int32) (v : Option Int32) (Z : jdL) (I : jdI) (Z2 : jdL) (I2 : jdI) : Prop := ∀ i, i < 8 → (¬ (ok ∧ i = Int32.toNatClampNeg x1) → Z2.2.1 (29 + 2 * i) 3 = Z.2.1 (29 + 2 * i) 3 ∧ ∀ w, Z.2.1 (29 + 2 * i) 3 = some w → 82 < w → I2 w 0 = I w 0) ∧ (ok → i = Int32.toNatClampNeg x1 → ∀ w, Z2.2.1 (29 + 2 * i) 3 = some w → 82 < w ∧ some (I2 w 0) = v)
theorem XA_no {ok : Prop} {x1 : Int32} {v : Option Int32} {Z : jdL} {I I2 : jdI} {p : Nat → Nat → Prop} (hF : Fr p I I2) (hp : ∀ a k, p a k → a = 28) (h : ¬ ok) : XA ok x1 v Z I Z I2 := fun i hi => ⟨fun _ => ⟨rfl, fun w hw hl => hF _ _ (fun q => by have := hp _ _ q; omega)⟩, fun q => absurd q h⟩
theorem RA_row {Z Z1 : jdL} {I I1 I2 : jdI} {x1 : Int32} {ok : Prop} (h : RA Z I) (hI : ∀ i, i < 8 → I1 (45 + 15) i = I (45 + 15) i) (hx : XA ok x1 none Z I Z1 I1) (hF : Fr (fun a k => ((a = 45 + 1 ∨ a = 45 + 2 ∨ a = 45 + 3) ∧ k = (Int32.toNatClampNeg x1)) ∨ a = 45 + 17) I1 I2) : RA Z1 I2 := fun i hi w hw => by
  obtain ⟨c1, c2⟩ := hx i hi
  by_cases c : ok ∧ i = Int32.toNatClampNeg x1
  · have := (c2 c.1 c.2 w hw).2
    cases this
  · obtain ⟨d1, d2⟩ := c1 c
    rw [d1] at hw
    have g := h i hi w hw
    have gl := g.1
    exact ⟨g.1, by rw [hF w 0 (by omega), hF (45 + 15) i (by omega), hI i hi, d2 w hw g.1]; exact g.2⟩
theorem RA_man {Z Z1 : jdL} {I I1 I2 : jdI} {x1 x3 : Int32} {ok : Prop} (h : RA Z I) (hI : ∀ i, i < 8 → I1 (45 + 15) i = I (45 + 15) i) (hx : XA ok x1 (some x3) Z I Z1 I1) (hF : Fr (fun a k => ((a = 45 + 1 ∨ a = 45 + 14 ∨ a = 45 + 15) ∧ k = (Int32.toNatClampNeg x1)) ∨ a = 45 + 17) I1 I2) (hp : (ok → I2 (45 + 15) (Int32.toNatClampNeg x1) = x3) ∧ (¬ ok → I2 (45 + 15) (Int32.toNatClampNeg x1) = I1 (45 + 15) (Int32.toNatClampNeg x1))) : RA Z1 I2 := fun i hi w hw => by
  obtain ⟨c1, c2⟩ := hx i hi
  by_cases c : ok ∧ i = Int32.toNatClampNeg x1
  · have g := c2 c.1 c.2 w hw
    have gl := g.1
    have e : I1 w 0 = x3 := by
      have := g.2
      injection this
    exact ⟨g.1, by rw [hF w 0 (by omega), e, c.2, hp.1 c.1]⟩
  · obtain ⟨d1, d2⟩ := c1 c
    rw [d1] at hw
    have g := h i hi w hw
    have gl := g.1
    have e : I2 (45 + 15) i = I1 (45 + 15) i := by
      by_cases d : i = Int32.toNatClampNeg x1
      · rw [d]
        exact hp.2 (fun q => c ⟨q, d⟩)
      · exact hF _ _ (by omega)
    exact ⟨g.1, by rw [hF w 0 (by omega), e, hI i hi, d2 w hw g.1]; exact g.2⟩
theorem mk_0 {Z : jdL} {i : Nat} (h : mk Z i = 0) : Z.2.1 (29 + 2 * i) 3 = none := by
  cases e : Z.2.1 (29 + 2 * i) 3 with
  | none => rfl
  | some w =>
    rw [mk_some e] at h
    have := ckI_r (Z.1 w)
    omega
theorem mk_1 {Z : jdL} {i : Nat} (h : 1 ≤ mk Z i) : ∃ w, Z.2.1 (29 + 2 * i) 3 = some w := by
  cases e : Z.2.1 (29 + 2 * i) 3 with
  | none =>
    rw [mk_none e] at h
    omega
  | some w => exact ⟨w, rfl⟩
/-- a coachman's shelf is the same on both sides -/
theorem MAN_eq {Z : jdL} {I I1 : jdI} {x : Int32} (hrs : RS Z I) (hra : RA Z I) (e1 : ∀ k, I1 (45 + 1) k = I (45 + 1) k) (e14 : ∀ k, I1 (45 + 14) k = I (45 + 14) k) (e15 : ∀ k, I1 (45 + 15) k = I (45 + 15) k) : cM I1 45 x = cX Z I x ∧ (cX Z I x = 0 → (I1 (45 + 14) (Int32.toNatClampNeg x)).toInt = mk Z (Int32.toNatClampNeg x) ∧ I1 (45 + 15) (Int32.toNatClampNeg x) = aX Z I x) := by
  have n1 := tn_eq x
  unfold cM cX
  by_cases c : 0 ≤ x.toInt ∧ x.toInt < 8
  · rw [if_pos c, if_pos c, e1, e14, e15]
    have s := hrs (Int32.toNatClampNeg x) (by omega)
    unfold SRI at s
    rcases s with s | s | s
    · rw [mk_0 s.2.2, if_neg (by omega), if_pos s.1, if_pos rfl, if_pos s.2.1]
      exact ⟨rfl, fun z => by omega⟩
    · rw [mk_0 s.2.2.2.2.2, if_pos s.1, if_pos rfl, if_neg (by omega)]
      exact ⟨rfl, fun z => by omega⟩
    · obtain ⟨w, hw⟩ := mk_1 (Z := Z) (i := (Int32.toNatClampNeg x)) (by omega)
      rw [if_neg (by omega), if_neg (by omega), if_neg (by rw [hw]; exact fun z => (by cases z)), aX_some hw]
      exact ⟨rfl, fun _ => ⟨s.2.2.1.symm, ((hra _ (by omega) w hw).2).symm⟩⟩
  · rw [if_neg c, if_neg c]
    exact ⟨rfl, fun z => by omega⟩
theorem TOLD_eq {Z : jdL} {I I1 : jdI} {J : jdJ} {x1 x2 : Int32} (hrs : RS Z I) (hrj : RJ I J) (e1 : ∀ k, I1 (45 + 1) k = I (45 + 1) k) (e3 : ∀ k, I1 (45 + 3) k = I (45 + 3) k) : tM I1 45 x1 x2 = tX Z I x1 x2 ∧ (tX Z I x1 x2 = 0 → ∀ j, j < 40 → J (45 + 5 + (Int32.toNatClampNeg x1)) j = J (29 + 2 * (Int32.toNatClampNeg x1) + 1) j) := by
  have n1 := tn_eq x1
  unfold tM tX
  by_cases c : (0 ≤ x1.toInt ∧ x1.toInt < 8) ∧ 0 ≤ x2.toInt ∧ x2.toInt ≤ 7
  · rw [if_pos c, if_pos c, e1, e3]
    have s := hrs (Int32.toNatClampNeg x1) (by omega)
    unfold SRI at s
    rcases s with s | s | s
    · rw [if_neg (by omega), if_pos s.1, if_pos s.2.1, if_pos s.2.2]
      exact ⟨rfl, fun z => by omega⟩
    · rw [if_neg (show ¬ (I (45 + 1) (Int32.toNatClampNeg x1)).toInt = 2 by omega), if_neg (show ¬ (I (45 + 1) (Int32.toNatClampNeg x1)).toInt = 0 by omega), if_neg (show ¬ (I (29 + 2 * (Int32.toNatClampNeg x1)) 1).toInt = -1 by omega), s.2.2.2.2.1]
      exact ⟨rfl, fun _ j hj => (hrj _ (by omega) s.1 j hj).symm⟩
    · rw [if_pos s.1, if_pos s.2.1, if_neg (by omega)]
      exact ⟨rfl, fun z => by omega⟩
  · rw [if_neg c, if_neg c]
    exact ⟨rfl, fun z => by omega⟩
theorem oDay_c {s : Sd} {c kd kd2 : Int} {a a2 : Int32} (h : c = 0 → kd = kd2 ∧ a = a2) : oDay s c kd a = oDay s c kd2 a2 := by
  unfold oDay
  by_cases d : c = 0
  · rw [if_pos d, if_pos d, (h d).1, (h d).2]
  · rw [if_neg d, if_neg d]
theorem oRides_c {s : Sd} {c : Int} {r r2 : Nat → Int64} {m : Nat} (h : c = 0 → ∀ j, j < m → r j = r2 j) : oRides s c r m = oRides s c r2 m := by
  unfold oRides
  by_cases d : c = 0
  · rw [if_pos d, if_pos d, wrg_c m 0 0 (fun j _ hj => h d j (by omega)), rowL_c m 0 (fun j _ hj => h d j (by omega))]
  · rw [if_neg d, if_neg d]
theorem lX6_takeRow_17 {G : jdG} {n rc rs : Nat} {Z : jdL} {I : jdI} {J0 : jdJ} {Q : jdQ} {t : Nat} {x1 x2 : Int32} (ht : zShelf Z t) (hQ : ∀ J2, (∀ q : Nat, q < 40 → J2 (t + 1) q = 0) → (∀ a, a ≠ t + 1 → J2 a = J0 a) → Q none Z I J2) : ∀ m : Nat, ∀ (J : jdJ) (x3 : Int32), 0 ≤ x3.toInt ∧ x3.toInt ≤ 40 → (∀ q : Nat, (q : Int) < x3.toInt → J (t + 1) q = 0) → (∀ a, a ≠ t + 1 → J a = J0 a) → 40 - x3.toInt < (m : Int) → Jd G mX6_takeRow (jdFm G Q) n rc rs 17 [(0, .ref (gb G + t)), (1, .int x1), (2, .int x2), (3, .int x3)] [] Z I J := by
  intro m
  induction m with
  | zero =>
    intro J x3 h1 j1 j2 h2
    omega
  | succ m ih =>
    intro J x3 h1 j1 j2 h2
    have q40 : (40 : Int32).toInt = 40 := rfl
    have q1 : (1 : Int32).toInt = 1 := rfl
    have e1 := i32_add x3 1 (by omega) (by omega)
    have hn := tn_eq x3
    refine rX6_takeRow_17 ht ⟨fun hc => ?_, fun hc => ?_⟩
    · have hc := Int32.le_iff_toInt_le.mp hc
      exact hQ J (fun q hq => j1 q (by omega)) j2
    · have hc := mt Int32.le_iff_toInt_le.mpr hc
      refine ⟨vp_of (by omega) (by omega), ih _ (x3 + 1) (by omega) (fun q hq => ?_) (fun a ha => (uJ_n _ _ _ ha).trans (j2 a ha)) (by omega)⟩
      rw [uJ_ap]
      split
      · rfl
      · rename_i hne
        exact j1 q (by have : ¬ q = Int32.toNatClampNeg x3 := fun e => hne ⟨rfl, e⟩; omega)
theorem qX6_takeRow {G : jdG} {n : Nat} {Z : jdL} {I : jdI} {J : jdJ} {Q : jdQ} {t : Nat} {x1 x2 : Int32} (ht : zShelf Z t) (hQ : ∀ J2, (∀ q : Nat, q < 40 → J2 (t + 1) q = 0) → (∀ a, a ≠ t + 1 → J2 a = J a) → Q none (uP Z t 3 none) (uI (uI I t 1 x1) t 2 x2) J2) : Cl G mX6_takeRow n 0 0 [.ref (gb G + t), .int x1, .int x2] Z I J Q := by
  have hz : zShelf (uP Z t 3 none) t := ⟨ht.1, by rw [uP_ap, if_neg (by omega)]; exact ht.2.1, ht.2.2⟩
  exact eX6_takeRow ht ⟨hz, lX6_takeRow_17 hz hQ 41 J 0 (by decide) (fun q hq => by have z : (0 : Int32).toInt = 0 := rfl; exfalso; omega) (fun _ _ => rfl) (by decide)⟩
theorem qX6_takeMan {G : jdG} {n : Nat} {Z : jdL} {I : jdI} {J : jdJ} {Q : jdQ} {t u1 : Nat} (ht : zShelf Z t) (hQ : Q none (uP Z t 3 (some u1)) (uI (uI I t 1 (-1)) t 2 0) J) : Cl G mX6_takeMan n 0 0 [.ref (gb G + t), .ref (gb G + u1)] Z I J Q :=
  eX6_takeMan ht ⟨⟨ht.1, by rw [uP_ap, if_neg (by omega)]; exact ht.2.1, ht.2.2⟩, hQ⟩
theorem pX12_coachman {G : jdG} {n : Nat} {Z : jdL} {J : jdJ} {K : Int32 → jdI → jdJ → Prop} {I : jdI} {t : Nat} {x1 x2 x3 : Int32} (ht : zModel Z t) (hW : WM 7 t I) (hK : ∀ (v : Int32) (I2 : jdI), WM 7 t I2 → Fr (fun a k => ((a = t + 1 ∨ a = t + 14 ∨ a = t + 15) ∧ k = (Int32.toNatClampNeg x1)) ∨ a = t + 17) I I2 → ((v.toInt = 1 ∧ ((0 ≤ x1.toInt ∧ x1.toInt ≤ 7) ∧ (1 ≤ x2.toInt ∧ x2.toInt ≤ 5) ∧ 0 ≤ x3.toInt ∧ x3.toInt ≤ 9) ∧ (I2 (t + 1) (Int32.toNatClampNeg x1)).toInt = 2 ∧ (I2 (t + 14) (Int32.toNatClampNeg x1)).toInt = x2.toInt) ∨ (v.toInt = -2 ∧ ¬ ((0 ≤ x1.toInt ∧ x1.toInt ≤ 7) ∧ (1 ≤ x2.toInt ∧ x2.toInt ≤ 5) ∧ 0 ≤ x3.toInt ∧ x3.toInt ≤ 9) ∧ (I2 (t + 1) (Int32.toNatClampNeg x1)).toInt = (I (t + 1) (Int32.toNatClampNeg x1)).toInt ∧ (I2 (t + 14) (Int32.toNatClampNeg x1)).toInt = (I (t + 14) (Int32.toNatClampNeg x1)).toInt)) → ((((0 ≤ x1.toInt ∧ x1.toInt ≤ 7) ∧ (1 ≤ x2.toInt ∧ x2.toInt ≤ 5) ∧ 0 ≤ x3.toInt ∧ x3.toInt ≤ 9)) → I2 (t + 15) (Int32.toNatClampNeg x1) = x3) ∧ (¬ (((0 ≤ x1.toInt ∧ x1.toInt ≤ 7) ∧ (1 ≤ x2.toInt ∧ x2.toInt ≤ 5) ∧ 0 ≤ x3.toInt ∧ x3.toInt ≤ 9)) → I2 (t + 15) (Int32.toNatClampNeg x1) = I (t + 15) (Int32.toNatClampNeg x1)) → K v I2 J) : Cl G mX12_coachman (n + 1) 0 0 [.ref (gb G + t), .int x1, .int x2, .int x3] Z I J (qi Z K) := by
  have e1 : (Int32.toInt64 x1).toInt = x1.toInt := Int32.toInt_toInt64 _
  have e2 : (Int32.toInt64 x2).toInt = x2.toInt := Int32.toInt_toInt64 _
  have e3 : (Int32.toInt64 x3).toInt = x3.toInt := Int32.toInt_toInt64 _
  have z0 : (0 : Int64).toInt = 0 := rfl
  have z1 : (1 : Int64).toInt = 1 := rfl
  have z5 : (5 : Int64).toInt = 5 := rfl
  have z7 : (7 : Int64).toInt = 7 := rfl
  have z9 : (9 : Int64).toInt = 9 := rfl
  have q2 : (2 : Int32).toInt = 2 := rfl
  have hw := WM_f hW
  have no : ¬ (((0 ≤ x1.toInt ∧ x1.toInt ≤ 7) ∧ (1 ≤ x2.toInt ∧ x2.toInt ≤ 5) ∧ 0 ≤ x3.toInt ∧ x3.toInt ≤ 9)) → Cl G mX12_refuse n 0 0 [.ref (gb G + t), .int (-2)] Z I J (qi Z K) := fun hn => sfX12_refuse ht (by decide) hW (by decide) (fun v I3 hW3 hF3 hp3 => hK v I3 hW3 (Fr.tr Fr.rf hF3 (by intro a k h; omega)) (Or.inr ⟨hp3, hn, by rw [hF3 (t + 1) _ (by omega)], by rw [hF3 (t + 14) _ (by omega)]⟩) ⟨fun q => absurd q hn, fun _ => hF3 (t + 15) _ (by omega)⟩)
  refine eX12_coachman ht ?_
  refine sfX12_in trivial (fun v2 p2 => ⟨fun c2 => ?_, fun c2 => ?_⟩)
  · have c2 := i0 c2
    exact no (by omega)
  · have c2 := i1 c2
    refine sfX12_in trivial (fun v6 p6 => ⟨fun c6 => ?_, fun c6 => ?_⟩)
    · have c6 := i0 c6
      exact no (by omega)
    · have c6 := i1 c6
      refine sfX12_in trivial (fun v10 p10 => ⟨fun c10 => ?_, fun c10 => ?_⟩)
      · have c10 := i1 c10
        refine ⟨vp_of (by omega) (by omega), vp_of (by omega) (by omega), vp_of (by omega) (by omega), ?_⟩
        have w1 : WM 7 t (uI I (t + 1) (Int32.toNatClampNeg x1) 2) := WM_uI hW (by first | exact okMo (by decide) (by decide) (by decide) (by decide) (by decide) | exact okMf (by decide) (by decide) (by decide) (by decide) (by decide) (by decide) (by decide) (by decide) | exact okM30 (by omega) | exact okM42 (by omega) | exact okM33 (by omega) | exact okM10 (by omega) | exact okM8 (by omega) | exact okM22 (by omega) | exact okM24 (by omega) | exact okM14 (by omega) | exact okMa31 (by omega) | exact okMa35 (by omega) | exact okMa36 (by omega) | exact okMa3 (by omega) | exact okMr (by omega) | (unfold okM; refine ⟨?_, ?_, ?_, ?_, ?_, ?_, ?_, ?_, ?_, ?_, ?_, ?_⟩ <;> intro h <;> omega))
        have w2 : WM 7 t (uI (uI I (t + 1) (Int32.toNatClampNeg x1) 2) (t + 14) (Int32.toNatClampNeg x1) x2) := WM_uI w1 (by first | exact okMo (by decide) (by decide) (by decide) (by decide) (by decide) | exact okMf (by decide) (by decide) (by decide) (by decide) (by decide) (by decide) (by decide) (by decide) | exact okM30 (by omega) | exact okM42 (by omega) | exact okM33 (by omega) | exact okM10 (by omega) | exact okM8 (by omega) | exact okM22 (by omega) | exact okM24 (by omega) | exact okM14 (by omega) | exact okMa31 (by omega) | exact okMa35 (by omega) | exact okMa36 (by omega) | exact okMa3 (by omega) | exact okMr (by omega) | (unfold okM; refine ⟨?_, ?_, ?_, ?_, ?_, ?_, ?_, ?_, ?_, ?_, ?_, ?_⟩ <;> intro h <;> omega))
        refine hK 1 _ (WM_uI w2 (by first | exact okMo (by decide) (by decide) (by decide) (by decide) (by decide) | exact okMf (by decide) (by decide) (by decide) (by decide) (by decide) (by decide) (by decide) (by decide) | exact okM30 (by omega) | exact okM42 (by omega) | exact okM33 (by omega) | exact okM10 (by omega) | exact okM8 (by omega) | exact okM22 (by omega) | exact okM24 (by omega) | exact okM14 (by omega) | exact okMa31 (by omega) | exact okMa35 (by omega) | exact okMa36 (by omega) | exact okMa3 (by omega) | exact okMr (by omega) | (unfold okM; refine ⟨?_, ?_, ?_, ?_, ?_, ?_, ?_, ?_, ?_, ?_, ?_, ?_⟩ <;> intro h <;> omega))) (Fr_uI (Fr_uI (Fr_uI Fr.rf (by omega)) (by omega)) (by omega)) (Or.inl ⟨rfl, by omega, ?_, ?_⟩) ⟨fun _ => by rw [uI_ap, if_pos ⟨rfl, rfl⟩], fun q => absurd (by omega) q⟩
        · rw [uI_ap, if_neg (by omega), uI_ap, if_neg (by omega), uI_ap, if_pos ⟨rfl, rfl⟩]
          rfl
        · rw [uI_ap, if_neg (by omega), uI_ap, if_pos ⟨rfl, rfl⟩]
      · have c10 := i0 c10
        exact no (by omega)
theorem qX11_newCoachman {G : jdG} {n : Nat} {Z : jdL} {I : jdI} {J : jdJ} {Q : jdQ} {x0 x1 : Int32} (h : IV Z I) (hQ : ∀ (w : Nat) (Z2 : jdL) (I2 : jdI), IV Z2 I2 → zMan Z2 w → NX Z I Z2 I2 → ((∀ a k, a < Z.2.2 → I2 a k = I a k) ∧ (∀ i, i < 8 → mk Z2 i = mk Z i) ∧ (1 ≤ x0.toInt → x0.toInt ≤ 5 → ckI (Z2.1 w) = x0.toInt) ∧ 82 < w ∧ I2 w 0 = x1 ∧ ∀ i, i < 8 → Z2.2.1 (29 + 2 * i) 3 = Z.2.1 (29 + 2 * i) 3) → Q (some (.ref (gb G + w))) Z2 I2 J) : Cl G mX11_newCoachman (n + 4) 1 1 [.int x0, .int x1] Z I J Q := by
  have hb := h.2.2.2.2.2.1
  refine eX11_newCoachman ⟨fun hc => ?_, fun hc => ?_, fun hc => ?_, fun hc => ?_, fun hc => ?_⟩
  · refine ⟨0, 0, Nat.le_refl _, Nat.le_refl _, 0, 0, 0, 0, Nat.le_refl _, Nat.le_refl _, ?_⟩
    refine v_X0_init_0 (by rw [nZ_ap, if_pos rfl]) ⟨rfl, hQ _ _ _ (IV_nZ (IV_hi h (p := fun a _ => a = Z.2.2) (Fr_uI (Fr_zI Fr.rf (fun _ => rfl)) rfl) (by intro a k h; omega))) ⟨0, by decide, by rw [nZ_ap, if_pos rfl]⟩ (NX.tr (NX_fr (p := fun a _ => a = Z.2.2) (Fr_uI (Fr_zI Fr.rf (fun _ => rfl)) rfl) (by omega) (by omega) (by omega)) (NX_nZ (IV_hi h (p := fun a _ => a = Z.2.2) (Fr_uI (Fr_zI Fr.rf (fun _ => rfl)) rfl) (by intro a k h; omega)))) ⟨fun a k ha => by rw [uI_ap, if_neg (by omega), zI_ap, if_neg (by omega)], fun i hi => mk_nZ h hi, fun q1 q2 => by rw [nZ_ap, if_pos rfl]; show (5 : Int) = _; omega, by omega, by rw [uI_ap, if_pos ⟨rfl, rfl⟩], fun i hi => by rw [nZ_ap2, if_neg (by omega)]⟩⟩
  · refine ⟨0, 0, Nat.le_refl _, Nat.le_refl _, 0, 0, 0, 0, Nat.le_refl _, Nat.le_refl _, ?_⟩
    refine v_X4_init_3 (by rw [nZ_ap, if_pos rfl]) ⟨rfl, hQ _ _ _ (IV_nZ (IV_hi h (p := fun a _ => a = Z.2.2) (Fr_uI (Fr_zI Fr.rf (fun _ => rfl)) rfl) (by intro a k h; omega))) ⟨3, by decide, by rw [nZ_ap, if_pos rfl]⟩ (NX.tr (NX_fr (p := fun a _ => a = Z.2.2) (Fr_uI (Fr_zI Fr.rf (fun _ => rfl)) rfl) (by omega) (by omega) (by omega)) (NX_nZ (IV_hi h (p := fun a _ => a = Z.2.2) (Fr_uI (Fr_zI Fr.rf (fun _ => rfl)) rfl) (by intro a k h; omega)))) ⟨fun a k ha => by rw [uI_ap, if_neg (by omega), zI_ap, if_neg (by omega)], fun i hi => mk_nZ h hi, fun q1 q2 => by rw [nZ_ap, if_pos rfl]; show (1 : Int) = _; omega, by omega, by rw [uI_ap, if_pos ⟨rfl, rfl⟩], fun i hi => by rw [nZ_ap2, if_neg (by omega)]⟩⟩
  · refine ⟨0, 0, Nat.le_refl _, Nat.le_refl _, 0, 0, 0, 0, Nat.le_refl _, Nat.le_refl _, ?_⟩
    refine v_X1_init_1 (by rw [nZ_ap, if_pos rfl]) ⟨rfl, hQ _ _ _ (IV_nZ (IV_hi h (p := fun a _ => a = Z.2.2) (Fr_uI (Fr_zI Fr.rf (fun _ => rfl)) rfl) (by intro a k h; omega))) ⟨1, by decide, by rw [nZ_ap, if_pos rfl]⟩ (NX.tr (NX_fr (p := fun a _ => a = Z.2.2) (Fr_uI (Fr_zI Fr.rf (fun _ => rfl)) rfl) (by omega) (by omega) (by omega)) (NX_nZ (IV_hi h (p := fun a _ => a = Z.2.2) (Fr_uI (Fr_zI Fr.rf (fun _ => rfl)) rfl) (by intro a k h; omega)))) ⟨fun a k ha => by rw [uI_ap, if_neg (by omega), zI_ap, if_neg (by omega)], fun i hi => mk_nZ h hi, fun q1 q2 => by rw [nZ_ap, if_pos rfl]; show (2 : Int) = _; omega, by omega, by rw [uI_ap, if_pos ⟨rfl, rfl⟩], fun i hi => by rw [nZ_ap2, if_neg (by omega)]⟩⟩
  · refine ⟨0, 0, Nat.le_refl _, Nat.le_refl _, 0, 0, 0, 0, Nat.le_refl _, Nat.le_refl _, ?_⟩
    refine v_X10_init_9 (by rw [nZ_ap, if_pos rfl]) ⟨rfl, hQ _ _ _ (IV_nZ (IV_hi h (p := fun a _ => a = Z.2.2) (Fr_uI (Fr_zI Fr.rf (fun _ => rfl)) rfl) (by intro a k h; omega))) ⟨9, by decide, by rw [nZ_ap, if_pos rfl]⟩ (NX.tr (NX_fr (p := fun a _ => a = Z.2.2) (Fr_uI (Fr_zI Fr.rf (fun _ => rfl)) rfl) (by omega) (by omega) (by omega)) (NX_nZ (IV_hi h (p := fun a _ => a = Z.2.2) (Fr_uI (Fr_zI Fr.rf (fun _ => rfl)) rfl) (by intro a k h; omega)))) ⟨fun a k ha => by rw [uI_ap, if_neg (by omega), zI_ap, if_neg (by omega)], fun i hi => mk_nZ h hi, fun q1 q2 => by rw [nZ_ap, if_pos rfl]; show (3 : Int) = _; omega, by omega, by rw [uI_ap, if_pos ⟨rfl, rfl⟩], fun i hi => by rw [nZ_ap2, if_neg (by omega)]⟩⟩
  · refine ⟨0, 0, Nat.le_refl _, Nat.le_refl _, 0, 0, 0, 0, Nat.le_refl _, Nat.le_refl _, ?_⟩
    refine v_X7_init_6 (by rw [nZ_ap, if_pos rfl]) ⟨rfl, hQ _ _ _ (IV_nZ (IV_hi h (p := fun a _ => a = Z.2.2) (Fr_uI (Fr_zI Fr.rf (fun _ => rfl)) rfl) (by intro a k h; omega))) ⟨6, by decide, by rw [nZ_ap, if_pos rfl]⟩ (NX.tr (NX_fr (p := fun a _ => a = Z.2.2) (Fr_uI (Fr_zI Fr.rf (fun _ => rfl)) rfl) (by omega) (by omega) (by omega)) (NX_nZ (IV_hi h (p := fun a _ => a = Z.2.2) (Fr_uI (Fr_zI Fr.rf (fun _ => rfl)) rfl) (by intro a k h; omega)))) ⟨fun a k ha => by rw [uI_ap, if_neg (by omega), zI_ap, if_neg (by omega)], fun i hi => mk_nZ h hi, fun q1 q2 => by rw [nZ_ap, if_pos rfl]; show (4 : Int) = _; omega, by omega, by rw [uI_ap, if_pos ⟨rfl, rfl⟩], fun i hi => by rw [nZ_ap2, if_neg (by omega)]⟩⟩
theorem qX11_row {G : jdG} {n : Nat} {Z : jdL} {I : jdI} {J : jdJ} {Q : jdQ} {x1 x2 x3 : Int32} (h : IV Z I) (hQ : ∀ (v : Int32) (Z2 : jdL) (I2 : jdI) (J2 : jdJ), IV Z2 I2 → ((v.toInt = 1 ∧ ((0 ≤ x1.toInt ∧ x1.toInt ≤ 7) ∧ (0 ≤ x2.toInt ∧ x2.toInt ≤ 4) ∧ 0 ≤ x3.toInt ∧ x3.toInt ≤ 40)) ∨ (v.toInt = -2 ∧ ¬ ((0 ≤ x1.toInt ∧ x1.toInt ≤ 7) ∧ (0 ≤ x2.toInt ∧ x2.toInt ≤ 4) ∧ 0 ≤ x3.toInt ∧ x3.toInt ≤ 40))) → NX Z I Z2 I2 → XS (((0 ≤ x1.toInt ∧ x1.toInt ≤ 7) ∧ (0 ≤ x2.toInt ∧ x2.toInt ≤ 4) ∧ 0 ≤ x3.toInt ∧ x3.toInt ≤ 40)) x1 x2.toInt x3.toInt 0 Z I Z2 I2 → XA (((0 ≤ x1.toInt ∧ x1.toInt ≤ 7) ∧ (0 ≤ x2.toInt ∧ x2.toInt ≤ 4) ∧ 0 ≤ x3.toInt ∧ x3.toInt ≤ 40)) x1 none Z I Z2 I2 → (((((0 ≤ x1.toInt ∧ x1.toInt ≤ 7) ∧ (0 ≤ x2.toInt ∧ x2.toInt ≤ 4) ∧ 0 ≤ x3.toInt ∧ x3.toInt ≤ 40)) → (∀ q : Nat, q < 40 → J2 (29 + 2 * (Int32.toNatClampNeg x1) + 1) q = 0) ∧ ∀ a, a ≠ 29 + 2 * (Int32.toNatClampNeg x1) + 1 → J2 a = J a) ∧ (¬ (((0 ≤ x1.toInt ∧ x1.toInt ≤ 7) ∧ (0 ≤ x2.toInt ∧ x2.toInt ≤ 4) ∧ 0 ≤ x3.toInt ∧ x3.toInt ≤ 40)) → J2 = J)) → NT Z I Z2 I2 → Q (some (.int v)) Z2 I2 J2) : Cl G mX11_row (n + 1) 0 0 [.ref (gb G + 0), .int x1, .int x2, .int x3] Z I J Q := by
  have q0 : (0 : Int32).toInt = 0 := rfl
  have q1 : (1 : Int32).toInt = 1 := rfl
  have q2 : (-2 : Int32).toInt = -2 := rfl
  have q5 : (5 : Int32).toInt = 5 := rfl
  have q6 : (6 : Int32).toInt = 6 := rfl
  have q9 : (9 : Int32).toInt = 9 := rfl
  have q40 : (40 : Int32).toInt = 40 := rfl
  refine eX11_row h.1 ?_
  refine sfX11_isShelf h.2.2.1 (fun v2 hp => ⟨fun hc => ?_, fun hc => ?_⟩)
  · have hc := i0 hc
    refine sfX11_refuse h.1 h.2.2.1 (fun v4 I3 hW3 hF3 hp3 => ?_)
    exact hQ _ _ _ _ (IV_x h hW3 hF3 (by intro a k h; omega)) (by rw [hp3]; omega) (NX_fr hF3 (by omega) (by omega) (by omega)) (XS_no hF3 (fun a k q => q) (by omega)) (XA_no hF3 (fun a k q => q) (by omega)) ⟨fun q => absurd q (by omega), fun _ => rfl⟩ (NT_fr h hF3 (by intro a k h; omega))
  · have hc := i1 hc
    refine ⟨fun hc2 => ?_, fun hc2 => ⟨fun hc3 => ?_, fun hc3 => ⟨fun hc4 => ?_, fun hc4 => ⟨fun hc5 => ?_, fun hc5 => ?_⟩⟩⟩⟩
    · have hc2 := Int32.lt_iff_toInt_lt.mp hc2
      refine sfX11_refuse h.1 h.2.2.1 (fun v4 I3 hW3 hF3 hp3 => ?_)
      exact hQ _ _ _ _ (IV_x h hW3 hF3 (by intro a k h; omega)) (by rw [hp3]; omega) (NX_fr hF3 (by omega) (by omega) (by omega)) (XS_no hF3 (fun a k q => q) (by omega)) (XA_no hF3 (fun a k q => q) (by omega)) ⟨fun q => absurd q (by omega), fun _ => rfl⟩ (NT_fr h hF3 (by intro a k h; omega))
    · have hc3 := Int32.le_iff_toInt_le.mp hc3
      refine sfX11_refuse h.1 h.2.2.1 (fun v4 I3 hW3 hF3 hp3 => ?_)
      exact hQ _ _ _ _ (IV_x h hW3 hF3 (by intro a k h; omega)) (by rw [hp3]; omega) (NX_fr hF3 (by omega) (by omega) (by omega)) (XS_no hF3 (fun a k q => q) (by omega)) (XA_no hF3 (fun a k q => q) (by omega)) ⟨fun q => absurd q (by omega), fun _ => rfl⟩ (NT_fr h hF3 (by intro a k h; omega))
    · have hc4 := Int32.lt_iff_toInt_lt.mp hc4
      refine sfX11_refuse h.1 h.2.2.1 (fun v4 I3 hW3 hF3 hp3 => ?_)
      exact hQ _ _ _ _ (IV_x h hW3 hF3 (by intro a k h; omega)) (by rw [hp3]; omega) (NX_fr hF3 (by omega) (by omega) (by omega)) (XS_no hF3 (fun a k q => q) (by omega)) (XA_no hF3 (fun a k q => q) (by omega)) ⟨fun q => absurd q (by omega), fun _ => rfl⟩ (NT_fr h hF3 (by intro a k h; omega))
    · have hc2 := mt Int32.lt_iff_toInt_lt.mpr hc2
      have hc3 := mt Int32.le_iff_toInt_le.mpr hc3
      have hc4 := mt Int32.lt_iff_toInt_lt.mpr hc4
      have hc5 := Int32.le_iff_toInt_le.mp hc5
      refine ⟨vp_of (by omega) (by omega), ?_⟩
      refine ⟨0, 0, 0, 0, Nat.zero_le _, Nat.zero_le _, ?_⟩
      have hn := tn_eq x1
      have hz := zX_shelf h.1 (i := Int32.toNatClampNeg x1) (by omega)
      have w1 : WX (uI I (29 + 2 * (Int32.toNatClampNeg x1)) 1 x2) := WX_uI h.2.2.1 (by first | exact okXo (by decide) | (unfold okX; refine ⟨?_, ?_, ?_, ?_, ?_, ?_, ?_, ?_, ?_, ?_⟩ <;> intro h <;> omega))
      have w2 : WX (uI (uI I (29 + 2 * (Int32.toNatClampNeg x1)) 1 x2) (29 + 2 * (Int32.toNatClampNeg x1)) 2 x3) := WX_uI w1 (by first | exact okXo (by decide) | (unfold okX; refine ⟨?_, ?_, ?_, ?_, ?_, ?_, ?_, ?_, ?_, ?_⟩ <;> intro h <;> omega))
      refine qX6_takeRow hz (fun J2 hj1 hj2 => ?_)
      have h2 := IV_uP (IV_x h w2 (p := fun a _ => a < 45) (Fr_uI (Fr_uI Fr.rf (by omega)) (by omega)) (fun a k h => h)) (i := Int32.toNatClampNeg x1) (v := none) (by omega) (fun w e => by cases e)
      have hxs : XS (((0 ≤ x1.toInt ∧ x1.toInt ≤ 7) ∧ (0 ≤ x2.toInt ∧ x2.toInt ≤ 4) ∧ 0 ≤ x3.toInt ∧ x3.toInt ≤ 40)) x1 x2.toInt x3.toInt 0 Z I (uP Z (29 + 2 * (Int32.toNatClampNeg x1)) 3 none) (uI (uI I (29 + 2 * (Int32.toNatClampNeg x1)) 1 x2) (29 + 2 * (Int32.toNatClampNeg x1)) 2 x3) := by
        refine ⟨fun a k ha _ => by rw [uI_ap, if_neg (by omega), uI_ap, if_neg (by omega)], fun i hi => ⟨fun q => ?_, fun q1 q2 => ?_⟩⟩
        · have hne : i ≠ Int32.toNatClampNeg x1 := fun e => q ⟨by omega, e⟩
          exact ⟨by rw [uI_ap, if_neg (by omega), uI_ap, if_neg (by omega)], by rw [uI_ap, if_neg (by omega), uI_ap, if_neg (by omega)], mk_uP_ne hne⟩
        · rw [q2]
          exact ⟨by rw [uI_ap, if_neg (by omega), uI_ap, if_pos ⟨rfl, rfl⟩], by rw [uI_ap, if_pos ⟨rfl, rfl⟩], mk_uP_none⟩
      have hxa : XA (((0 ≤ x1.toInt ∧ x1.toInt ≤ 7) ∧ (0 ≤ x2.toInt ∧ x2.toInt ≤ 4) ∧ 0 ≤ x3.toInt ∧ x3.toInt ≤ 40)) x1 none Z I (uP Z (29 + 2 * (Int32.toNatClampNeg x1)) 3 none) (uI (uI I (29 + 2 * (Int32.toNatClampNeg x1)) 1 x2) (29 + 2 * (Int32.toNatClampNeg x1)) 2 x3) := fun i hi => by
        refine ⟨fun q => ?_, fun q1 q2 w hw => ?_⟩
        · have hne : i ≠ Int32.toNatClampNeg x1 := fun e => q ⟨by omega, e⟩
          exact ⟨by rw [uP_ap, if_neg (by omega)], fun w hw hl => by rw [uI_ap, if_neg (by omega), uI_ap, if_neg (by omega)]⟩
        · rw [q2, uP_ap, if_pos ⟨rfl, rfl⟩] at hw
          cases hw
      exact ⟨rfl, h2.1, hQ _ _ _ _ h2 (by omega) (NX.tr (NX_fr (p := fun a _ => 29 ≤ a ∧ a < 45) (Fr_uI (Fr_uI Fr.rf (by omega)) (by omega)) (by omega) (by omega) (by omega)) (NX_uP (by omega))) hxs hxa ⟨fun _ => ⟨hj1, hj2⟩, fun q => absurd (by omega) q⟩ (NT_all h (fun a k ha => by rw [uI_ap, if_neg (by omega), uI_ap, if_neg (by omega)]) (by rw [uP_ap, if_neg (by omega)]))⟩
    · have hc5 := mt Int32.le_iff_toInt_le.mpr hc5
      refine sfX11_refuse h.1 h.2.2.1 (fun v4 I3 hW3 hF3 hp3 => ?_)
      exact hQ _ _ _ _ (IV_x h hW3 hF3 (by intro a k h; omega)) (by rw [hp3]; omega) (NX_fr hF3 (by omega) (by omega) (by omega)) (XS_no hF3 (fun a k q => q) (by omega)) (XA_no hF3 (fun a k q => q) (by omega)) ⟨fun q => absurd q (by omega), fun _ => rfl⟩ (NT_fr h hF3 (by intro a k h; omega))
theorem qX11_coachman {G : jdG} {n : Nat} {Z : jdL} {I : jdI} {J : jdJ} {Q : jdQ} {x1 x2 x3 : Int32} (h : IV Z I) (hQ : ∀ (v : Int32) (Z2 : jdL) (I2 : jdI) (J2 : jdJ), IV Z2 I2 → ((v.toInt = 1 ∧ ((0 ≤ x1.toInt ∧ x1.toInt ≤ 7) ∧ (1 ≤ x2.toInt ∧ x2.toInt ≤ 5) ∧ 0 ≤ x3.toInt ∧ x3.toInt ≤ 9)) ∨ (v.toInt = -2 ∧ ¬ ((0 ≤ x1.toInt ∧ x1.toInt ≤ 7) ∧ (1 ≤ x2.toInt ∧ x2.toInt ≤ 5) ∧ 0 ≤ x3.toInt ∧ x3.toInt ≤ 9))) → NX Z I Z2 I2 → XS (((0 ≤ x1.toInt ∧ x1.toInt ≤ 7) ∧ (1 ≤ x2.toInt ∧ x2.toInt ≤ 5) ∧ 0 ≤ x3.toInt ∧ x3.toInt ≤ 9)) x1 (-1) 0 x2.toInt Z I Z2 I2 → XA (((0 ≤ x1.toInt ∧ x1.toInt ≤ 7) ∧ (1 ≤ x2.toInt ∧ x2.toInt ≤ 5) ∧ 0 ≤ x3.toInt ∧ x3.toInt ≤ 9)) x1 (some x3) Z I Z2 I2 → J2 = J → NT Z I Z2 I2 → Q (some (.int v)) Z2 I2 J2) : Cl G mX11_coachman (n + 5) 1 1 [.ref (gb G + 0), .int x1, .int x2, .int x3] Z I J Q := by
  have q0 : (0 : Int32).toInt = 0 := rfl
  have q1 : (1 : Int32).toInt = 1 := rfl
  have q2 : (-2 : Int32).toInt = -2 := rfl
  have q5 : (5 : Int32).toInt = 5 := rfl
  have q6 : (6 : Int32).toInt = 6 := rfl
  have q9 : (9 : Int32).toInt = 9 := rfl
  have q40 : (40 : Int32).toInt = 40 := rfl
  refine eX11_coachman h.1 ?_
  refine sfX11_isShelf h.2.2.1 (fun v2 hp => ⟨fun hc => ?_, fun hc => ?_⟩)
  · have hc := i0 hc
    refine sfX11_refuse h.1 h.2.2.1 (fun v4 I3 hW3 hF3 hp3 => ?_)
    exact hQ _ _ _ _ (IV_x h hW3 hF3 (by intro a k h; omega)) (by rw [hp3]; omega) (NX_fr hF3 (by omega) (by omega) (by omega)) (XS_no hF3 (fun a k q => q) (by omega)) (XA_no hF3 (fun a k q => q) (by omega)) rfl (NT_fr h hF3 (by intro a k h; omega))
  · have hc := i1 hc
    refine ⟨fun hc2 => ?_, fun hc2 => ⟨fun hc3 => ?_, fun hc3 => ⟨fun hc4 => ?_, fun hc4 => ⟨fun hc5 => ?_, fun hc5 => ?_⟩⟩⟩⟩
    · have hc2 := Int32.lt_iff_toInt_lt.mp hc2
      refine sfX11_refuse h.1 h.2.2.1 (fun v4 I3 hW3 hF3 hp3 => ?_)
      exact hQ _ _ _ _ (IV_x h hW3 hF3 (by intro a k h; omega)) (by rw [hp3]; omega) (NX_fr hF3 (by omega) (by omega) (by omega)) (XS_no hF3 (fun a k q => q) (by omega)) (XA_no hF3 (fun a k q => q) (by omega)) rfl (NT_fr h hF3 (by intro a k h; omega))
    · have hc3 := Int32.le_iff_toInt_le.mp hc3
      refine sfX11_refuse h.1 h.2.2.1 (fun v4 I3 hW3 hF3 hp3 => ?_)
      exact hQ _ _ _ _ (IV_x h hW3 hF3 (by intro a k h; omega)) (by rw [hp3]; omega) (NX_fr hF3 (by omega) (by omega) (by omega)) (XS_no hF3 (fun a k q => q) (by omega)) (XA_no hF3 (fun a k q => q) (by omega)) rfl (NT_fr h hF3 (by intro a k h; omega))
    · have hc4 := Int32.lt_iff_toInt_lt.mp hc4
      refine sfX11_refuse h.1 h.2.2.1 (fun v4 I3 hW3 hF3 hp3 => ?_)
      exact hQ _ _ _ _ (IV_x h hW3 hF3 (by intro a k h; omega)) (by rw [hp3]; omega) (NX_fr hF3 (by omega) (by omega) (by omega)) (XS_no hF3 (fun a k q => q) (by omega)) (XA_no hF3 (fun a k q => q) (by omega)) rfl (NT_fr h hF3 (by intro a k h; omega))
    · have hc2 := mt Int32.lt_iff_toInt_lt.mpr hc2
      have hc3 := mt Int32.le_iff_toInt_le.mpr hc3
      have hc4 := mt Int32.lt_iff_toInt_lt.mpr hc4
      have hc5 := Int32.le_iff_toInt_le.mp hc5
      refine ⟨vp_of (by omega) (by omega), ?_⟩
      refine ⟨1, 1, 0, 0, Nat.le_refl _, Nat.le_refl _, ?_⟩
      have hn := tn_eq x1
      refine qX11_newCoachman h (fun w Z2 I2 h2 hm hnx hnw => ⟨w, rfl, h2.1, 0, 0, 0, 0, Nat.le_refl _, Nat.le_refl _, ?_⟩)
      have hz := zX_shelf h2.1 (i := Int32.toNatClampNeg x1) (by omega)
      have w1 : WX (uI I2 (29 + 2 * (Int32.toNatClampNeg x1)) 1 (-1)) := WX_uI h2.2.2.1 (by first | exact okXo (by decide) | (unfold okX; refine ⟨?_, ?_, ?_, ?_, ?_, ?_, ?_, ?_, ?_, ?_⟩ <;> intro h <;> omega))
      have w2 : WX (uI (uI I2 (29 + 2 * (Int32.toNatClampNeg x1)) 1 (-1)) (29 + 2 * (Int32.toNatClampNeg x1)) 2 0) := WX_uI w1 (by first | exact okXo (by decide) | (unfold okX; refine ⟨?_, ?_, ?_, ?_, ?_, ?_, ?_, ?_, ?_, ?_⟩ <;> intro h <;> omega))
      refine qX6_takeMan hz ?_
      have h3 := IV_uP (IV_x h2 w2 (p := fun a _ => a < 45) (Fr_uI (Fr_uI Fr.rf (by omega)) (by omega)) (fun a k h => h)) (i := Int32.toNatClampNeg x1) (v := some w) (by omega) (fun w' e => by cases e; exact hm)
      have hb := h.2.2.2.2.2.1
      have hxs : XS (((0 ≤ x1.toInt ∧ x1.toInt ≤ 7) ∧ (1 ≤ x2.toInt ∧ x2.toInt ≤ 5) ∧ 0 ≤ x3.toInt ∧ x3.toInt ≤ 9)) x1 (-1) 0 x2.toInt Z I (uP Z2 (29 + 2 * (Int32.toNatClampNeg x1)) 3 (some w)) (uI (uI I2 (29 + 2 * (Int32.toNatClampNeg x1)) 1 (-1)) (29 + 2 * (Int32.toNatClampNeg x1)) 2 0) := by
        refine ⟨fun a k ha hz => by rw [uI_ap, if_neg (by omega), uI_ap, if_neg (by omega)]; exact hnw.1 a k hz, fun i hi => ⟨fun q => ?_, fun q1 q2 => ?_⟩⟩
        · have hne : i ≠ Int32.toNatClampNeg x1 := fun e => q ⟨by omega, e⟩
          exact ⟨by rw [uI_ap, if_neg (by omega), uI_ap, if_neg (by omega)]; exact hnw.1 _ _ (by omega), by rw [uI_ap, if_neg (by omega), uI_ap, if_neg (by omega)]; exact hnw.1 _ _ (by omega), (mk_uP_ne hne).trans (hnw.2.1 i hi)⟩
        · rw [q2]
          exact ⟨by rw [uI_ap, if_neg (by omega), uI_ap, if_pos ⟨rfl, rfl⟩]; rfl, by rw [uI_ap, if_pos ⟨rfl, rfl⟩]; rfl, mk_uP_some.trans (hnw.2.2.1 (by omega) (by omega))⟩
      have hxa : XA (((0 ≤ x1.toInt ∧ x1.toInt ≤ 7) ∧ (1 ≤ x2.toInt ∧ x2.toInt ≤ 5) ∧ 0 ≤ x3.toInt ∧ x3.toInt ≤ 9)) x1 (some x3) Z I (uP Z2 (29 + 2 * (Int32.toNatClampNeg x1)) 3 (some w)) (uI (uI I2 (29 + 2 * (Int32.toNatClampNeg x1)) 1 (-1)) (29 + 2 * (Int32.toNatClampNeg x1)) 2 0) := fun i hi => by
        have hwl := hnw.2.2.2.1
        refine ⟨fun q => ?_, fun q1 q2 v hv => ?_⟩
        · have hne : i ≠ Int32.toNatClampNeg x1 := fun e => q ⟨by omega, e⟩
          refine ⟨by rw [uP_ap, if_neg (by omega)]; exact hnw.2.2.2.2.2 i hi, fun v hv hl => ?_⟩
          obtain ⟨ci, hci, hz9⟩ := h.2.1 i hi v hv
          rw [uI_ap, if_neg (by omega), uI_ap, if_neg (by omega)]
          exact hnw.1 _ _ (h.2.2.2.2.2.2.1 _ _ hz9)
        · rw [q2, uP_ap, if_pos ⟨rfl, rfl⟩] at hv
          cases hv
          exact ⟨hnw.2.2.2.1, by rw [uI_ap, if_neg (by omega), uI_ap, if_neg (by omega), hnw.2.2.2.2.1]⟩
      exact ⟨rfl, h3.1, hQ _ _ _ _ h3 (by omega) (NX.tr hnx (NX.tr (NX_fr (p := fun a _ => 29 ≤ a ∧ a < 45) (Fr_uI (Fr_uI Fr.rf (by omega)) (by omega)) (by omega) (by omega) (by omega)) (NX_uP (by omega)))) hxs hxa rfl (NT_all h (fun a k ha => by rw [uI_ap, if_neg (by omega), uI_ap, if_neg (by omega)]; exact hnw.1 a k (by omega)) (by rw [uP_ap, if_neg (by omega)]; exact hnx.2.2.2))⟩
    · have hc5 := mt Int32.le_iff_toInt_le.mpr hc5
      refine sfX11_refuse h.1 h.2.2.1 (fun v4 I3 hW3 hF3 hp3 => ?_)
      exact hQ _ _ _ _ (IV_x h hW3 hF3 (by intro a k h; omega)) (by rw [hp3]; omega) (NX_fr hF3 (by omega) (by omega) (by omega)) (XS_no hF3 (fun a k q => q) (by omega)) (XA_no hF3 (fun a k q => q) (by omega)) rfl (NT_fr h hF3 (by intro a k h; omega))
