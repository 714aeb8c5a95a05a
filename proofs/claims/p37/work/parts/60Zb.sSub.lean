/-! subsets of a mask, one behind another; how many of them are good -/
def sumN (F : Nat → Int) : Nat → Int
  | 0 => 0
  | k + 1 => sumN F k + F k
theorem sumN_c {F F2 : Nat → Int} : ∀ k, (∀ n, n < k → F n = F2 n) → sumN F k = sumN F2 k
  | 0, _ => rfl
  | k + 1, h => by
    show sumN F k + F k = sumN F2 k + F2 k
    rw [sumN_c k (fun n hn => h n (by omega)), h k (by omega)]
theorem sumN_b {F : Nat → Int} (h : ∀ n, 0 ≤ F n ∧ F n ≤ 1) : ∀ k, 0 ≤ sumN F k ∧ sumN F k ≤ (k : Int)
  | 0 => ⟨Int.le_refl _, Int.le_refl _⟩
  | k + 1 => by
    have ih := sumN_b h k
    have hk := h k
    show 0 ≤ sumN F k + F k ∧ sumN F k + F k ≤ ((k + 1 : Nat) : Int)
    omega
theorem sumN_2 (F : Nat → Int) : ∀ k, sumN F (2 * k) = sumN (fun n => F (2 * n)) k + sumN (fun n => F (2 * n + 1)) k
  | 0 => rfl
  | k + 1 => by
    rw [show 2 * (k + 1) = 2 * k + 1 + 1 by omega]
    show sumN F (2 * k) + F (2 * k) + F (2 * k + 1) = (sumN (fun n => F (2 * n)) k + F (2 * k)) + (sumN (fun n => F (2 * n + 1)) k + F (2 * k + 1))
    rw [sumN_2 F k]
    omega
def secB : List Nat → Nat → Int32
  | [], _ => 0
  | b :: L, n => (if n % 2 = 1 then bitN b else 0) ||| secB L (n / 2)
def cnL (F : Int32 → Int) : List Nat → Int32 → Int
  | [], a => F a
  | b :: L, a => cnL F L a + cnL F L (a ||| bitN b)
theorem sum_cnL (F : Int32 → Int) : ∀ (L : List Nat) (a : Int32), sumN (fun n => F (a ||| secB L n)) (2 ^ L.length) = cnL F L a
  | [], a => by
    rw [show 2 ^ ([] : List Nat).length = 1 from rfl]
    show 0 + F (a ||| 0) = F a
    rw [Int.zero_add, Int32.or_zero]
  | b :: L, a => by
    have e1 : sumN (fun n => F (a ||| secB (b :: L) (2 * n))) (2 ^ L.length) = cnL F L a := by
      rw [← sum_cnL F L a]
      refine sumN_c _ (fun n _ => ?_)
      show F (a ||| ((if 2 * n % 2 = 1 then bitN b else 0) ||| secB L (2 * n / 2))) = F (a ||| secB L n)
      rw [if_neg (by omega), show 2 * n / 2 = n by omega, Int32.zero_or]
    have e2 : sumN (fun n => F (a ||| secB (b :: L) (2 * n + 1))) (2 ^ L.length) = cnL F L (a ||| bitN b) := by
      rw [← sum_cnL F L (a ||| bitN b)]
      refine sumN_c _ (fun n _ => ?_)
      show F (a ||| ((if (2 * n + 1) % 2 = 1 then bitN b else 0) ||| secB L ((2 * n + 1) / 2))) = F ((a ||| bitN b) ||| secB L n)
      rw [if_pos (by omega), show (2 * n + 1) / 2 = n by omega, Int32.or_assoc]
    have e3 : sumN (fun n => F (a ||| secB (b :: L) n)) (2 * 2 ^ L.length) = sumN (fun n => F (a ||| secB (b :: L) (2 * n))) (2 ^ L.length) + sumN (fun n => F (a ||| secB (b :: L) (2 * n + 1))) (2 ^ L.length) := sumN_2 (fun n => F (a ||| secB (b :: L) n)) (2 ^ L.length)
    rw [show 2 ^ (b :: L).length = 2 * 2 ^ L.length by rw [List.length_cons, Nat.pow_succ]; omega, e3, e1, e2]
    rfl
theorem sum_cn0 (F : Int32 → Int) (L : List Nat) : sumN (fun n => F (secB L n)) (2 ^ L.length) = cnL F L 0 := by
  rw [← sum_cnL F L 0]
  refine sumN_c _ (fun n _ => ?_)
  rw [Int32.zero_or]
theorem cnL_perm {F : Int32 → Int} {L M : List Nat} (h : L.Perm M) : ∀ a, cnL F L a = cnL F M a := by
  induction h with
  | nil => intro a; rfl
  | cons b _ ih =>
    intro a
    show cnL F _ a + cnL F _ (a ||| bitN b) = cnL F _ a + cnL F _ (a ||| bitN b)
    rw [ih, ih]
  | swap x y l =>
    intro a
    show (cnL F l a + cnL F l (a ||| bitN x)) + (cnL F l (a ||| bitN y) + cnL F l ((a ||| bitN y) ||| bitN x)) = (cnL F l a + cnL F l (a ||| bitN y)) + (cnL F l (a ||| bitN x) + cnL F l ((a ||| bitN x) ||| bitN y))
    rw [show (a ||| bitN y) ||| bitN x = (a ||| bitN x) ||| bitN y by rw [Int32.or_assoc, Int32.or_assoc, Int32.or_comm (bitN y)]]
    omega
  | trans _ _ i1 i2 =>
    intro a
    rw [i1, i2]
theorem cnL_nn {F : Int32 → Int} (h : ∀ s, 0 ≤ F s) : ∀ (L : List Nat) (a : Int32), 0 ≤ cnL F L a
  | [], a => h a
  | b :: L, a => by
    have i1 := cnL_nn h L a
    have i2 := cnL_nn h L (a ||| bitN b)
    show 0 ≤ cnL F L a + cnL F L (a ||| bitN b)
    omega
/-- the places of the bits of o, from i on -/
def pos : Nat → Nat → Nat → List Nat
  | 0, _, _ => []
  | w + 1, o, i => if o % 2 = 1 then i :: pos w (o / 2) (i + 1) else pos w (o / 2) (i + 1)
theorem pos_mem : ∀ (w o i j : Nat), j ∈ pos w o i ↔ (i ≤ j ∧ j < i + w) ∧ o.testBit (j - i) = true
  | 0, o, i, j => ⟨fun h => (by cases h), fun h => (by omega)⟩
  | w + 1, o, i, j => by
    have ih := pos_mem w (o / 2) (i + 1) j
    have es : i + 1 ≤ j → o.testBit (j - i) = (o / 2).testBit (j - (i + 1)) := fun h => by rw [show j - i = (j - (i + 1)) + 1 by omega, Nat.testBit_succ]
    by_cases c : o % 2 = 1
    · rw [show pos (w + 1) o i = i :: pos w (o / 2) (i + 1) from if_pos c, List.mem_cons, ih]
      by_cases e : j = i
      · refine ⟨fun _ => ⟨by omega, ?_⟩, fun _ => Or.inl e⟩
        rw [e, Nat.sub_self, Nat.testBit_zero]
        exact decide_eq_true c
      · constructor
        · intro h
          rcases h with h | h
          · exact absurd h e
          · exact ⟨by omega, by rw [es (by omega)]; exact h.2⟩
        · intro h
          exact Or.inr ⟨by omega, by rw [← es (by omega)]; exact h.2⟩
    · rw [show pos (w + 1) o i = pos w (o / 2) (i + 1) from if_neg c, ih]
      by_cases e : j = i
      · constructor
        · intro h
          omega
        · intro h
          exfalso
          have h2 := h.2
          rw [e, Nat.sub_self, Nat.testBit_zero] at h2
          exact c (of_decide_eq_true h2)
      · constructor
        · intro h
          exact ⟨by omega, by rw [es (by omega)]; exact h.2⟩
        · intro h
          exact ⟨by omega, by rw [← es (by omega)]; exact h.2⟩
theorem pos_nd : ∀ (w o i : Nat), (pos w o i).Nodup
  | 0, _, _ => List.Pairwise.nil
  | w + 1, o, i => by
    have ih := pos_nd w (o / 2) (i + 1)
    by_cases c : o % 2 = 1
    · rw [show pos (w + 1) o i = i :: pos w (o / 2) (i + 1) from if_pos c]
      exact List.nodup_cons.mpr ⟨fun h => by have := ((pos_mem w (o / 2) (i + 1) i).mp h).1.1; omega, ih⟩
    · rw [show pos (w + 1) o i = pos w (o / 2) (i + 1) from if_neg c]
      exact ih
/-- the bits of n laid on those of o -/
def pd : Nat → Nat → Nat → Nat
  | 0, _, _ => 0
  | w + 1, o, n => if o % 2 = 1 then 2 * pd w (o / 2) (n / 2) + n % 2 else 2 * pd w (o / 2) n
theorem land2 (x y a b : Nat) (ha : a < 2) (hb : b < 2) : (2 * x + a) &&& (2 * y + b) = 2 * (x &&& y) + (if a = 1 ∧ b = 1 then 1 else 0) := by
  have e1 : ((2 * x + a) &&& (2 * y + b)) / 2 = x &&& y := by rw [Nat.and_div_two, show (2 * x + a) / 2 = x by omega, show (2 * y + b) / 2 = y by omega]
  have e2 : ((2 * x + a) &&& (2 * y + b)) % 2 = 1 ↔ a = 1 ∧ b = 1 := by
    rw [Nat.and_mod_two_eq_one]
    omega
  generalize (2 * x + a) &&& (2 * y + b) = A at e1 e2 ⊢
  generalize x &&& y = B at e1 ⊢
  by_cases c : a = 1 ∧ b = 1
  · rw [if_pos c]
    have := e2.mpr c
    omega
  · rw [if_neg c]
    have : ¬ A % 2 = 1 := fun z => c (e2.mp z)
    omega
theorem pd_keep : ∀ (w o n : Nat), o < 2 ^ w → (pd w o n + (2 ^ w - 1 - o)) &&& o = pd w o n
  | 0, o, n, h => by
    have h0 : o = 0 := by
      have : (2 : Nat) ^ 0 = 1 := rfl
      omega
    rw [h0, Nat.and_zero]
    rfl
  | w + 1, o, n, h => by
    have h2 : (2 : Nat) ^ (w + 1) = 2 * 2 ^ w := by rw [Nat.pow_succ]; omega
    have ho : o / 2 < 2 ^ w := by omega
    by_cases c : o % 2 = 1
    · have e : pd (w + 1) o n = 2 * pd w (o / 2) (n / 2) + n % 2 := if_pos c
      have ih := pd_keep w (o / 2) (n / 2) ho
      have f := land2 (pd w (o / 2) (n / 2) + (2 ^ w - 1 - o / 2)) (o / 2) (n % 2) 1 (by omega) (by omega)
      have g2 : 2 * (o / 2) + 1 = o := by omega
      rw [ih, g2] at f
      have g1 : 2 * pd w (o / 2) (n / 2) + n % 2 + (2 * 2 ^ w - 1 - o) = 2 * (pd w (o / 2) (n / 2) + (2 ^ w - 1 - o / 2)) + n % 2 := by omega
      rw [e, h2, g1, f]
      by_cases d : n % 2 = 1
      · rw [if_pos ⟨d, rfl⟩, d]
      · rw [if_neg (fun z => d z.1), show n % 2 = 0 by omega]
    · have e : pd (w + 1) o n = 2 * pd w (o / 2) n := if_neg c
      have ih := pd_keep w (o / 2) n ho
      have f := land2 (pd w (o / 2) n + (2 ^ w - 1 - o / 2)) (o / 2) 1 0 (by omega) (by omega)
      have g2 : 2 * (o / 2) + 0 = o := by omega
      rw [ih, g2] at f
      have g1 : 2 * pd w (o / 2) n + (2 * 2 ^ w - 1 - o) = 2 * (pd w (o / 2) n + (2 ^ w - 1 - o / 2)) + 1 := by omega
      rw [e, h2, g1, f, if_neg (by omega), Nat.add_zero]
theorem pd_step : ∀ (w o n : Nat), o < 2 ^ w → (pd w o n + (2 ^ w - o)) &&& o = pd w o (n + 1)
  | 0, o, n, h => by
    have h0 : o = 0 := by
      have : (2 : Nat) ^ 0 = 1 := rfl
      omega
    rw [h0, Nat.and_zero]
    rfl
  | w + 1, o, n, h => by
    have h2 : (2 : Nat) ^ (w + 1) = 2 * 2 ^ w := by rw [Nat.pow_succ]; omega
    have ho : o / 2 < 2 ^ w := by omega
    by_cases c : o % 2 = 1
    · have e : pd (w + 1) o n = 2 * pd w (o / 2) (n / 2) + n % 2 := if_pos c
      have e1 : pd (w + 1) o (n + 1) = 2 * pd w (o / 2) ((n + 1) / 2) + (n + 1) % 2 := if_pos c
      have g2 : 2 * (o / 2) + 1 = o := by omega
      by_cases d : n % 2 = 1
      · have ih := pd_step w (o / 2) (n / 2) ho
        have f := land2 (pd w (o / 2) (n / 2) + (2 ^ w - o / 2)) (o / 2) 0 1 (by omega) (by omega)
        rw [ih, g2] at f
        have g1 : 2 * pd w (o / 2) (n / 2) + n % 2 + (2 * 2 ^ w - o) = 2 * (pd w (o / 2) (n / 2) + (2 ^ w - o / 2)) + 0 := by omega
        rw [e, e1, h2, g1, f, if_neg (by omega), show (n + 1) / 2 = n / 2 + 1 by omega, show (n + 1) % 2 = 0 by omega]
      · have k := pd_keep w (o / 2) (n / 2) ho
        have f := land2 (pd w (o / 2) (n / 2) + (2 ^ w - 1 - o / 2)) (o / 2) 1 1 (by omega) (by omega)
        rw [k, g2] at f
        have g1 : 2 * pd w (o / 2) (n / 2) + n % 2 + (2 * 2 ^ w - o) = 2 * (pd w (o / 2) (n / 2) + (2 ^ w - 1 - o / 2)) + 1 := by omega
        rw [e, e1, h2, g1, f, if_pos ⟨rfl, rfl⟩, show (n + 1) / 2 = n / 2 by omega, show (n + 1) % 2 = 1 by omega]
    · have e : pd (w + 1) o n = 2 * pd w (o / 2) n := if_neg c
      have e1 : pd (w + 1) o (n + 1) = 2 * pd w (o / 2) (n + 1) := if_neg c
      have ih := pd_step w (o / 2) n ho
      have f := land2 (pd w (o / 2) n + (2 ^ w - o / 2)) (o / 2) 0 0 (by omega) (by omega)
      have g2 : 2 * (o / 2) + 0 = o := by omega
      rw [ih, g2] at f
      have g1 : 2 * pd w (o / 2) n + (2 * 2 ^ w - o) = 2 * (pd w (o / 2) n + (2 ^ w - o / 2)) + 0 := by omega
      rw [e, e1, h2, g1, f, if_neg (by omega), Nat.add_zero]
theorem bitN_N : ∀ b : Fin 32, N32 (bitN b.val) = 2 ^ b.val := by decide +kernel
theorem N_or (a b : Int32) : N32 (a ||| b) = N32 a ||| N32 b := rfl
theorem secB_pos : ∀ (w o i n : Nat), i + w ≤ 32 → N32 (secB (pos w o i) n) = 2 ^ i * pd w o n
  | 0, o, i, n, h => by
    show N32 0 = 2 ^ i * 0
    rw [Nat.mul_zero]
    rfl
  | w + 1, o, i, n, h => by
    by_cases c : o % 2 = 1
    · have e1 : pos (w + 1) o i = i :: pos w (o / 2) (i + 1) := if_pos c
      have e2 : pd (w + 1) o n = 2 * pd w (o / 2) (n / 2) + n % 2 := if_pos c
      rw [e1, e2]
      show N32 ((if n % 2 = 1 then bitN i else 0) ||| secB (pos w (o / 2) (i + 1)) (n / 2)) = _
      have hb : N32 (if n % 2 = 1 then bitN i else 0) = 2 ^ i * (n % 2) := by
        by_cases d : n % 2 = 1
        · rw [if_pos d, d, Nat.mul_one]
          exact bitN_N ⟨i, by omega⟩
        · rw [if_neg d, show n % 2 = 0 by omega, Nat.mul_zero]
          rfl
      have h2 : (2 : Nat) ^ (i + 1) = 2 ^ i * 2 := Nat.pow_succ 2 i
      have hp := Nat.two_pow_pos i
      have lt : 2 ^ i * (n % 2) < 2 ^ (i + 1) := by
        rw [h2]
        exact Nat.mul_lt_mul_of_pos_left (by omega) hp
      rw [N_or, secB_pos w (o / 2) (i + 1) (n / 2) (by omega), hb, Nat.or_comm, ← Nat.two_pow_add_eq_or_of_lt lt, h2, Nat.mul_add, Nat.mul_assoc]
    · have e1 : pos (w + 1) o i = pos w (o / 2) (i + 1) := if_neg c
      have e2 : pd (w + 1) o n = 2 * pd w (o / 2) n := if_neg c
      rw [e1, e2, secB_pos w (o / 2) (i + 1) n (by omega), Nat.pow_succ, Nat.mul_assoc]
theorem N_inj {a b : Int32} (h : N32 a = N32 b) : a = b := Int32.toBitVec_inj.mp (BitVec.eq_of_toNat_eq h)
/-- the next of the subsets of o -/
theorem sec_step {o : Int32} {n : Nat} : (secB (pos 32 (N32 o) 0) n - o) &&& o = secB (pos 32 (N32 o) 0) (n + 1) := by
  have ho : N32 o < 2 ^ 32 := o.toBitVec.isLt
  have st := pd_step 32 (N32 o) n ho
  have hs : N32 (secB (pos 32 (N32 o) 0) n) = pd 32 (N32 o) n := by rw [secB_pos 32 (N32 o) 0 n (by omega), Nat.pow_zero, Nat.one_mul]
  have hs1 : N32 (secB (pos 32 (N32 o) 0) (n + 1)) = pd 32 (N32 o) (n + 1) := by rw [secB_pos 32 (N32 o) 0 (n + 1) (by omega), Nat.pow_zero, Nat.one_mul]
  apply N_inj
  generalize secB (pos 32 (N32 o) 0) n = s at hs ⊢
  rw [hs1, N_and, ← st, ← hs]
  have e : N32 (s - o) = (2 ^ 32 - N32 o + N32 s) % 2 ^ 32 := BitVec.toNat_sub _ _
  rw [e, Nat.add_comm (2 ^ 32 - N32 o) (N32 s)]
  apply Nat.eq_of_testBit_eq
  intro i
  rw [Nat.testBit_and, Nat.testBit_and, Nat.testBit_mod_two_pow]
  by_cases c : i < 32
  · rw [decide_eq_true c, Bool.true_and]
  · rw [Nat.testBit_lt_two_pow (x := N32 o) (Nat.lt_of_lt_of_le ho (Nat.pow_le_pow_right (by omega) (by omega))), Bool.and_false, Bool.and_false]
theorem bt_N (y : Int32) {i : Nat} (h : i < 32) : bt y i = (N32 y).testBit i := bt_lsb y i h
/-- the bits of a mask below 24 -/
def bits24 (y : Int32) : List Nat := (List.range 24).filter (fun i => bt y i)
theorem bits_len (y : Int32) : ∀ k, ((List.range k).filter (fun i => bt y i)).length = cdN y k
  | 0 => rfl
  | k + 1 => by
    rw [List.range_succ, List.filter_append, List.length_append, bits_len y k]
    show cdN y k + _ = cdN y k + (if bt y k = true then 1 else 0)
    by_cases c : bt y k = true
    · rw [if_pos c, List.filter_cons_of_pos c]
      rfl
    · rw [if_neg c, List.filter_cons_of_neg c]
      rfl
theorem bits_nd (y : Int32) : (bits24 y).Nodup := List.Pairwise.filter _ List.nodup_range
theorem bits_mem {y : Int32} {i : Nat} : i ∈ bits24 y ↔ i < 24 ∧ bt y i = true := by
  unfold bits24
  rw [List.mem_filter, List.mem_range]
theorem perm_of {L M : List Nat} (h1 : L.Nodup) (h2 : M.Nodup) (h : ∀ i, i ∈ L ↔ i ∈ M) : L.Perm M := (List.perm_ext_iff_of_nodup h1 h2).mpr h
theorem pos_bits {y : Int32} (h0 : 0 ≤ y.toInt) (h1 : y.toInt < 16777216) : (pos 32 (N32 y) 0).Perm (bits24 y) := by
  have e := i32_nat y h0
  have hN : N32 y < 2 ^ 24 := by
    show y.toBitVec.toNat < 2 ^ 24
    omega
  refine perm_of (pos_nd _ _ _) (bits_nd y) (fun i => ?_)
  rw [pos_mem, bits_mem, Nat.sub_zero]
  constructor
  · intro h
    have h24 : i < 24 := Nat.lt_of_not_le (fun z => by
      have h2 := h.2
      rw [Nat.testBit_lt_two_pow (x := N32 y) (Nat.lt_of_lt_of_le hN (Nat.pow_le_pow_right (by omega) z))] at h2
      cases h2)
    exact ⟨h24, by rw [bt_N y (by omega)]; exact h.2⟩
  · intro h
    exact ⟨by omega, by rw [← bt_N y (by omega)]; exact h.2⟩
theorem secB_bt : ∀ (L : List Nat), (∀ b ∈ L, b < 32) → ∀ (n i : Nat), i < 32 → (bt (secB L n) i = true ↔ ∃ k, L[k]? = some i ∧ n.testBit k = true)
  | [], _, n, i, hi => by
    refine ⟨fun h => ?_, fun ⟨k, hk, _⟩ => ?_⟩
    · have h : bt 0 i = true := h
      rw [bt_ze i hi] at h
      cases h
    · rw [List.getElem?_nil] at hk
      cases hk
  | b :: L, hL, n, i, hi => by
    have ih := secB_bt L (fun x hx => hL x (List.mem_cons_of_mem _ hx)) (n / 2) i hi
    have hb := hL b List.mem_cons_self
    show bt ((if n % 2 = 1 then bitN b else 0) ||| secB L (n / 2)) i = true ↔ _
    rw [bt_or _ _ _ hi, Bool.or_eq_true, ih]
    constructor
    · intro h
      rcases h with h | ⟨k, h1, h2⟩
      · by_cases d : n % 2 = 1
        · rw [if_pos d, bitN_bt hb hi] at h
          exact ⟨0, by rw [of_decide_eq_true h]; rfl, by rw [Nat.testBit_zero]; exact decide_eq_true d⟩
        · rw [if_neg d, bt_ze i hi] at h
          cases h
      · exact ⟨k + 1, h1, by rw [Nat.testBit_succ]; exact h2⟩
    · intro ⟨k, h1, h2⟩
      cases k with
      | zero =>
        refine Or.inl ?_
        rw [Nat.testBit_zero] at h2
        have h1 : b = i := Option.some.inj h1
        rw [if_pos (of_decide_eq_true h2), bitN_bt hb hi, h1]
        exact decide_eq_true rfl
      | succ k => exact Or.inr ⟨k, h1, by rw [Nat.testBit_succ] at h2; exact h2⟩
theorem secB_at {L : List Nat} (hL : ∀ b ∈ L, b < 32) (hd : L.Nodup) {n k i : Nat} (hk : L[k]? = some i) : bt (secB L n) i = n.testBit k := by
  have hi : i < 32 := hL i (List.mem_of_getElem? hk)
  refine Bool.eq_iff_iff.mpr ((secB_bt L hL n i hi).trans ⟨fun ⟨j, h1, h2⟩ => ?_, fun h => ⟨k, hk, h⟩⟩)
  obtain ⟨hj, _⟩ := List.getElem?_eq_some_iff.mp h1
  have e : j = k := (List.getElem?_inj hj hd).mp (h1.trans hk.symm)
  rw [← e]
  exact h2
/-! the ways in which no group is left -/
def gdM (M : List Int32) (s : Int32) : Bool := M.all (fun p => !(decide ((p &&& s) = 0)))
def FG (M : List Int32) (s : Int32) : Int := if gdM M s = true then 1 else 0
def FK (M : List Int32) (k : Nat) (s : Int32) : Int := if gdM M s = true ∧ bt s k = true then 1 else 0
theorem FG_b (M : List Int32) (s : Int32) : 0 ≤ FG M s ∧ FG M s ≤ 1 := by
  unfold FG
  split <;> omega
theorem FK_b (M : List Int32) (k : Nat) (s : Int32) : 0 ≤ FK M k s ∧ FK M k s ≤ 1 := by
  unfold FK
  split <;> omega
/-- the pairs of strangers of a set, in order -/
def prI (f : Nat → Nat → Bool) (p : Nat) : Nat → Nat → List (Nat × Nat)
  | 0, _ => []
  | k + 1, q => if f p q = true then (p, q) :: prI f p k (q + 1) else prI f p k (q + 1)
def prO (f : Nat → Nat → Bool) (N : Nat) : Nat → Nat → List (Nat × Nat)
  | 0, _ => []
  | k + 1, p => prI f p (N - (p + 1)) (p + 1) ++ prO f N k (p + 1)
theorem prI_mem {f : Nat → Nat → Bool} {p : Nat} {x : Nat × Nat} : ∀ (k q : Nat), x ∈ prI f p k q ↔ x.1 = p ∧ (q ≤ x.2 ∧ x.2 < q + k) ∧ f p x.2 = true
  | 0, q => ⟨fun h => (by cases h), fun h => (by omega)⟩
  | k + 1, q => by
    have ih := prI_mem (f := f) (p := p) (x := x) k (q + 1)
    by_cases c : f p q = true
    · rw [show prI f p (k + 1) q = (p, q) :: prI f p k (q + 1) from if_pos c, List.mem_cons, ih]
      constructor
      · intro h
        rcases h with h | h
        · rw [h]
          exact ⟨rfl, ⟨Nat.le_refl _, by show q < _; omega⟩, c⟩
        · exact ⟨h.1, ⟨by omega, by omega⟩, h.2.2⟩
      · intro h
        by_cases e : x.2 = q
        · exact Or.inl (Prod.ext h.1 e)
        · exact Or.inr ⟨h.1, ⟨by omega, by omega⟩, h.2.2⟩
    · rw [show prI f p (k + 1) q = prI f p k (q + 1) from if_neg c, ih]
      constructor
      · intro h
        exact ⟨h.1, ⟨by omega, by omega⟩, h.2.2⟩
      · intro h
        have e : ¬ x.2 = q := fun z => c (by rw [← z]; exact h.2.2)
        exact ⟨h.1, ⟨by omega, by omega⟩, h.2.2⟩
theorem prI_nd {f : Nat → Nat → Bool} {p : Nat} : ∀ (k q : Nat), (prI f p k q).Nodup
  | 0, _ => List.Pairwise.nil
  | k + 1, q => by
    have ih := prI_nd (f := f) (p := p) k (q + 1)
    by_cases c : f p q = true
    · rw [show prI f p (k + 1) q = (p, q) :: prI f p k (q + 1) from if_pos c]
      refine List.nodup_cons.mpr ⟨fun h => ?_, ih⟩
      have := ((prI_mem k (q + 1)).mp h).2.1.1
      have : q + 1 ≤ q := this
      omega
    · rw [show prI f p (k + 1) q = prI f p k (q + 1) from if_neg c]
      exact ih
theorem prO_mem {f : Nat → Nat → Bool} {N : Nat} {x : Nat × Nat} : ∀ (k p : Nat), p + k = N → (x ∈ prO f N k p ↔ p ≤ x.1 ∧ x.1 < x.2 ∧ x.2 < N ∧ f x.1 x.2 = true)
  | 0, p, h => ⟨fun h => (by cases h), fun h => (by omega)⟩
  | k + 1, p, h => by
    have ih := prO_mem (f := f) (N := N) (x := x) k (p + 1) (by omega)
    show x ∈ prI f p (N - (p + 1)) (p + 1) ++ prO f N k (p + 1) ↔ _
    rw [List.mem_append, ih, prI_mem]
    constructor
    · intro z
      rcases z with z | z
      · exact ⟨by omega, by omega, by omega, by rw [z.1]; exact z.2.2⟩
      · exact ⟨by omega, z.2⟩
    · intro z
      by_cases e : x.1 = p
      · exact Or.inl ⟨e, ⟨by omega, by omega⟩, by rw [← e]; exact z.2.2.2⟩
      · exact Or.inr ⟨by omega, z.2⟩
theorem prO_nd {f : Nat → Nat → Bool} {N : Nat} : ∀ (k p : Nat), p + k = N → (prO f N k p).Nodup
  | 0, _, _ => List.Pairwise.nil
  | k + 1, p, h => by
    show (prI f p (N - (p + 1)) (p + 1) ++ prO f N k (p + 1)).Nodup
    refine List.nodup_append.mpr ⟨prI_nd _ _, prO_nd k (p + 1) (by omega), fun a ha b hb e => ?_⟩
    have h1 := (prI_mem _ _).mp ha
    have h2 := (prO_mem k (p + 1) (by omega)).mp hb
    rw [e] at h1
    omega
def prP (f : Nat → Nat → Bool) (N : Nat) : List (Nat × Nat) := prO f N N 0
def pbs (P : List (Nat × Nat)) : List Nat := P.map (fun x => pb x.1 x.2)
theorem prP_mem {f : Nat → Nat → Bool} {N : Nat} {x : Nat × Nat} : x ∈ prP f N ↔ x.1 < x.2 ∧ x.2 < N ∧ f x.1 x.2 = true := by
  unfold prP
  rw [prO_mem N 0 (by omega)]
  exact ⟨fun h => h.2, fun h => ⟨Nat.zero_le _, h⟩⟩
theorem pbs_nd {f : Nat → Nat → Bool} {N : Nat} (hN : N ≤ 7) : (pbs (prP f N)).Nodup := by
  refine List.pairwise_map.mpr (List.Pairwise.imp_of_mem (fun {a b} ha hb hne e => ?_) (prO_nd (f := f) (N := N) N 0 (by omega)))
  have h1 := prP_mem.mp ha
  have h2 := prP_mem.mp hb
  have z := pb_in ⟨a.2, by omega⟩ ⟨a.1, by omega⟩ ⟨b.2, by omega⟩ ⟨b.1, by omega⟩ h1.1 h2.1 e
  exact hne (Prod.ext z.1 z.2)
theorem pbs_bits {f : Nat → Nat → Bool} {N : Nat} (hN : N ≤ 7) : (pbs (prP f N)).Perm (bits24 (pmO f N)) := by
  refine perm_of (pbs_nd hN) (bits_nd _) (fun i => ?_)
  rw [bits_mem]
  constructor
  · intro h
    obtain ⟨x, hx, e⟩ := List.mem_map.mp h
    have hx := prP_mem.mp hx
    have l := pb_lt ⟨x.2, by omega⟩ ⟨x.1, by omega⟩ hx.1
    have l : pb x.1 x.2 < 21 := l
    have e : pb x.1 x.2 = i := e
    refine ⟨by omega, ?_⟩
    rw [← e]
    exact (pmO_at hN hx.1 hx.2.1).mpr hx.2.2
  · intro h
    obtain ⟨p, q, h1, h2, h3, h4⟩ := (pmO_bt (by omega) N hN).mp h.2
    exact List.mem_map.mpr ⟨(p, q), prP_mem.mpr ⟨h1, h2, h3⟩, h4.symm⟩
theorem pbs_lt {f : Nat → Nat → Bool} {N : Nat} (hN : N ≤ 7) : ∀ b ∈ pbs (prP f N), b < 32 := fun b hb => by
  have := (bits_mem.mp ((pbs_bits hN).mem_iff.mp hb)).1
  omega
/-- the first of the greatest -/
def bestL (kn : Nat → Nat → Int) : List (Nat × Nat) → Int × Int → Int × Int
  | [], z => z
  | x :: P, z => bestL kn P (if kn x.1 x.2 ≤ z.2 then z else (10 * (x.1 : Int) + (x.2 : Int), kn x.1 x.2))
theorem bestL_n {kn : Nat → Nat → Int} {x : Nat × Nat} {P : List (Nat × Nat)} {z : Int × Int} (h : kn x.1 x.2 ≤ z.2) : bestL kn (x :: P) z = bestL kn P z := by
  show bestL kn P _ = _
  rw [if_pos h]
theorem bestL_y {kn : Nat → Nat → Int} {x : Nat × Nat} {P : List (Nat × Nat)} {z : Int × Int} (h : ¬ kn x.1 x.2 ≤ z.2) : bestL kn (x :: P) z = bestL kn P (10 * (x.1 : Int) + (x.2 : Int), kn x.1 x.2) := by
  show bestL kn P _ = _
  rw [if_neg h]
/-! the ways of X -/
theorem pX8_breaksAll {G : jdG} {n : Nat} {Z : jdL} {J : jdJ} {K : Int32 → jdI → jdJ → Prop} {I : jdI} {M : List Int32} {x1 x2 : Int32} (ht : zTies Z 13) (h70 : M.length ≤ 70) (h2 : x2.toInt = (M.length : Int)) (hL : LiS I (13 + 4) M) (hK : ∀ v : Int32, (gdM M x1 = true ∧ ¬ v = 0) ∨ (gdM M x1 = false ∧ v = 0) → K v I J) : Cl G mX8_breaksAll n 0 0 [.ref (gb G + 13), .int x1, .int x2] Z I J (qi Z K) := by
  have lp : ∀ f : Nat, ∀ x3 : Int32, 0 ≤ x3.toInt → x3.toInt + (f : Int) = (M.length : Int) → gdM (M.drop x3.toInt.toNat) x1 = gdM M x1 → Jd G mX8_breaksAll (jdFm G (qi Z K)) n 0 0 2 [(0, .ref (gb G + 13)), (1, .int x1), (2, .int x2), (3, .int x3)] [] Z I J := by
    intro f
    induction f with
    | zero =>
      intro x3 h3 hf hr
      rw [drop_end (show M.length ≤ x3.toInt.toNat by omega)] at hr
      have hr : true = gdM M x1 := hr
      exact rX8_breaksAll_2 ht ⟨fun _ => hK 1 (Or.inl ⟨hr.symm, by decide⟩), fun h => absurd (Int32.le_iff_toInt_le.mpr (by omega)) h⟩
    | succ f ih =>
      intro x3 h3 hf hr
      have q1 : (1 : Int32).toInt = 1 := rfl
      have e3 := i32_add x3 1 (by omega) (by omega)
      have n3 := tn_eq x3
      have en : x3.toInt.toNat + 1 = (x3 + 1).toInt.toNat := by omega
      rw [LiS_drop hL (k := x3.toInt.toNat) (by omega)] at hr
      have hr : (!(decide ((I (13 + 4) x3.toInt.toNat &&& x1) = 0)) && gdM (M.drop (x3.toInt.toNat + 1)) x1) = gdM M x1 := hr
      refine rX8_breaksAll_2 ht ⟨fun h => by have := Int32.le_iff_toInt_le.mp h; omega, fun _ => ⟨vp_of (by omega) (by omega), fun hv => ?_, fun hv => ?_⟩⟩
      · rw [n3] at hv
        rw [decide_eq_false hv, Bool.not_false, Bool.true_and, en] at hr
        exact ih (x3 + 1) (by omega) (by omega) hr
      · rw [n3] at hv
        rw [decide_eq_true hv, Bool.not_true, Bool.false_and] at hr
        exact hK 0 (Or.inr ⟨hr.symm, rfl⟩)
  exact eX8_breaksAll ht (lp M.length 0 (by decide) (by show (0 : Int) + _ = _; omega) rfl)
theorem sh_b (s : Int32) (i : Nat) : ((s >>> (Int32.ofNat i &&& 31)) &&& 1).toInt = (if bt s i = true then 1 else 0) := by
  have r := i32_and' 1 (s >>> (Int32.ofNat i &&& 31)) (by decide)
  rw [Int32.and_comm 1] at r
  have q1 : (1 : Int32).toInt = 1 := rfl
  have q0 : (0 : Int32).toInt = 0 := rfl
  by_cases c : bt s i = true
  · rw [if_pos c]
    have c2 : ¬ ((s >>> (Int32.ofNat i &&& 31)) &&& 1) = 0 := of_decide_eq_true c
    have : ¬ ((s >>> (Int32.ofNat i &&& 31)) &&& 1).toInt = 0 := fun z => c2 (Int32.toInt_inj.mp (z.trans q0.symm))
    omega
  · rw [if_neg c]
    have c2 : ((s >>> (Int32.ofNat i &&& 31)) &&& 1) = 0 := Classical.byContradiction (fun z => c (decide_eq_true z))
    rw [c2]
    rfl
theorem pX8_tally {G : jdG} {n : Nat} {Z : jdL} {J : jdJ} {K : jdI → jdJ → Prop} {I : jdI} {x1 : Int32} (ht : zTies Z 13) (hW : WX I) (hK : ∀ I2 : jdI, WX I2 → Fr (fun a _ => a = 13 + 6) I I2 → (∀ k : Nat, (k : Int) < 28 → I2 (13 + 6) k = I (13 + 6) k + ((x1 >>> (Int32.ofNat k &&& 31)) &&& 1)) → K I2 J) : Cl G mX8_tally n 0 0 [.ref (gb G + 13), .int x1] Z I J (qv Z K) := by
  have q28 : (28 : Int32).toInt = 28 := rfl
  have lp : ∀ f : Nat, ∀ (I3 : jdI) (x2 : Int32), WX I3 → Fr (fun a _ => a = 13 + 6) I I3 → RW I I3 (13 + 6) (fun k => I (13 + 6) k + ((x1 >>> (Int32.ofNat k &&& 31)) &&& 1)) x2.toInt → 0 ≤ x2.toInt → x2.toInt + (f : Int) = 28 → Jd G mX8_tally (jdFm G (qv Z K)) n 0 0 2 [(0, .ref (gb G + 13)), (1, .int x1), (2, .int x2)] [] Z I3 J := by
    intro f
    induction f with
    | zero =>
      intro I3 x2 hW3 hF3 hR h2 hf
      exact rX8_tally_2 ht ⟨fun _ => hK I3 hW3 hF3 (fun k hk => hR.1 k (by omega)), fun h => absurd (Int32.le_iff_toInt_le.mpr (by omega)) h⟩
    | succ f ih =>
      intro I3 x2 hW3 hF3 hR h2 hf
      have q1 : (1 : Int32).toInt = 1 := rfl
      have e2 := i32_add x2 1 (by omega) (by omega)
      have n2 := tn_eq x2
      have hw := WX_f hW3
      refine rX8_tally_2 ht ⟨fun h => by have := Int32.le_iff_toInt_le.mp h; omega, fun _ => ⟨vp_of (by omega) (by omega), vp_of (by omega) (by omega), ?_⟩⟩
      refine ih _ (x2 + 1) (WX_uI hW3 (by first | exact okXo (by decide) | (unfold okX; refine ⟨?_, ?_, ?_, ?_, ?_, ?_, ?_, ?_, ?_, ?_⟩ <;> intro h <;> omega))) (Fr_uI hF3 rfl) (RW_s hR h2 e2 ?_) (by omega) (by omega)
      rw [hR.2 (Int32.toNatClampNeg x2) (by omega)]
      show I (13 + 6) (Int32.toNatClampNeg x2) + _ = I (13 + 6) x2.toInt.toNat + ((x1 >>> (Int32.ofNat x2.toInt.toNat &&& 31)) &&& 1)
      rw [← i32_ofNat h2, n2]
  exact eX8_tally ht (lp 28 I 0 hW Fr.rf ⟨fun p hp => by have hp : (p : Int) < 0 := hp; omega, fun p _ => rfl⟩ (by decide) rfl)
theorem pX8_countWays_50 {G : jdG} {n rc rs : Nat} {Z : jdL} {J : jdJ} {K : Int32 → jdI → jdJ → Prop} {I0 : jdI} {M : List Int32} {E : Nat} {x1 x2 x3 x4 : Int32} (ht : zTies Z 13) (h70 : M.length ≤ 70) (h2 : x2.toInt = (M.length : Int)) (hL0 : LiS I0 (13 + 4) M) (hE : E = 2 ^ (pos 32 (N32 x3) 0).length) (hE1 : E ≤ 16777216) (h4 : x4.toInt = (E : Int))
    (hK : ∀ (v : Int32) (I2 : jdI), WX I2 → Fr (fun a _ => a = 13 + 6) I0 I2 → v.toInt = cnL (FG M) (pos 32 (N32 x3) 0) 0 → (∀ k : Nat, (k : Int) < 28 → (I2 (13 + 6) k).toInt = cnL (FK M k) (pos 32 (N32 x3) 0) 0) → K v I2 J) :
    ∀ f : Nat, ∀ (I : jdI) (x5 x7 : Int32) (n9 : Nat), WX I → Fr (fun a _ => a = 13 + 6) I0 I → x7.toInt = (n9 : Int) → n9 + f = E → x5.toInt = sumN (fun m => FG M (secB (pos 32 (N32 x3) 0) m)) n9 → (∀ k : Nat, (k : Int) < 28 → (I (13 + 6) k).toInt = sumN (fun m => FK M k (secB (pos 32 (N32 x3) 0) m)) n9) → Jd G mX8_countWays (jdFm G (qi Z K)) (n + 1) rc rs 50 [(0, .ref (gb G + 13)), (1, .int x1), (2, .int x2), (3, .int x3), (4, .int x4), (5, .int x5), (6, .int (secB (pos 32 (N32 x3) 0) n9)), (7, .int x7)] [] Z I J := by
  intro f
  induction f with
  | zero =>
    intro I x5 x7 n9 hW hF h7 hn h5 hT
    refine rX8_countWays_50 ht ⟨fun _ => hK x5 I hW hF ?_ (fun k hk => ?_), fun h => absurd (Int32.le_iff_toInt_le.mpr (by omega)) h⟩
    · rw [h5, show n9 = 2 ^ (pos 32 (N32 x3) 0).length by omega]
      exact sum_cn0 (FG M) _
    · rw [hT k hk, show n9 = 2 ^ (pos 32 (N32 x3) 0).length by omega]
      exact sum_cn0 (FK M k) _
  | succ f ih =>
    intro I x5 x7 n9 hW hF h7 hn h5 hT
    have q1 : (1 : Int32).toInt = 1 := rfl
    have e7 := i32_add x7 1 (by omega) (by omega)
    have b5 := sumN_b (F := fun m => FG M (secB (pos 32 (N32 x3) 0) m)) (fun m => FG_b M _) n9
    have e5 := i32_add x5 1 (by omega) (by omega)
    refine rX8_countWays_50 ht ⟨fun h => by have := Int32.le_iff_toInt_le.mp h; omega, fun _ => ?_⟩
    refine pX8_breaksAll ht h70 h2 (LiS_fr hL0 hF (by intro k; omega)) (fun v hv => ⟨fun cv => ?_, fun cv => ?_⟩)
    · have hg : gdM M (secB (pos 32 (N32 x3) 0) n9) = false := by
        rcases hv with z | z
        · exact absurd cv z.2
        · exact z.1
      have z1 : FG M (secB (pos 32 (N32 x3) 0) n9) = 0 := if_neg (by rw [hg]; decide)
      rw [sec_step]
      refine ih I x5 (x7 + 1) (n9 + 1) hW hF (by omega) (by omega) ?_ (fun k hk => ?_)
      · show x5.toInt = sumN _ n9 + FG M (secB (pos 32 (N32 x3) 0) n9)
        rw [z1, Int.add_zero]
        exact h5
      · have zk : FK M k (secB (pos 32 (N32 x3) 0) n9) = 0 := if_neg (fun y => by rw [hg] at y; exact absurd y.1 (by decide))
        show _ = sumN _ n9 + FK M k (secB (pos 32 (N32 x3) 0) n9)
        rw [zk, Int.add_zero]
        exact hT k hk
    · have hg : gdM M (secB (pos 32 (N32 x3) 0) n9) = true := by
        rcases hv with z | z
        · exact z.1
        · exact absurd z.2 cv
      have z1 : FG M (secB (pos 32 (N32 x3) 0) n9) = 1 := if_pos hg
      refine pX8_tally ht hW (fun I3 hW3 hF3 hT3 => ?_)
      rw [sec_step]
      refine ih I3 (x5 + 1) (x7 + 1) (n9 + 1) hW3 (Fr.tr hF hF3 (fun _ _ h => h)) (by omega) (by omega) ?_ (fun k hk => ?_)
      · show (x5 + 1).toInt = sumN _ n9 + FG M (secB (pos 32 (N32 x3) 0) n9)
        rw [z1, e5, h5, q1]
      · have bk := sumN_b (F := fun m => FK M k (secB (pos 32 (N32 x3) 0) m)) (fun m => FK_b M k _) n9
        have sb := sh_b (secB (pos 32 (N32 x3) 0) n9) k
        have hk2 := hT k hk
        have zk : FK M k (secB (pos 32 (N32 x3) 0) n9) = if bt (secB (pos 32 (N32 x3) 0) n9) k = true then 1 else 0 := by
          unfold FK
          by_cases c : bt (secB (pos 32 (N32 x3) 0) n9) k = true
          · rw [if_pos c, if_pos ⟨hg, c⟩]
          · rw [if_neg c, if_neg (fun y => c y.2)]
        have zb := FK_b M k (secB (pos 32 (N32 x3) 0) n9)
        show (I3 (13 + 6) k).toInt = sumN _ n9 + FK M k (secB (pos 32 (N32 x3) 0) n9)
        rw [← zk] at sb
        rw [hT3 k hk, i32_add _ _ (by omega) (by omega), sb, hk2]
def MW (w : Tw) (x : Int32) : List Int32 := ((LW w).filter (sbs x)).map (pmG (relW w) w.1.toNat)
def opW (w : Tw) (x : Int32) : Int32 := pmG (relW w) w.1.toNat x
theorem sh_pow : ∀ c : Fin 25, ((1 : Int32) <<< (Int32.ofNat c.val &&& 31)).toInt = ((2 ^ c.val : Nat) : Int) ∧ 2 ^ c.val ≤ 16777216 := by decide +kernel
theorem op_len {w : Tw} {x : Int32} (hb : 0 ≤ w.1 ∧ w.1 ≤ 7) : (pos 32 (N32 (opW w x)) 0).length = cdN (opW w x) 24 := by
  have r := pmO_r (f := fG (relW w) x) (N := w.1.toNat) (by omega)
  have r : 0 ≤ (opW w x).toInt ∧ (opW w x).toInt < 2097152 := r
  rw [(pos_bits (y := opW w x) r.1 (by omega)).length_eq]
  exact bits_len _ 24
def knW (w : Tw) (x : Int32) (k : Nat) : Int := cnL (FK (MW w x) k) (bits24 (opW w x)) 0
def waW (w : Tw) (x : Int32) : Int := cnL (FG (MW w x)) (bits24 (opW w x)) 0
theorem pX8_countWays {G : jdG} {n : Nat} {Z : jdL} {J : jdJ} {K : Int32 → jdI → jdJ → Prop} {I : jdI} {w : Tw} {x1 : Int32} (ht : zTies Z 13) (hW : WX I) (hb : (0 ≤ w.1 ∧ w.1 ≤ 7) ∧ 2 ≤ w.2.2.2.1 ∧ w.2.2.2.1 ≤ 4) (hT : TL I w) (hK : ∀ (v : Int32) (I2 : jdI), WX I2 → Fr (fun a _ => a = 13 + 4 ∨ a = 13 + 6) I I2 → v.toInt = waW w x1 → (∀ k : Nat, (k : Int) < 28 → (I2 (13 + 6) k).toInt = knW w x1 k) → K v I2 J) : Cl G mX8_countWays (n + 4) 0 0 [.ref (gb G + 13), .int x1] Z I J (qi Z K) := by
  have q28 : (28 : Int32).toInt = 28 := rfl
  have h70 := LW_70 hb
  have rr := pmO_r (f := fG (relW w) x1) (N := w.1.toNat) (by omega)
  have rr : 0 ≤ (opW w x1).toInt ∧ (opW w x1).toInt < 2097152 := rr
  have hlen := op_len (w := w) (x := x1) hb.1
  have hpm := pos_bits (y := opW w x1) rr.1 (by omega)
  have hM70 : (MW w x1).length ≤ 70 := by
    unfold MW
    rw [List.length_map]
    exact Nat.le_trans (List.length_filter_le _ _) h70
  have lp : ∀ f : Nat, ∀ (I3 : jdI) (x2 : Int32), WX I3 → Fr (fun a _ => a = 13 + 6) I I3 → (∀ k : Nat, (k : Int) < x2.toInt → I3 (13 + 6) k = 0) → 0 ≤ x2.toInt → x2.toInt + (f : Int) = 28 → Jd G mX8_countWays (jdFm G (qi Z K)) (n + 4) 0 0 2 [(0, .ref (gb G + 13)), (1, .int x1), (2, .int x2)] [] Z I3 J := by
    intro f
    induction f with
    | zero =>
      intro I3 x2 hW3 hF3 hz h2 hf
      refine rX8_countWays_2 (n := n + 3) ht ⟨fun _ => ?_, fun h => absurd (Int32.le_iff_toInt_le.mpr (by omega)) h⟩
      have g3 := GX_fr hT.1 hF3 (by omega) (by omega) (fun k => by omega)
      have c3 : (I3 13 8).toInt = ((LW w).length : Int) := by rw [hF3 13 8 (by omega)]; exact hT.2.2.1
      have l3 : LiS I3 (13 + 3) (LW w) := LiS_fr hT.2.2.2 hF3 (fun k => by omega)
      refine pX8_listPairs (n := n + 1) (x1 := x1) ht hW3 (by omega) h70 g3 c3 l3 (fun v2 I4 hW4 hF4 hv2 hL4 => ?_)
      have g4 := GX_fr g3 hF4 (by omega) (by omega) (fun k => by omega)
      refine pX8_pairsIn (n := n + 2) ht g4 (by omega) ?_
      refine pJ6_bitCount24 (x0 := opW w x1) rr.1 (by omega) (fun v6 hv6 => ?_)
      have c24 := cdN_24 (opW w x1) 24
      have e6 : v6 = Int32.ofNat (cdN (opW w x1) 24) := by
        have e := i32_ofNat (x := v6) (by omega)
        rw [show v6.toInt.toNat = cdN (opW w x1) 24 by omega] at e
        exact e
      have sp := sh_pow ⟨cdN (opW w x1) 24, by omega⟩
      have sp1 : ((1 : Int32) <<< (v6 &&& 31)).toInt = ((2 ^ cdN (opW w x1) 24 : Nat) : Int) := by rw [e6]; exact sp.1
      have sp2 : 2 ^ cdN (opW w x1) 24 ≤ 16777216 := sp.2
      have s0 : secB (pos 32 (N32 (opW w x1)) 0) 0 = 0 := bt_all (fun i hi => by
        rw [bt_ze i hi]
        refine Bool.eq_false_iff.mpr (fun z => ?_)
        obtain ⟨k, _, h⟩ := (secB_bt _ (fun b hb => by have := ((pos_mem _ _ _ _).mp hb).1; omega) 0 i hi).mp z
        rw [Nat.zero_testBit] at h
        cases h)
      have go := pX8_countWays_50 (G := G) (n := n + 3) (rc := 0) (rs := 0) (Z := Z) (J := J) (K := K) (I0 := I4) (M := MW w x1) (E := 2 ^ cdN (opW w x1) 24) (x1 := x1) (x2 := v2) (x3 := opW w x1) (x4 := (1 : Int32) <<< (v6 &&& 31)) ht hM70 hv2 hL4 (by rw [hlen]) sp2 sp1 (fun v I5 hW5 hF5 hv5 hT5 => ?_) (2 ^ cdN (opW w x1) 24) I4 0 0 0 hW4 Fr.rf rfl (by omega) rfl (fun k hk => ?_)
      · rw [s0] at go
        exact go
      · refine hK v I5 hW5 (Fr.tr (Fr.tr (Fr.tr Fr.rf hF3 (by intro a k h; omega)) hF4 (by intro a k h; omega)) hF5 (by intro a k h; omega)) (hv5.trans (cnL_perm hpm 0)) (fun k hk => (hT5 k hk).trans (cnL_perm hpm 0))
      · rw [hF4 (13 + 6) k (by omega), hz k (by omega)]
        rfl
    | succ f ih =>
      intro I3 x2 hW3 hF3 hz h2 hf
      have q1 : (1 : Int32).toInt = 1 := rfl
      have e2 := i32_add x2 1 (by omega) (by omega)
      have n2 := tn_eq x2
      have hw := WX_f hW3
      refine rX8_countWays_2 (n := n + 3) ht ⟨fun h => by have := Int32.le_iff_toInt_le.mp h; omega, fun _ => ⟨vp_of (by omega) (by omega), ?_⟩⟩
      refine ih _ (x2 + 1) (WX_uI hW3 (by first | exact okXo (by decide) | (unfold okX; refine ⟨?_, ?_, ?_, ?_, ?_, ?_, ?_, ?_, ?_, ?_⟩ <;> intro h <;> omega))) (Fr_uI hF3 rfl) (fun k hk => ?_) (by omega) (by omega)
      rw [uI_ap]
      by_cases c : k = Int32.toNatClampNeg x2
      · rw [if_pos ⟨rfl, c⟩]
      · rw [if_neg (fun z => c z.2)]
        exact hz k (by omega)
  exact eX8_countWays (n := n + 3) ht (lp 28 I 0 hW Fr.rf (fun k hk => by have hk : (k : Int) < 0 := hk; omega) (by decide) rfl)
def knP (w : Tw) (x : Int32) (p q : Nat) : Int := knW w x (pb p q)
theorem kn_nn (w : Tw) (x : Int32) (k : Nat) : 0 ≤ knW w x k := cnL_nn (fun s => (FK_b _ k s).1) _ _
theorem pX8_surest_l {G : jdG} {n rc rs : Nat} {Z : jdL} {J : jdJ} {K : Int32 → jdI → jdJ → Prop} {I : jdI} {w : Tw} {x1 : Int32} {R : Int × Int} (ht : zTies Z 13) (hb : (0 ≤ w.1 ∧ w.1 ≤ 7) ∧ 2 ≤ w.2.2.2.1 ∧ w.2.2.2.1 ≤ 4) (hN : (I 13 6).toInt = w.1) (hT : ∀ k : Nat, (k : Int) < 28 → (I (13 + 6) k).toInt = knW w x1 k) (hK : ∀ v : Int32, v.toInt = R.1 → K v I J) : ∀ m : Nat,
    (∀ (x3 x4 x5 : Int32), 0 ≤ x5.toInt → x5.toInt ≤ w.1 → bestL (knP w x1) (prO (fG (relW w) x1) w.1.toNat (w.1.toNat - x5.toInt.toNat) x5.toInt.toNat) (x3.toInt, x4.toInt) = R → (8 - x5.toInt) * 10 < (m : Int) → Jd G mX8_surest (jdFm G (qi Z K)) (n + 1) rc rs 20 [(0, .ref (gb G + 13)), (1, .int x1), (2, .int (opW w x1)), (3, .int x3), (4, .int x4), (5, .int x5)] [] Z I J) ∧
    (∀ (x3 x4 x5 x6 : Int32), 0 ≤ x5.toInt → x5.toInt < w.1 → x5.toInt < x6.toInt → x6.toInt ≤ w.1 → bestL (knP w x1) (prI (fG (relW w) x1) x5.toInt.toNat (w.1.toNat - x6.toInt.toNat) x6.toInt.toNat ++ prO (fG (relW w) x1) w.1.toNat (w.1.toNat - (x5.toInt.toNat + 1)) (x5.toInt.toNat + 1)) (x3.toInt, x4.toInt) = R → (8 - x5.toInt) * 10 - x6.toInt < (m : Int) → Jd G mX8_surest (jdFm G (qi Z K)) (n + 1) rc rs 35 [(0, .ref (gb G + 13)), (1, .int x1), (2, .int (opW w x1)), (3, .int x3), (4, .int x4), (5, .int x5), (6, .int x6)] [] Z I J) := by
  intro m
  induction m with
  | zero =>
    refine ⟨fun x3 x4 x5 h0 h1 hr hm => ?_, fun x3 x4 x5 x6 h0 h1 h2 h3 hr hm => ?_⟩ <;> omega
  | succ m ih =>
    have q1 : (1 : Int32).toInt = 1 := rfl
    have q10 : (10 : Int32).toInt = 10 := rfl
    refine ⟨fun x3 x4 x5 h0 h1 hr hm => ?_, fun x3 x4 x5 x6 h0 h1 h2 h3 hr hm => ?_⟩
    · have e1 := i32_add x5 1 (by omega) (by omega)
      refine rX8_surest_20 ht ⟨fun hc => ?_, fun hc => ?_⟩
      · have hc := Int32.le_iff_toInt_le.mp hc
        rw [show w.1.toNat - x5.toInt.toNat = 0 by omega] at hr
        have hr : (x3.toInt, x4.toInt) = R := hr
        exact hK x3 (by rw [← hr])
      · have hc := mt Int32.le_iff_toInt_le.mpr hc
        rw [show w.1.toNat - x5.toInt.toNat = (w.1.toNat - (x5.toInt.toNat + 1)) + 1 by omega] at hr
        have hr : bestL (knP w x1) (prI (fG (relW w) x1) x5.toInt.toNat (w.1.toNat - (x5.toInt.toNat + 1)) (x5.toInt.toNat + 1) ++ prO (fG (relW w) x1) w.1.toNat (w.1.toNat - (x5.toInt.toNat + 1)) (x5.toInt.toNat + 1)) (x3.toInt, x4.toInt) = R := hr
        exact ih.2 x3 x4 x5 (x5 + 1) h0 (by omega) (by omega) (by omega) (by rw [show (x5 + 1).toInt.toNat = x5.toInt.toNat + 1 by omega]; exact hr) (by omega)
    · have e1 := i32_add x5 1 (by omega) (by omega)
      have e2 := i32_add x6 1 (by omega) (by omega)
      refine rX8_surest_35 ht ⟨fun hc => ?_, fun hc => ?_⟩
      · have hc := Int32.le_iff_toInt_le.mp hc
        rw [show w.1.toNat - x6.toInt.toNat = 0 by omega] at hr
        have hr : bestL (knP w x1) (prO (fG (relW w) x1) w.1.toNat (w.1.toNat - (x5.toInt.toNat + 1)) (x5.toInt.toNat + 1)) (x3.toInt, x4.toInt) = R := hr
        exact ih.1 x3 x4 (x5 + 1) (by omega) (by omega) (by rw [show (x5 + 1).toInt.toNat = x5.toInt.toNat + 1 by omega]; exact hr) (by omega)
      · have hc := mt Int32.le_iff_toInt_le.mpr hc
        rw [show w.1.toNat - x6.toInt.toNat = (w.1.toNat - (x6 + 1).toInt.toNat) + 1 by omega] at hr
        have en : x6.toInt.toNat + 1 = (x6 + 1).toInt.toNat := by omega
        have hpl := pb_lt ⟨x6.toInt.toNat, by omega⟩ ⟨x5.toInt.toNat, by omega⟩ (show x5.toInt.toNat < x6.toInt.toNat by omega)
        have hpl : pb x5.toInt.toNat x6.toInt.toNat < 21 := hpl
        have hpa : bt (opW w x1) (pb x5.toInt.toNat x6.toInt.toNat) = true ↔ fG (relW w) x1 x5.toInt.toNat x6.toInt.toNat = true := pmO_at (show w.1.toNat ≤ 7 by omega) (by omega) (by omega)
        have oi : (Int32.ofNat (pb x5.toInt.toNat x6.toInt.toNat)).toInt = (pb x5.toInt.toNat x6.toInt.toNat : Nat) := ofN_i (by omega)
        have on : (Int32.ofNat (pb x5.toInt.toNat x6.toInt.toNat)).toInt.toNat = pb x5.toInt.toNat x6.toInt.toNat := by omega
        have ot : Int32.toNatClampNeg (Int32.ofNat (pb x5.toInt.toNat x6.toInt.toNat)) = pb x5.toInt.toNat x6.toInt.toNat := by rw [tn_eq]; exact on
        have obt := bt_iff (opW w x1) (x := Int32.ofNat (pb x5.toInt.toNat x6.toInt.toNat)) (by omega)
        rw [on] at obt
        have hk := hT (pb x5.toInt.toNat x6.toInt.toNat) (by omega)
        have hk : (I (13 + 6) (pb x5.toInt.toNat x6.toInt.toNat)).toInt = knP w x1 x5.toInt.toNat x6.toInt.toNat := hk
        refine eX8_pairBit ?_
        rw [pb_x ⟨h0, by omega⟩ ⟨by omega, by omega⟩]
        refine ⟨fun hv => ?_, fun hv => ⟨vp_of (by omega) (by omega), ?_⟩⟩
        · have hn : ¬ fG (relW w) x1 x5.toInt.toNat x6.toInt.toNat = true := fun z => obt.mp (hpa.mpr z) hv
          rw [show prI (fG (relW w) x1) x5.toInt.toNat ((w.1.toNat - (x6 + 1).toInt.toNat) + 1) x6.toInt.toNat = prI (fG (relW w) x1) x5.toInt.toNat (w.1.toNat - (x6 + 1).toInt.toNat) (x6.toInt.toNat + 1) from if_neg hn, en] at hr
          exact ih.2 x3 x4 x5 (x6 + 1) h0 h1 (by omega) (by omega) hr (by omega)
        · have hy := hpa.mp (obt.mpr hv)
          rw [show prI (fG (relW w) x1) x5.toInt.toNat ((w.1.toNat - (x6 + 1).toInt.toNat) + 1) x6.toInt.toNat = (x5.toInt.toNat, x6.toInt.toNat) :: prI (fG (relW w) x1) x5.toInt.toNat (w.1.toNat - (x6 + 1).toInt.toNat) (x6.toInt.toNat + 1) from if_pos hy, en, List.cons_append] at hr
          rw [ot]
          refine ⟨fun c3 => ?_, fun c3 => ⟨vp_of (by omega) (by omega), ?_⟩⟩
          · have c3 := Int32.le_iff_toInt_le.mp c3
            rw [bestL_n (show knP w x1 x5.toInt.toNat x6.toInt.toNat ≤ x4.toInt by omega)] at hr
            exact ih.2 x3 x4 x5 (x6 + 1) h0 h1 (by omega) (by omega) hr (by omega)
          · have c3 := mt Int32.le_iff_toInt_le.mpr c3
            have m1 : ((10 : Int32) * x5).toInt = 10 * x5.toInt := by
              have m0 := i32_mul 10 x5 (by rw [q10]; omega) (by rw [q10]; omega)
              rw [q10] at m0
              exact m0
            have m2 := i32_add (10 * x5) x6 (by omega) (by omega)
            rw [bestL_y (show ¬ knP w x1 x5.toInt.toNat x6.toInt.toNat ≤ x4.toInt by omega)] at hr
            have hr : bestL (knP w x1) (prI (fG (relW w) x1) x5.toInt.toNat (w.1.toNat - (x6 + 1).toInt.toNat) (x6 + 1).toInt.toNat ++ prO (fG (relW w) x1) w.1.toNat (w.1.toNat - (x5.toInt.toNat + 1)) (x5.toInt.toNat + 1)) (10 * (x5.toInt.toNat : Int) + (x6.toInt.toNat : Int), knP w x1 x5.toInt.toNat x6.toInt.toNat) = R := hr
            rw [← hk, show 10 * (x5.toInt.toNat : Int) + (x6.toInt.toNat : Int) = ((10 * x5) + x6).toInt by omega] at hr
            exact ih.2 _ _ x5 (x6 + 1) h0 h1 (by omega) (by omega) hr (by omega)
/-- a set that may be kept a secret -/
def secOk (w : Tw) (x : Int32) : Prop := (0 ≤ x.toInt ∧ x.toInt < 2 ^ w.1.toNat) ∧ cdN x 24 ≤ 5
def secD (w : Tw) (x : Int32) : Decidable (secOk w x) := by
  unfold secOk
  exact inferInstance
def suW (w : Tw) (x : Int32) : Int := (bestL (knP w x) (prP (fG (relW w) x) w.1.toNat) (-1, -1)).1
def oSure (w : Tw) (x : Int32) : Int := @ite _ (secOk w x) (secD w x) (if suW w x = -1 then -5 else suW w x) (-2)
theorem oSure_y {w : Tw} {x : Int32} (h : secOk w x) : oSure w x = if suW w x = -1 then -5 else suW w x := if_pos h
theorem oSure_n {w : Tw} {x : Int32} (h : ¬ secOk w x) : oSure w x = -2 := if_neg h
theorem pX11_canBeSecret {G : jdG} {n : Nat} {Z : jdL} {J : jdJ} {K : Int32 → jdI → jdJ → Prop} {I : jdI} {s : Sd} {x1 : Int32} (hX : zX Z) (hW : WX I) (hs : TX I 1 s) (hK : ∀ v : Int32, (secOk s.1 x1 ∧ ¬ v = 0) ∨ (¬ secOk s.1 x1 ∧ v = 0) → K v I J) : Cl G mX11_canBeSecret (n + 3) 0 0 [.ref (gb G + 0), .int x1] Z I J (qi Z K) := by
  have hb := RX_b hW hs.1
  have p7 := pw7 ⟨s.1.1.toNat, by omega⟩
  have p7 : (2 : Int) ^ s.1.1.toNat ≤ 128 := p7
  have q5 : (5 : Int32).toInt = 5 := rfl
  refine eX11_canBeSecret (n := n + 2) hX ?_
  refine pX9_hasAll (n := n + 1) (zX_o0 hX) (Or.inl rfl) hW hs.1.1 (fun v2 p2 => ⟨fun c2 => ?_, fun c2 => ?_⟩)
  · have c2 := i0 c2
    exact hK 0 (Or.inr ⟨fun z => by have := z.1; omega, rfl⟩)
  · have c2 := i1 c2
    refine pJ6_bitCount24 (by omega) (by omega) (fun v4 hv4 => ⟨fun c4 => ?_, fun c4 => ?_⟩)
    · have c4 := Int32.lt_iff_toInt_lt.mp c4
      exact hK 0 (Or.inr ⟨fun z => by have := z.2; omega, rfl⟩)
    · have c4 := mt Int32.lt_iff_toInt_lt.mpr c4
      exact hK 1 (Or.inl ⟨⟨by omega, by omega⟩, by decide⟩)
theorem pX11_sure {G : jdG} {n : Nat} {Z : jdL} {J : jdJ} {K : Int32 → jdI → jdJ → Prop} {I : jdI} {s : Sd} {x1 : Int32} (hX : zX Z) (hW : WX I) (hs : TX I 1 s) (hk : OKT s.1) (hK : ∀ (v : Int32) (I2 : jdI), WX I2 → Fr (fun a k => (13 ≤ a ∧ a ≤ 24) ∨ a = 28) I I2 → v.toInt = oSure s.1 x1 → K v I2 J) : Cl G mX11_sure (n + 8) 0 0 [.ref (gb G + 0), .int x1] Z I J (qi Z K) := by
  have hb := RX_b hW hs.1
  have qm : (-1 : Int32).toInt = -1 := rfl
  refine eX11_sure (n := n + 7) hX ?_
  refine pX11_canBeSecret (n := n + 4) hX hW hs (fun v2 p2 => ⟨fun c2 => ?_, fun c2 => ?_⟩)
  · have ok : secOk s.1 x1 := by
      rcases p2 with z | z
      · exact z.1
      · exact absurd z.2 c2
    refine pX8_load (zX_o3 hX) (zX_o0 hX) (Or.inl rfl) hW hs.1 (OKT_sy hk) (fun I2 hW2 hF2 hT2 _ => ?_)
    refine eX8_surest (n := n + 6) (zX_o3 hX) ?_
    refine pX8_countWays (n := n + 2) (zX_o3 hX) hW2 hb hT2 (fun v I3 hW3 hF3 hv hT3 => ?_)
    have g3 := GX_fr hT2.1 hF3 (by omega) (by omega) (fun k => by omega)
    refine pX8_pairsIn (n := n + 5) (zX_o3 hX) g3 (by omega) ?_
    have hF := Fr.tr (p := fun a k => (13 ≤ a ∧ a ≤ 24) ∨ a = 28) (Fr.tr Fr.rf hF2 (by intro a k h; omega)) hF3 (by intro a k h; omega)
    refine (pX8_surest_l (R := bestL (knP s.1 x1) (prP (fG (relW s.1) x1) s.1.1.toNat) (-1, -1)) (zX_o3 hX) hb (by have := g3.1; omega) hT3 (fun v6 hv6 => ?_) 81).1 (-1) (-1) 0 (by decide) (by show (0 : Int) ≤ _; omega) rfl (by decide)
    have hv6 : v6.toInt = suW s.1 x1 := hv6
    refine ⟨fun c => ?_, fun c => ?_⟩
    · have c : ¬ v6.toInt = -1 := fun z => c (Int32.toInt_inj.mp (z.trans qm.symm))
      refine hK v6 I3 hW3 hF ?_
      rw [oSure_y ok, if_neg (by omega)]
      exact hv6
    · have c : v6.toInt = -1 := by rw [c]; rfl
      refine rfX (P := fun a k => (13 ≤ a ∧ a ≤ 24) ∨ a = 28) hX hW3 (o := oSure s.1 x1) (by rw [oSure_y ok, if_pos (by omega)]; rfl) (by intro a k h; omega) (fun v4 I4 hW4 hF4 hv4 => hK v4 I4 hW4 (Fr.tr hF hF4 (by intro a k h; omega)) hv4)
  · have no : ¬ secOk s.1 x1 := by
      rcases p2 with z | z
      · exact absurd c2 z.2
      · exact z.1
    exact rfX hX hW (oSure_n no) (by intro a k h; omega) hK
/-! the ways of the model -/
def foldT : List (Nat × Nat) → Nat → Tw → Tw
  | [], _, w => w
  | x :: P, n, w => foldT P (n / 2) (if n % 2 = 1 then tieT w x.1 x.2 0 else w)
def nop : List (Nat × Nat) → Nat → Int32 → Bool
  | [], _, _ => true
  | x :: P, n, g => (if n % 2 = 1 then !(bt g x.1 && bt g x.2) else true) && nop P (n / 2) g
theorem fold_y {x : Nat × Nat} {P : List (Nat × Nat)} {n : Nat} {w : Tw} (h : n % 2 = 1) : foldT (x :: P) n w = foldT P (n / 2) (tieT w x.1 x.2 0) := by
  show foldT P (n / 2) _ = _
  rw [if_pos h]
theorem fold_n {x : Nat × Nat} {P : List (Nat × Nat)} {n : Nat} {w : Tw} (h : ¬ n % 2 = 1) : foldT (x :: P) n w = foldT P (n / 2) w := by
  show foldT P (n / 2) _ = _
  rw [if_neg h]
theorem LW_fold : ∀ (P : List (Nat × Nat)) (n : Nat) (w : Tw), ((0 ≤ w.1 ∧ w.1 ≤ 7) ∧ 2 ≤ w.2.2.2.1 ∧ w.2.2.2.1 ≤ 4) → (∀ x ∈ P, x.1 < x.2 ∧ x.2 < w.1.toNat) → LW (foldT P n w) = (LW w).filter (fun g => nop P n g)
  | [], n, w, _, _ => (List.filter_eq_self.mpr (fun _ _ => rfl)).symm
  | x :: P, n, w, hb, hP => by
    by_cases c : n % 2 = 1
    · have hx := hP x List.mem_cons_self
      have i1 := LW_fold P (n / 2) (tieT w x.1 x.2 0) hb (fun y hy => hP y (List.mem_cons_of_mem _ hy))
      have o1 : (Int32.ofNat x.1).toInt = (x.1 : Nat) := ofN_i (by omega)
      have o2 : (Int32.ofNat x.2).toInt = (x.2 : Nat) := ofN_i (by omega)
      have t1 := LW_tie (w := w) (a := Int32.ofNat x.1) (b := Int32.ofNat x.2) hb (by unfold TwoP; omega)
      have n1 : Int32.toNatClampNeg (Int32.ofNat x.1) = x.1 := by rw [tn_eq]; omega
      have n2 : Int32.toNatClampNeg (Int32.ofNat x.2) = x.2 := by rw [tn_eq]; omega
      rw [n1, n2] at t1
      rw [fold_y c, i1, t1, List.filter_filter]
      refine List.filter_congr (fun g _ => ?_)
      show (nop P (n / 2) g && !(bt g (Int32.ofNat x.1).toInt.toNat && bt g (Int32.ofNat x.2).toInt.toNat)) = ((if n % 2 = 1 then !(bt g x.1 && bt g x.2) else true) && nop P (n / 2) g)
      rw [if_pos c, show (Int32.ofNat x.1).toInt.toNat = x.1 by omega, show (Int32.ofNat x.2).toInt.toNat = x.2 by omega, Bool.and_comm]
    · rw [fold_n c, LW_fold P (n / 2) w hb (fun y hy => hP y (List.mem_cons_of_mem _ hy))]
      refine List.filter_congr (fun g _ => ?_)
      show nop P (n / 2) g = ((if n % 2 = 1 then !(bt g x.1 && bt g x.2) else true) && nop P (n / 2) g)
      rw [if_neg c, Bool.true_and]
theorem and_or0 {m a b : Int32} : (m &&& (a ||| b)) = 0 ↔ (m &&& a) = 0 ∧ (m &&& b) = 0 := by
  rw [dis_bt, dis_bt, dis_bt]
  constructor
  · intro h
    refine ⟨fun i hi hm => ?_, fun i hi hm => ?_⟩
    · have := h i hi hm
      rw [bt_or _ _ _ hi] at this
      exact (Bool.or_eq_false_iff.mp this).1
    · have := h i hi hm
      rw [bt_or _ _ _ hi] at this
      exact (Bool.or_eq_false_iff.mp this).2
  · intro h i hi hm
    rw [bt_or _ _ _ hi, h.1 i hi hm, h.2 i hi hm]
    rfl
theorem nop_iff {rel : Nat → Nat → Bool} {N : Nat} (hN : N ≤ 7) (g : Int32) : ∀ (P : List (Nat × Nat)) (n : Nat), (∀ x ∈ P, x.1 < x.2 ∧ x.2 < N ∧ rel x.1 x.2 = true) → ((pmG rel N g &&& secB (pbs P) n) = 0 ↔ nop P n g = true)
  | [], n, _ => ⟨fun _ => rfl, fun _ => Int32.and_zero⟩
  | x :: P, n, hP => by
    have ih := nop_iff hN g P (n / 2) (fun y hy => hP y (List.mem_cons_of_mem _ hy))
    obtain ⟨h1, h2, h3⟩ := hP x List.mem_cons_self
    have l := pb_lt ⟨x.2, by omega⟩ ⟨x.1, by omega⟩ h1
    have l : pb x.1 x.2 < 21 := l
    have pa : bt (pmG rel N g) (pb x.1 x.2) = true ↔ fG rel g x.1 x.2 = true := pmO_at hN h1 h2
    have ef : fG rel g x.1 x.2 = (bt g x.1 && bt g x.2) := by
      show (bt g x.1 && (bt g x.2 && rel x.1 x.2)) = _
      rw [h3, Bool.and_true]
    rw [ef] at pa
    show (pmG rel N g &&& ((if n % 2 = 1 then bitN (pb x.1 x.2) else 0) ||| secB (pbs P) (n / 2))) = 0 ↔ ((if n % 2 = 1 then !(bt g x.1 && bt g x.2) else true) && nop P (n / 2) g) = true
    rw [and_or0, Bool.and_eq_true, ih]
    by_cases c : n % 2 = 1
    · rw [if_pos c, if_pos c, and_e (x := pb x.1 x.2) (by omega) (fun i hi => bitN_bt (by omega) hi)]
      have q : bt (pmG rel N g) (pb x.1 x.2) = (bt g x.1 && bt g x.2) := Bool.eq_iff_iff.mpr pa
      rw [q]
      cases (bt g x.1 && bt g x.2) with
      | true => exact ⟨fun z => absurd z.1 (by decide), fun z => absurd z.1 (by decide)⟩
      | false => exact ⟨fun z => ⟨rfl, z.2⟩, fun z => ⟨rfl, z.2⟩⟩
    · rw [if_neg c, if_neg c]
      exact ⟨fun z => ⟨rfl, z.2⟩, fun z => ⟨Int32.and_zero, z.2⟩⟩
theorem gd_iff {w : Tw} {x1 : Int32} {P : List (Nat × Nat)} {n : Nat} (hb : (0 ≤ w.1 ∧ w.1 ≤ 7) ∧ 2 ≤ w.2.2.2.1 ∧ w.2.2.2.1 ≤ 4) (hP : ∀ x ∈ P, x.1 < x.2 ∧ x.2 < w.1.toNat ∧ relW w x.1 x.2 = true) : cnt x1 (LW (foldT P n w)) 0 = 0 ↔ gdM (MW w x1) (secB (pbs P) n) = true := by
  have h70 := LW_70 hb
  have q0 : (0 : Int32).toInt = 0 := rfl
  have ef := LW_fold P n w hb (fun x hx => ⟨(hP x hx).1, (hP x hx).2.1⟩)
  have hl : (LW (foldT P n w)).length ≤ 70 := by rw [ef]; exact Nat.le_trans (List.length_filter_le _ _) h70
  have e := cnt_len (s := x1) (LW (foldT P n w)) 0 (by decide) (by omega)
  have z1 : cnt x1 (LW (foldT P n w)) 0 = 0 ↔ (LW (foldT P n w)).filter (sbs x1) = [] := by
    constructor
    · intro z
      rw [z, q0] at e
      exact List.length_eq_zero_iff.mp (by omega)
    · intro z
      rw [z] at e
      exact Int32.toInt_inj.mp (by rw [e]; rfl)
  rw [z1, ef, List.filter_filter, List.filter_eq_nil_iff]
  unfold gdM MW
  rw [List.all_eq_true]
  have ni := fun g => nop_iff (rel := relW w) (show w.1.toNat ≤ 7 by omega) g P n hP
  constructor
  · intro h p hp
    obtain ⟨g, hg, rfl⟩ := List.mem_map.mp hp
    obtain ⟨g1, g2⟩ := List.mem_filter.mp hg
    have := h g g1
    show (!(decide ((pmG (relW w) w.1.toNat g &&& secB (pbs P) n) = 0))) = true
    rw [decide_eq_false (fun z => this (by rw [g2, (ni g).mp z]; rfl))]
    rfl
  · intro h g hg z
    rw [Bool.and_eq_true] at z
    have := h (pmG (relW w) w.1.toNat g) (List.mem_map.mpr ⟨g, List.mem_filter.mpr ⟨hg, z.1⟩, rfl⟩)
    have : (!(decide ((pmG (relW w) w.1.toNat g &&& secB (pbs P) n) = 0))) = true := this
    rw [decide_eq_true ((ni g).mpr z.2)] at this
    cases this
theorem LiS_mp {I : jdI} {b k : Nat} {P : List (Nat × Nat)} {f : Nat × Nat → Int32} {x : Nat × Nat} (h : LiS I b (P.map f)) (hk : P[k]? = some x) : I b k = f x := by
  obtain ⟨hl, _⟩ := List.getElem?_eq_some_iff.mp hk
  have e := h k (by rw [List.length_map]; exact hl)
  rw [List.getElem?_map, hk] at e
  exact (Option.some.inj e).symm
def PLm (I : jdI) (t : Nat) (P : List (Nat × Nat)) : Prop := (I t 42).toInt = (P.length : Int) ∧ LiS I (t + 35) (P.map (fun x => Int32.ofNat x.1)) ∧ LiS I (t + 36) (P.map (fun x => Int32.ofNat x.2))
theorem PLm_fr {I I2 : jdI} {t : Nat} {P : List (Nat × Nat)} {p : Nat → Nat → Prop} (h : PLm I t P) (hF : Fr p I I2) (h1 : ¬ p t 42) (h2 : ∀ k, ¬ p (t + 35) k) (h3 : ∀ k, ¬ p (t + 36) k) : PLm I2 t P := ⟨by rw [hF t 42 h1]; exact h.1, LiS_fr h.2.1 hF h2, LiS_fr h.2.2 hF h3⟩
def FB (M : List Int32) (L : List Nat) (k m : Nat) : Int := if gdM M (secB L m) = true ∧ m.testBit k = true then 1 else 0
theorem FB_b (M : List Int32) (L : List Nat) (k m : Nat) : 0 ≤ FB M L k m ∧ FB M L k m ≤ 1 := by
  unfold FB
  split <;> omega
def WYm (I : jdI) (t : Nat) (M : List Int32) (P : List (Nat × Nat)) (n9 : Nat) : Prop := (I t 43).toInt = sumN (fun m => FG M (secB (pbs P) m)) n9 ∧ ∀ k, k < P.length → (I (t + 37) k).toInt = sumN (FB M (pbs P) k) n9
theorem WYm_fr {I I2 : jdI} {t n9 : Nat} {M : List Int32} {P : List (Nat × Nat)} {p : Nat → Nat → Prop} (h : WYm I t M P n9) (hF : Fr p I I2) (h1 : ¬ p t 43) (h2 : ∀ k, ¬ p (t + 37) k) : WYm I2 t M P n9 := ⟨by rw [hF t 43 h1]; exact h.1, fun k hk => by rw [hF (t + 37) k (h2 k)]; exact h.2 k hk⟩
theorem bt_tb {x : Int32} {n k : Nat} (h : x.toInt = (n : Int)) (hk : k < 32) : bt x k = n.testBit k := by
  have e := i32_nat x (by omega)
  rw [bt_N x hk, show N32 x = n by show x.toBitVec.toNat = n; omega]
theorem pqX12_findWays_b {G : jdG} {n : Nat} {Z0 : jdL} {I0 : jdI} {J0 : jdJ} {Q : jdQ} {t : Nat} {w : Tw} {x1 : Int32} {sA sV : Nat → Nat} (hG : gOK G sA sV) (hw0 : RM I0 t w) (hZ0 : t + 38 ≤ Z0.2.2) (hb : (0 ≤ w.1 ∧ w.1 ≤ 7) ∧ 2 ≤ w.2.2.2.1 ∧ w.2.2.2.1 ≤ 4) {P : List (Nat × Nat)} {E : Nat} (hP : ∀ x ∈ P, x.1 < x.2 ∧ x.2 < w.1.toNat ∧ relW w x.1 x.2 = true) (hP10 : P.length ≤ 10) (hE : E = 2 ^ P.length) (hQ : ∀ (Z2 : jdL) (I2 : jdI) (J2 : jdJ), ST t 21 20 Z0 I0 J0 Z2 I2 J2 → PLm I2 t P → WYm I2 t (MW w x1) P E → Q none Z2 I2 J2) : ∀ m : Nat,
    (∀ (Z : jdL) (I : jdI) (J : jdJ) (rc rs : Nat) (x2 : Int32) (n9 : Nat), ST t 21 20 Z0 I0 J0 Z I J → fC Z t ≤ rc → fS Z t ≤ rs → x2.toInt = (n9 : Int) → n9 ≤ E → PLm I t P → WYm I t (MW w x1) P n9 → (1024 - x2.toInt) * 40 + 35 < (m : Int) → Jd G mX12_findWays (jdFm G Q) (n + 12) rc rs 114 [(0, .ref (gb G + t)), (1, .int x1), (2, .int x2)] [] Z I J) ∧
    (∀ (Z : jdL) (I : jdI) (J : jdJ) (rc rs : Nat) (x2 x4 : Int32) (u3 n9 k4 : Nat) (wc : Tw), ST t 21 20 Z0 I0 J0 Z I J → Z.2.1 t 21 = some u3 → WM 7 u3 I → x2.toInt = (n9 : Int) → n9 < E → x4.toInt = (k4 : Int) → k4 ≤ P.length → PLm I t P → WYm I t (MW w x1) P n9 → RM I u3 wc → wc.1 = w.1 → wc.2.2.2.1 = w.2.2.2.1 → foldT (P.drop k4) (n9 / 2 ^ k4) wc = foldT P n9 w → (1024 - x2.toInt) * 40 + 30 - x4.toInt < (m : Int) → Jd G mX12_findWays (jdFm G Q) (n + 12) rc rs 132 [(0, .ref (gb G + t)), (1, .int x1), (2, .int x2), (3, .ref (gb G + u3)), (4, .int x4)] [] Z I J) ∧
    (∀ (Z : jdL) (I : jdI) (J : jdJ) (rc rs : Nat) (x2 x4 : Int32) (u3 n9 k4 : Nat), ST t 21 20 Z0 I0 J0 Z I J → Z.2.1 t 21 = some u3 → x2.toInt = (n9 : Int) → n9 < E → x4.toInt = (k4 : Int) → k4 ≤ P.length → PLm I t P → gdM (MW w x1) (secB (pbs P) n9) = true → (I t 43).toInt = sumN (fun m => FG (MW w x1) (secB (pbs P) m)) (n9 + 1) → (∀ k, k < k4 → (I (t + 37) k).toInt = sumN (FB (MW w x1) (pbs P) k) (n9 + 1)) → (∀ k, k4 ≤ k → k < P.length → (I (t + 37) k).toInt = sumN (FB (MW w x1) (pbs P) k) n9) → (1024 - x2.toInt) * 40 + 15 - x4.toInt < (m : Int) → Jd G mX12_findWays (jdFm G Q) (n + 12) rc rs 196 [(0, .ref (gb G + t)), (1, .int x1), (2, .int x2), (3, .ref (gb G + u3)), (4, .int x4)] [] Z I J) := by
  have spw := sh_pow ⟨P.length, by omega⟩
  have spw1 : ((1 : Int32) <<< (Int32.ofNat P.length &&& 31)).toInt = (E : Int) := by rw [hE]; exact spw.1
  have hE1 : E ≤ 1024 := by
    rw [hE]
    have e10 : 2 ^ P.length ≤ 2 ^ 10 := Nat.pow_le_pow_right (by decide) hP10
    exact e10
  intro m
  induction m with
  | zero =>
    refine ⟨fun Z I J rc rs x2 n9 hS h1 h2 h3 h4 hp hy hm => ?_, fun Z I J rc rs x2 x4 u3 n9 k4 wc hS hu hU h3 h4 h5 h6 hp hy hr hr1 hr2 hf hm => ?_, fun Z I J rc rs x2 x4 u3 n9 k4 hS hu h3 h4 h5 h6 hp hg hy hy1 hy2 hm => ?_⟩ <;> omega
  | succ m ih =>
    have q1 : (1 : Int32).toInt = 1 := rfl
    have q0 : (0 : Int32).toInt = 0 := rfl
    refine ⟨fun Z I J rc rs x2 n9 hS h1 h2 h3 h4 hp hy hm => ?_, fun Z I J rc rs x2 x4 u3 n9 k4 wc hS hu hU h3 h4 h5 h6 hp hy hr hr1 hr2 hf hm => ?_, fun Z I J rc rs x2 x4 u3 n9 k4 hS hu h3 h4 h5 h6 hp hg hy hy1 hy2 hm => ?_⟩
    · have hfW := WM_f hS.1.2.1
      have hp1 := hp.1
      have e42 : I t 42 = Int32.ofNat P.length := by
        have e := i32_ofNat (x := I t 42) (by omega)
        rw [show (I t 42).toInt.toNat = P.length by omega] at e
        exact e
      have hF := hS.2.2.2.2.1
      have hwt : RM I t w := RM_fr hw0 (by omega) hF (by omega) (by omega) (by omega) (by intro a k h1 h2 h3 h4; omega)
      have hMs := hS.1.2.2.1
      refine rX12_findWays_114 hS.1.1 ⟨fun hc => ?_, fun hc => ?_⟩
      · have hc := Int32.le_iff_toInt_le.mp hc
        rw [e42, spw1] at hc
        rw [show n9 = E by omega] at hy
        exact hQ _ _ _ hS hp hy
      · have hc := mt Int32.le_iff_toInt_le.mpr hc
        rw [e42, spw1] at hc
        refine ⟨fC Z t, fS Z t, 0, 0, h1, h2, ?_⟩
        refine qX12_fresh hG hS.1 (fun u Z1 I1 J1 hS1 hu c0 c2 c3 hU hF1 hC1 => ⟨u, rfl, hS1.1.1, c0, ?_⟩)
        exact ih.2.1 Z1 I1 J1 0 0 x2 0 u n9 0 w (ST.tr hS hS1) hu hU h3 (by omega) rfl (by omega) (PLm_fr hp hF1 (by omega) (by intro k; omega) (by intro k; omega)) (WYm_fr hy hF1 (by omega) (by intro k; omega)) (RM_cm hwt (by omega) hC1) rfl rfl (by rw [List.drop_zero, Nat.pow_zero, Nat.div_one]) (by omega)
    · have hfW := WM_f hS.1.2.1
      have hp1 := hp.1
      obtain ⟨c0, c1, c2, c3⟩ := hS.1.2.2.2.2.2.1 u3 hu
      have hfc := fC_some hu
      have e2 := i32_add x2 1 (by omega) (by omega)
      have e4 := i32_add x4 1 (by omega) (by omega)
      have n4 := tn_eq x4
      refine rX12_findWays_132 hS.1.1 c0 ⟨fun hc => ?_, fun hc => ?_⟩
      · have hc := Int32.le_iff_toInt_le.mp hc
        rw [List.drop_eq_nil_of_le (show P.length ≤ k4 by omega)] at hf
        have hf : wc = foldT P n9 w := hf
        have gi := gd_iff (x1 := x1) (P := P) (n := n9) hb hP
        rw [← hf] at gi
        refine pX12_groupsOf c0 hU (GM_RM hr (by omega) (by omega)) (by omega) (by omega) (fun I1 hW1 hF1 => ?_)
        have hS1 := ST_u hS hu (WM_mono hW1 (by decide)) hF1 (by intro a k h; omega)
        have hp2 : PLm I1 t P := PLm_fr hp hF1 (by omega) (by intro k; omega) (by intro k; omega)
        have hy2 : WYm I1 t (MW w x1) P n9 := WYm_fr hy hF1 (by omega) (by intro k; omega)
        refine ⟨fun hv => ?_, fun hv => ?_⟩
        · have hg : gdM (MW w x1) (secB (pbs P) n9) = false := Bool.eq_false_iff.mpr (fun z => hv (gi.mpr z))
          refine ih.1 Z I1 J rc rs (x2 + 1) (n9 + 1) hS1 (by omega) (by omega) (by omega) (by omega) hp2 ⟨?_, fun k hk => ?_⟩ (by omega)
          · show _ = sumN (fun m => FG (MW w x1) (secB (pbs P) m)) n9 + FG (MW w x1) (secB (pbs P) n9)
            rw [show FG (MW w x1) (secB (pbs P) n9) = 0 from if_neg (by rw [hg]; decide), Int.add_zero]
            exact hy2.1
          · show _ = sumN (FB (MW w x1) (pbs P) k) n9 + FB (MW w x1) (pbs P) k n9
            rw [show FB (MW w x1) (pbs P) k n9 = 0 from if_neg (fun y => by rw [hg] at y; exact absurd y.1 (by decide)), Int.add_zero]
            exact hy2.2 k hk
        · have hg : gdM (MW w x1) (secB (pbs P) n9) = true := gi.mp hv
          have b43 := sumN_b (F := fun m => FG (MW w x1) (secB (pbs P) m)) (fun m => FG_b _ _) n9
          have h43 := hy2.1
          have e43 := i32_add (I1 t 43) 1 (by omega) (by omega)
          have hW2 : WM 7 t (uI I1 t 43 ((I1 t 43) + 1)) := WM_uI hS1.1.2.1 (by first | exact okMo (by decide) (by decide) (by decide) (by decide) (by decide) | exact okMf (by decide) (by decide) (by decide) (by decide) (by decide) (by decide) (by decide) (by decide) | exact okM30 (by omega) | exact okM42 (by omega) | exact okM33 (by omega) | exact okM10 (by omega) | exact okM8 (by omega) | exact okM22 (by omega) | exact okM24 (by omega) | exact okM14 (by omega) | exact okMa31 (by omega) | exact okMa35 (by omega) | exact okMa36 (by omega) | exact okMa3 (by omega) | exact okMr (by omega) | (unfold okM; refine ⟨?_, ?_, ?_, ?_, ?_, ?_, ?_, ?_, ?_, ?_, ?_, ?_⟩ <;> intro h <;> omega))
          have f2 : Fr (fun a k => a = t ∧ k = 43) I1 (uI I1 t 43 ((I1 t 43) + 1)) := Fr_uI Fr.rf ⟨rfl, rfl⟩
          have hS2 := ST_t hS1 hW2 f2 (by intro a k h; omega)
          refine ih.2.2 Z _ J rc rs x2 0 u3 n9 0 hS2 hu h3 h4 rfl (by omega) (PLm_fr hp2 f2 (by omega) (by intro k; omega) (by intro k; omega)) hg ?_ (fun k hk => by omega) (fun k _ hk => ?_) (by omega)
          · rw [uI_ap, if_pos ⟨rfl, rfl⟩, e43, h43, q1]
            show _ = sumN (fun m => FG (MW w x1) (secB (pbs P) m)) n9 + FG (MW w x1) (secB (pbs P) n9)
            rw [show FG (MW w x1) (secB (pbs P) n9) = 1 from if_pos hg]
          · rw [f2 (t + 37) k (by omega)]
            exact hy2.2 k hk
      · have hc := mt Int32.le_iff_toInt_le.mpr hc
        have hk : k4 < P.length := by omega
        have hx : P[k4]? = some P[k4] := List.getElem?_eq_getElem hk
        have hxm := hP P[k4] (List.getElem_mem hk)
        rw [List.drop_eq_getElem_cons hk] at hf
        have e35 := LiS_mp hp.2.1 hx
        have e36 := LiS_mp hp.2.2 hx
        have bb := bt_tb (k := k4) h3 (by omega)
        rw [Nat.testBit_eq_decide_div_mod_eq] at bb
        have bi := bt_iff x2 (x := x4) (by omega)
        rw [show x4.toInt.toNat = k4 by omega, bb, decide_eq_true_iff] at bi
        have ed : n9 / 2 ^ k4 / 2 = n9 / 2 ^ (k4 + 1) := by rw [Nat.div_div_eq_div_mul, Nat.pow_succ]
        have et : Int32.toNatClampNeg x4 = k4 := by omega
        refine ⟨fun hv => ?_, fun hv => ⟨vp_of (by omega) (by omega), vp_of (by omega) (by omega), ?_⟩⟩
        · rw [fold_n (fun z => bi.mp z hv), ed] at hf
          exact ih.2.1 Z I J rc rs x2 (x4 + 1) u3 n9 (k4 + 1) wc hS hu hU h3 h4 (by omega) (by omega) hp hy hr hr1 hr2 hf (by omega)
        · rw [fold_y (bi.mpr hv), ed] at hf
          rw [et, e35, e36]
          have o1 : (Int32.ofNat P[k4].1).toInt = (P[k4].1 : Nat) := ofN_i (by omega)
          have o2 : (Int32.ofNat P[k4].2).toInt = (P[k4].2 : Nat) := ofN_i (by omega)
          refine pX12_knows c0 hU hr (by omega) (by omega) (fun I5 hW5 hF5 r5 => ?_)
          have m1 : Int32.toNatClampNeg (Int32.ofNat P[k4].1) = P[k4].1 := by rw [tn_eq]; omega
          have m2 : Int32.toNatClampNeg (Int32.ofNat P[k4].2) = P[k4].2 := by rw [tn_eq]; omega
          rw [m1, m2] at r5
          exact ih.2.1 Z I5 J rc rs x2 (x4 + 1) u3 n9 (k4 + 1) (tieT wc P[k4].1 P[k4].2 0) (ST_u hS hu (WM_mono hW5 (by decide)) hF5 (by intro a k h; omega)) hu hW5 h3 h4 (by omega) (by omega) (PLm_fr hp hF5 (by omega) (by intro k; omega) (by intro k; omega)) (WYm_fr hy hF5 (by omega) (by intro k; omega)) r5 hr1 hr2 hf (by omega)
    · have hfW := WM_f hS.1.2.1
      have hp1 := hp.1
      have hfc := fC_some hu
      have e2 := i32_add x2 1 (by omega) (by omega)
      have e4 := i32_add x4 1 (by omega) (by omega)
      have n4 := tn_eq x4
      refine rX12_findWays_196 hS.1.1 ⟨fun hc => ?_, fun hc => ?_⟩
      · have hc := Int32.le_iff_toInt_le.mp hc
        exact ih.1 Z I J rc rs (x2 + 1) (n9 + 1) hS (by omega) (by omega) (by omega) (by omega) hp ⟨hy, fun k hk => hy1 k (by omega)⟩ (by omega)
      · have hc := mt Int32.le_iff_toInt_le.mpr hc
        have et : Int32.toNatClampNeg x4 = k4 := by omega
        have e4i : x4 = Int32.ofNat k4 := by
          have e := i32_ofNat (x := x4) (by omega)
          rw [show x4.toInt.toNat = k4 by omega] at e
          exact e
        have sb := sh_b x2 k4
        rw [bt_tb h3 (show k4 < 32 by omega)] at sb
        have bk := sumN_b (F := FB (MW w x1) (pbs P) k4) (fun m => FB_b _ _ _ _) n9
        have hk2 := hy2 k4 (Nat.le_refl _) (by omega)
        have zk : FB (MW w x1) (pbs P) k4 n9 = if n9.testBit k4 = true then 1 else 0 := by
          unfold FB
          by_cases c : n9.testBit k4 = true
          · rw [if_pos c, if_pos ⟨hg, c⟩]
          · rw [if_neg c, if_neg (fun y => c y.2)]
        have zb := FB_b (MW w x1) (pbs P) k4 n9
        rw [← zk] at sb
        refine ⟨vp_of (by omega) (by omega), vp_of (by omega) (by omega), ?_⟩
        have f2 : Fr (fun a _ => a = t + 37) I (uI I (t + 37) (Int32.toNatClampNeg x4) ((I (t + 37) (Int32.toNatClampNeg x4)) + ((x2 >>> (x4 &&& 31)) &&& 1))) := Fr_uI Fr.rf rfl
        refine ih.2.2 Z _ J rc rs x2 (x4 + 1) u3 n9 (k4 + 1) (ST_t hS (WM_uI hS.1.2.1 (by first | exact okMo (by decide) (by decide) (by decide) (by decide) (by decide) | exact okMf (by decide) (by decide) (by decide) (by decide) (by decide) (by decide) (by decide) (by decide) | exact okM30 (by omega) | exact okM42 (by omega) | exact okM33 (by omega) | exact okM10 (by omega) | exact okM8 (by omega) | exact okM22 (by omega) | exact okM24 (by omega) | exact okM14 (by omega) | exact okMa31 (by omega) | exact okMa35 (by omega) | exact okMa36 (by omega) | exact okMa3 (by omega) | exact okMr (by omega) | (unfold okM; refine ⟨?_, ?_, ?_, ?_, ?_, ?_, ?_, ?_, ?_, ?_, ?_, ?_⟩ <;> intro h <;> omega))) f2 (by intro a k h; omega)) hu h3 h4 (by omega) (by omega) (PLm_fr hp f2 (by omega) (by intro k; omega) (by intro k; omega)) hg (by rw [f2 t 43 (by omega)]; exact hy) (fun k hk => ?_) (fun k hk1 hk3 => ?_) (by omega)
        · rw [uI_ap]
          by_cases c : k = k4
          · rw [if_pos ⟨rfl, by omega⟩, et, e4i, i32_add _ _ (by omega) (by omega), sb, hk2, c]
            rfl
          · rw [if_neg (by omega)]
            exact hy1 k (by omega)
        · rw [uI_ap, if_neg (by omega)]
          exact hy2 k (by omega) hk3
/-! the list of pairs -/
def Dm (I : jdI) (t : Nat) (D : List (Nat × Nat)) : Prop := PLm I t D ∧ ∀ k, k < D.length → I (t + 37) k = 0
theorem Dm_push {I : jdI} {t p q : Nat} {D : List (Nat × Nat)} {x2 x3 : Int32} (h : Dm I t D) (h10 : D.length < 10) (h2 : x2 = Int32.ofNat p) (h3 : x3 = Int32.ofNat q) : Dm (uI (uI (uI (uI I (t + 35) (Int32.toNatClampNeg (I t 42)) x2) (t + 36) (Int32.toNatClampNeg (I t 42)) x3) (t + 37) (Int32.toNatClampNeg (I t 42)) 0) t 42 ((I t 42) + 1)) t (D ++ [(p, q)]) := by
  obtain ⟨⟨p1, p2, p3⟩, p4⟩ := h
  have q1 : (1 : Int32).toInt = 1 := rfl
  have e5 := i32_add (I t 42) 1 (by omega) (by omega)
  have et : Int32.toNatClampNeg (I t 42) = D.length := by rw [tn_eq]; omega
  rw [et]
  have F1 : Fr (fun a _ => a = t + 35) I (uI I (t + 35) D.length x2) := Fr_uI Fr.rf rfl
  have a1 := LiS_push (x := x2) p2 (show D.length = (D.map (fun x => Int32.ofNat x.1)).length by rw [List.length_map])
  have a2 := LiS_fr p3 F1 (by intro k; omega)
  generalize uI I (t + 35) D.length x2 = I1 at F1 a1 a2 ⊢
  have F2 : Fr (fun a _ => a = t + 36) I1 (uI I1 (t + 36) D.length x3) := Fr_uI Fr.rf rfl
  have b1 := LiS_fr a1 F2 (by intro k; omega)
  have b2 := LiS_push (x := x3) a2 (show D.length = (D.map (fun x => Int32.ofNat x.2)).length by rw [List.length_map])
  generalize uI I1 (t + 36) D.length x3 = I2 at F2 b1 b2 ⊢
  have F3 : Fr (fun a _ => a = t + 37) I2 (uI I2 (t + 37) D.length 0) := Fr_uI Fr.rf rfl
  have g1 := LiS_fr b1 F3 (by intro k; omega)
  have g2 := LiS_fr b2 F3 (by intro k; omega)
  have g3 : ∀ k, k < (D ++ [(p, q)]).length → (uI I2 (t + 37) D.length 0) (t + 37) k = 0 := fun k hk => by
    rw [List.length_append, List.length_singleton] at hk
    rw [uI_ap]
    by_cases c : k = D.length
    · rw [if_pos ⟨rfl, c⟩]
    · rw [if_neg (fun z => c z.2), F2 (t + 37) k (by omega), F1 (t + 37) k (by omega)]
      exact p4 k (by omega)
  generalize uI I2 (t + 37) D.length 0 = I3 at F3 g1 g2 g3 ⊢
  have F4 : Fr (fun a k => a = t ∧ k = 42) I3 (uI I3 t 42 ((I t 42) + 1)) := Fr_uI Fr.rf ⟨rfl, rfl⟩
  refine ⟨⟨?_, ?_, ?_⟩, fun k hk => by rw [F4 (t + 37) k (by omega)]; exact g3 k hk⟩
  · rw [uI_ap, if_pos ⟨rfl, rfl⟩, List.length_append, List.length_singleton]
    omega
  · rw [List.map_append]
    have z := LiS_fr g1 F4 (by intro k; omega)
    rw [h2] at z
    exact z
  · rw [List.map_append]
    have z := LiS_fr g2 F4 (by intro k; omega)
    rw [h3] at z
    exact z
theorem pqX12_findWays_a {G : jdG} {n rc rs : Nat} {Z0 Z : jdL} {I0 : jdI} {J0 J : jdJ} {Q : jdQ} {t : Nat} {w : Tw} {x1 : Int32} {sA sV : Nat → Nat} (hrc : fC Z t ≤ rc) (hrs : fS Z t ≤ rs) (hG : gOK G sA sV) (hw0 : RM I0 t w) (hZ0 : t + 38 ≤ Z0.2.2) (hb : (0 ≤ w.1 ∧ w.1 ≤ 7) ∧ 2 ≤ w.2.2.2.1 ∧ w.2.2.2.1 ≤ 4) (hQ : ∀ (Z2 : jdL) (I2 : jdI) (J2 : jdJ), ST t 21 20 Z0 I0 J0 Z2 I2 J2 → PLm I2 t (prP (fG (relW w) x1) w.1.toNat) → WYm I2 t (MW w x1) (prP (fG (relW w) x1) w.1.toNat) (2 ^ (prP (fG (relW w) x1) w.1.toNat).length) → (prP (fG (relW w) x1) w.1.toNat).length ≤ 10 → Q none Z2 I2 J2) : ∀ m : Nat,
    (∀ (I : jdI) (x2 : Int32) (D : List (Nat × Nat)), ST t 21 20 Z0 I0 J0 Z I J → 0 ≤ x2.toInt ∧ x2.toInt ≤ w.1 → (I t 42).toInt + ph x1 x2.toInt (x2.toInt + 1) ≤ 10 → Dm I t D → D ++ prO (fG (relW w) x1) w.1.toNat (w.1.toNat - x2.toInt.toNat) x2.toInt.toNat = prP (fG (relW w) x1) w.1.toNat → (7 - x2.toInt) * 10 < (m : Int) → Jd G mX12_findWays (jdFm G Q) (n + 12) rc rs 7 [(0, .ref (gb G + t)), (1, .int x1), (2, .int x2)] [] Z I J) ∧
    (∀ (I : jdI) (x2 x3 : Int32) (D : List (Nat × Nat)), ST t 21 20 Z0 I0 J0 Z I J → 0 ≤ x2.toInt ∧ x2.toInt < w.1 → x2.toInt < x3.toInt ∧ x3.toInt ≤ w.1 → (I t 42).toInt + ph x1 x2.toInt x3.toInt ≤ 10 → Dm I t D → D ++ (prI (fG (relW w) x1) x2.toInt.toNat (w.1.toNat - x3.toInt.toNat) x3.toInt.toNat ++ prO (fG (relW w) x1) w.1.toNat (w.1.toNat - (x2.toInt.toNat + 1)) (x2.toInt.toNat + 1)) = prP (fG (relW w) x1) w.1.toNat → (7 - x2.toInt) * 10 - x3.toInt < (m : Int) → Jd G mX12_findWays (jdFm G Q) (n + 12) rc rs 19 [(0, .ref (gb G + t)), (1, .int x1), (2, .int x2), (3, .int x3)] [] Z I J) := by
  intro m
  induction m with
  | zero =>
    refine ⟨fun I x2 D hS h2 h3 hD hr hm => ?_, fun I x2 x3 D hS h2 h3 h4 hD hr hm => ?_⟩ <;> omega
  | succ m ih =>
    have q1 : (1 : Int32).toInt = 1 := rfl
    have q0 : (0 : Int32).toInt = 0 := rfl
    refine ⟨fun I x2 D hS h2 h3 hD hr hm => ?_, fun I x2 x3 D hS h2 h3 h4 hD hr hm => ?_⟩
    · have hf := WM_f hS.1.2.1
      have hF := hS.2.2.2.2.1
      have hwt : RM I t w := RM_fr hw0 (by omega) hF (by omega) (by omega) (by omega) (by intro a k h1 h2 h3 h4; omega)
      have hN := hwt.1
      have e1 := i32_add x2 1 (by omega) (by omega)
      have e1' : (x2 + 1).toInt = x2.toInt + 1 := by omega
      refine rX12_findWays_7 hS.1.1 ⟨fun hc => ?_, fun hc => ?_⟩
      · have hc := Int32.le_iff_toInt_le.mp hc
        rw [show w.1.toNat - x2.toInt.toNat = 0 by omega] at hr
        have hr : D ++ [] = prP (fG (relW w) x1) w.1.toNat := hr
        rw [List.append_nil] at hr
        rw [hr] at hD
        have hl := hD.1.1
        have hW2 : WM 7 t (uI I t 43 0) := WM_uI hS.1.2.1 (by first | exact okMo (by decide) (by decide) (by decide) (by decide) (by decide) | exact okMf (by decide) (by decide) (by decide) (by decide) (by decide) (by decide) (by decide) (by decide) | exact okM30 (by omega) | exact okM42 (by omega) | exact okM33 (by omega) | exact okM10 (by omega) | exact okM8 (by omega) | exact okM22 (by omega) | exact okM24 (by omega) | exact okM14 (by omega) | exact okMa31 (by omega) | exact okMa35 (by omega) | exact okMa36 (by omega) | exact okMa3 (by omega) | exact okMr (by omega) | (unfold okM; refine ⟨?_, ?_, ?_, ?_, ?_, ?_, ?_, ?_, ?_, ?_, ?_, ?_⟩ <;> intro h <;> omega))
        have f2 : Fr (fun a k => a = t ∧ k = 43) I (uI I t 43 0) := Fr_uI Fr.rf ⟨rfl, rfl⟩
        refine (pqX12_findWays_b (x1 := x1) (P := prP (fG (relW w) x1) w.1.toNat) (E := 2 ^ (prP (fG (relW w) x1) w.1.toNat).length) hG hw0 hZ0 hb (fun x hx => ?_) (by omega) rfl (fun Z2 I2 J2 a b c => hQ Z2 I2 J2 a b c (by omega)) (1024 * 40 + 36)).1 Z _ J rc rs 0 0 (ST_t hS hW2 f2 (by intro a k h; omega)) hrc hrs rfl (Nat.zero_le _) (PLm_fr hD.1 f2 (by omega) (by intro k; omega) (by intro k; omega)) ⟨?_, fun k hk => ?_⟩ (by decide)
        · have z := prP_mem.mp hx
          have z3 : (bt x1 x.1 && (bt x1 x.2 && relW w x.1 x.2)) = true := z.2.2
          rw [Bool.and_eq_true, Bool.and_eq_true] at z3
          exact ⟨z.1, z.2.1, z3.2.2⟩
        · rw [uI_ap, if_pos ⟨rfl, rfl⟩]
          rfl
        · rw [f2 (t + 37) k (by omega), hD.2 k hk]
          rfl
      · have hc := mt Int32.le_iff_toInt_le.mpr hc
        rw [show w.1.toNat - x2.toInt.toNat = (w.1.toNat - (x2.toInt.toNat + 1)) + 1 by omega] at hr
        have hr : D ++ (prI (fG (relW w) x1) x2.toInt.toNat (w.1.toNat - (x2.toInt.toNat + 1)) (x2.toInt.toNat + 1) ++ prO (fG (relW w) x1) w.1.toNat (w.1.toNat - (x2.toInt.toNat + 1)) (x2.toInt.toNat + 1)) = prP (fG (relW w) x1) w.1.toNat := hr
        exact ih.2 I x2 (x2 + 1) D hS (by omega) (by omega) (by rw [e1']; exact h3) hD (by rw [show (x2 + 1).toInt.toNat = x2.toInt.toNat + 1 by omega]; exact hr) (by omega)
    · have hf := WM_f hS.1.2.1
      have hF := hS.2.2.2.2.1
      have hwt : RM I t w := RM_fr hw0 (by omega) hF (by omega) (by omega) (by omega) (by intro a k h1 h2 h3 h4; omega)
      have hN := hwt.1
      have e1 := i32_add x2 1 (by omega) (by omega)
      have e1' : (x2 + 1).toInt = x2.toInt + 1 := by omega
      have e2 := i32_add x3 1 (by omega) (by omega)
      have e2' : (x3 + 1).toInt = x3.toInt + 1 := by omega
      have hl1 := ph_le x1 x2.toInt x3.toInt (x2.toInt + 1) (x2.toInt + 1 + 1) (by omega)
      have hl2 := ph_le x1 x2.toInt x3.toInt x2.toInt (x3.toInt + 1) (by omega)
      have hl3 := ph_nn x1 x2.toInt (x3.toInt + 1)
      have n2 := tn_eq x2
      have n3 := tn_eq x3
      refine rX12_findWays_19 hS.1.1 ⟨fun hc => ?_, fun hc => ?_⟩
      · have hc := Int32.le_iff_toInt_le.mp hc
        rw [show w.1.toNat - x3.toInt.toNat = 0 by omega] at hr
        have hr : D ++ prO (fG (relW w) x1) w.1.toNat (w.1.toNat - (x2.toInt.toNat + 1)) (x2.toInt.toNat + 1) = prP (fG (relW w) x1) w.1.toNat := hr
        exact ih.1 I (x2 + 1) D hS (by omega) (by rw [e1']; omega) hD (by rw [show (x2 + 1).toInt.toNat = x2.toInt.toNat + 1 by omega]; exact hr) (by omega)
      · have hc := mt Int32.le_iff_toInt_le.mpr hc
        rw [show w.1.toNat - x3.toInt.toNat = (w.1.toNat - (x3 + 1).toInt.toNat) + 1 by omega] at hr
        have en : x3.toInt.toNat + 1 = (x3 + 1).toInt.toNat := by omega
        have nx : ¬ fG (relW w) x1 x2.toInt.toNat x3.toInt.toNat = true → Jd G mX12_findWays (jdFm G Q) (n + 12) rc rs 19 [(0, .ref (gb G + t)), (1, .int x1), (2, .int x2), (3, .int (x3 + 1))] [] Z I J := fun hn => by
          rw [show prI (fG (relW w) x1) x2.toInt.toNat ((w.1.toNat - (x3 + 1).toInt.toNat) + 1) x3.toInt.toNat = prI (fG (relW w) x1) x2.toInt.toNat (w.1.toNat - (x3 + 1).toInt.toNat) (x3.toInt.toNat + 1) from if_neg hn, en] at hr
          exact ih.2 I x2 (x3 + 1) D hS h2 (by omega) (by rw [e2']; omega) hD hr (by omega)
        have b2 := bt_iff x1 (x := x2) h2.1
        have b3 := bt_iff x1 (x := x3) (by omega)
        have bt9 := hwt.2.2.2.2 x2.toInt.toNat x3.toInt.toNat (by omega) (by omega) (by omega)
        have ef : fG (relW w) x1 x2.toInt.toNat x3.toInt.toNat = (bt x1 x2.toInt.toNat && (bt x1 x3.toInt.toNat && relW w x2.toInt.toNat x3.toInt.toNat)) := rfl
        refine sfX12_has trivial (fun v2 hp2 => ⟨fun hc2 => nx (fun z => ?_), fun hc2 => ?_⟩)
        · have hc2 := i0 hc2
          rw [ef, Bool.and_eq_true] at z
          exact b2.mp z.1 (Int32.toInt_inj.mp (show _ = (0 : Int32).toInt by omega))
        have hc2 := i1 hc2
        refine sfX12_has trivial (fun v4 hp4 => ⟨fun hc4 => nx (fun z => ?_), fun hc4 => ?_⟩)
        · have hc4 := i0 hc4
          rw [ef, Bool.and_eq_true, Bool.and_eq_true] at z
          exact b3.mp z.2.1 (Int32.toInt_inj.mp (show _ = (0 : Int32).toInt by omega))
        have hc4 := i1 hc4
        have et : Int32.toNatClampNeg x2 = x2.toInt.toNat := by omega
        have et3 : Int32.toNatClampNeg x3 = x3.toInt.toNat := by omega
        refine ⟨vp_of (by omega) (by omega), vp_of (by omega) (by omega), fun hv => nx (fun z => ?_), fun hv => ?_⟩
        · rw [et, et3, bt9] at hv
          rw [ef, Bool.and_eq_true, Bool.and_eq_true] at z
          exact hv (of_decide_eq_true z.2.2)
        rw [et, et3, bt9] at hv
        have y2 : bt x1 x2.toInt.toNat = true := b2.mpr (fun q => by rw [q] at hp2; omega)
        have y3 : bt x1 x3.toInt.toNat = true := b3.mpr (fun q => by rw [q] at hp4; omega)
        have hy : fG (relW w) x1 x2.toInt.toNat x3.toInt.toNat = true := by
          rw [ef, y2, y3, show relW w x2.toInt.toNat x3.toInt.toNat = true from decide_eq_true hv]
          rfl
        have hh := ph_hit (s := x1) h2.1 h3.1 (by omega) (by omega) (by omega)
        have hl := hD.1.1
        refine ⟨vp_of (by omega) (by omega), vp_of (by omega) (by omega), vp_of (by omega) (by omega), ?_⟩
        have w1 : WM 7 t (uI I (t + 35) (Int32.toNatClampNeg (I t 42)) x2) := WM_uI hS.1.2.1 (by first | exact okMo (by decide) (by decide) (by decide) (by decide) (by decide) | exact okMf (by decide) (by decide) (by decide) (by decide) (by decide) (by decide) (by decide) (by decide) | exact okM30 (by omega) | exact okM42 (by omega) | exact okM33 (by omega) | exact okM10 (by omega) | exact okM8 (by omega) | exact okM22 (by omega) | exact okM24 (by omega) | exact okM14 (by omega) | exact okMa31 (by omega) | exact okMa35 (by omega) | exact okMa36 (by omega) | exact okMa3 (by omega) | exact okMr (by omega) | (unfold okM; refine ⟨?_, ?_, ?_, ?_, ?_, ?_, ?_, ?_, ?_, ?_, ?_, ?_⟩ <;> intro h <;> omega))
        have f1 : Fr (fun a k => (a = t ∧ 20 ≤ k) ∨ (t + 29 ≤ a ∧ a ≤ t + 37)) I (uI I (t + 35) (Int32.toNatClampNeg (I t 42)) x2) := Fr_uI Fr.rf (by omega)
        have w2 := WM_uI (id := t + 36) (k := Int32.toNatClampNeg (I t 42)) (v := x3) w1 (by first | exact okMo (by decide) (by decide) (by decide) (by decide) (by decide) | exact okMf (by decide) (by decide) (by decide) (by decide) (by decide) (by decide) (by decide) (by decide) | exact okM30 (by omega) | exact okM42 (by omega) | exact okM33 (by omega) | exact okM10 (by omega) | exact okM8 (by omega) | exact okM22 (by omega) | exact okM24 (by omega) | exact okM14 (by omega) | exact okMa31 (by omega) | exact okMa35 (by omega) | exact okMa36 (by omega) | exact okMa3 (by omega) | exact okMr (by omega) | (unfold okM; refine ⟨?_, ?_, ?_, ?_, ?_, ?_, ?_, ?_, ?_, ?_, ?_, ?_⟩ <;> intro h <;> omega))
        have f2 := Fr_uI (id := t + 36) (k := Int32.toNatClampNeg (I t 42)) (v := x3) f1 (by omega)
        have w3 := WM_uI (id := t + 37) (k := Int32.toNatClampNeg (I t 42)) (v := 0) w2 (by first | exact okMo (by decide) (by decide) (by decide) (by decide) (by decide) | exact okMf (by decide) (by decide) (by decide) (by decide) (by decide) (by decide) (by decide) (by decide) | exact okM30 (by omega) | exact okM42 (by omega) | exact okM33 (by omega) | exact okM10 (by omega) | exact okM8 (by omega) | exact okM22 (by omega) | exact okM24 (by omega) | exact okM14 (by omega) | exact okMa31 (by omega) | exact okMa35 (by omega) | exact okMa36 (by omega) | exact okMa3 (by omega) | exact okMr (by omega) | (unfold okM; refine ⟨?_, ?_, ?_, ?_, ?_, ?_, ?_, ?_, ?_, ?_, ?_, ?_⟩ <;> intro h <;> omega))
        have f3 := Fr_uI (id := t + 37) (k := Int32.toNatClampNeg (I t 42)) (v := 0) f2 (by omega)
        have e5 := i32_add (I t 42) 1 (by omega) (by omega)
        have w4 := WM_uI (id := t) (k := 42) (v := (I t 42) + 1) w3 (by first | exact okMo (by decide) (by decide) (by decide) (by decide) (by decide) | exact okMf (by decide) (by decide) (by decide) (by decide) (by decide) (by decide) (by decide) (by decide) | exact okM30 (by omega) | exact okM42 (by omega) | exact okM33 (by omega) | exact okM10 (by omega) | exact okM8 (by omega) | exact okM22 (by omega) | exact okM24 (by omega) | exact okM14 (by omega) | exact okMa31 (by omega) | exact okMa35 (by omega) | exact okMa36 (by omega) | exact okMa3 (by omega) | exact okMr (by omega) | (unfold okM; refine ⟨?_, ?_, ?_, ?_, ?_, ?_, ?_, ?_, ?_, ?_, ?_, ?_⟩ <;> intro h <;> omega))
        have f4 := Fr_uI (id := t) (k := 42) (v := (I t 42) + 1) f3 (by omega)
        have hD2 := Dm_push (p := x2.toInt.toNat) (q := x3.toInt.toNat) (x2 := x2) (x3 := x3) hD (by omega) (i32_ofNat h2.1) (i32_ofNat (by omega))
        rw [show prI (fG (relW w) x1) x2.toInt.toNat ((w.1.toNat - (x3 + 1).toInt.toNat) + 1) x3.toInt.toNat = (x2.toInt.toNat, x3.toInt.toNat) :: prI (fG (relW w) x1) x2.toInt.toNat (w.1.toNat - (x3 + 1).toInt.toNat) (x3.toInt.toNat + 1) from if_pos hy, en] at hr
        exact ih.2 _ x2 (x3 + 1) (D ++ [(x2.toInt.toNat, x3.toInt.toNat)]) (ST_t hS w4 f4 (by intro a k h; omega)) h2 (by omega) (by rw [uI_ap, if_pos ⟨rfl, rfl⟩, e2']; omega) hD2 (by rw [List.append_assoc]; exact hr) (by omega)
theorem pqX12_findWays {G : jdG} {n : Nat} {Z : jdL} {I : jdI} {J : jdJ} {Q : jdQ} {t : Nat} {w : Tw} {x1 : Int32} {sA sV : Nat → Nat} (hG : gOK G sA sV) (hM : MI Z I t) (hw : RM I t w) (h0 : 0 ≤ x1.toInt) (h1 : x1.toInt ≤ 127) (h5 : (bs x1 8).toInt ≤ 5) (hQ : ∀ (Z2 : jdL) (I2 : jdI) (J2 : jdJ), ST t 21 20 Z I J Z2 I2 J2 → PLm I2 t (prP (fG (relW w) x1) w.1.toNat) → (prP (fG (relW w) x1) w.1.toNat).length ≤ 10 → (I2 t 43).toInt = waW w x1 → (∀ (k : Nat) (x : Nat × Nat), (prP (fG (relW w) x1) w.1.toNat)[k]? = some x → (I2 (t + 37) k).toInt = knP w x1 x.1 x.2) → Q none Z2 I2 J2) : Cl G mX12_findWays (n + 12) (fC Z t) (fS Z t) [.ref (gb G + t), .int x1] Z I J Q := by
  have hf := WM_f hM.2.1
  have hb := RM_b hM.2.1 hw
  have q0 : (0 : Int32).toInt = 0 := rfl
  have w1 : WM 7 t (uI I t 42 0) := WM_uI hM.2.1 (by first | exact okMo (by decide) (by decide) (by decide) (by decide) (by decide) | exact okMf (by decide) (by decide) (by decide) (by decide) (by decide) (by decide) (by decide) (by decide) | exact okM30 (by omega) | exact okM42 (by omega) | exact okM33 (by omega) | exact okM10 (by omega) | exact okM8 (by omega) | exact okM22 (by omega) | exact okM24 (by omega) | exact okM14 (by omega) | exact okMa31 (by omega) | exact okMa35 (by omega) | exact okMa36 (by omega) | exact okMa3 (by omega) | exact okMr (by omega) | (unfold okM; refine ⟨?_, ?_, ?_, ?_, ?_, ?_, ?_, ?_, ?_, ?_, ?_, ?_⟩ <;> intro h <;> omega))
  have f1 : Fr (fun a k => a = t ∧ k = 42) I (uI I t 42 0) := Fr_uI Fr.rf ⟨rfl, rfl⟩
  have hS := ST_t (ST.rf (x := 21) (y := 20) (J := J) hM) w1 f1 (by intro a k h; omega)
  have hN7 : w.1.toNat ≤ 7 := by omega
  have hpm : (pbs (prP (fG (relW w) x1) w.1.toNat)).Perm (bits24 (opW w x1)) := pbs_bits hN7
  refine eX12_findWays hM.1 ?_
  have hw10 := wf_10 h0 h1 h5
  have hl := ph_le x1 0 0 0 1 (by omega)
  have h9 : ph x1 0 0 ≤ 10 := by
    unfold ph
    exact Int.ofNat_le.mpr hw10
  refine (pqX12_findWays_a (w := w) (x1 := x1) (Nat.le_refl _) (Nat.le_refl _) hG hw hM.2.2.1 hb (fun Z2 I2 J2 a b c d => hQ Z2 I2 J2 a b d ?_ (fun k x hk => ?_)) 71).1 _ 0 [] hS (by rw [q0]; omega) (by rw [uI_ap, if_pos ⟨rfl, rfl⟩, q0]; show 0 + ph x1 0 1 ≤ 10; omega) ⟨⟨by rw [uI_ap, if_pos ⟨rfl, rfl⟩]; rfl, LiS_nil _ _, LiS_nil _ _⟩, fun k hk => absurd hk (Nat.not_lt_zero _)⟩ rfl (by decide)
  · rw [c.1]
    have e := sum_cn0 (FG (MW w x1)) (pbs (prP (fG (relW w) x1) w.1.toNat))
    rw [show (pbs (prP (fG (relW w) x1) w.1.toNat)).length = (prP (fG (relW w) x1) w.1.toNat).length from List.length_map _] at e
    rw [e]
    exact cnL_perm hpm 0
  · obtain ⟨hk1, _⟩ := List.getElem?_eq_some_iff.mp hk
    rw [c.2 k hk1]
    have hkp : (pbs (prP (fG (relW w) x1) w.1.toNat))[k]? = some (pb x.1 x.2) := by
      unfold pbs
      rw [List.getElem?_map, hk]
      rfl
    have e := sum_cn0 (FK (MW w x1) (pb x.1 x.2)) (pbs (prP (fG (relW w) x1) w.1.toNat))
    rw [show (pbs (prP (fG (relW w) x1) w.1.toNat)).length = (prP (fG (relW w) x1) w.1.toNat).length from List.length_map _] at e
    have e2 : sumN (FB (MW w x1) (pbs (prP (fG (relW w) x1) w.1.toNat)) k) (2 ^ (prP (fG (relW w) x1) w.1.toNat).length) = sumN (fun m => FK (MW w x1) (pb x.1 x.2) (secB (pbs (prP (fG (relW w) x1) w.1.toNat)) m)) (2 ^ (prP (fG (relW w) x1) w.1.toNat).length) := sumN_c _ (fun m _ => by
      unfold FB FK
      rw [secB_at (pbs_lt hN7) (pbs_nd hN7) hkp])
    rw [e2, e]
    exact cnL_perm hpm 0
theorem cd_24 {x : Int32} (h : 0 ≤ x.toInt ∧ x.toInt < 256) : ∀ j, 8 + j ≤ 32 → cdN x (8 + j) = cdN x 8
  | 0, _ => rfl
  | j + 1, hj => by
    show cdN x (8 + j) + (if bt x (8 + j) = true then 1 else 0) = _
    rw [bt_hi h (by omega) (by omega), if_neg (by decide), Nat.add_zero]
    exact cd_24 h j (by omega)
theorem pqX12_sure_46 {G : jdG} {n rc rs : Nat} {Z : jdL} {I : jdI} {J : jdJ} {Q : jdQ} {t : Nat} {x1 : Int32} {P : List (Nat × Nat)} {kn : Nat → Nat → Int} {R : Int × Int} (hM : MI Z I t) (hP10 : P.length ≤ 10) (hPL : PLm I t P) (hP7 : ∀ x ∈ P, x.1 < x.2 ∧ x.2 < 7) (hV : ∀ (k : Nat) (x : Nat × Nat), P[k]? = some x → (I (t + 37) k).toInt = kn x.1 x.2) (hQ : ∀ v : Int32, v.toInt = R.1 → 0 ≤ v.toInt → Q (some (.int v)) Z I J) : ∀ f : Nat, ∀ (x2 x3 : Int32) (y : Nat × Nat), 0 ≤ x2.toInt → P[x2.toInt.toNat]? = some y → 0 ≤ x3.toInt → x3.toInt + (f : Int) = (P.length : Int) → bestL kn (P.drop x3.toInt.toNat) (10 * (y.1 : Int) + (y.2 : Int), kn y.1 y.2) = R → Jd G mX12_sure (jdFm G Q) (n + 13) rc rs 46 [(0, .ref (gb G + t)), (1, .int x1), (2, .int x2), (3, .int x3)] [] Z I J := by
  have hl := hPL.1
  intro f
  induction f with
  | zero =>
    intro x2 x3 y h2 hy h3 hf hr
    obtain ⟨hk, _⟩ := List.getElem?_eq_some_iff.mp hy
    have n2 := tn_eq x2
    have ym := hP7 y (List.mem_of_getElem? hy)
    have e35 := LiS_mp hPL.2.1 hy
    have e36 := LiS_mp hPL.2.2 hy
    have o1 : (Int32.ofNat y.1).toInt = (y.1 : Nat) := ofN_i (by omega)
    have o2 : (Int32.ofNat y.2).toInt = (y.2 : Nat) := ofN_i (by omega)
    have q10 : (10 : Int32).toInt = 10 := rfl
    rw [List.drop_eq_nil_of_le (show P.length ≤ x3.toInt.toNat by omega)] at hr
    have hr : (10 * (y.1 : Int) + (y.2 : Int), kn y.1 y.2) = R := hr
    refine rX12_sure_46 hM.1 ⟨fun _ => ⟨vp_of (by omega) (by omega), vp_of (by omega) (by omega), ?_⟩, fun h => absurd (Int32.le_iff_toInt_le.mpr (by omega)) h⟩
    rw [n2, e35, e36]
    have m1 : ((10 : Int32) * Int32.ofNat y.1).toInt = 10 * (y.1 : Int) := by
      have m0 := i32_mul 10 (Int32.ofNat y.1) (by rw [q10]; omega) (by rw [q10]; omega)
      rw [q10, o1] at m0
      exact m0
    have m2 := i32_add (10 * Int32.ofNat y.1) (Int32.ofNat y.2) (by omega) (by omega)
    exact hQ _ (by rw [← hr, m2, m1, o2]) (by omega)
  | succ f ih =>
    intro x2 x3 y h2 hy h3 hf hr
    obtain ⟨hk, _⟩ := List.getElem?_eq_some_iff.mp hy
    have n2 := tn_eq x2
    have n3 := tn_eq x3
    have q1 : (1 : Int32).toInt = 1 := rfl
    have e3 := i32_add x3 1 (by omega) (by omega)
    have hk3 : x3.toInt.toNat < P.length := by omega
    have hx : P[x3.toInt.toNat]? = some P[x3.toInt.toNat] := List.getElem?_eq_getElem hk3
    have en : x3.toInt.toNat + 1 = (x3 + 1).toInt.toNat := by omega
    rw [List.drop_eq_getElem_cons hk3] at hr
    have v2 := hV _ _ hy
    have v3 := hV _ _ hx
    refine rX12_sure_46 hM.1 ⟨fun h => by have := Int32.le_iff_toInt_le.mp h; omega, fun _ => ⟨vp_of (by omega) (by omega), vp_of (by omega) (by omega), fun c => ?_, fun c => ?_⟩⟩
    · rw [n2, n3] at c
      have c := Int32.le_iff_toInt_le.mp c
      rw [bestL_n (show kn P[x3.toInt.toNat].1 P[x3.toInt.toNat].2 ≤ kn y.1 y.2 by omega), en] at hr
      exact ih x2 (x3 + 1) y h2 hy (by omega) (by omega) hr
    · rw [n2, n3] at c
      have c := mt Int32.le_iff_toInt_le.mpr c
      rw [bestL_y (show ¬ kn P[x3.toInt.toNat].1 P[x3.toInt.toNat].2 ≤ kn y.1 y.2 by omega), en] at hr
      exact ih x3 (x3 + 1) P[x3.toInt.toNat] h3 hx (by omega) (by omega) hr
theorem pqX12_sure {G : jdG} {n : Nat} {Z : jdL} {I : jdI} {J : jdJ} {Q : jdQ} {t : Nat} {s : Sd} {x1 : Int32} {sA sV : Nat → Nat} (hG : gOK G sA sV) (hM : MI Z I t) (hs : TM I t s) (hQ : ∀ (v : Int32) (Z2 : jdL) (I2 : jdI) (J2 : jdJ), ST t 21 20 Z I J Z2 I2 J2 → v.toInt = oSure s.1 x1 → Q (some (.int v)) Z2 I2 J2) : Cl G mX12_sure (n + 13) (fC Z t) (fS Z t) [.ref (gb G + t), .int x1] Z I J Q := by
  have q5 : (5 : Int32).toInt = 5 := rfl
  have q0 : (0 : Int32).toInt = 0 := rfl
  have hb := RM_b hM.2.1 hs.1
  have p7 := pw7 ⟨s.1.1.toNat, by omega⟩
  have p7 : (2 : Int) ^ s.1.1.toNat ≤ 128 := p7
  refine eX12_sure hM.1 ?_
  refine pX12_isSet hM.1 hM.2.1 hs.1.1 (fun v hp => ⟨fun hc => ?_, fun hc => ?_⟩)
  · have hc := i0 hc
    exact sfX12_refuse hM.1 (by decide) hM.2.1 (by decide) (fun v5 I4 hW4 hF4 hp4 => hQ _ _ _ _ (ST_t (ST.rf hM) hW4 hF4 (by intro a k h; omega)) (hp4.trans (oSure_n (fun z => by have := z.1; omega)).symm))
  · have hc := i1 hc
    have e24 : cdN x1 24 = cdN x1 8 := cd_24 (x := x1) (by omega) 16 (by omega)
    have e8 : (bs x1 8).toInt = (cdN x1 8 : Int) := bs_cd x1 8 (Nat.le_refl _)
    refine sfX12_bits trivial (fun v6 hv6 => ⟨fun hc6 => ?_, fun hc6 => ?_⟩)
    · have hc6 := Int32.le_iff_toInt_le.mp hc6
      rw [hv6] at hc6
      have ok : secOk s.1 x1 := ⟨by omega, by omega⟩
      refine ⟨fC Z t, fS Z t, 0, 0, Nat.le_refl _, Nat.le_refl _, ?_⟩
      refine pqX12_findWays hG hM hs.1 (by omega) (by omega) (by omega) (fun Z2 I2 J2 hS hPL h10 _ hV => ⟨rfl, hS.1.1, fun c => ?_, fun c => ?_⟩)
      · have hl := hPL.1
        have c : ¬ (I2 t 42).toInt = 0 := fun z => c (Int32.toInt_inj.mp (z.trans q0.symm))
        have hk : 0 < (prP (fG (relW s.1) x1) s.1.1.toNat).length := by omega
        have hx : (prP (fG (relW s.1) x1) s.1.1.toNat)[0]? = some (prP (fG (relW s.1) x1) s.1.1.toNat)[0] := List.getElem?_eq_getElem hk
        have nn := kn_nn s.1 x1 (pb (prP (fG (relW s.1) x1) s.1.1.toNat)[0].1 (prP (fG (relW s.1) x1) s.1.1.toNat)[0].2)
        have e0 : bestL (knP s.1 x1) (prP (fG (relW s.1) x1) s.1.1.toNat) (-1, -1) = bestL (knP s.1 x1) ((prP (fG (relW s.1) x1) s.1.1.toNat).drop 1) (10 * ((prP (fG (relW s.1) x1) s.1.1.toNat)[0].1 : Int) + ((prP (fG (relW s.1) x1) s.1.1.toNat)[0].2 : Int), knP s.1 x1 (prP (fG (relW s.1) x1) s.1.1.toNat)[0].1 (prP (fG (relW s.1) x1) s.1.1.toNat)[0].2) := by
          have ed := List.drop_eq_getElem_cons hk
          rw [List.drop_zero] at ed
          refine (congrArg (fun L => bestL (knP s.1 x1) L (-1, -1)) ed).trans ?_
          exact bestL_y (fun z => by
            have z : knW s.1 x1 (pb (prP (fG (relW s.1) x1) s.1.1.toNat)[0].1 (prP (fG (relW s.1) x1) s.1.1.toNat)[0].2) ≤ -1 := z
            omega)
        refine pqX12_sure_46 (R := bestL (knP s.1 x1) (prP (fG (relW s.1) x1) s.1.1.toNat) (-1, -1)) hS.1 h10 hPL (fun x hx => ⟨(prP_mem.mp hx).1, by have := (prP_mem.mp hx).2.1; omega⟩) hV (fun v hv h0 => hQ v _ _ _ hS ?_) ((prP (fG (relW s.1) x1) s.1.1.toNat).length - 1) 0 1 _ (by decide) hx (by decide) (by show (1 : Int) + _ = _; omega) e0.symm
        have hv : v.toInt = suW s.1 x1 := hv
        rw [oSure_y ok, if_neg (by omega)]
        exact hv
      · have hl := hPL.1
        have c : (I2 t 42).toInt = 0 := by rw [c]; rfl
        have hnil : prP (fG (relW s.1) x1) s.1.1.toNat = [] := List.length_eq_zero_iff.mp (by omega)
        have hsu : suW s.1 x1 = -1 := by
          unfold suW
          rw [hnil]
          rfl
        exact sfX12_refuse hS.1.1 (by decide) hS.1.2.1 (by decide) (fun v5 I4 hW4 hF4 hp4 => hQ _ _ _ _ (ST_t hS hW4 hF4 (by intro a k h; omega)) (hp4.trans (by rw [oSure_y ok, if_pos hsu]; rfl)))
    · have hc6 := mt Int32.le_iff_toInt_le.mpr hc6
      rw [hv6] at hc6
      exact sfX12_refuse hM.1 (by decide) hM.2.1 (by decide) (fun v5 I4 hW4 hF4 hp4 => hQ _ _ _ _ (ST_t (ST.rf hM) hW4 hF4 (by intro a k h; omega)) (hp4.trans (oSure_n (fun z => by have := z.2; omega)).symm))
