/-! the pairs of strangers of a set as a mask -/
def pb (p q : Nat) : Nat := q * (q - 1) / 2 + p
def pmI (f : Nat → Nat → Bool) (q : Nat) : Nat → Int32 → Int32
  | 0, x => x
  | k + 1, x => if f k q = true then pmI f q k x ||| ((1 : Int32) <<< (Int32.ofNat (pb k q) &&& 31)) else pmI f q k x
def pmO (f : Nat → Nat → Bool) : Nat → Int32
  | 0 => 0
  | k + 1 => pmI f k k (pmO f k)
def fG (rel : Nat → Nat → Bool) (g : Int32) (p q : Nat) : Bool := bt g p && (bt g q && rel p q)
def pmG (rel : Nat → Nat → Bool) (N : Nat) (g : Int32) : Int32 := pmO (fG rel g) N
theorem pmI_y {f : Nat → Nat → Bool} {q k : Nat} {x : Int32} (h : f k q = true) : pmI f q (k + 1) x = pmI f q k x ||| ((1 : Int32) <<< (Int32.ofNat (pb k q) &&& 31)) := if_pos h
theorem pmI_n {f : Nat → Nat → Bool} {q k : Nat} {x : Int32} (h : ¬ f k q = true) : pmI f q (k + 1) x = pmI f q k x := if_neg h
theorem bt_32 : ∀ i : Fin 32, ∀ j : Fin 32, bt ((1 : Int32) <<< (Int32.ofNat j.val &&& 31)) i.val = decide (i.val = j.val) := by decide +kernel
theorem pb_lt : ∀ q : Fin 7, ∀ p : Fin 7, p.val < q.val → pb p.val q.val < 21 := by decide +kernel
theorem pb_in : ∀ q : Fin 7, ∀ p : Fin 7, ∀ q2 : Fin 7, ∀ p2 : Fin 7, p.val < q.val → p2.val < q2.val → pb p.val q.val = pb p2.val q2.val → p.val = p2.val ∧ q.val = q2.val := by decide +kernel
theorem pmI_bt {f : Nat → Nat → Bool} {q : Nat} {x : Int32} (hq : q < 7) {i : Nat} (hi : i < 32) : ∀ k, k ≤ q → (bt (pmI f q k x) i = true ↔ bt x i = true ∨ ∃ p, p < k ∧ f p q = true ∧ i = pb p q)
  | 0, _ => ⟨fun h => Or.inl h, fun h => by
      rcases h with h | ⟨p, h1, _⟩
      · exact h
      · exact absurd h1 (Nat.not_lt_zero _)⟩
  | k + 1, hk => by
    have ih := pmI_bt (f := f) (x := x) hq hi k (by omega)
    by_cases c : f k q = true
    · rw [pmI_y c, bt_or _ _ _ hi, bt_32 ⟨i, hi⟩ ⟨pb k q, Nat.lt_trans (pb_lt ⟨q, hq⟩ ⟨k, by omega⟩ (by show k < q; omega)) (by decide)⟩, Bool.or_eq_true_iff, ih]
      constructor
      · intro h
        rcases h with (h | ⟨p, h1, h2, h3⟩) | h
        · exact Or.inl h
        · exact Or.inr ⟨p, by omega, h2, h3⟩
        · exact Or.inr ⟨k, by omega, c, of_decide_eq_true h⟩
      · intro h
        rcases h with h | ⟨p, h1, h2, h3⟩
        · exact Or.inl (Or.inl h)
        · by_cases e : p = k
          · exact Or.inr (decide_eq_true (by show i = pb k q; rw [← e]; exact h3))
          · exact Or.inl (Or.inr ⟨p, by omega, h2, h3⟩)
    · rw [pmI_n c, ih]
      constructor
      · intro h
        rcases h with h | ⟨p, h1, h2, h3⟩
        · exact Or.inl h
        · exact Or.inr ⟨p, by omega, h2, h3⟩
      · intro h
        rcases h with h | ⟨p, h1, h2, h3⟩
        · exact Or.inl h
        · by_cases e : p = k
          · rw [e] at h2
            exact absurd h2 c
          · exact Or.inr ⟨p, by omega, h2, h3⟩
theorem pmO_bt {f : Nat → Nat → Bool} {i : Nat} (hi : i < 32) : ∀ k, k ≤ 7 → (bt (pmO f k) i = true ↔ ∃ p q, p < q ∧ q < k ∧ f p q = true ∧ i = pb p q)
  | 0, _ => ⟨fun h => (by
      have h : bt 0 i = true := h
      rw [bt_ze i hi] at h
      cases h), fun ⟨p, q, h1, h2, _⟩ => absurd h2 (Nat.not_lt_zero _)⟩
  | k + 1, hk => by
    have ih := pmO_bt (f := f) hi k (by omega)
    show bt (pmI f k k (pmO f k)) i = true ↔ _
    rw [pmI_bt (by omega) hi k (Nat.le_refl _), ih]
    constructor
    · intro h
      rcases h with ⟨p, q, h1, h2, h3, h4⟩ | ⟨p, h1, h2, h3⟩
      · exact ⟨p, q, h1, by omega, h3, h4⟩
      · exact ⟨p, k, h1, by omega, h2, h3⟩
    · intro ⟨p, q, h1, h2, h3, h4⟩
      by_cases e : q = k
      · rw [e] at h1 h3 h4
        exact Or.inr ⟨p, h1, h3, h4⟩
      · exact Or.inl ⟨p, q, h1, by omega, h3, h4⟩
theorem pmO_at {f : Nat → Nat → Bool} {N p q : Nat} (hN : N ≤ 7) (hp : p < q) (hq : q < N) : bt (pmO f N) (pb p q) = true ↔ f p q = true := by
  have hl := pb_lt ⟨q, by omega⟩ ⟨p, by omega⟩ hp
  have hl : pb p q < 21 := hl
  rw [pmO_bt (by omega) N hN]
  constructor
  · intro ⟨p2, q2, h1, h2, h3, h4⟩
    have e := pb_in ⟨q, by omega⟩ ⟨p, by omega⟩ ⟨q2, by omega⟩ ⟨p2, by omega⟩ hp h1 h4
    have e1 : p = p2 := e.1
    have e2 : q = q2 := e.2
    rw [e1, e2]
    exact h3
  · intro h
    exact ⟨p, q, hp, hq, h, rfl⟩
theorem pmO_r {f : Nat → Nat → Bool} {N : Nat} (hN : N ≤ 7) : 0 ≤ (pmO f N).toInt ∧ (pmO f N).toInt < 2097152 := by
  have z : ∀ i, 21 ≤ i → i < 32 → bt (pmO f N) i = false := fun i h1 h2 => Bool.eq_false_iff.mpr (fun q => by
    obtain ⟨p, q2, a1, a2, a3, a4⟩ := (pmO_bt h2 N hN).mp q
    have := pb_lt ⟨q2, by omega⟩ ⟨p, by omega⟩ a1
    have : pb p q2 < 21 := this
    omega)
  have hn : N32 (pmO f N) < 2 ^ 21 := Nat.lt_pow_two_of_testBit _ (fun i hi => by
    by_cases c : i < 32
    · have e := bt_lsb (pmO f N) i c
      rw [z i hi c] at e
      exact e.symm
    · exact Nat.testBit_lt_two_pow (Nat.lt_of_lt_of_le (pmO f N).toBitVec.isLt (Nat.pow_le_pow_right (by decide) (by omega))))
  have e := N_int (z := pmO f N) (by omega)
  omega
/-! two people together -/
theorem cdN_one {y : Int32} : ∀ k, 1 ≤ cdN y k → ∃ p, p < k ∧ bt y p = true
  | 0, h => by
    have : cdN y 0 = 0 := rfl
    omega
  | k + 1, h => by
    have e : cdN y (k + 1) = cdN y k + (if bt y k = true then 1 else 0) := rfl
    by_cases c : bt y k = true
    · exact ⟨k, by omega, c⟩
    · rw [if_neg c] at e
      obtain ⟨p, h1, h2⟩ := cdN_one (y := y) k (by omega)
      exact ⟨p, by omega, h2⟩
theorem cdN_two {y : Int32} : ∀ k, 2 ≤ cdN y k → ∃ p q, p < q ∧ q < k ∧ bt y p = true ∧ bt y q = true
  | 0, h => by
    have : cdN y 0 = 0 := rfl
    omega
  | k + 1, h => by
    have e : cdN y (k + 1) = cdN y k + (if bt y k = true then 1 else 0) := rfl
    by_cases c : bt y k = true
    · rw [if_pos c] at e
      by_cases d : 2 ≤ cdN y k
      · obtain ⟨p, q, h1, h2, h3⟩ := cdN_two k d
        exact ⟨p, q, h1, by omega, h3⟩
      · have h1 : 1 ≤ cdN y k := by omega
        obtain ⟨p, hp, hb⟩ := cdN_one k h1
        exact ⟨p, k, hp, by omega, hb, c⟩
    · rw [if_neg c] at e
      obtain ⟨p, q, h1, h2, h3⟩ := cdN_two (y := y) k (by omega)
      exact ⟨p, q, h1, by omega, h3⟩
theorem cdN_ge {y : Int32} {p : Nat} (hp : bt y p = true) : ∀ k, p < k → cdN y p + 1 ≤ cdN y k
  | 0, h => absurd h (Nat.not_lt_zero _)
  | k + 1, h => by
    have e : cdN y (k + 1) = cdN y k + (if bt y k = true then 1 else 0) := rfl
    by_cases c : p = k
    · rw [← c, if_pos hp] at e
      rw [← c]
      omega
    · have := cdN_ge hp k (by omega)
      omega
theorem two_cdN {y : Int32} {p q k : Nat} (h : p < q) (hq : q < k) (hp : bt y p = true) (hb : bt y q = true) : 2 ≤ cdN y k := by
  have a := cdN_ge hp q h
  have b := cdN_ge hb k hq
  omega
def apM (x h : Int32) : Bool := decide (cd (x &&& h) ≤ 1)
theorem apM_s (x y : Int32) : apM x y = apM y x := by
  unfold apM
  rw [Int32.and_comm]
theorem LW_rel {w : Tw} (hb : (0 ≤ w.1 ∧ w.1 ≤ 7) ∧ 2 ≤ w.2.2.2.1 ∧ w.2.2.2.1 ≤ 4) (hsy : SYM w) {g : Int32} (hg : g ∈ LW w) : (∀ p q, p < q → q < 8 → bt g p = true → bt g q = true → relW w p q = true) ∧ (∀ i, w.1.toNat ≤ i → i < 8 → bt g i = false) ∧ cd g = w.2.2.2.1.toNat := by
  have hr := LW_g hb g hg
  have hm := (DL_mem (relW w) (g := g) ⟨by omega, by omega⟩ w.1.toNat 0 w.2.2.2.1.toNat 0 (by omega) (by decide) (fun i _ h => bt_ze i (by omega))).mp hg
  have hz : ∀ i, w.1.toNat ≤ i → i < 8 → bt g i = false := fun i h1 h2 => hm.2.1 i (by omega) h2
  have hp2 : g.toInt < 2 ^ w.1.toNat := by
    have e := (ev_r (w := w) ⟨hb.1.1, by omega⟩)
    have s := sbs_x.mpr (LW_ev hb g hg)
    have a := i32_and g (evW w) e.1
    rw [s] at a
    omega
  have ig := (IG_mem (relW w) (N := w.1.toNat) (st := w.2.2.2.1.toNat) (g := g) (by omega) (by omega) hp2).mp hg
  refine ⟨fun p q h1 h2 bp bq => ?_, hz, ig.1⟩
  have hq : q < w.1.toNat := Nat.lt_of_not_le (fun z => by rw [hz q z h2] at bq; cases bq)
  have o := ig.2 q hq bq
  have o : ∀ j, j < q → bt g j = true → relW w q j = true := of_decide_eq_true o
  rw [relW_s hsy]
  exact o p h1 bp
theorem pm_dis {w : Tw} (hb : (0 ≤ w.1 ∧ w.1 ≤ 7) ∧ 2 ≤ w.2.2.2.1 ∧ w.2.2.2.1 ≤ 4) (hsy : SYM w) {x y : Int32} (hx : x ∈ LW w) (hy : y ∈ LW w) : (pmG (relW w) w.1.toNat x &&& pmG (relW w) w.1.toNat y) = 0 ↔ apM x y = true := by
  obtain ⟨x1, x2, x3⟩ := LW_rel hb hsy hx
  obtain ⟨y1, y2, y3⟩ := LW_rel hb hsy hy
  constructor
  · intro h
    refine decide_eq_true (Nat.le_of_not_lt (fun c => ?_))
    obtain ⟨p, q, h1, h2, h3, h4⟩ := cdN_two 8 c
    rw [bt_an _ _ _ (by omega)] at h3 h4
    obtain ⟨a1, a2⟩ := Bool.and_eq_true_iff.mp h3
    obtain ⟨b1, b2⟩ := Bool.and_eq_true_iff.mp h4
    have r := x1 p q h1 h2 a1 b1
    have hq : q < w.1.toNat := Nat.lt_of_not_le (fun z => by rw [x2 q z h2] at b1; cases b1)
    have hl := pb_lt ⟨q, by omega⟩ ⟨p, by omega⟩ h1
    have hl : pb p q < 21 := hl
    have m1 : bt (pmG (relW w) w.1.toNat x) (pb p q) = true := (pmO_at (by omega) h1 hq).mpr (by unfold fG; rw [a1, b1, r]; rfl)
    have m2 : bt (pmG (relW w) w.1.toNat y) (pb p q) = true := (pmO_at (by omega) h1 hq).mpr (by unfold fG; rw [a2, b2, r]; rfl)
    rw [dis_bt.mp h (pb p q) (by omega) m1] at m2
    cases m2
  · intro h
    have h := of_decide_eq_true h
    refine dis_bt.mpr (fun i hi m1 => Bool.eq_false_iff.mpr (fun m2 => ?_))
    obtain ⟨p, q, h1, h2, h3, h4⟩ := (pmO_bt hi w.1.toNat (by omega)).mp m1
    rw [h4] at m2
    have m2 := (pmO_at (by omega) h1 h2).mp m2
    obtain ⟨a1, a2⟩ := Bool.and_eq_true_iff.mp h3
    obtain ⟨a3, a4⟩ := Bool.and_eq_true_iff.mp a2
    obtain ⟨c1, c2⟩ := Bool.and_eq_true_iff.mp m2
    obtain ⟨c3, c4⟩ := Bool.and_eq_true_iff.mp c2
    have t := two_cdN (y := x &&& y) (k := 8) h1 (by omega) (by rw [bt_an _ _ _ (by omega), a1, c1]; rfl) (by rw [bt_an _ _ _ (by omega), a3, c3]; rfl)
    have h : cdN (x &&& y) 8 ≤ 1 := h
    omega
/-! how many pairs a group has -/
theorem cdN_one8 (x : Int32) {j : Nat} (hj : j < 24) (hx : bt x j = false) : ∀ k, k ≤ 32 → cdN (x ||| ((1 : Int32) <<< (Int32.ofNat j &&& 31))) k = cdN x k + (if j < k then 1 else 0)
  | 0, _ => rfl
  | k + 1, hk => by
    have ih := cdN_one8 x hj hx k (by omega)
    show cdN (x ||| ((1 : Int32) <<< (Int32.ofNat j &&& 31))) k + (if bt (x ||| ((1 : Int32) <<< (Int32.ofNat j &&& 31))) k = true then 1 else 0) = cdN x k + (if bt x k = true then 1 else 0) + (if j < k + 1 then 1 else 0)
    rw [ih, bt_or _ _ _ (show k < 32 by omega), bt_32 ⟨k, by omega⟩ ⟨j, by omega⟩]
    by_cases c : k = j
    · rw [decide_eq_true c, Bool.or_true, if_pos rfl, if_neg (by omega), if_pos (show j < k + 1 by omega), c, hx, if_neg (fun e => by cases e)]
    · rw [decide_eq_false c, Bool.or_false]
      by_cases d : j < k
      · rw [if_pos d, if_pos (show j < k + 1 by omega)]
        omega
      · rw [if_neg d, if_neg (show ¬ j < k + 1 by omega)]
        omega
def nI' (f : Nat → Nat → Bool) (q : Nat) : Nat → Nat
  | 0 => 0
  | k + 1 => nI' f q k + (if f k q = true then 1 else 0)
def nO (f : Nat → Nat → Bool) : Nat → Nat
  | 0 => 0
  | k + 1 => nO f k + nI' f k k
theorem pmI_cd {f : Nat → Nat → Bool} {q : Nat} (hq : q < 7) : ∀ k, k ≤ q → cdN (pmI f q k (pmO f q)) 24 = cdN (pmO f q) 24 + nI' f q k
  | 0, _ => rfl
  | k + 1, hk => by
    have ih := pmI_cd (f := f) hq k (by omega)
    have hl := pb_lt ⟨q, hq⟩ ⟨k, by omega⟩ (show k < q by omega)
    have hl : pb k q < 21 := hl
    by_cases c : f k q = true
    · have z : bt (pmI f q k (pmO f q)) (pb k q) = false := Bool.eq_false_iff.mpr (fun h => by
        rcases (pmI_bt hq (show pb k q < 32 by omega) k (by omega)).mp h with h | ⟨p, h1, h2, h3⟩
        · obtain ⟨p2, q2, a1, a2, a3, a4⟩ := (pmO_bt (show pb k q < 32 by omega) q (by omega)).mp h
          have e := (pb_in ⟨q, hq⟩ ⟨k, by omega⟩ ⟨q2, by omega⟩ ⟨p2, by omega⟩ (show k < q by omega) a1 a4).2
          have e : q = q2 := e
          omega
        · have e := (pb_in ⟨q, hq⟩ ⟨k, by omega⟩ ⟨q, hq⟩ ⟨p, by omega⟩ (show k < q by omega) (show p < q by omega) h3).1
          have e : k = p := e
          omega)
      rw [pmI_y c, cdN_one8 _ (by omega) z 24 (by decide), if_pos (by omega), ih]
      show _ = cdN (pmO f q) 24 + (nI' f q k + (if f k q = true then 1 else 0))
      rw [if_pos c]
      omega
    · rw [pmI_n c, ih]
      show _ = cdN (pmO f q) 24 + (nI' f q k + (if f k q = true then 1 else 0))
      rw [if_neg c]
      omega
theorem cdN_ze : ∀ k, k ≤ 32 → cdN 0 k = 0
  | 0, _ => rfl
  | k + 1, hk => by
    have ih := cdN_ze k (by omega)
    show cdN 0 k + (if bt 0 k = true then 1 else 0) = 0
    rw [ih, bt_ze k (by omega)]
    rfl
theorem pmO_cd {f : Nat → Nat → Bool} : ∀ k, k ≤ 7 → cdN (pmO f k) 24 = nO f k
  | 0, _ => cdN_ze 24 (by decide)
  | k + 1, hk => by
    have ih := pmO_cd (f := f) k (by omega)
    show cdN (pmI f k k (pmO f k)) 24 = nO f k + nI' f k k
    rw [pmI_cd (by omega) k (Nat.le_refl _), ih]
theorem nI_cd {g : Int32} {rel : Nat → Nat → Bool} {q : Nat} (hq : bt g q = true) (hr : ∀ p, p < q → bt g p = true → rel p q = true) : ∀ k, k ≤ q → nI' (fG rel g) q k = cdN g k
  | 0, _ => rfl
  | k + 1, hk => by
    have ih := nI_cd hq hr k (by omega)
    show nI' (fG rel g) q k + (if fG rel g k q = true then 1 else 0) = cdN g k + (if bt g k = true then 1 else 0)
    rw [ih]
    unfold fG
    rw [hq, Bool.true_and]
    cases c : bt g k
    · rfl
    · rw [hr k (by omega) c]
      rfl
theorem nIp_0 {g : Int32} {rel : Nat → Nat → Bool} {q : Nat} (hq : bt g q = false) : ∀ k, nI' (fG rel g) q k = 0
  | 0 => rfl
  | k + 1 => by
    have ih := nIp_0 (rel := rel) hq k
    show nI' (fG rel g) q k + (if fG rel g k q = true then 1 else 0) = 0
    rw [ih]
    unfold fG
    rw [hq, Bool.false_and, Bool.and_false]
    rfl
theorem nO_cd {g : Int32} {rel : Nat → Nat → Bool} (hr : ∀ p q, p < q → q < 8 → bt g p = true → bt g q = true → rel p q = true) : ∀ k, k ≤ 7 → 2 * nO (fG rel g) k + cdN g k = cdN g k * cdN g k
  | 0, _ => rfl
  | k + 1, hk => by
    have ih := nO_cd hr k (by omega)
    have e : cdN g (k + 1) = cdN g k + (if bt g k = true then 1 else 0) := rfl
    have e2 : nO (fG rel g) (k + 1) = nO (fG rel g) k + nI' (fG rel g) k k := rfl
    cases c : bt g k with
    | true =>
      rw [c, if_pos rfl] at e
      rw [nI_cd c (fun p hp bp => hr p k hp (by omega) bp c) k (Nat.le_refl _)] at e2
      have x : (cdN g k + 1) * (cdN g k + 1) = cdN g k * cdN g k + 2 * cdN g k + 1 := by
        rw [Nat.add_mul, Nat.mul_add]
        omega
      rw [e, e2, x]
      omega
    | false =>
      rw [c, if_neg (fun z => by cases z)] at e
      rw [nIp_0 c k] at e2
      rw [e, e2]
      omega
def eaN (w : Tw) : Nat := w.2.2.2.1.toNat * (w.2.2.2.1.toNat - 1) / 2
theorem pm_cd {w : Tw} (hb : (0 ≤ w.1 ∧ w.1 ≤ 7) ∧ 2 ≤ w.2.2.2.1 ∧ w.2.2.2.1 ≤ 4) (hsy : SYM w) {g : Int32} (hg : g ∈ LW w) : cdN (pmG (relW w) w.1.toNat g) 24 = eaN w := by
  obtain ⟨h1, h2, h3⟩ := LW_rel hb hsy hg
  have a := nO_cd h1 w.1.toNat (by omega)
  have z : cdN g w.1.toNat = cd g := by
    have e := cdN_cdR g (8 - w.1.toNat) w.1.toNat
    rw [cdR_z _ _ (fun i i1 i2 => h2 i i1 (by omega)), show w.1.toNat + (8 - w.1.toNat) = 8 by omega] at e
    exact e.symm
  unfold pmG
  rw [pmO_cd _ (by omega)]
  rw [z, h3] at a
  unfold eaN
  have s3 : w.2.2.2.1.toNat = 2 ∨ w.2.2.2.1.toNat = 3 ∨ w.2.2.2.1.toNat = 4 := by omega
  rcases s3 with s | s | s
  · rw [s] at a ⊢
    omega
  · rw [s] at a ⊢
    omega
  · rw [s] at a ⊢
    omega
/-! the groups are all different -/
theorem DL_low (rel : Nat → Nat → Bool) : ∀ (k p m : Nat) (s : Int32), p + k ≤ 8 → ∀ g ∈ DL rel k p m s, ∀ i, i < p → bt g i = bt s i := by
  intro k
  induction k with
  | zero =>
    intro p m s hk g hg i hi
    cases m with
    | zero =>
      rw [DL_m0] at hg
      rw [List.mem_singleton.mp hg]
    | succ m =>
      rw [DL_k0] at hg
      cases hg
  | succ k ih =>
    intro p m s hk g hg i hi
    cases m with
    | zero =>
      rw [DL_m0] at hg
      rw [List.mem_singleton.mp hg]
    | succ m =>
      by_cases o : okN rel s p p = true
      · rw [DL_y o] at hg
        rcases List.mem_append.mp hg with hg | hg
        · rw [ih (p + 1) m _ (by omega) g hg i (by omega), bt_p s (by omega) (by omega), decide_eq_false (by omega), Bool.or_false]
        · exact ih (p + 1) (m + 1) s (by omega) g hg i (by omega)
      · rw [DL_n o] at hg
        exact ih (p + 1) (m + 1) s (by omega) g hg i (by omega)
theorem DL_nd (rel : Nat → Nat → Bool) : ∀ (k p m : Nat) (s : Int32), p + k ≤ 8 → (∀ i, p ≤ i → i < 8 → bt s i = false) → (DL rel k p m s).Nodup := by
  intro k
  induction k with
  | zero =>
    intro p m s hk hs
    cases m with
    | zero =>
      rw [DL_m0]
      exact List.nodup_cons.mpr ⟨fun h => (by cases h), List.nodup_nil⟩
    | succ m =>
      rw [DL_k0]
      exact List.nodup_nil
  | succ k ih =>
    intro p m s hk hs
    have hs1 : ∀ i, p + 1 ≤ i → i < 8 → bt s i = false := fun i h1 h2 => hs i (by omega) h2
    cases m with
    | zero =>
      rw [DL_m0]
      exact List.nodup_cons.mpr ⟨fun h => (by cases h), List.nodup_nil⟩
    | succ m =>
      by_cases o : okN rel s p p = true
      · rw [DL_y o]
        refine List.nodup_append.mpr ⟨ih _ _ _ (by omega) (fun i h1 h2 => by rw [bt_p s (by omega) h2, hs1 i h1 h2, decide_eq_false (by omega)]; rfl), ih _ _ _ (by omega) hs1, fun a ha b hb e => ?_⟩
        have a1 := DL_sup rel k (p + 1) m _ a ha p (by omega) (by rw [bt_p s (by omega) (by omega), decide_eq_true rfl, Bool.or_true])
        have b1 := DL_low rel k (p + 1) (m + 1) s (by omega) b hb p (by omega)
        rw [← e, a1, hs p (Nat.le_refl _) (by omega)] at b1
        cases b1
      · rw [DL_n o]
        exact ih _ _ _ (by omega) hs1
/-- the masks of the groups of a town -/
def pmW (w : Tw) (g : Int32) : Int32 := pmG (relW w) w.1.toNat g
def paW (w : Tw) : Int32 := pmW w (evW w)
theorem GP_W {w : Tw} (hb : (0 ≤ w.1 ∧ w.1 ≤ 7) ∧ 2 ≤ w.2.2.2.1 ∧ w.2.2.2.1 ≤ 4) (hsy : SYM w) (h3 : ¬ w.2.2.2.1 = 2) : GP apM (pmW w) (LW w) (paW w) := by
  refine ⟨DL_nd _ _ _ _ _ (by omega) (fun i _ h => bt_ze i (by omega)), apM_s, fun x hx y hy => pm_dis hb hsy hx hy, fun x hx => ?_, fun x hx => ?_⟩
  · obtain ⟨_, _, c⟩ := LW_rel hb hsy hx
    refine decide_eq_false (fun q => ?_)
    rw [Int32.and_self, c] at q
    omega
  · have s := sbs_bt.mp (LW_ev hb x hx)
    refine msk_bt.mpr (fun i hi h => ?_)
    obtain ⟨p, q, h1, h2, h4, h5⟩ := (pmO_bt hi w.1.toNat (by omega)).mp h
    refine (pmO_bt hi w.1.toNat (by omega)).mpr ⟨p, q, h1, h2, ?_, h5⟩
    obtain ⟨a1, a2⟩ := Bool.and_eq_true_iff.mp h4
    obtain ⟨a3, a4⟩ := Bool.and_eq_true_iff.mp a2
    unfold fG
    rw [s p (by omega) a1, s q (by omega) a3, a4]
    rfl
theorem lmx_8 {w : Tw} (hb : (0 ≤ w.1 ∧ w.1 ≤ 7) ∧ 2 ≤ w.2.2.2.1 ∧ w.2.2.2.1 ≤ 4) (hsy : SYM w) (h3 : ¬ w.2.2.2.1 = 2) {o : Int32} : 3 ≤ eaN w ∧ lmx ((LW w).map (pmW w)) o * eaN w ≤ cdN o 24 ∧ (∀ p ∈ (LW w).map (pmW w), cdN p 24 = eaN w) := by
  have all : ∀ p ∈ (LW w).map (pmW w), cdN p 24 = eaN w := fun p hp => by
    obtain ⟨g, hg, e⟩ := List.mem_map.mp hp
    rw [← e]
    exact pm_cd hb hsy hg
  refine ⟨?_, lmx_b _ o all, all⟩
  unfold eaN
  have s3 : w.2.2.2.1.toNat = 3 ∨ w.2.2.2.1.toNat = 4 := by omega
  rcases s3 with s | s
  · rw [s]
    decide
  · rw [s]
    decide
theorem cdN_24 (y : Int32) : ∀ k, cdN y k ≤ k
  | 0 => Nat.le_refl _
  | k + 1 => by
    have ih := cdN_24 y k
    show cdN y k + (if bt y k = true then 1 else 0) ≤ k + 1
    split <;> omega
